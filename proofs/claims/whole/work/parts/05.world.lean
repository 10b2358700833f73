/-! ===== WORLD: what the small machine's state says of the real one. E: the classes' numbers, the array classes' numbers, where the made cells begin, where the few old ones lie, the script's length, the script ===== -/
abbrev mEnv : Type := va_G × (Nat → ClassId) × Nat × (Nat → Nat) × Nat × (Nat → Int32)
def m_ad (E : mEnv) (a : Nat) : Nat := if a < 10 then E.2.2.2.1 a else E.2.2.1 + (a - 10)
def m_v (E : mEnv) (v : mAV) : Value := match v with
  | .inl x => .int (Int32.ofInt x)
  | .inr (.inl x) => .long (Int64.ofInt x)
  | .inr (.inr a) => if a = 0 then .null else .ref (m_ad E a)
def m_e (E : mEnv) (e : mEnt) : va_E := match e with
  | none => .inr (0, [])
  | some (.inl (c, fs)) => .inr (c, fs.map (m_v E))
  | some (.inr (.inl (t, n, f))) => .inl (E.2.1 t, n, if t = 1 then .inr (.inl fun j => Int64.ofInt (f j)) else .inl fun j => Int32.ofInt (f j))
  | some (.inr (.inr (t, n, f))) => .inl (E.2.1 t, n, .inr (.inr (.inr (.inr fun j => if f j = 0 then none else some (m_ad E (f j))))))
def m_ws (E : mEnv) (g : Nat → mEnt) (n : Nat) : va_W := (List.range (n - 10)).map fun i => (E.2.2.1 + i, m_e E (g (i + 10)))
def m_tys (E : mEnv) : List (ClassId × FieldType) := [(E.2.1 0, .int), (E.2.1 1, .long), (E.2.1 10, .object kR3), (E.2.1 11, .object kR4), (E.2.1 12, .object kR6)]
def m_A (E : mEnv) : Nat → Prop := fun q => E.2.2.1 ≤ q
def m_W (E : mEnv) (h : mH) (H : Heap) : Prop := 10 ≤ h.1 ∧ (H.size = E.2.2.1 + (h.1 - 10) ∧ h.2.2 1 = ep 0 E.2.2.2.2.1 (fun j => (E.2.2.2.2.2 j).toInt)) ∧ (∀ k, 10 ≤ k → ((h.2.2 k).isSome = true ↔ k < h.1)) ∧ va_P E.1 m_cl (m_ws E h.2.2 h.1) H
/-- the old cells: two texts, one static -/
def m_CC (E : mEnv) (U : State) : Prop := vk_R kR4 96 "fdls" (E.2.2.2.1 2) U ∧ vk_R kR4 98 "nert" (E.2.2.2.1 4) U ∧
  vk_S 2 [4, 4] [[102, 100, 108, 115], [110, 101, 114, 116]] (fun i => E.2.2.2.1 (2 + 2 * i)) (fun i => E.2.2.2.1 (3 + 2 * i)) (m_A E) U U.heap ∧
  va_Z "java/lang/String" "COMPACT_STRINGS" "Z" (.int 1) (m_A E) U U.heap ∧ va_X (E.2.2.2.1 1) E.2.2.2.2.1 E.2.2.2.2.2 U U.heap ∧ E.2.2.2.1 1 < E.2.2.1 ∧ (∀ w ∈ m_nst, va_Nw w U) ∧ va_AO kR3 U ∧ va_AO kR4 U ∧ va_AO kR6 U
def m_B (E : mEnv) (h : mH) (U : State) : Prop := m_W E h U.heap ∧ va_K E.1 m_cl (m_tys E) U ∧ m_CC E U
theorem m_CC.mv {E : mEnv} {u U : State} (hv : ∀ (own tx : String) (k a : Nat), vk_R own k tx a u → vk_R own k tx a U) (hN : (∀ w ∈ m_nst, va_Nw w u) → ∀ w ∈ m_nst, va_Nw w U) (hvm : u.vm.Alike U.vm) (hh : ∀ q, q < u.heap.size → ¬ m_A E q → U.heap[q]? = u.heap[q]?) (h : m_CC E u) : m_CC E U :=
  ⟨hv _ _ _ _ h.1, hv _ _ _ _ h.2.1, (h.2.2.1.moved hvm).kept hh, (h.2.2.2.1.moved hvm).kept hh, (h.2.2.2.2.1.moved hvm).kept (hh _ (by
    obtain ⟨scr, q, -⟩ := h.2.2.2.2.1
    exact (Array.getElem?_eq_some_iff.mp q).1) (by
    have := h.2.2.2.2.2.1
    show ¬ E.2.2.1 ≤ E.2.2.2.1 1
    omega)), h.2.2.2.2.2.1, hN h.2.2.2.2.2.2.1, h.2.2.2.2.2.2.2.1.moved hvm, h.2.2.2.2.2.2.2.2.1.moved hvm, h.2.2.2.2.2.2.2.2.2.moved hvm⟩
theorem m_len (E : mEnv) (g : Nat → mEnt) (n : Nat) : (m_ws E g n).length = n - 10 := by simp [m_ws]
theorem m_wsAt (E : mEnv) (g : Nat → mEnt) {n a : Nat} (h1 : ¬ a < 10) (h2 : a < n) : (m_ws E g n)[a - 10]? = some (m_ad E a, m_e E (g a)) := by
  have h3 : a - 10 < n - 10 := by omega
  have h4 : a - 10 + 10 = a := by omega
  simp [m_ws, h3, m_ad, h1, h4]
theorem m_ext {E : mEnv} {ws : va_W} {g : Nat → mEnt} {n : Nat} (hl : ws.length = n - 10) (h : ∀ i, i < n - 10 → ws[i]? = some (E.2.2.1 + i, m_e E (g (i + 10)))) : ws = m_ws E g n := by
  refine List.ext_getElem? fun i => ?_
  by_cases hi : i < n - 10
  · rw [h i hi]; simp [m_ws, hi]
  · rw [List.getElem?_eq_none (by omega), List.getElem?_eq_none (by rw [m_len]; omega)]
theorem m_wsSet (E : mEnv) (g : Nat → mEnt) {n a : Nat} (e : mEnt) (h1 : ¬ a < 10) (h2 : a < n) : (m_ws E g n).set (a - 10) (m_ad E a, m_e E e) = m_ws E (mup g a e) n := by
  refine m_ext (by rw [List.length_set, m_len]) fun i hi => ?_
  by_cases hia : i = a - 10
  · subst hia
    rw [List.getElem?_set_self (by rw [m_len]; omega)]
    have h4 : a - 10 + 10 = a := by omega
    simp [mup, m_ad, h1, h4]
  · rw [List.getElem?_set_ne (Ne.symm hia)]
    have h5 : ¬ i + 10 = a := by omega
    simp [m_ws, hi, mup, h5]
theorem m_wsPush (E : mEnv) (g : Nat → mEnt) {n : Nat} (e : mEnt) (h1 : 10 ≤ n) : m_ws E g n ++ [(E.2.2.1 + (n - 10), m_e E e)] = m_ws E (mup g n e) (n + 1) := by
  refine m_ext (by rw [List.length_append, m_len]; simp; omega) fun i hi => ?_
  by_cases hin : i < n - 10
  · rw [List.getElem?_append_left (by rw [m_len]; exact hin)]
    have h5 : ¬ i + 10 = n := by omega
    simp [m_ws, hin, mup, h5]
  · have h6 : i = n - 10 := by omega
    subst h6
    rw [List.getElem?_append_right (by rw [m_len]; exact Nat.le_refl _), m_len]
    have h7 : n - 10 + 10 = n := by omega
    simp [mup, h7]
theorem m_D (E : mEnv) (g : Nat → mEnt) (n : Nat) : va_D (m_A E) (m_ws E g n) := by
  have key : ∀ (k : Nat) (q : Nat × va_E), (m_ws E g n)[k]? = some q → q.1 = E.2.2.1 + k := by
    intro k q hk
    have hk' : k < n - 10 := by
      have := (List.getElem?_eq_some_iff.mp hk).1
      rwa [m_len] at this
    simp [m_ws, hk'] at hk
    rw [← hk]
  refine ⟨fun i j p q hi hj h => ?_, fun k q hk => ?_⟩
  · rw [key i p hi, key j q hj] at h; omega
  · rw [key k q hk]; exact Nat.le_add_right _ _
section MW
variable {E : mEnv} {h : mH} {H : Heap}
theorem m_W.lt (hW : m_W E h H) {a : Nat} {x} (ha : ¬ a < 10) (hg : h.2.2 a = some x) : a < h.1 := ((hW.2.2.1 a (by omega)).mp (by rw [hg]; rfl))
theorem m_W.at (hW : m_W E h H) {a : Nat} {x} (ha : ¬ a < 10) (hg : h.2.2 a = some x) : (m_ws E h.2.2 h.1)[a - 10]? = some (m_ad E a, m_e E (some x)) := by
  rw [← hg]; exact m_wsAt E _ ha (hW.lt ha hg)
theorem m_W.set {H1 : Heap} (hW : m_W E h H) {a : Nat} {x y} (ha : ¬ a < 10) (hg : h.2.2 a = some x) (hP : va_P E.1 m_cl ((m_ws E h.2.2 h.1).set (a - 10) (m_ad E a, m_e E (some y))) H1) (hz : H1.size ≤ H.size) : m_W E (h.1, h.2.1, mup h.2.2 a (some y)) H1 := by
  have hlt := hW.lt ha hg
  rw [m_wsSet E _ _ ha hlt] at hP
  have hlast := m_wsAt E (mup h.2.2 a (some y)) (n := h.1) (a := h.1 - 1) (by omega) (by omega)
  have hl := (hP _ _ hlast).lt
  have h10 : ¬ h.1 - 1 < 10 := by omega
  simp only [m_ad, if_neg h10] at hl
  refine ⟨hW.1, ⟨?_, ?_⟩, fun k hk => ?_, hP⟩
  · have := hW.2.1.1
    omega
  · have h1a : ¬ 1 = a := by omega
    show mup h.2.2 a (some y) 1 = _
    unfold mup
    rw [if_neg h1a]
    exact hW.2.1.2
  · by_cases hka : k = a
    · subst hka; simp [mup, hlt]
    · simp only [mup, if_neg hka]; exact hW.2.2.1 k hk
theorem m_W.push {H1 : Heap} {q : Nat} (hW : m_W E h H) {y} {sl : Nat} (hP : va_P E.1 m_cl (m_ws E h.2.2 h.1 ++ [(q, m_e E (some y))]) H1) (hD : va_D (m_A E) (m_ws E h.2.2 h.1 ++ [(q, m_e E (some y))])) (hz : H1.size ≤ H.size + 1) : q = m_ad E h.1 ∧ m_W E (h.1 + 1, sl, mup h.2.2 h.1 (some y)) H1 := by
  have hsz := hW.2.1.1
  have hq0 : (m_ws E h.2.2 h.1 ++ [(q, m_e E (some y))])[h.1 - 10]? = some (q, m_e E (some y)) := by
    rw [List.getElem?_append_right (by rw [m_len]; exact Nat.le_refl _), m_len]; simp
  have hq1 := (hP _ _ hq0).lt
  have hq2 : E.2.2.1 ≤ q := hD.2 _ _ hq0
  have hqe : q = E.2.2.1 + (h.1 - 10) := by
    rcases Nat.lt_or_ge q (E.2.2.1 + (h.1 - 10)) with hl | hl
    · exfalso
      have hi : q - E.2.2.1 < h.1 - 10 := by omega
      have h9 : (m_ws E h.2.2 h.1 ++ [(q, m_e E (some y))])[q - E.2.2.1]? = some (E.2.2.1 + (q - E.2.2.1), m_e E (h.2.2 (q - E.2.2.1 + 10))) := by
        rw [List.getElem?_append_left (by rw [m_len]; exact hi)]; simp [m_ws, hi]
      have := hD.1 _ _ _ _ hq0 h9 (by show q = _; omega)
      omega
    · show q = _
      have h8 : q < H1.size := hq1
      omega
  subst hqe
  have h10 : ¬ h.1 < 10 := by have := hW.1; omega
  rw [m_wsPush E _ _ hW.1] at hP
  refine ⟨by simp [m_ad, h10], by have := hW.1; show 10 ≤ h.1 + 1; omega, ⟨?_, ?_⟩, fun k hk => ?_, hP⟩
  · show H1.size = E.2.2.1 + (h.1 + 1 - 10)
    have h8 : E.2.2.1 + (h.1 - 10) < H1.size := hq1
    have := hW.1
    omega
  · have h1a : ¬ 1 = h.1 := by have := hW.1; omega
    show mup h.2.2 h.1 (some y) 1 = _
    unfold mup
    rw [if_neg h1a]
    exact hW.2.1.2
  · show (mup h.2.2 h.1 (some y) k).isSome = true ↔ k < h.1 + 1
    by_cases hka : k = h.1
    · subst hka; simp [mup]
    · simp only [mup, if_neg hka]
      rw [hW.2.2.1 k hk]; omega
end MW
/-- the locals -/
def m_F (E : mEnv) (L : mL) (ls : Array Slot) : Prop := ∃ lv, lv_has ls L.length lv ∧ ∀ (i : Nat) (v : mAV), L[i]? = some (some v) → (i, m_v E v) ∈ lv
/-- what stands fast while a method runs: h0 the state at its start -/
def m_X (p : Program) (s : State) (m : MethodId) (args : Array Value) (meth : Method) (c : Code) (R : Room) (own : String) (cc : ByteArray) (nL : Nat) (ret : Option FieldType) (ini : Bool) (E : mEnv) (h0 : mH) (d : Nat) : Prop :=
  p.tables.exec = Jvm.exec ∧ c.code = cc ∧ c.maxLocals = nL ∧ s.vm.findClass own = some m.cls ∧ (∀ w ∈ m_tbl, w.before args s = true) ∧ meth.sig.returnType = ret ∧ meth.locks = false ∧ (ini = true → meth.name = "<init>") ∧
  va_K E.1 m_cl (m_tys E) s ∧ m_CC E s ∧ 10 ≤ h0.1 ∧ s.heap.size = E.2.2.1 + (h0.1 - 10) ∧ d ≤ R.frames ∧ 40 * d ≤ R.locals
/-- from that instruction on all goes well -/
def m_Go (p : Program) (l : Launch) (e : Env) (R : Room) (s : State) (m : MethodId) (args : Array Value) (below : List Frame) (meth : Method) (c : Code) (Q : State → Prop) (E : mEnv) (h0 : mH) (pc : Nat) (L : mL) (S : mS) (h : mH) : Prop :=
  ∀ (H : Heap) (locs : List Loc) (ls : Array Slot), m_W E h H → va_S (m_A E) s.heap H locs → m_F E L ls →
    W p l e R s m args below meth c H locs (h.1 - h0.1) (h.2.1 - h0.2.1) Q (F0 m pc ls (S.map (m_v E)))
/-- a step of the small machine is one of the real one -/
def m_Cert (own : String) (cc : ByteArray) (nL : Nat) (ret : Option FieldType) (ini : Bool) (pcs : Nat → Nat) (j : Nat) (op : mOp) : Prop :=
  ∀ (d : Nat) (L : mL) (S : mS) (h : mH) (j' : Nat) (L' : mL) (S' : mS) (h' : mH), op d L S h = some (.inl (j', L', S', h')) →
    (h.1 ≤ h'.1 ∧ h.2.1 ≤ h'.2.1 ∧ L'.length = L.length) ∧
    ∀ (p : Program) (l : Launch) (e : Env) (R : Room) (s : State) (m : MethodId) (args : Array Value) (below : List Frame) (meth : Method) (c : Code) (Q : State → Prop) (E : mEnv) (h0 : mH),
      m_X p s m args meth c R own cc nL ret ini E h0 d → L.length = nL → h0.1 ≤ h.1 → h0.2.1 ≤ h.2.1 → h'.1 - h0.1 ≤ R.cells → h'.2.1 - h0.2.1 ≤ R.slots →
      m_Go p l e R s m args below meth c Q E h0 (pcs j') L' S' h' → m_Go p l e R s m args below meth c Q E h0 (pcs j) L S h
theorem m_sized {p : Program} {l : Launch} {e : Env} {R : Room} {s : State} {m : MethodId} {args : Array Value} {below : List Frame} {meth : Method} {c : Code} {H : Heap} {locs : List Loc} {cells slots : Nat} {Q : State → Prop} {g : JFrame}
    (k : H.size ≤ s.heap.size + cells → W p l e R s m args below meth c H locs cells slots Q g) : W p l e R s m args below meth c H locs cells slots Q g := by
  intro T hT X
  have hs : T.heap.size ≤ s.heap.size + cells := X.same.2.2.1
  exact k (by rw [← hT]; exact hs) T hT X
theorem m_oi (x : Int) : Int32.ofInt (w32 x) = Int32.ofInt x := by unfold w32; exact Int32.ofInt_toInt _
theorem m_ol (x : Int) : Int64.ofInt (w64 x) = Int64.ofInt x := by unfold w64; exact Int64.ofInt_toInt _
