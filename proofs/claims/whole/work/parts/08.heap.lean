/-! ===== certificates: fields, arrays, what is made ===== -/
/-- field k of the classes cs is the one that the pool names -/
def mGetOK (cs : List Nat) (k : Nat) (ref nm ds : String) : Bool := cs.all fun c => match m_cl[c]? with
  | some r => decide (k < r.2.2) && ((r.2.1 k).2.1 == nm && ((r.2.1 k).2.2.1 == ds && ((r.2.1 k).1 == ref || (lw_tbl.contains (Cond.sameField ref (r.2.1 k).1 nm ds) && goodWord (Cond.sameField ref (r.2.1 k).1 nm ds)))))
  | none => false
def mTyOK (t : Nat) (ty : FieldType) : Bool := match ty with
  | .int => t == 0
  | .boolean => t == 4
  | .long => t == 1
  | .object _ => t == 2
  | .array _ => t == 2
  | _ => false
def mPutOK (cs : List Nat) (t k : Nat) (fin : Bool) : Bool := cs.all fun c => match m_cl[c]?, m_ty[c]? with
  | some r, some ty => (r.2.1 k).2.2.2 == fin && mTyOK t (ty k)
  | _, _ => false
theorem m_vr (E : mEnv) {a : Nat} (h : ¬ a < 10) : m_v E (.inr (.inr a)) = .ref (m_ad E a) := by
  have : ¬ a = 0 := by omega
  simp [m_v, this]
theorem mGetOK_spec {cs : List Nat} {k : Nat} {ref nm ds : String} (h : mGetOK cs k ref nm ds = true) {c : Nat} (hc : cs.contains c = true) {s : State} {args : Array Value} (hts : ∀ w ∈ m_tbl, w.before args s = true) :
    ∃ r, m_cl[c]? = some r ∧ k < r.2.2 ∧ (r.2.1 k).2.1 = nm ∧ (r.2.1 k).2.2.1 = ds ∧ ∀ x, s.fieldFound? (r.2.1 k).1 (r.2.1 k).2.1 (r.2.1 k).2.2.1 = some x → s.fieldFound? ref (r.2.1 k).2.1 (r.2.1 k).2.2.1 = some x := by
  have h1 := List.all_eq_true.mp h c (List.contains_iff_mem.mp hc)
  cases hr : m_cl[c]? with
  | none => rw [hr] at h1; cases h1
  | some r =>
    rw [hr] at h1
    simp only [Bool.and_eq_true, Bool.or_eq_true, beq_iff_eq, decide_eq_true_eq] at h1
    obtain ⟨a1, a2, a3, a4⟩ := h1
    refine ⟨r, rfl, a1, a2, a3, fun x hx => ?_⟩
    rw [a2, a3] at hx ⊢
    rcases a4 with a4 | a4
    · rw [a4] at hx; exact hx
    · exact u_same (hts _ (List.mem_filter.mpr ⟨List.contains_iff_mem.mp a4.1, a4.2⟩)) x hx
theorem m_fit (E : mEnv) {t : Nat} {ty : FieldType} {v : mAV} (h1 : mTyOK t ty = true) (h2 : mFit t v = true) : narrow ty (m_v E v) = m_v E v ∧ fits ty (m_v E v) = true := by
  match v with
  | .inl x =>
    cases ty <;> simp [mTyOK] at h1 <;> subst h1 <;> simp [mFit] at h2 <;> first | exact ⟨rfl, rfl⟩ | (rcases h2 with rfl | rfl <;> exact ⟨rfl, rfl⟩)
  | .inr (.inl x) =>
    cases ty <;> simp [mTyOK] at h1 <;> subst h1 <;> simp [mFit] at h2
    exact ⟨rfl, rfl⟩
  | .inr (.inr a) =>
    cases ty <;> simp [mTyOK] at h1 <;> subst h1 <;> simp [mFit] at h2
    · simp only [m_v]
      split <;> exact ⟨rfl, rfl⟩
    · simp only [m_v]
      split <;> exact ⟨rfl, rfl⟩
section HP
variable {own : String} {cc : ByteArray} {nL : Nat} {ret : Option FieldType} {ini : Bool} {pcs : Nat → Nat} {j : Nat}
/-- an operation that looks at the heap -/
theorem c_rd {op : mOp} (h : ∀ (d : Nat) (L : mL) (S : mS) (h : mH) (j' : Nat) (L' : mL) (S' : mS) (h' : mH), op d L S h = some (.inl (j', L', S', h')) → L' = L ∧ h' = h ∧
    ∀ (p : Program) (l : Launch) (e : Env) (R : Room) (s : State) (m : MethodId) (args : Array Value) (below : List Frame) (meth : Method) (c : Code) (Q : State → Prop) (E : mEnv) (h0 : mH) (H : Heap) (locs : List Loc) (ls : Array Slot) (cells slots : Nat),
      m_X p s m args meth c R own cc nL ret ini E h0 d → m_W E h H → va_S (m_A E) s.heap H locs → W p l e R s m args below meth c H locs cells slots Q (F0 m (pcs j') ls (S'.map (m_v E))) → W p l e R s m args below meth c H locs cells slots Q (F0 m (pcs j) ls (S.map (m_v E)))) :
    m_Cert own cc nL ret ini pcs j op := by
  intro d L S hh j' L' S' h' he
  obtain ⟨rfl, rfl, hk⟩ := h d L S hh j' L' S' h' he
  refine ⟨⟨Nat.le_refl _, Nat.le_refl _, rfl⟩, ?_⟩
  intro p l e R s m args below meth c Q E h0 hX hL h1 h2 h3 h4 hgo H locs ls hW hS hF
  exact hk p l e R s m args below meth c Q E h0 H locs ls _ _ hX hW hS (hgo H locs ls hW hS hF)
theorem c_get0 {cs : List Nat} {k nx pc ix : Nat} {ref nm ds : String} (hp : pcs j = pc) (hn : pcs nx = pc + 3) (hc : mGetOK cs k ref nm ds = true) (hd : decode cc pc = .ok (.getfield ix, 3))
    (hw : Cond.fieldLink own ix ref nm ds ∈ m_tbl ∨ ∃ host, Cond.fieldLinkNest own ix ref nm ds host ∈ m_nst) : m_Cert own cc nL ret ini pcs j (opGet cs k nx) := by
  refine c_rd fun d L S h j' L' S' h' he => ?_
  unfold opGet at he
  split at he
  · rename_i a S1
    split at he
    · cases he
    · rename_i ha
      split at he
      · rename_i c0 fs hg
        split at he
        · rename_i hcs
          split at he
          · rename_i v hv
            cases he
            refine ⟨rfl, rfl, fun p l e R s m args below meth c Q E h0 H locs ls cells slots hX hW hS k0 => ?_⟩
            rw [hp]; rw [hn] at k0
            obtain ⟨r, r1, r2, r3, r4, r5⟩ := mGetOK_spec hc hcs (args := args) (s := s) hX.2.2.2.2.1
            have hat := hW.at ha hg
            rw [List.map_cons, m_vr E ha]
            rcases hw with hw | ⟨host, hw⟩
            · exact va_get hX.1 hX.2.1 hX.2.2.2.2.1 (m_cl_ok _ _ r1).1 hX.2.2.2.1 hX.2.2.2.2.2.2.2.2.1 hW.2.2.2 (a - 10) hat r1 k r2 (by rw [r3, r4]; exact hX.2.2.2.2.1 _ hw) r5 (by rw [List.getElem?_map, hv]; rfl) hd k0
            · exact va_getN hX.1 hX.2.1 hX.2.2.2.2.1 (m_cl_ok _ _ r1).1 hX.2.2.2.1 hX.2.2.2.2.2.2.2.2.1 hW.2.2.2 (a - 10) hat r1 k r2 (by rw [r3, r4]; exact va_Nw.use rfl (hX.2.2.2.2.2.2.2.2.2.1.2.2.2.2.2.2.1 _ hw)) r5 (by rw [List.getElem?_map, hv]; rfl) hd k0
          · cases he
        · cases he
      · cases he
  · cases he
theorem c_get {cs : List Nat} {k nx pc ix : Nat} {ref nm ds : String} (hp : pcs j = pc) (hn : pcs nx = pc + 3) (hc : mGetOK cs k ref nm ds = true) (hd : decode cc pc = .ok (.getfield ix, 3))
    (hw : Cond.fieldLink own ix ref nm ds ∈ m_tbl) : m_Cert own cc nL ret ini pcs j (opGet cs k nx) := c_get0 hp hn hc hd (Or.inl hw)
theorem c_getN {cs : List Nat} {k nx pc ix : Nat} {ref nm ds host : String} (hp : pcs j = pc) (hn : pcs nx = pc + 3) (hc : mGetOK cs k ref nm ds = true) (hd : decode cc pc = .ok (.getfield ix, 3))
    (hw : Cond.fieldLinkNest own ix ref nm ds host ∈ m_nst) : m_Cert own cc nL ret ini pcs j (opGet cs k nx) := c_get0 hp hn hc hd (Or.inr ⟨host, hw⟩)
/-- what is left behind a store: the new world -/
theorem m_behind {p : Program} {l : Launch} {e : Env} {R : Room} {s : State} {m : MethodId} {args : Array Value} {below : List Frame} {meth : Method} {c : Code} {Q : State → Prop} {E : mEnv} {h0 h : mH} {d a : Nat} {x y} {H H1 : Heap} {locs1 : List Loc} {ls : Array Slot} {pc : Nat} {L : mL} {S : mS}
    (hX : m_X p s m args meth c R own cc nL ret ini E h0 d) (h1 : h0.1 ≤ h.1) (hW : m_W E h H) (ha : ¬ a < 10) (hg : h.2.2 a = some x) (hF : m_F E L ls)
    (hgo : m_Go p l e R s m args below meth c Q E h0 pc L S (h.1, h.2.1, mup h.2.2 a (some y)))
    (hP : va_P E.1 m_cl ((m_ws E h.2.2 h.1).set (a - 10) (m_ad E a, m_e E (some y))) H1) (hS : va_S (m_A E) s.heap H1 locs1) :
    W p l e R s m args below meth c H1 locs1 (h.1 - h0.1) (h.2.1 - h0.2.1) Q (F0 m pc ls (S.map (m_v E))) := by
  refine m_sized fun hz => hgo H1 locs1 ls (hW.set ha hg hP ?_) hS hF
  have e1 := hX.2.2.2.2.2.2.2.2.2.2.2.1
  have e2 := hX.2.2.2.2.2.2.2.2.2.2.1
  have e3 := hW.2.1.1
  omega
theorem c_put0 {cs : List Nat} {t k nx pc ix : Nat} {ref nm ds : String} (hp : pcs j = pc) (hn : pcs nx = pc + 3) (hc : mGetOK cs k ref nm ds = true) (hd : decode cc pc = .ok (.putfield ix, 3))
    (hw : (mPutOK cs t k false = true ∧ (Cond.fieldLink own ix ref nm ds ∈ m_tbl ∨ ∃ host, Cond.fieldLinkNest own ix ref nm ds host ∈ m_nst)) ∨ (mPutOK cs t k true = true ∧ Cond.fieldLink own ix ref nm ds ∈ m_tbl ∧ ini = true ∧ ∀ c ∈ cs, ∀ r, m_cl[c]? = some r → (r.2.1 k).1 = own)) : m_Cert own cc nL ret ini pcs j (opPut cs t k nx) := by
  intro d L S h j' L' S' h' he
  unfold opPut at he
  split at he
  · rename_i v a S1
    split at he
    · cases he
    · rename_i ha
      split at he
      · rename_i c0 fs hg
        split at he
        · rename_i hcs
          obtain ⟨hcs, hkl, hft⟩ := hcs
          cases he
          refine ⟨⟨Nat.le_refl _, Nat.le_refl _, rfl⟩, ?_⟩
          intro p l e R s m args below meth c Q E h0 hX hL h1 h2 h3 h4 hgo H locs ls hW hS hF
          rw [hp]; rw [hn] at hgo
          have hts := hX.2.2.2.2.1
          obtain ⟨r, r1, r2, r3, r4, r5⟩ := mGetOK_spec hc hcs (args := args) (s := s) hts
          obtain ⟨o1, o2, ty0, o3, o4⟩ := m_cl_ok _ _ r1
          have hat := hW.at ha hg
          have fit : ∀ fin, mPutOK cs t k fin = true → (r.2.1 k).2.2.2 = fin ∧ mTyOK t (ty0 k) = true := by
            intro fin hq
            have q1 := List.all_eq_true.mp hq c0 (List.contains_iff_mem.mp hcs)
            rw [r1, o3] at q1
            simpa using q1
          rw [List.map_cons, List.map_cons, m_vr E ha]
          have ek : m_e E (eo c0 (fs.set k v)) = .inr (c0, (fs.map (m_v E)).set k (m_v E v)) := by
            show Sum.inr (c0, (fs.set k v).map (m_v E)) = _
            rw [List.map_set]
          rcases hw with ⟨hq, hw⟩ | ⟨hq, hw, hi, ho⟩
          · obtain ⟨f1, f2⟩ := fit false hq
            obtain ⟨n1, n2⟩ := m_fit E f2 hft
            rcases hw with hw | ⟨host, hw⟩
            · exact va_put hX.1 hX.2.1 hts o1 ty0 o4 o2 hX.2.2.2.1 hX.2.2.2.2.2.2.2.2.1 hW.2.2.2 (m_D E _ _) hS (a - 10) hat r1 k r2 (by rw [r3, r4]; exact hts _ hw) r5 f1 (o4 k r2) n1 n2 (by rw [List.length_map]; exact hkl) hd
                fun H1 locs1 hP1 hD1 hS1 => m_behind (S := S') hX h1 hW ha hg hF hgo (by rw [ek]; exact hP1) hS1
            · exact va_putN hX.1 hX.2.1 hts o1 ty0 o4 o2 hX.2.2.2.1 hX.2.2.2.2.2.2.2.2.1 hW.2.2.2 (m_D E _ _) hS (a - 10) hat r1 k r2 (by rw [r3, r4]; exact va_Nw.use rfl (hX.2.2.2.2.2.2.2.2.2.1.2.2.2.2.2.2.1 _ hw)) r5 f1 (o4 k r2) n1 n2 (by rw [List.length_map]; exact hkl) hd
                fun H1 locs1 hP1 hD1 hS1 => m_behind (S := S') hX h1 hW ha hg hF hgo (by rw [ek]; exact hP1) hS1
          · obtain ⟨f1, f2⟩ := fit true hq
            obtain ⟨n1, n2⟩ := m_fit E f2 hft
            exact va_putF hX.1 hX.2.1 hts o1 ty0 o4 o2 hX.2.2.2.1 hX.2.2.2.2.2.2.2.2.1 hW.2.2.2 (m_D E _ _) hS (a - 10) hat r1 k r2 (by rw [r3, r4]; exact hts _ hw) r5 f1 (hX.2.2.2.2.2.2.2.1 hi) (ho c0 (List.contains_iff_mem.mp hcs) r r1) (o4 k r2) n1 n2 (by rw [List.length_map]; exact hkl) hd
              fun H1 locs1 hP1 hD1 hS1 => m_behind (S := S') hX h1 hW ha hg hF hgo (by rw [ek]; exact hP1) hS1
        · cases he
      · cases he
  · cases he
theorem c_put {cs : List Nat} {t k nx pc ix : Nat} {ref nm ds : String} (hp : pcs j = pc) (hn : pcs nx = pc + 3) (hc : mGetOK cs k ref nm ds = true) (hq : mPutOK cs t k false = true) (hd : decode cc pc = .ok (.putfield ix, 3))
    (hw : Cond.fieldLink own ix ref nm ds ∈ m_tbl) : m_Cert own cc nL ret ini pcs j (opPut cs t k nx) := c_put0 hp hn hc hd (Or.inl ⟨hq, Or.inl hw⟩)
theorem c_putN {cs : List Nat} {t k nx pc ix : Nat} {ref nm ds host : String} (hp : pcs j = pc) (hn : pcs nx = pc + 3) (hc : mGetOK cs k ref nm ds = true) (hq : mPutOK cs t k false = true) (hd : decode cc pc = .ok (.putfield ix, 3))
    (hw : Cond.fieldLinkNest own ix ref nm ds host ∈ m_nst) : m_Cert own cc nL ret ini pcs j (opPut cs t k nx) := c_put0 hp hn hc hd (Or.inl ⟨hq, Or.inr ⟨host, hw⟩⟩)
/-- whose class declares that final field -/
def mOwnOK (cs : List Nat) (k : Nat) (own : String) : Bool := cs.all fun c => match m_cl[c]? with
  | some r => (r.2.1 k).1 == own
  | none => false
theorem c_putF {cs : List Nat} {t k nx pc ix : Nat} {ref nm ds : String} (hp : pcs j = pc) (hn : pcs nx = pc + 3) (hc : mGetOK cs k ref nm ds = true) (hq : mPutOK cs t k true = true) (hi : ini = true) (ho : mOwnOK cs k own = true) (hd : decode cc pc = .ok (.putfield ix, 3))
    (hw : Cond.fieldLink own ix ref nm ds ∈ m_tbl) : m_Cert own cc nL ret ini pcs j (opPut cs t k nx) := c_put0 hp hn hc hd (Or.inr ⟨hq, hw, hi, fun c hc r hr => by
      have := List.all_eq_true.mp ho c hc
      rw [hr] at this
      simpa using this⟩)
theorem m_vpin {i : Int} {n : Nat} (h1 : 0 ≤ w32 i) (h2 : w32 i < n) : vp_in (Int32.ofInt i) n := vp_in_iff.mpr ⟨h1, h2⟩
theorem m_tc (i : Int) : (Int32.ofInt i).toNatClampNeg = (w32 i).toNat := rfl
theorem c_iaload {nx pc : Nat} (hp : pcs j = pc) (hn : pcs nx = pc + 1) (hd : decode cc pc = .ok (.iaload, 1)) : m_Cert own cc nL ret ini pcs j (opALd 0 nx) := by
  refine c_rd fun d L S h j' L' S' h' he => ?_
  unfold opALd at he
  split at he
  · rename_i i a S1
    split at he
    · cases he
    · rename_i ha
      split at he
      · rename_i t n f hg
        split at he
        · rename_i hc
          obtain ⟨rfl, hi1, hi2⟩ := hc
          cases he
          refine ⟨rfl, rfl, fun p l e R s m args below meth c Q E h0 H locs ls cells slots hX hW hS k0 => ?_⟩
          rw [hp]; rw [hn] at k0
          rw [List.map_cons, List.map_cons, m_vr E ha]
          exact va_iald hX.1 hX.2.1 hX.2.2.2.2.2.2.2.2.1 hW.2.2.2 (a - 10) 0 (hW.at ha hg) rfl (m_vpin hi1 hi2) hd k0
        · cases he
      · cases he
  · cases he
theorem c_laload {nx pc : Nat} (hp : pcs j = pc) (hn : pcs nx = pc + 1) (hd : decode cc pc = .ok (.laload, 1)) : m_Cert own cc nL ret ini pcs j (opALd 1 nx) := by
  refine c_rd fun d L S h j' L' S' h' he => ?_
  unfold opALd at he
  split at he
  · rename_i i a S1
    split at he
    · cases he
    · rename_i ha
      split at he
      · rename_i t n f hg
        split at he
        · rename_i hc
          obtain ⟨rfl, hi1, hi2⟩ := hc
          cases he
          refine ⟨rfl, rfl, fun p l e R s m args below meth c Q E h0 H locs ls cells slots hX hW hS k0 => ?_⟩
          rw [hp]; rw [hn] at k0
          rw [List.map_cons, List.map_cons, m_vr E ha]
          exact va_lald hX.1 hX.2.1 hX.2.2.2.2.2.2.2.2.1 hW.2.2.2 (a - 10) 1 (hW.at ha hg) rfl (m_vpin hi1 hi2) hd k0
        · cases he
      · cases he
  · cases he
theorem m_updI (f : Nat → Int) (k : Nat) (x : Int) : (fun j => Int32.ofInt (mup f k x j)) = upd (fun j => Int32.ofInt (f j)) k (Int32.ofInt x) := by
  funext q
  unfold mup upd
  split <;> rfl
theorem m_updL (f : Nat → Int) (k : Nat) (x : Int) : (fun j => Int64.ofInt (mup f k x j)) = vp_updL (fun j => Int64.ofInt (f j)) k (Int64.ofInt x) := by
  funext q
  unfold mup vp_updL
  split <;> rfl
theorem c_iastore {nx pc : Nat} (hp : pcs j = pc) (hn : pcs nx = pc + 1) (hd : decode cc pc = .ok (.iastore, 1)) : m_Cert own cc nL ret ini pcs j (opASt nx) := by
  intro d L S h j' L' S' h' he
  unfold opASt at he
  split at he
  · rename_i x i a S1
    split at he
    · cases he
    · rename_i ha
      split at he
      · rename_i t n f hg
        split at he
        · rename_i hc
          obtain ⟨rfl, hi1, hi2⟩ := hc
          cases he
          refine ⟨⟨Nat.le_refl _, Nat.le_refl _, rfl⟩, ?_⟩
          intro p l e R s m args below meth c Q E h0 hX hL h1 h2 h3 h4 hgo H locs ls hW hS hF
          rw [hp]; rw [hn] at hgo
          rw [List.map_cons, List.map_cons, List.map_cons, m_vr E ha]
          have ek : m_e E (ep 0 n (mup f (w32 i).toNat x)) = .inl (E.2.1 0, n, .inl (upd (fun j => Int32.ofInt (f j)) (Int32.ofInt i).toNatClampNeg (Int32.ofInt x))) := by
            rw [m_tc, ← m_updI]; rfl
          exact va_iast hX.1 hX.2.1 hX.2.2.2.2.2.2.2.2.1 hW.2.2.2 (m_D E _ _) hS (a - 10) 0 (hW.at ha hg) rfl (m_vpin hi1 hi2) hd
            fun H1 locs1 hP1 hD1 hS1 => m_behind (S := S') hX h1 hW ha hg hF hgo (by rw [ek]; exact hP1) hS1
        · cases he
      · cases he
  · cases he
theorem c_lastore {nx pc : Nat} (hp : pcs j = pc) (hn : pcs nx = pc + 1) (hd : decode cc pc = .ok (.lastore, 1)) : m_Cert own cc nL ret ini pcs j (opAStL nx) := by
  intro d L S h j' L' S' h' he
  unfold opAStL at he
  split at he
  · rename_i x i a S1
    split at he
    · cases he
    · rename_i ha
      split at he
      · rename_i t n f hg
        split at he
        · rename_i hc
          obtain ⟨rfl, hi1, hi2⟩ := hc
          cases he
          refine ⟨⟨Nat.le_refl _, Nat.le_refl _, rfl⟩, ?_⟩
          intro p l e R s m args below meth c Q E h0 hX hL h1 h2 h3 h4 hgo H locs ls hW hS hF
          rw [hp]; rw [hn] at hgo
          rw [List.map_cons, List.map_cons, List.map_cons, m_vr E ha]
          have ek : m_e E (ep 1 n (mup f (w32 i).toNat x)) = .inl (E.2.1 1, n, .inr (.inl (vp_updL (fun j => Int64.ofInt (f j)) (Int32.ofInt i).toNatClampNeg (Int64.ofInt x)))) := by
            rw [m_tc, ← m_updL]; rfl
          exact va_last hX.1 hX.2.1 hX.2.2.2.2.2.2.2.2.1 hW.2.2.2 (m_D E _ _) hS (a - 10) 1 (hW.at ha hg) rfl (m_vpin hi1 hi2) hd
            fun H1 locs1 hP1 hD1 hS1 => m_behind (S := S') hX h1 hW ha hg hF hgo (by rw [ek]; exact hP1) hS1
        · cases he
      · cases he
  · cases he
/-- the rows of references: sort, place in m_tys, class -/
def mRow (t q : Nat) (C : String) : Prop := ∀ E : mEnv, (m_tys E)[q]? = some (E.2.1 t, .object C)
theorem c_aaload {t q nx pc : Nat} {C : String} (hp : pcs j = pc) (hn : pcs nx = pc + 1) (ht : mRow t q C) (hd : decode cc pc = .ok (.aaload, 1)) : m_Cert own cc nL ret ini pcs j (opRLd t nx) := by
  refine c_rd fun d L S h j' L' S' h' he => ?_
  unfold opRLd at he
  split at he
  · rename_i i a S1
    split at he
    · cases he
    · rename_i ha
      split at he
      · rename_i t1 n f hg
        split at he
        · rename_i hc
          obtain ⟨rfl, hi1, hi2⟩ := hc
          cases he
          refine ⟨rfl, rfl, fun p l e R s m args below meth c Q E h0 H locs ls cells slots hX hW hS k0 => ?_⟩
          rw [hp]; rw [hn] at k0
          rw [List.map_cons, List.map_cons, m_vr E ha]
          refine va_aldq hX.1 hX.2.1 hX.2.2.2.2.2.2.2.2.1 hW.2.2.2 (a - 10) q (hW.at ha hg) (ht E) (m_vpin hi1 hi2) hd ?_
          rw [m_tc]
          have ev : va_rf (if f (w32 i).toNat = 0 then none else some (m_ad E (f (w32 i).toNat))) = m_v E (.inr (.inr (f (w32 i).toNat))) := by
            simp only [m_v]
            split <;> rfl
          rw [ev]
          exact k0
        · cases he
      · cases he
  · cases he
theorem m_updR (E : mEnv) (f : Nat → Nat) (k v : Nat) (hv : ¬ v < 10) : (fun j => if mup f k v j = 0 then none else some (m_ad E (mup f k v j))) = va_up (fun j => if f j = 0 then none else some (m_ad E (f j))) k (some (m_ad E v)) := by
  funext q
  unfold mup va_up
  by_cases hq : q = k
  · have : ¬ v = 0 := by omega
    simp [hq, this]
  · simp [hq]
theorem c_aastore {t q nx pc : Nat} {C : String} {cs : List Nat} (hp : pcs j = pc) (hn : pcs nx = pc + 1) (ht : mRow t q C) (hcs : ∀ c ∈ cs, ∃ r, m_cl[c]? = some r ∧ (r.1 = C ∨ Cond.castable r.1 C ∈ m_nst)) (hd : decode cc pc = .ok (.aastore, 1)) : m_Cert own cc nL ret ini pcs j (opRSt t cs nx) := by
  intro d L S h j' L' S' h' he
  unfold opRSt at he
  split at he
  · rename_i v i a S1
    split at he
    · cases he
    · rename_i ha
      split at he
      · cases he
      · rename_i hv
        split at he
        · rename_i t1 n f c0 fs hg hgv
          split at he
          · rename_i hc
            obtain ⟨rfl, hi1, hi2, hc0⟩ := hc
            cases he
            refine ⟨⟨Nat.le_refl _, Nat.le_refl _, rfl⟩, ?_⟩
            intro p l e R s m args below meth c Q E h0 hX hL h1 h2 h3 h4 hgo H locs ls hW hS hF
            rw [hp]; rw [hn] at hgo
            rw [List.map_cons, List.map_cons, List.map_cons, m_vr E ha, m_vr E hv]
            have ek : m_e E (er t1 n (mup f (w32 i).toNat v)) = .inl (E.2.1 t1, n, .inr (.inr (.inr (.inr (va_up (fun j => if f j = 0 then none else some (m_ad E (f j))) (Int32.ofInt i).toNatClampNeg (some (m_ad E v))))))) := by
              rw [m_tc, ← m_updR E f _ v hv]; rfl
            obtain ⟨r, r1, r2⟩ := hcs c0 (List.contains_iff_mem.mp hc0)
            rcases r2 with r2 | r2
            · subst r2
              exact va_astq hX.1 hX.2.1 hX.2.2.2.2.2.2.2.2.1 hW.2.2.2 (m_D E _ _) hS (a - 10) q (v - 10) c0 (hW.at ha hg) (ht E) (hW.at hv hgv) r1 (m_vpin hi1 hi2) hd
                fun H1 locs1 hP1 hD1 hS1 => m_behind (S := S') hX h1 hW ha hg hF hgo (by rw [ek]; exact hP1) hS1
            · exact va_astqO hX.1 hX.2.1 hX.2.2.2.2.2.2.2.2.1 hW.2.2.2 (m_D E _ _) hS (a - 10) q (v - 10) c0 (hW.at ha hg) (ht E) (hX.2.2.2.2.2.2.2.2.2.1.2.2.2.2.2.2.1 _ r2) (hW.at hv hgv) r1 (m_vpin hi1 hi2) hd
                fun H1 locs1 hP1 hD1 hS1 => m_behind (S := S') hX h1 hW ha hg hF hgo (by rw [ek]; exact hP1) hS1
          · cases he
        · cases he
  · cases he
end HP
