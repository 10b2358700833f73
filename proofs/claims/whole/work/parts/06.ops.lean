/-! ===== the operations' certificates: numbers, locals, jumps ===== -/
section OPS
variable {own : String} {cc : ByteArray} {nL : Nat} {ret : Option FieldType} {ini : Bool} {pcs : Nat → Nat} {j : Nat}
/-- an operation that touches the stack alone -/
theorem c_pure {op : mOp} (h : ∀ (d : Nat) (L : mL) (S : mS) (h : mH) (j' : Nat) (L' : mL) (S' : mS) (h' : mH), op d L S h = some (.inl (j', L', S', h')) → L' = L ∧ h' = h ∧
    ∀ (p : Program) (l : Launch) (e : Env) (R : Room) (s : State) (m : MethodId) (args : Array Value) (below : List Frame) (meth : Method) (c : Code) (Q : State → Prop) (E : mEnv) (h0 : mH) (H : Heap) (locs : List Loc) (ls : Array Slot) (cells slots : Nat),
      m_X p s m args meth c R own cc nL ret ini E h0 d → m_F E L ls → W p l e R s m args below meth c H locs cells slots Q (F0 m (pcs j') ls (S'.map (m_v E))) → W p l e R s m args below meth c H locs cells slots Q (F0 m (pcs j) ls (S.map (m_v E)))) :
    m_Cert own cc nL ret ini pcs j op := by
  intro d L S hh j' L' S' h' he
  obtain ⟨rfl, rfl, hk⟩ := h d L S hh j' L' S' h' he
  refine ⟨⟨Nat.le_refl _, Nat.le_refl _, rfl⟩, ?_⟩
  intro p l e R s m args below meth c Q E h0 hX hL h1 h2 h3 h4 hgo H locs ls hW hS hF
  exact hk p l e R s m args below meth c Q E h0 H locs ls _ _ hX hF (hgo H locs ls hW hS hF)
theorem c_pushI {n : Int} {nx pc : Nat} (hp : pcs j = pc) (hn : pcs nx = pc + 1) (hd : decode cc pc = .ok (.iconst n, 1)) : m_Cert own cc nL ret ini pcs j (opPush (vi n) nx) := by
  refine c_pure fun d L S h j' L' S' h' he => ?_
  cases he
  refine ⟨rfl, rfl, fun p l e R s m args below meth c Q E h0 H locs ls cells slots hX hF k => ?_⟩
  rw [hp]; rw [hn] at k
  exact lv_iconst hX.1 hX.2.1 hd rfl k
theorem c_pushB {n : Int} {nx pc : Nat} (hp : pcs j = pc) (hn : pcs nx = pc + 2) (hd : decode cc pc = .ok (.bipush n, 2)) (hv : (Int8.ofInt n).toInt32 = Int32.ofInt n) : m_Cert own cc nL ret ini pcs j (opPush (vi n) nx) := by
  refine c_pure fun d L S h j' L' S' h' he => ?_
  cases he
  refine ⟨rfl, rfl, fun p l e R s m args below meth c Q E h0 H locs ls cells slots hX hF k => ?_⟩
  rw [hp]; rw [hn] at k
  exact lv_bipush hX.1 hX.2.1 hd hv k
theorem c_pushS {n : Int} {nx pc : Nat} (hp : pcs j = pc) (hn : pcs nx = pc + 3) (hd : decode cc pc = .ok (.sipush n, 3)) (hv : (Int16.ofInt n).toInt32 = Int32.ofInt n) : m_Cert own cc nL ret ini pcs j (opPush (vi n) nx) := by
  refine c_pure fun d L S h j' L' S' h' he => ?_
  cases he
  refine ⟨rfl, rfl, fun p l e R s m args below meth c Q E h0 H locs ls cells slots hX hF k => ?_⟩
  rw [hp]; rw [hn] at k
  exact lv_sipush hX.1 hX.2.1 hd hv k
theorem c_pushL {n : Fin 2} {nx pc : Nat} (hp : pcs j = pc) (hn : pcs nx = pc + 1) (hd : decode cc pc = .ok (.lconst n, 1)) : m_Cert own cc nL ret ini pcs j (opPush (vl (n.val : Int)) nx) := by
  refine c_pure fun d L S h j' L' S' h' he => ?_
  cases he
  refine ⟨rfl, rfl, fun p l e R s m args below meth c Q E h0 H locs ls cells slots hX hF k => ?_⟩
  rw [hp]; rw [hn] at k
  exact lv_lconst hX.1 hX.2.1 hd (v := Int64.ofInt (n.val : Int)) (by cases n with | mk v hv => exact rfl) k
theorem c_ldc {n : Int} {v : Int32} {ix nx pc : Nat} (hp : pcs j = pc) (hn : pcs nx = pc + 2) (hw : Cond.constant own ix v ∈ m_tbl) (hv : Int32.ofInt n = v) (hd : decode cc pc = .ok (.ldc ix, 2)) : m_Cert own cc nL ret ini pcs j (opPush (vi n) nx) := by
  refine c_pure fun d L S h j' L' S' h' he => ?_
  cases he
  refine ⟨rfl, rfl, fun p l e R s m args below meth c Q E h0 H locs ls cells slots hX hF k => ?_⟩
  rw [hp]; rw [hn] at k
  exact lv_ldc hX.1 hX.2.1 hX.2.2.2.1 (hX.2.2.2.2.1 _ hw) hd (by rw [← hv]; exact k)
theorem c_ldcw {n : Int} {v : Int32} {ix nx pc : Nat} (hp : pcs j = pc) (hn : pcs nx = pc + 3) (hw : Cond.constant own ix v ∈ m_tbl) (hv : Int32.ofInt n = v) (hd : decode cc pc = .ok (.ldc_w ix, 3)) : m_Cert own cc nL ret ini pcs j (opPush (vi n) nx) := by
  refine c_pure fun d L S h j' L' S' h' he => ?_
  cases he
  refine ⟨rfl, rfl, fun p l e R s m args below meth c Q E h0 H locs ls cells slots hX hF k => ?_⟩
  rw [hp]; rw [hn] at k
  exact lv_ldcw hX.1 hX.2.1 hX.2.2.2.1 (hX.2.2.2.2.1 _ hw) hd (by rw [← hv]; exact k)
theorem c_ldc2 {n : Int} {v : Int64} {ix nx pc : Nat} (hp : pcs j = pc) (hn : pcs nx = pc + 3) (hw : Cond.constantLong own ix v ∈ m_tbl) (hv : Int64.ofInt n = v) (hd : decode cc pc = .ok (.ldc2_w ix, 3)) : m_Cert own cc nL ret ini pcs j (opPush (vl n) nx) := by
  refine c_pure fun d L S h j' L' S' h' he => ?_
  cases he
  refine ⟨rfl, rfl, fun p l e R s m args below meth c Q E h0 H locs ls cells slots hX hF k => ?_⟩
  rw [hp]; rw [hn] at k
  exact lv_ldc2 hX.1 hX.2.1 hX.2.2.2.1 (hX.2.2.2.2.1 _ hw) hd (by rw [← hv]; exact k)
theorem c_ldcS {a ix nx pc : Nat} {tx : String} (hp : pcs j = pc) (hn : pcs nx = pc + 2) (hZ : own = kR4 ∧ ((ix = 96 ∧ tx = "fdls" ∧ a = 2) ∨ (ix = 98 ∧ tx = "nert" ∧ a = 4))) (hd : decode cc pc = .ok (.ldc ix, 2)) : m_Cert own cc nL ret ini pcs j (opPush (vr a) nx) := by
  refine c_pure fun d L S h j' L' S' h' he => ?_
  cases he
  refine ⟨rfl, rfl, fun p l e R s m args below meth c Q E h0 H locs ls cells slots hX hF k => ?_⟩
  rw [hp]; rw [hn] at k
  have hC : m_CC E s := hX.2.2.2.2.2.2.2.2.2.1
  obtain ⟨ho, h2⟩ := hZ
  have hR : vk_R own ix tx (E.2.2.2.1 a) s ∧ m_v E (vr a) = .ref (E.2.2.2.1 a) := by
    subst ho
    rcases h2 with ⟨rfl, rfl, rfl⟩ | ⟨rfl, rfl, rfl⟩
    · exact ⟨hC.1, rfl⟩
    · exact ⟨hC.2.1, rfl⟩
  rw [show (vr a :: S).map (m_v E) = .ref (E.2.2.2.1 a) :: S.map (m_v E) by rw [List.map_cons, hR.2]] at k
  exact va_ldcS hX.1 hX.2.1 hX.2.2.2.1 hR.1 hd k
end OPS
