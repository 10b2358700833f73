/-! ===== a run of the small machine is a contract of the real one ===== -/
def m_no (op : mOp) : Prop := ∀ (d : Nat) (L : mL) (S : mS) (h : mH) r, op d L S h = some (.inr r) → False
def m_CertC (own : String) (cc : ByteArray) (nL : Nat) (ret : Option FieldType) (ini : Bool) (pcs : Nat → Nat) (I : mInf) (j : Nat) (op : mOp) : Prop :=
  ∀ (d : Nat) (L : mL) (S : mS) (h : mH) (mt : Nat) (as : List mAV) (j' : Nat) (L' : mL) (S' : mS), op (d + 1) L S h = some (.inr (.inl (mt, as, j', L', S'))) → L' = L ∧
    ∀ (rv : Option mAV) (h1 : mH), h.1 ≤ h1.1 → h.2.1 ≤ h1.2.1 → ∀ (p : Program) (l : Launch) (e : Env) (R : Room) (s : State) (m : MethodId) (args : Array Value) (below : List Frame) (meth : Method) (c : Code) (Q : State → Prop) (E : mEnv) (h0 : mH),
      m_X p s m args meth c R own cc nL ret ini E h0 (d + 1) → L.length = nL → h0.1 ≤ h.1 → h0.2.1 ≤ h.2.1 → h1.1 - h0.1 ≤ R.cells → h1.2.1 - h0.2.1 ≤ R.slots → m_Met l I E mt as h rv h1 d →
      m_Go p l e R s m args below meth c Q E h0 (pcs j') L (mBack rv S') h1 → m_Go p l e R s m args below meth c Q E h0 (pcs j) L S h
def m_okRet (ret : Option FieldType) (rv : Option mAV) : Prop := match rv with
  | none => ret = none
  | some (.inl x) => ret = some .int ∨ (ret = some .boolean ∧ (x = 0 ∨ x = 1)) ∨ (ret = some .byte ∧ (x = 0 ∨ x = 1))
  | some (.inr (.inl _)) => ret = some .long
  | some (.inr (.inr a)) => ¬ a = 0 ∧ ∃ n, ret = some (.object n)
def m_retI (rv : Option mAV) : Instr := match rv with
  | none => .return_
  | some (.inl _) => .ireturn
  | some (.inr (.inl _)) => .lreturn
  | some (.inr (.inr _)) => .areturn
def m_End (p : Program) (l : Launch) (e : Env) (R : Room) (s : State) (m : MethodId) (args : Array Value) (below : List Frame) (meth : Method) (c : Code) (Q : State → Prop) (E : mEnv) (h0 : mH) (cc : ByteArray) (ret : Option FieldType) (rv : Option mAV) (h : mH) : Prop :=
  m_okRet ret rv → ∀ (H : Heap) (locs : List Loc) (ls : Array Slot) (pc : Nat), decode cc pc = .ok (m_retI rv, 1) → m_W E h H → va_S (m_A E) s.heap H locs →
    W p l e R s m args below meth c H locs (h.1 - h0.1) (h.2.1 - h0.2.1) Q (F0 m pc ls ((mBack rv []).map (m_v E)))
def m_CertR (own : String) (cc : ByteArray) (nL : Nat) (ret : Option FieldType) (ini : Bool) (pcs : Nat → Nat) (j : Nat) (op : mOp) : Prop :=
  ∀ (d : Nat) (L : mL) (S : mS) (h : mH) (rv : Option mAV), op d L S h = some (.inr (.inr rv)) →
    ∀ (p : Program) (l : Launch) (e : Env) (R : Room) (s : State) (m : MethodId) (args : Array Value) (below : List Frame) (meth : Method) (c : Code) (Q : State → Prop) (E : mEnv) (h0 : mH),
      m_X p s m args meth c R own cc nL ret ini E h0 d → m_End p l e R s m args below meth c Q E h0 cc ret rv h → m_Go p l e R s m args below meth c Q E h0 (pcs j) L S h
def m_All (own : String) (cc : ByteArray) (nL : Nat) (ret : Option FieldType) (ini : Bool) (pcs : Nat → Nat) (I : mInf) (j : Nat) (op : mOp) : Prop :=
  m_Cert own cc nL ret ini pcs j op ∧ m_CertC own cc nL ret ini pcs I j op ∧ m_CertR own cc nL ret ini pcs j op
section SD
variable {own : String} {cc : ByteArray} {nL : Nat} {ret : Option FieldType} {ini : Bool} {pcs : Nat → Nat} {I : mInf} {j : Nat}
theorem m_ofStep {op : mOp} (h : m_Cert own cc nL ret ini pcs j op) (hn : m_no op) : m_All own cc nL ret ini pcs I j op :=
  ⟨h, fun d L S h mt as j' L' S' he => (hn _ _ _ _ _ he).elim, fun d L S h rv he => (hn _ _ _ _ _ he).elim⟩
theorem m_ofRet {op : mOp} (h : m_CertR own cc nL ret ini pcs j op) (h1 : ∀ (d : Nat) (L : mL) (S : mS) (h : mH) r, op d L S h = some (.inl r) → False) (h2 : ∀ (d : Nat) (L : mL) (S : mS) (h : mH) r, op d L S h = some (.inr (.inl r)) → False) : m_All own cc nL ret ini pcs I j op :=
  ⟨fun d L S h j' L' S' h' he => (h1 _ _ _ _ _ he).elim, fun d L S h mt as j' L' S' he => (h2 _ _ _ _ _ he).elim, h⟩
theorem m_ofCall {op : mOp} (h : m_CertC own cc nL ret ini pcs I j op) (h1 : ∀ (d : Nat) (L : mL) (S : mS) (h : mH) r, op d L S h = some (.inl r) → False) (h2 : ∀ (d : Nat) (L : mL) (S : mS) (h : mH) r, op d L S h = some (.inr (.inr r)) → False) : m_All own cc nL ret ini pcs I j op :=
  ⟨fun d L S h j' L' S' h' he => (h1 _ _ _ _ _ he).elim, h, fun d L S h rv he => (h2 _ _ _ _ _ he).elim⟩
theorem r_void {pc : Nat} (hp : pcs j = pc) (hr : ret = none) (hd : decode cc pc = .ok (.return_, 1)) : m_All own cc nL ret ini pcs I j opRetV := by
  refine m_ofRet (fun d L S h rv he => ?_) (fun d L S h r he => ?_) (fun d L S h r he => ?_)
  · unfold opRetV at he
    split at he
    · cases he
      intro p l e R s m args below meth c Q E h0 hX hE H locs ls hW hS hF
      rw [hp]
      exact hE hr H locs ls pc hd hW hS
    · cases he
  · unfold opRetV at he
    split at he <;> cases he
  · unfold opRetV at he
    split at he <;> cases he
theorem r_int {b : Bool} {pc : Nat} (hp : pcs j = pc) (hr : (b = false ∧ ret = some .int) ∨ (b = true ∧ ret = some .boolean)) (hd : decode cc pc = .ok (.ireturn, 1)) : m_All own cc nL ret ini pcs I j (opRetI b) := by
  refine m_ofRet (fun d L S h rv he => ?_) (fun d L S h r he => ?_) (fun d L S h r he => ?_)
  · unfold opRetI at he
    split at he
    · rename_i x
      split at he
      · rename_i hb
        cases he
        intro p l e R s m args below meth c Q E h0 hX hE H locs ls hW hS hF
        rw [hp]
        refine hE ?_ H locs ls pc hd hW hS
        rcases hr with ⟨rfl, hr⟩ | ⟨rfl, hr⟩
        · exact Or.inl hr
        · exact Or.inr (Or.inl ⟨hr, by simpa using hb⟩)
      · cases he
    · cases he
  · unfold opRetI at he
    split at he
    · split at he <;> cases he
    · cases he
  · unfold opRetI at he
    split at he
    · split at he <;> cases he
    · cases he
theorem r_byte {pc : Nat} (hp : pcs j = pc) (hr : ret = some .byte) (hd : decode cc pc = .ok (.ireturn, 1)) : m_All own cc nL ret ini pcs I j (opRetI true) := by
  refine m_ofRet (fun d L S h rv he => ?_) (fun d L S h r he => ?_) (fun d L S h r he => ?_)
  · unfold opRetI at he
    split at he
    · rename_i x
      split at he
      · rename_i hb
        cases he
        intro p l e R s m args below meth c Q E h0 hX hE H locs ls hW hS hF
        rw [hp]
        refine hE ?_ H locs ls pc hd hW hS
        exact Or.inr (Or.inr ⟨hr, by simpa using hb⟩)
      · cases he
    · cases he
  · unfold opRetI at he
    split at he
    · split at he <;> cases he
    · cases he
  · unfold opRetI at he
    split at he
    · split at he <;> cases he
    · cases he
theorem r_long {pc : Nat} (hp : pcs j = pc) (hr : ret = some .long) (hd : decode cc pc = .ok (.lreturn, 1)) : m_All own cc nL ret ini pcs I j opRetL := by
  refine m_ofRet (fun d L S h rv he => ?_) (fun d L S h r he => ?_) (fun d L S h r he => ?_)
  · unfold opRetL at he
    split at he
    · cases he
      intro p l e R s m args below meth c Q E h0 hX hE H locs ls hW hS hF
      rw [hp]
      exact hE hr H locs ls pc hd hW hS
    · cases he
  · unfold opRetL at he
    split at he <;> cases he
  · unfold opRetL at he
    split at he <;> cases he
theorem r_ref {pc : Nat} (hp : pcs j = pc) (hr : ∃ n, ret = some (.object n)) (hd : decode cc pc = .ok (.areturn, 1)) : m_All own cc nL ret ini pcs I j opRetR := by
  refine m_ofRet (fun d L S h rv he => ?_) (fun d L S h r he => ?_) (fun d L S h r he => ?_)
  · unfold opRetR at he
    split at he
    · cases he
      intro p l e R s m args below meth c Q E h0 hX hE H locs ls hW hS hF
      rw [hp]
      exact hE ⟨by omega, hr⟩ H locs ls pc hd hW hS
    · cases he
  · unfold opRetR at he
    split at he <;> cases he
  · unfold opRetR at he
    split at he <;> cases he
/-- a fixed call, by what its row gives -/
theorem c_callX {mt na nx pc : Nat} (hp : pcs j = pc) (hn : pcs nx = pc + 3)
    (hrun : ∀ (d : Nat) (as : List mAV) (L : mL) (S' : mS) (h : mH), as.length = na → mWs S' ≤ 8 → ∀ (rv : Option mAV) (h1 : mH) (p : Program) (l : Launch) (e : Env) (R : Room) (s : State) (m : MethodId) (args : Array Value) (below : List Frame) (meth : Method) (c : Code) (E : mEnv) (h0 : mH) (H : Heap) (locs : List Loc) (ls : Array Slot),
      m_X p s m args meth c R own cc nL ret ini E h0 (d + 1) → m_W E h H → va_S (m_A E) s.heap H locs → ls.size = nL → (h.1 - h0.1 + (h1.1 - h.1) ≤ R.cells ∧ h.2.1 - h0.2.1 + (h1.2.1 - h.2.1) ≤ R.slots) → m_Met l I E mt as h rv h1 d →
      va_Run p l e R s m args below meth c H locs (h.1 - h0.1) (h.2.1 - h0.2.1) (h1.1 - h.1) (h1.2.1 - h.2.1) (F0 m pc ls ((as.map (m_v E)).reverse ++ S'.map (m_v E))) (S'.map (m_v E)) (m_Q E rv h1 (as.map (m_v E)).toArray) (m_A E)) :
    m_All own cc nL ret ini pcs I j (opCall mt na nx) := by
  refine m_ofCall (fun d L S h mt' as j' L' S' he => ?_) (fun d L S h r he => ?_) (fun d L S h r he => ?_)
  · unfold opCall at he
    split at he
    · rename_i hc
      cases he
      refine ⟨rfl, fun rv h1 a1 a2 p l e R s m args below meth c Q E h0 hX hL b1 b2 b3 b4 hM hgo H locs ls hW hS hF => ?_⟩
      rw [hp]; rw [hn] at hgo
      have hsz : ls.size = nL := by
        obtain ⟨lv, g1, -⟩ := hF
        rw [g1.1, hL]
      have hr := hrun d (S.take na).reverse L (S.drop na) h (by simp; omega) hc.2 rv h1 p l e R s m args below meth c E h0 H locs ls hX hW hS hsz ⟨by omega, by omega⟩ hM
      have es : ((S.take na).reverse.map (m_v E)).reverse ++ (S.drop na).map (m_v E) = S.map (m_v E) := by
        rw [← List.map_reverse, List.reverse_reverse, ← List.map_append, List.take_append_drop]
      rw [es] at hr
      exact m_callEnd hX hS hF b1 b2 a1 a2 hgo hr
    · cases he
  · unfold opCall at he
    split at he <;> cases he
  · unfold opCall at he
    split at he <;> cases he
theorem m_room {d k : Nat} {R : Room} (h1 : d + 1 ≤ R.frames) (h2 : 40 * (d + 1) ≤ R.locals) (hk : k ≤ 21) : d + 1 ≤ R.frames ∧ 8 + (k + 11) + 40 * d ≤ R.locals := ⟨h1, by omega⟩
theorem m_goodW {mt : Nat} (h : Cond.code (I mt).1 (I mt).2.1 (I mt).2.2.1 (I mt).2.2.2 ∈ m_tbl) : ∀ w ∈ m_wsOf I mt, w ∈ m_tbl := fun w hw => (List.mem_cons.mp hw).elim (fun e => e ▸ h) id
theorem m_rest {E : mEnv} {S' : mS} {m : MethodId} {pc : Nat} {ls : Array Slot} {rest : List Value} (h : mWs S' ≤ 8) : 2 * (F0 m pc ls rest).monitorRoom + ((S'.map (m_v E)).map fun v => v.category).sum ≤ 8 := lv_room (by rw [m_sumW]; exact h)
theorem c_callS {mt na nx pc ix : Nat} (hp : pcs j = pc) (hn : pcs nx = pc + 3) (hd : decode cc pc = .ok (.invokestatic ix, 3)) (hk : (I mt).2.2.1 ≤ 21)
    (w1 : Cond.methodLink own ix (I mt).1 ∈ m_tbl) (w2 : Cond.static (I mt).1 ∈ m_tbl) (w3 : Cond.initialized (I mt).1.cls ∈ m_tbl) (w4 : Cond.code (I mt).1 (I mt).2.1 (I mt).2.2.1 (I mt).2.2.2 ∈ m_tbl)
    (hq : (I mt).1.cls ≠ "java/lang/invoke/MethodHandle" ∧ (I mt).1.cls ≠ "java/lang/invoke/VarHandle" ∧ (parseMethodDescriptor (I mt).1.desc).map (fun d => d.parameters.length) = some na) : m_All own cc nL ret ini pcs I j (opCall mt na nx) := by
  refine c_callX hp hn fun d as L S' h hl hw8 rv h1 p l e R s m args below meth c E h0 H locs ls hX hW hS hsz hf hM => ?_
  have hts := hX.2.2.2.2.1
  have hfr := hX.2.2.2.2.2.2.2.2.2.2.2.2
  refine va_runS (As := as.map (m_v E)) (n := na) (bytes := (I mt).2.1) (maxL := (I mt).2.2.1) (ret := (I mt).2.2.2) ⟨hX.1, hX.2.1, hX.2.2.1, hX.2.2.2.1, hts⟩ hM (va_cwS na hts (m_goodIn ?_) rfl rfl rfl hq (m_room hfr.1 hfr.2 hk)) ⟨m_blind _ _ _, m_pre hX hW hS as⟩ rfl (by rw [List.length_map]; exact hl) hsz rfl (m_rest hw8) hd hf
  intro w hw
  unfold va_wsS at hw
  rcases List.mem_append.mp hw with hw | hw
  · simp only [List.mem_cons, List.not_mem_nil, or_false] at hw
    rcases hw with rfl | rfl | rfl
    · exact w1
    · exact w2
    · exact w3
  · exact m_goodW w4 w hw
theorem c_callSN {mt na nx pc ix : Nat} {host : String} (hp : pcs j = pc) (hn : pcs nx = pc + 3) (hd : decode cc pc = .ok (.invokestatic ix, 3)) (hk : (I mt).2.2.1 ≤ 21)
    (w1 : Cond.methodLinkNest own ix (I mt).1 host ∈ m_nst) (w2 : Cond.static (I mt).1 ∈ m_tbl) (w3 : Cond.initialized (I mt).1.cls ∈ m_tbl) (w4 : Cond.code (I mt).1 (I mt).2.1 (I mt).2.2.1 (I mt).2.2.2 ∈ m_tbl)
    (hq : (I mt).1.cls ≠ "java/lang/invoke/MethodHandle" ∧ (I mt).1.cls ≠ "java/lang/invoke/VarHandle" ∧ (parseMethodDescriptor (I mt).1.desc).map (fun d => d.parameters.length) = some na) : m_All own cc nL ret ini pcs I j (opCall mt na nx) := by
  refine c_callX hp hn fun d as L S' h hl hw8 rv h1 p l e R s m args below meth c E h0 H locs ls hX hW hS hsz hf hM => ?_
  have hts := hX.2.2.2.2.1
  have hfr := hX.2.2.2.2.2.2.2.2.2.2.2.2
  exact va_runSN (As := as.map (m_v E)) (n := na) (bytes := (I mt).2.1) (maxL := (I mt).2.2.1) (ret := (I mt).2.2.2) ⟨hX.1, hX.2.1, hX.2.2.1, hX.2.2.2.1, hts⟩ hM ⟨va_cnB na hts (m_goodIn (m_goodW w4)) rfl rfl rfl (hX.2.2.2.2.2.2.2.2.2.1.2.2.2.2.2.2.1 _ w1) (hts _ w3) hq (m_room hfr.1 hfr.2 hk), hts _ w2, trivial⟩ ⟨m_blind _ _ _, m_pre hX hW hS as⟩ rfl (by rw [List.length_map]; exact hl) hsz rfl (m_rest hw8) hd hf
end SD
