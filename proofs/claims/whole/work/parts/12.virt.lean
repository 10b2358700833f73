/-! ===== calls on objects ===== -/
/-- a call on an object of class c0 runs method mt -/
def m_VX (own : String) (cc : ByteArray) (nL : Nat) (ret : Option FieldType) (ini : Bool) (I : mInf) (pc na c0 mt : Nat) : Prop :=
  ∀ (d a : Nat) (as : List mAV) (S' : mS) (h : mH) (fs : List mAV), as.length + 1 = na → mWs S' ≤ 8 → ¬ a < 10 → h.2.2 a = some (.inl (c0, fs)) → ∀ (rv : Option mAV) (h1 : mH) (p : Program) (l : Launch) (e : Env) (R : Room) (s : State) (m : MethodId) (args : Array Value) (below : List Frame) (meth : Method) (c : Code) (E : mEnv) (h0 : mH) (H : Heap) (locs : List Loc) (ls : Array Slot),
      m_X p s m args meth c R own cc nL ret ini E h0 (d + 1) → m_W E h H → va_S (m_A E) s.heap H locs → ls.size = nL → (h.1 - h0.1 + (h1.1 - h.1) ≤ R.cells ∧ h.2.1 - h0.2.1 + (h1.2.1 - h.2.1) ≤ R.slots) → m_Met l I E mt (.inr (.inr a) :: as) h rv h1 d →
      va_Run p l e R s m args below meth c H locs (h.1 - h0.1) (h.2.1 - h0.2.1) (h1.1 - h.1) (h1.2.1 - h.2.1) (F0 m pc ls ((as.map (m_v E)).reverse ++ .ref (m_ad E a) :: S'.map (m_v E))) (S'.map (m_v E)) (m_Q E rv h1 (Value.ref (m_ad E a) :: as.map (m_v E)).toArray) (m_A E)
section SV
variable {own : String} {cc : ByteArray} {nL : Nat} {ret : Option FieldType} {ini : Bool} {pcs : Nat → Nat} {I : mInf} {j : Nat}
theorem m_splitR {E : mEnv} {na a : Nat} {S : mS} {as : List mAV} (hl : na ≤ S.length) (hs : (S.take na).reverse = .inr (.inr a) :: as) : as.length + 1 = na ∧ (as.map (m_v E)).reverse ++ m_v E (.inr (.inr a)) :: (S.drop na).map (m_v E) = S.map (m_v E) := by
  constructor
  · have := congrArg List.length hs
    simp at this
    omega
  · have h1 : S.take na = as.reverse ++ [.inr (.inr a)] := by
      have := congrArg List.reverse hs
      simpa using this
    have h2 := List.take_append_drop na S
    rw [h1] at h2
    conv => rhs; rw [← h2]
    simp
theorem c_callV {tb : List (Nat × Nat)} {na nx pc : Nat} (hp : pcs j = pc) (hn : pcs nx = pc + 3) (hrun : ∀ q ∈ tb, m_VX own cc nL ret ini I pc na q.1 q.2) :
    m_All own cc nL ret ini pcs I j (opCallV tb na nx) := by
  have hmem : ∀ (tb : List (Nat × Nat)) (c mt : Nat), mTb tb c = some mt → (c, mt) ∈ tb := by
    intro tb
    induction tb with
    | nil => intro c mt h; cases h
    | cons q r ih =>
      intro c mt h
      obtain ⟨qc, qm⟩ := q
      unfold mTb at h
      split at h
      · rename_i hc
        cases h
        rw [hc]
        exact List.mem_cons_self
      · exact List.mem_cons_of_mem _ (ih c mt h)
  refine m_ofCall (fun d L S h mt' as j' L' S' he => ?_) (fun d L S h r he => ?_) (fun d L S h r he => ?_)
  · unfold opCallV at he
    split at he
    · rename_i hc
      split at he
      · rename_i a as0 hs
        split at he
        · cases he
        · rename_i ha
          split at he
          · rename_i c0 fs hg
            split at he
            · rename_i mt hmt
              cases he
              refine ⟨rfl, fun rv h1 a1 a2 p l e R s m args below meth c Q E h0 hX hL b1 b2 b3 b4 hM hgo H locs ls hW hS hF => ?_⟩
              rw [hp]; rw [hn] at hgo
              have hsz : ls.size = nL := by
                obtain ⟨lv, g1, -⟩ := hF
                rw [g1.1, hL]
              obtain ⟨hl, es⟩ := m_splitR (E := E) hc.1 hs
              have hr := hrun _ (hmem _ _ _ hmt) d a as0 (S.drop na) h fs hl hc.2 ha hg rv h1 p l e R s m args below meth c E h0 H locs ls hX hW hS hsz ⟨by omega, by omega⟩ hM
              rw [m_vr E ha] at es
              rw [es] at hr
              exact m_callEnd hX hS hF b1 b2 a1 a2 hgo hr
            · cases he
          · cases he
      · cases he
    · cases he
  · unfold opCallV at he
    repeat' split at he
    all_goals cases he
  · unfold opCallV at he
    repeat' split at he
    all_goals cases he
theorem m_preR {p : Program} {s : State} {m : MethodId} {args : Array Value} {meth : Method} {c : Code} {R : Room} {E : mEnv} {h0 h : mH} {d a : Nat} {H : Heap} {locs : List Loc} (hX : m_X p s m args meth c R own cc nL ret ini E h0 d) (hW : m_W E h H) (hS : va_S (m_A E) s.heap H locs) (ha : ¬ a < 10) (as : List mAV) :
    ∀ U : State, U.heap = H → s.WarmedH U.vm → m_Pc E (.inr (.inr a) :: as) h (Value.ref (m_ad E a) :: as.map (m_v E)).toArray U := by
  have k := m_pre hX hW hS (.inr (.inr a) :: as)
  rw [List.map_cons, m_vr E ha] at k
  exact k
theorem m_mh : kR0 ≠ "java/lang/invoke/MethodHandle" := by decide +kernel
theorem v_init {pc na c0 mt ix : Nat} (hd : decode cc pc = .ok (.invokespecial ix, 3)) (hk : (I mt).2.2.1 ≤ 21) (hret : (I mt).2.2.2 = none) (hnm : (I mt).1.name = "<init>")
    (w1 : Cond.methodLink own ix (I mt).1 ∈ m_tbl) (w2 : Cond.instanceMethod (I mt).1 ∈ m_tbl) (w3 : Cond.initialized (I mt).1.cls ∈ m_tbl) (w4 : Cond.code (I mt).1 (I mt).2.1 (I mt).2.2.1 (I mt).2.2.2 ∈ m_tbl)
    (hq : (I mt).1.cls ≠ "java/lang/invoke/MethodHandle" ∧ (I mt).1.cls ≠ "java/lang/invoke/VarHandle" ∧ (parseMethodDescriptor (I mt).1.desc).map (fun d => d.parameters.length + 1) = some na) : m_VX own cc nL ret ini I pc na c0 mt := by
  intro d a as S' h fs hl hw8 ha hg rv h1 p l e R s m args below meth c E h0 H locs ls hX hW hS hsz hf hM
  have hts := hX.2.2.2.2.1
  have hfr := hX.2.2.2.2.2.2.2.2.2.2.2.2
  have hq3 : (parseMethodDescriptor (I mt).1.desc).map (fun d => d.parameters.length) = some as.length := by
    have := hq.2.2
    cases hz : parseMethodDescriptor (I mt).1.desc with
    | none => rw [hz] at this; cases this
    | some z =>
      rw [hz] at this
      simp only [Option.map_some, Option.some.injEq] at this ⊢
      omega
  exact va_runI (As := as.map (m_v E)) (n := as.length) (bytes := (I mt).2.1) (maxL := (I mt).2.2.1) ⟨hX.1, hX.2.1, hX.2.2.1, hX.2.2.2.1, hts⟩ hM (cwI as.length hts (m_goodIn (m_goodW w4)) (ws' := m_tbl) (by unfold m_wsOf; rw [hret]) rfl rfl (hts _ w3) (hts _ w1) (hts _ w2) hnm ⟨hq.1, hq.2.1, hq3⟩ (m_room hfr.1 hfr.2 hk)) ⟨m_blind _ _ _, m_preR hX hW hS ha as⟩ rfl (List.length_map _) hsz rfl (m_rest hw8) hd hf
theorem v_initN {pc na c0 mt ix : Nat} {host : String} (hd : decode cc pc = .ok (.invokespecial ix, 3)) (hk : (I mt).2.2.1 ≤ 21) (hret : (I mt).2.2.2 = none) (hnm : (I mt).1.name = "<init>")
    (w1 : Cond.methodLinkNest own ix (I mt).1 host ∈ m_nst) (w2 : Cond.instanceMethod (I mt).1 ∈ m_tbl) (w3 : Cond.initialized (I mt).1.cls ∈ m_tbl) (w4 : Cond.code (I mt).1 (I mt).2.1 (I mt).2.2.1 (I mt).2.2.2 ∈ m_tbl)
    (hq : (I mt).1.cls ≠ "java/lang/invoke/MethodHandle" ∧ (I mt).1.cls ≠ "java/lang/invoke/VarHandle" ∧ (parseMethodDescriptor (I mt).1.desc).map (fun d => d.parameters.length + 1) = some na) : m_VX own cc nL ret ini I pc na c0 mt := by
  intro d a as S' h fs hl hw8 ha hg rv h1 p l e R s m args below meth c E h0 H locs ls hX hW hS hsz hf hM
  have hts := hX.2.2.2.2.1
  have hfr := hX.2.2.2.2.2.2.2.2.2.2.2.2
  have hq3 : (parseMethodDescriptor (I mt).1.desc).map (fun d => d.parameters.length) = some as.length := by
    have := hq.2.2
    cases hz : parseMethodDescriptor (I mt).1.desc with
    | none => rw [hz] at this; cases this
    | some z =>
      rw [hz] at this
      simp only [Option.map_some, Option.some.injEq] at this ⊢
      omega
  exact va_runIN (As := as.map (m_v E)) (n := as.length) (bytes := (I mt).2.1) (maxL := (I mt).2.2.1) ⟨hX.1, hX.2.1, hX.2.2.1, hX.2.2.2.1, hts⟩ hM ⟨va_cnB as.length hts (m_goodIn (m_goodW w4)) (ws' := m_tbl) (by unfold m_wsOf; rw [hret]) rfl rfl (hX.2.2.2.2.2.2.2.2.2.1.2.2.2.2.2.2.1 _ w1) (hts _ w3) ⟨hq.1, hq.2.1, hq3⟩ (m_room hfr.1 hfr.2 hk), hnm, hts _ w2⟩ ⟨m_blind _ _ _, m_preR hX hW hS ha as⟩ rfl (List.length_map _) hsz rfl (m_rest hw8) hd hf
theorem m_recv {p : Program} {s : State} {m : MethodId} {args : Array Value} {meth : Method} {c : Code} {R : Room} {E : mEnv} {h0 h : mH} {d a c0 : Nat} {fs : List mAV} {H : Heap} {r : vw_C} (hX : m_X p s m args meth c R own cc nL ret ini E h0 d) (hW : m_W E h H) (ha : ¬ a < 10) (hg : h.2.2 a = some (.inl (c0, fs))) (hr : m_cl[c0]? = some r) :
    ∃ cell : Cell, H[m_ad E a]? = some cell ∧ cell.vm.isStatics = false ∧ s.vm.findClass r.1 = some cell.cls := va_recv hX.2.2.2.2.2.2.2.2.1 hW.2.2.2 hr (hW.at ha hg)
/-- the class's own method, by its own name -/
theorem v_same {pc na c0 mt ix : Nat} {C : String} {T : u_T} {N : Nat} (hd : decode cc pc = .ok (.invokevirtual ix, 3)) (hr : m_cl[c0]? = some (C, T, N)) (hC : (I mt).1.cls = C) (hk : (I mt).2.2.1 ≤ 21)
    (w1 : Cond.methodLink own ix (I mt).1 ∈ m_tbl) (w2 : Cond.instanceMethod (I mt).1 ∈ m_tbl) (w3 : Cond.initialized C ∈ m_tbl) (w4 : Cond.code (I mt).1 (I mt).2.1 (I mt).2.2.1 (I mt).2.2.2 ∈ m_tbl) (w5 : Cond.selects C (I mt).1 (I mt).1 ∈ m_tbl)
    (hq : (I mt).1.cls ≠ "java/lang/invoke/MethodHandle" ∧ (I mt).1.cls ≠ "java/lang/invoke/VarHandle" ∧ (parseMethodDescriptor (I mt).1.desc).map (fun d => d.parameters.length + 1) = some na) : m_VX own cc nL ret ini I pc na c0 mt := by
  intro d a as S' h fs hl hw8 ha hg rv h1 p l e R s m args below meth c E h0 H locs ls hX hW hS hsz hf hM
  have hts := hX.2.2.2.2.1
  have hfr := hX.2.2.2.2.2.2.2.2.2.2.2.2
  have hq3 : (parseMethodDescriptor (I mt).1.desc).map (fun d => d.parameters.length) = some as.length := by
    have := hq.2.2
    cases hz : parseMethodDescriptor (I mt).1.desc with
    | none => rw [hz] at this; cases this
    | some z =>
      rw [hz] at this
      simp only [Option.map_some, Option.some.injEq] at this ⊢
      omega
  refine va_runV (C := C) (As := as.map (m_v E)) (n := as.length) (bytes := (I mt).2.1) (maxL := (I mt).2.2.1) (ret := (I mt).2.2.2) ⟨hX.1, hX.2.1, hX.2.2.1, hX.2.2.2.1, hts⟩ hM (cwV as.length hts (m_goodIn ?_) rfl rfl rfl ⟨hC, hq.1, hq.2.1, hq3⟩ (m_room hfr.1 hfr.2 hk)) ⟨m_blind _ _ _, m_recv hX hW ha hg hr, m_preR hX hW hS ha as⟩ rfl (List.length_map _) hsz rfl (m_rest hw8) hd hf
  intro w hw
  unfold wsV at hw
  rcases List.mem_append.mp hw with hw | hw
  · simp only [List.mem_cons, List.not_mem_nil, or_false] at hw
    rcases hw with rfl | rfl | rfl | rfl
    · exact w1
    · exact w2
    · exact w5
    · exact w3
  · exact m_goodW w4 w hw
/-- a method that the receiver's class overrides or inherits -/
theorem v_over {pc na c0 mt ix : Nat} {C owner : String} {x : MethodName} {T : u_T} {N : Nat} (hd : decode cc pc = .ok (.invokevirtual ix, 3)) (hr : m_cl[c0]? = some (C, T, N)) (hk : (I mt).2.2.1 ≤ 21)
    (w1 : Cond.methodLink own ix x ∈ m_tbl) (w2 : Cond.sameMethod x.cls owner x.name x.desc ∈ m_tbl) (w3 : Cond.instanceMethod ⟨owner, x.name, x.desc⟩ ∈ m_tbl) (w4 : Cond.selects C x (I mt).1 ∈ m_tbl) (w5 : Cond.instanceMethod (I mt).1 ∈ m_tbl) (w6 : Cond.initialized (I mt).1.cls ∈ m_tbl)
    (w7 : Cond.code (I mt).1 (I mt).2.1 (I mt).2.2.1 (I mt).2.2.2 ∈ m_tbl) {b0 : ByteArray} {m0 : Nat} {r0 : Option FieldType} (w8 : Cond.code ⟨owner, x.name, x.desc⟩ b0 m0 r0 ∈ m_tbl)
    (hq : owner ≠ "java/lang/invoke/MethodHandle" ∧ owner ≠ "java/lang/invoke/VarHandle" ∧ (parseMethodDescriptor x.desc).map (fun d => d.parameters.length + 1) = some na) : m_VX own cc nL ret ini I pc na c0 mt := by
  intro d a as S' h fs hl hw8 ha hg rv h1 p l e R s m args below meth c E h0 H locs ls hX hW hS hsz hf hM
  have hts := hX.2.2.2.2.1
  have hfr := hX.2.2.2.2.2.2.2.2.2.2.2.2
  have hq3 : (parseMethodDescriptor x.desc).map (fun d => d.parameters.length) = some as.length := by
    have := hq.2.2
    cases hz : parseMethodDescriptor x.desc with
    | none => rw [hz] at this; cases this
    | some z =>
      rw [hz] at this
      simp only [Option.map_some, Option.some.injEq] at this ⊢
      omega
  refine va_runU (C := C) (owner := owner) (x := x) (As := as.map (m_v E)) (n := as.length) (bytes := (I mt).2.1) (maxL := (I mt).2.2.1) (ret := (I mt).2.2.2) ⟨hX.1, hX.2.1, hX.2.2.1, hX.2.2.2.1, hts⟩ hM (va_cwO as.length hts (m_goodIn ?_) rfl rfl rfl w8 ⟨hq.1, hq.2.1, hq3⟩ (m_room hfr.1 hfr.2 hk)) ⟨m_blind _ _ _, m_recv hX hW ha hg hr, m_preR hX hW hS ha as⟩ rfl (List.length_map _) hsz rfl (m_rest hw8) hd hf
  intro w hw
  unfold va_wsO at hw
  rcases List.mem_append.mp hw with hw | hw
  · simp only [List.mem_cons, List.not_mem_nil, or_false] at hw
    rcases hw with rfl | rfl | rfl | rfl | rfl | rfl
    · exact w1
    · exact w2
    · exact w3
    · exact w4
    · exact w5
    · exact w6
  · exact m_goodW w7 w hw
theorem m_clAt {p : Program} {s : State} {m : MethodId} {args : Array Value} {meth : Method} {c : Code} {R : Room} {E : mEnv} {h0 : mH} {d c0 : Nat} {r : vw_C} (hX : m_X p s m args meth c R own cc nL ret ini E h0 d) (hr : m_cl[c0]? = some r) : ∃ cC, ClassAt s r.1 cC := ⟨_, (hX.2.2.2.2.2.2.2.2.1.1 c0 r hr).2⟩
theorem v_super {pc na c0 mt ix : Nat} {C : String} {T : u_T} {N : Nat} (hd : decode cc pc = .ok (.invokespecial ix, 3)) (hr : m_cl[c0]? = some (C, T, N)) (hk : (I mt).2.2.1 ≤ 21)
    (w1 : Cond.methodLink own ix (I mt).1 ∈ m_tbl) (w2 : Cond.sameMethod (I mt).1.cls (I mt).1.cls (I mt).1.name (I mt).1.desc ∈ m_tbl) (w3 : Cond.superclass own (I mt).1.cls ∈ m_tbl) (w5 : Cond.instanceMethod (I mt).1 ∈ m_tbl) (w6 : Cond.initialized (I mt).1.cls ∈ m_tbl)
    (w7 : Cond.code (I mt).1 (I mt).2.1 (I mt).2.2.1 (I mt).2.2.2 ∈ m_tbl) (hq : (I mt).1.name ≠ "<init>" ∧ (parseMethodDescriptor (I mt).1.desc).map (fun d => d.parameters.length + 1) = some na) : m_VX own cc nL ret ini I pc na c0 mt := by
  intro d a as S' h fs hl hw8 ha hg rv h1 p l e R s m args below meth c E h0 H locs ls hX hW hS hsz hf hM
  have hts := hX.2.2.2.2.1
  have hfr := hX.2.2.2.2.2.2.2.2.2.2.2.2
  obtain ⟨cC, hat⟩ := m_clAt hX hr
  have hq3 : (parseMethodDescriptor (I mt).1.desc).map (fun d => d.parameters.length) = some as.length := by
    have := hq.2
    cases hz : parseMethodDescriptor (I mt).1.desc with
    | none => rw [hz] at this; cases this
    | some z =>
      rw [hz] at this
      simp only [Option.map_some, Option.some.injEq] at this ⊢
      omega
  refine va_runSU (C := C) hat (As := as.map (m_v E)) (n := as.length) (bytes := (I mt).2.1) (maxL := (I mt).2.2.1) (ret := (I mt).2.2.2) ⟨hX.1, hX.2.1, hX.2.2.1, hX.2.2.2.1, hts⟩ hM (va_cwSU as.length hts (m_goodIn ?_) rfl rfl rfl ⟨hq.1, hq3⟩ (m_room hfr.1 hfr.2 hk)) ⟨m_blind _ _ _, m_recv hX hW ha hg hr, m_preR hX hW hS ha as⟩ rfl (List.length_map _) hsz rfl (m_rest hw8) hd hf
  intro w hw
  unfold va_wsSU at hw
  rcases List.mem_append.mp hw with hw | hw
  · simp only [List.mem_cons, List.not_mem_nil, or_false] at hw
    rcases hw with rfl | rfl | rfl | rfl | rfl
    · exact w1
    · exact w2
    · exact w3
    · exact w5
    · exact w6
  · exact m_goodW w7 w hw
theorem v_superO {pc na c0 mt ix : Nat} {C owner : String} {x : MethodName} {T : u_T} {N : Nat} (hd : decode cc pc = .ok (.invokespecial ix, 3)) (hr : m_cl[c0]? = some (C, T, N)) (hk : (I mt).2.2.1 ≤ 21) (hy : (I mt).1 = ⟨owner, x.name, x.desc⟩)
    (w1 : Cond.methodLink own ix x ∈ m_tbl) (w2 : Cond.sameMethod x.cls owner x.name x.desc ∈ m_tbl) (w3 : Cond.superclass own x.cls ∈ m_tbl) (w4 : Cond.superclass x.cls owner ∈ m_tbl) (w5 : Cond.instanceMethod ⟨owner, x.name, x.desc⟩ ∈ m_tbl) (w6 : Cond.initialized owner ∈ m_tbl)
    (w7 : Cond.code (I mt).1 (I mt).2.1 (I mt).2.2.1 (I mt).2.2.2 ∈ m_tbl) (hq : x.name ≠ "<init>" ∧ (parseMethodDescriptor x.desc).map (fun d => d.parameters.length + 1) = some na) : m_VX own cc nL ret ini I pc na c0 mt := by
  intro d a as S' h fs hl hw8 ha hg rv h1 p l e R s m args below meth c E h0 H locs ls hX hW hS hsz hf hM
  have hts := hX.2.2.2.2.1
  have hfr := hX.2.2.2.2.2.2.2.2.2.2.2.2
  obtain ⟨cC, hat⟩ := m_clAt hX hr
  have hq3 : (parseMethodDescriptor x.desc).map (fun d => d.parameters.length) = some as.length := by
    have := hq.2
    cases hz : parseMethodDescriptor x.desc with
    | none => rw [hz] at this; cases this
    | some z =>
      rw [hz] at this
      simp only [Option.map_some, Option.some.injEq] at this ⊢
      omega
  have hrm := m_room hfr.1 hfr.2 hk
  unfold m_Met at hM
  have hcw : Cond.code ⟨owner, x.name, x.desc⟩ (I mt).2.1 (I mt).2.2.1 (I mt).2.2.2 ∈ m_wsOf I mt := by rw [← hy]; exact List.mem_cons_self
  rw [hy] at hM
  exact m_runSO (h := h) (h1 := h1) (C := C) hat ⟨hX.1, hX.2.1, hX.2.2.1, hX.2.2.2.1, hts⟩ hM rfl rfl hrm.1 hrm.2 (m_goodIn (m_goodW w7)) hcw w1 w2 w3 w4 w5 w6 hq.1 hq3 ⟨m_blind _ _ _, m_recv hX hW ha hg hr, m_preR hX hW hS ha as⟩ rfl (List.length_map _) hsz rfl (m_rest hw8) hd hf
theorem c_callT {mt na nx pc ix : Nat} (hp : pcs j = pc) (hn : pcs nx = pc + 3) (hd : decode cc pc = .ok (.invokevirtual ix, 3)) (hC : (I mt).1.cls = "java/lang/String") (hk : (I mt).2.2.1 ≤ 21)
    (w1 : Cond.methodLink own ix (I mt).1 ∈ m_tbl) (w2 : Cond.instanceMethod (I mt).1 ∈ m_tbl) (w3 : Cond.initialized "java/lang/String" ∈ m_tbl) (w4 : Cond.code (I mt).1 (I mt).2.1 (I mt).2.2.1 (I mt).2.2.2 ∈ m_tbl) (w5 : Cond.selects "java/lang/String" (I mt).1 (I mt).1 ∈ m_tbl)
    (hq : (parseMethodDescriptor (I mt).1.desc).map (fun d => d.parameters.length + 1) = some na) : m_All own cc nL ret ini pcs I j (opCallT mt na nx) := by
  refine m_ofCall (fun d L S h mt' as j' L' S' he => ?_) (fun d L S h r he => ?_) (fun d L S h r he => ?_)
  · unfold opCallT at he
    split at he
    · rename_i hc
      split at he
      · rename_i a as0 hs
        split at he
        · rename_i ha
          cases he
          refine ⟨rfl, fun rv h1 a1 a2 p l e R s m args below meth c Q E h0 hX hL b1 b2 b3 b4 hM hgo H locs ls hW hS hF => ?_⟩
          rw [hp]; rw [hn] at hgo
          have hsz : ls.size = nL := by
            obtain ⟨lv, g1, -⟩ := hF
            rw [g1.1, hL]
          obtain ⟨hl, es⟩ := m_splitR (E := E) hc.1 hs
          have hts := hX.2.2.2.2.1
          have hfr := hX.2.2.2.2.2.2.2.2.2.2.2.2
          have hCC : m_CC E s := hX.2.2.2.2.2.2.2.2.2.1
          obtain ⟨i, hi, rfl⟩ := m_S2 ha
          have hv : m_v E (.inr (.inr (2 + 2 * i))) = .ref (E.2.2.2.1 (2 + 2 * i)) := by
            have a1 : ¬ 2 + 2 * i = 0 := by omega
            have a2 : 2 + 2 * i < 10 := by omega
            simp [m_v, m_ad, a1, a2]
          have hq3 : (parseMethodDescriptor (I mt).1.desc).map (fun d => d.parameters.length) = some as0.length := by
            cases hz : parseMethodDescriptor (I mt).1.desc with
            | none => rw [hz] at hq; cases hq
            | some z =>
              rw [hz] at hq
              simp only [Option.map_some, Option.some.injEq] at hq ⊢
              omega
          have hpre := m_pre hX hW hS (.inr (.inr (2 + 2 * i)) :: as0)
          rw [List.map_cons, hv] at hpre
          rw [hv] at es
          rw [← es]
          refine m_callEnd hX hS hF b1 b2 a1 a2 hgo (va_runV (C := "java/lang/String") (As := as0.map (m_v E)) (n := as0.length) (bytes := (I mt).2.1) (maxL := (I mt).2.2.1) (ret := (I mt).2.2.2) ⟨hX.1, hX.2.1, hX.2.2.1, hX.2.2.2.1, hts⟩ hM (cwV as0.length hts (m_goodIn ?_) rfl rfl rfl ⟨hC, by rw [hC]; decide +kernel, by rw [hC]; decide +kernel, hq3⟩ (m_room hfr.1 hfr.2 hk)) ⟨m_blind _ _ _, vk_recv hCC.2.2.1 hi hS, hpre⟩ rfl (List.length_map _) hsz rfl (m_rest hc.2) hd ⟨by omega, by omega⟩)
          intro w hw
          unfold wsV at hw
          rcases List.mem_append.mp hw with hw | hw
          · simp only [List.mem_cons, List.not_mem_nil, or_false] at hw
            rcases hw with rfl | rfl | rfl | rfl
            · exact w1
            · exact w2
            · exact w5
            · exact w3
          · exact m_goodW w4 w hw
        · cases he
      · cases he
    · cases he
  · unfold opCallT at he
    repeat' split at he
    all_goals cases he
  · unfold opCallT at he
    repeat' split at he
    all_goals cases he
end SV
