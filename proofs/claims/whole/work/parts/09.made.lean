/-! ===== certificates: lengths, what is made, copies, texts ===== -/
section HM
variable {own : String} {cc : ByteArray} {nL : Nat} {ret : Option FieldType} {ini : Bool} {pcs : Nat → Nat} {j : Nat}
theorem c_alen {nx pc : Nat} (hp : pcs j = pc) (hn : pcs nx = pc + 1) (hd : decode cc pc = .ok (.arraylength, 1)) : m_Cert own cc nL ret ini pcs j (opALen nx) := by
  refine c_rd fun d L S h j' L' S' h' he => ?_
  unfold opALen at he
  split at he
  · rename_i a S1
    split at he
    · cases he
    · rename_i ha
      split at he
      · rename_i t n f hg
        split at he
        · rename_i hc
          subst hc
          cases he
          refine ⟨rfl, rfl, fun p l e R s m args below meth c Q E h0 H locs ls cells slots hX hW hS k0 => ?_⟩
          rw [hp]; rw [hn] at k0
          rw [List.map_cons, m_vr E ha]
          exact va_alen hX.1 hX.2.1 hX.2.2.2.2.2.2.2.2.1 hW.2.2.2 (a - 10) 0 (hW.at ha hg) rfl (v := Int32.ofInt (n : Int)) Int32.ofInt_eq_ofNat.symm hd k0
        · cases he
      · cases he
  · cases he
theorem m_XA {p : Program} {s : State} {m : MethodId} {args : Array Value} {meth : Method} {c : Code} {R : Room} {E : mEnv} {h0 : mH} {d : Nat} (hX : m_X p s m args meth c R own cc nL ret ini E h0 d) : ∀ q, s.heap.size ≤ q → m_A E q := by
  intro q hq
  have e1 := hX.2.2.2.2.2.2.2.2.2.2.2.1
  show E.2.2.1 ≤ q
  omega
theorem m_push {p : Program} {l : Launch} {e : Env} {R : Room} {s : State} {m : MethodId} {args : Array Value} {below : List Frame} {meth : Method} {c : Code} {Q : State → Prop} {E : mEnv} {h0 h : mH} {d q N : Nat} {y} {H H1 : Heap} {locs : List Loc} {ls : Array Slot} {pc : Nat} {L : mL} {S : mS} {rest : List Value}
    (hX : m_X p s m args meth c R own cc nL ret ini E h0 d) (h1 : h0.1 ≤ h.1) (h2 : h0.2.1 ≤ h.2.1) (hW : m_W E h H) (hF : m_F E L ls)
    (hgo : m_Go p l e R s m args below meth c Q E h0 pc L (.inr (.inr h.1) :: S) (h.1 + 1, h.2.1 + N, mup h.2.2 h.1 (some y))) (hr : rest = S.map (m_v E))
    (hP : va_P E.1 m_cl (m_ws E h.2.2 h.1 ++ [(q, m_e E (some y))]) H1) (hD : va_D (m_A E) (m_ws E h.2.2 h.1 ++ [(q, m_e E (some y))])) (hS : va_S (m_A E) s.heap H1 locs) :
    W p l e R s m args below meth c H1 locs (h.1 - h0.1 + 1) (h.2.1 - h0.2.1 + N) Q (F0 m pc ls (.ref q :: rest)) := by
  have e1 := hX.2.2.2.2.2.2.2.2.2.2.2.1
  have e2 := hX.2.2.2.2.2.2.2.2.2.2.1
  have e3 := hW.2.1.1
  have e4 := hW.1
  refine W.widen (k := h.1 + 1 - h0.1) (n := h.2.1 + N - h0.2.1) (by omega) (by omega) ?_
  refine m_sized fun hz => ?_
  obtain ⟨hq, hW1⟩ := hW.push (sl := h.2.1 + N) hP hD (by omega)
  have k := hgo H1 locs ls hW1 hS hF
  rw [List.map_cons, m_vr E (by omega), ← hq, ← hr] at k
  exact k
theorem c_new {cI nx pc ix N : Nat} {C : String} {T : u_T} {fs : List mAV} (ty : Nat → FieldType) (hp : pcs j = pc) (hn : pcs nx = pc + 3) (hr : m_cl[cI]? = some (C, T, N)) (ht : m_ty[cI]? = some ty) (hl : fs.length = N) (hfs : ∀ (E : mEnv) (j : Nat), j < N → defaultValue (ty j) = vp_V (fs.map (m_v E)) j)
    (hw1 : Cond.classLink own ix C ∈ m_tbl) (hw2 : Cond.instantiable C N ∈ m_tbl) (hw3 : Cond.initialized C ∈ m_tbl) (hd : decode cc pc = .ok (.new ix, 3)) : m_Cert own cc nL ret ini pcs j (opNew cI fs nx) := by
  intro d L S h j' L' S' h' he
  cases he
  refine ⟨⟨Nat.le_succ _, Nat.le_add_right _ _, rfl⟩, ?_⟩
  intro p l e R s m args below meth c Q E h0 hX hL h1 h2 h3 h4 hgo H locs ls hW hS hF
  rw [hp]; rw [hn] at hgo
  have hts := hX.2.2.2.2.1
  obtain ⟨o1, o2, ty0, o3, o4⟩ := m_cl_ok _ _ hr
  cases ht.symm.trans o3
  have h3' : h.1 + 1 - h0.1 ≤ R.cells := h3
  have h4' : h.2.1 + fs.length - h0.2.1 ≤ R.slots := h4
  rw [hl] at h4'
  have g3 : h.1 - h0.1 + 1 ≤ R.cells := by omega
  have g4 : h.2.1 - h0.2.1 + N ≤ R.slots := by omega
  exact va_new hX.1 hX.2.1 hts o1 ty o4 hX.2.2.2.1 (hts _ hw1) (hts _ hw2) (hts _ hw3) hX.2.2.2.2.2.2.2.2.1 hW.2.2.2 (m_D E _ _) hS (m_XA hX) hr (hfs E) g3 g4 hd
    fun q H1 hP1 hD1 hS1 => by rw [← hl]; exact m_push hX h1 h2 hW hF hgo rfl hP1 hD1 hS1
theorem m_wn {n : Int} (h : 0 ≤ w32 n) : ¬ Int32.ofInt n < 0 := fun q => absurd (m_lt0.mp q) (by omega)
theorem c_newI {nx pc : Nat} (hp : pcs j = pc) (hn : pcs nx = pc + 2) (hw : Cond.arrayClass .int ∈ m_tbl) (hd : decode cc pc = .ok (.newarray .int, 2)) : m_Cert own cc nL ret ini pcs j (opNewA 0 nx) := by
  intro d L S h j' L' S' h' he
  unfold opNewA at he
  split at he
  · rename_i n S1
    split at he
    · rename_i hc
      cases he
      refine ⟨⟨Nat.le_succ _, Nat.le_add_right _ _, rfl⟩, ?_⟩
      intro p l e R s m args below meth c Q E h0 hX hL h1 h2 h3 h4 hgo H locs ls hW hS hF
      rw [hp]; rw [hn] at hgo
      have h3' : h.1 + 1 - h0.1 ≤ R.cells := h3
      have h4' : h.2.1 + (w32 n).toNat - h0.2.1 ≤ R.slots := h4
      have hK := hX.2.2.2.2.2.2.2.2.1
      refine va_newa (atype := .int) (ty := .int) (a0 := ((w32 n).toNat, .inl fun _ => Int32.ofInt 0)) hX.1 hX.2.1 (hX.2.2.2.2.1 _ hw) rfl hK hW.2.2.2 (m_D E _ _) hS (m_XA hX) (fun _ => rfl) (m_wn hc.1) rfl ?_ (by omega) (by omega) hd ?_
      · show (w32 n).toNat * 4 ≤ 536870912
        omega
      · intro q cA H1 hK1 hP1 hD1 hS1
        have q1 : s.vm.findClass ("[" ++ FieldType.toString .int) = some cA := (hK1.2 5 (cA, .int) rfl).2
        have q2 : s.vm.findClass ("[" ++ FieldType.toString .int) = some (E.2.1 0) := (hK.2 0 (E.2.1 0, .int) rfl).2
        have q3 : cA = E.2.1 0 := Option.some.inj (q1.symm.trans q2)
        subst q3
        exact m_push hX h1 h2 hW hF hgo rfl hP1 hD1 hS1
    · cases he
  · cases he
theorem c_newL {nx pc : Nat} (hp : pcs j = pc) (hn : pcs nx = pc + 2) (hw : Cond.arrayClass .long ∈ m_tbl) (hd : decode cc pc = .ok (.newarray .long, 2)) : m_Cert own cc nL ret ini pcs j (opNewA 1 nx) := by
  intro d L S h j' L' S' h' he
  unfold opNewA at he
  split at he
  · rename_i n S1
    split at he
    · rename_i hc
      cases he
      refine ⟨⟨Nat.le_succ _, Nat.le_add_right _ _, rfl⟩, ?_⟩
      intro p l e R s m args below meth c Q E h0 hX hL h1 h2 h3 h4 hgo H locs ls hW hS hF
      rw [hp]; rw [hn] at hgo
      have h3' : h.1 + 1 - h0.1 ≤ R.cells := h3
      have h4' : h.2.1 + (w32 n).toNat - h0.2.1 ≤ R.slots := h4
      have hK := hX.2.2.2.2.2.2.2.2.1
      refine va_newa (atype := .long) (ty := .long) (a0 := ((w32 n).toNat, .inr (.inl fun _ => Int64.ofInt 0))) hX.1 hX.2.1 (hX.2.2.2.2.1 _ hw) rfl hK hW.2.2.2 (m_D E _ _) hS (m_XA hX) (fun _ => rfl) (m_wn hc.1) rfl ?_ (by omega) (by omega) hd ?_
      · show (w32 n).toNat * 8 ≤ 536870912
        omega
      · intro q cA H1 hK1 hP1 hD1 hS1
        have q1 : s.vm.findClass ("[" ++ FieldType.toString .long) = some cA := (hK1.2 5 (cA, .long) rfl).2
        have q2 : s.vm.findClass ("[" ++ FieldType.toString .long) = some (E.2.1 1) := (hK.2 1 (E.2.1 1, .long) rfl).2
        have q3 : cA = E.2.1 1 := Option.some.inj (q1.symm.trans q2)
        subst q3
        exact m_push hX h1 h2 hW hF hgo rfl hP1 hD1 hS1
    · cases he
  · cases he
theorem c_newR {t q0 nx pc ix : Nat} {C : String} (hp : pcs j = pc) (hn : pcs nx = pc + 3) (ht : mRow t q0 C) (hw1 : Cond.classLink own ix C ∈ m_tbl) (hw2 : C = kR3 ∨ C = kR4 ∨ C = kR6) (hd : decode cc pc = .ok (.anewarray ix, 3)) : m_Cert own cc nL ret ini pcs j (opNewR t nx) := by
  intro d L S h j' L' S' h' he
  unfold opNewR at he
  split at he
  · rename_i n S1
    split at he
    · rename_i hc
      cases he
      refine ⟨⟨Nat.le_succ _, Nat.le_add_right _ _, rfl⟩, ?_⟩
      intro p l e R s m args below meth c Q E h0 hX hL h1 h2 h3 h4 hgo H locs ls hW hS hF
      rw [hp]; rw [hn] at hgo
      have h3' : h.1 + 1 - h0.1 ≤ R.cells := h3
      have h4' : h.2.1 + (w32 n).toNat - h0.2.1 ≤ R.slots := h4
      have hK := hX.2.2.2.2.2.2.2.2.1
      have hC : m_CC E s := hX.2.2.2.2.2.2.2.2.2.1
      have hO : va_AO C s := by
        rcases hw2 with rfl | rfl | rfl
        · exact hC.2.2.2.2.2.2.2.1
        · exact hC.2.2.2.2.2.2.2.2.1
        · exact hC.2.2.2.2.2.2.2.2.2
      refine va_newq hX.1 hX.2.1 hX.2.2.2.1 (hX.2.2.2.2.1 _ hw1) hO hK hW.2.2.2 (m_D E _ _) hS (m_XA hX) (N' := (w32 n).toNat) (m_wn hc.1) rfl (by omega) (by omega) (by omega) hd ?_
      intro q cA H1 hK1 hP1 hD1 hS1
      obtain ⟨_, _, -, -, -, q1⟩ := (hK1.2 5 (cA, .object C) rfl).2
      obtain ⟨_, _, -, -, -, q2⟩ := (hK.2 q0 (E.2.1 t, .object C) (ht E)).2
      have q3 : cA = E.2.1 t := Option.some.inj (q1.symm.trans q2)
      subst q3
      exact m_push hX h1 h2 hW hF hgo rfl hP1 hD1 hS1
    · cases he
  · cases he
theorem m_cpyI (f g : Nat → Int) (sp dp n : Nat) : (fun j => Int32.ofInt (mcpy f g sp dp n j)) = va_cpy (fun j => Int32.ofInt (f j)) (fun j => Int32.ofInt (g j)) sp dp n := by
  funext q
  unfold mcpy va_cpy
  split <;> rfl
theorem m_sumW (E : mEnv) (S : mS) : ((S.map (m_v E)).map fun v => v.category).sum = mWs S := by
  unfold mWs
  rw [List.map_map]
  congr 1
  exact List.map_congr_left fun v _ => m_cat E v
theorem c_copy {nx pc ix : Nat} (hp : pcs j = pc) (hn : pcs nx = pc + 3) (hw1 : Cond.methodLink own ix arraycopyName ∈ m_tbl) (hw2 : Cond.native arraycopyName ∈ m_tbl) (hw3 : Cond.static arraycopyName ∈ m_tbl) (hw4 : Cond.initialized "java/lang/System" ∈ m_tbl) (hd : decode cc pc = .ok (.invokestatic ix, 3)) : m_Cert own cc nL ret ini pcs j (opCpy nx) := by
  intro d L S h j' L' S' h' he
  unfold opCpy at he
  split at he
  · cases he
  · rename_i d'
    split at he
    · rename_i n dp b sp a S1
      split at he
      · cases he
      · rename_i ha
        split at he
        · cases he
        · rename_i hb
          split at he
          · rename_i t na f u nb g hga hgb
            split at he
            · rename_i hc
              obtain ⟨rfl, rfl, c1, c2, c3, c4, c5, c6⟩ := hc
              cases he
              refine ⟨⟨Nat.le_refl _, Nat.le_refl _, rfl⟩, ?_⟩
              intro p l e R s m args below meth c Q E h0 hX hL h1 h2 h3 h4 hgo H locs ls hW hS hF
              rw [hp]; rw [hn] at hgo
              have hts := hX.2.2.2.2.1
              have hfr := hX.2.2.2.2.2.2.2.2.2.2.2.2
              rw [List.map_cons, List.map_cons, List.map_cons, List.map_cons, List.map_cons, m_vr E ha, m_vr E hb]
              have hlen : c.maxLocals = ls.size := by
                obtain ⟨lv, g1, -⟩ := hF
                rw [hX.2.2.1, g1.1, hL]
              have ek : m_e E (ep 0 nb (mcpy f g (w32 sp).toNat (w32 dp).toNat (w32 n).toNat)) = .inl (E.2.1 0, nb, .inl (va_cpy (fun j => Int32.ofInt (f j)) (fun j => Int32.ofInt (g j)) (Int32.ofInt sp).toNatClampNeg (Int32.ofInt dp).toNatClampNeg (Int32.ofInt n).toNatClampNeg)) := by
                rw [m_tc, m_tc, m_tc, ← m_cpyI]; rfl
              have hroom : ((S'.map (m_v E)).map fun v => v.category).sum + (nativeFrameWords "java/lang/System" "arraycopy" 5 + 11) ≤ R.locals := by
                rw [m_sumW]
                have : nativeFrameWords "java/lang/System" "arraycopy" 5 = 7 := by decide +kernel
                omega
              exact va_copyi hX.1 hX.2.1 hlen hX.2.2.2.1 (hts _ hw1) (hts _ hw2) (hts _ hw3) (hts _ hw4) hX.2.2.2.2.2.2.2.2.1 hW.2.2.2 (m_D E _ _) hS (a - 10) (b - 10) 0 0 (hW.at ha hga) (hW.at hb hgb) rfl rfl rfl (m_wn c2) (m_wn c3) (m_wn c1) c4 c5 (fun _ _ => rfl) (by omega) hroom hd
                fun H1 locs1 hP1 hD1 hS1 => m_behind (S := S') hX h1 hW hb hgb hF hgo (by rw [ek]; exact hP1) hS1
            · cases he
          · cases he
    · cases he
theorem c_gets {nx pc ix : Nat} (hp : pcs j = pc) (hn : pcs nx = pc + 3) (hw : Cond.fieldLink own ix "java/lang/String" "COMPACT_STRINGS" "Z" ∈ m_tbl) (hd : decode cc pc = .ok (.getstatic ix, 3)) : m_Cert own cc nL ret ini pcs j (opPush (vi 1) nx) := by
  refine c_rd fun d L S h j' L' S' h' he => ?_
  cases he
  refine ⟨rfl, rfl, fun p l e R s m args below meth c Q E h0 H locs ls cells slots hX hW hS k0 => ?_⟩
  rw [hp]; rw [hn] at k0
  exact va_gets hX.1 hX.2.1 hX.2.2.2.2.2.2.2.2.2.1.2.2.2.1 hS hX.2.2.2.1 (hX.2.2.2.2.1 _ hw) (fun x hx => hx) hd k0
theorem m_S2 {a : Nat} (ha : a = 2 ∨ a = 4) : ∃ i, i < 2 ∧ a = 2 + 2 * i := by
  rcases ha with rfl | rfl
  · exact ⟨0, by decide, rfl⟩
  · exact ⟨1, by decide, rfl⟩
theorem c_strV {nx pc ix : Nat} (hp : pcs j = pc) (hn : pcs nx = pc + 3) (hw : Cond.fieldLink own ix "java/lang/String" "value" "[B" ∈ m_tbl) (hd : decode cc pc = .ok (.getfield ix, 3)) : m_Cert own cc nL ret ini pcs j (opStrV nx) := by
  refine c_rd fun d L S h j' L' S' h' he => ?_
  unfold opStrV at he
  split at he
  · rename_i a S1
    split at he
    · rename_i ha
      obtain ⟨i, hi, rfl⟩ := m_S2 ha
      cases he
      refine ⟨rfl, rfl, fun p l e R s m args below meth c Q E h0 H locs ls cells slots hX hW hS k0 => ?_⟩
      rw [hp]; rw [hn] at k0
      have hC : m_CC E s := hX.2.2.2.2.2.2.2.2.2.1
      have h1 : m_v E (.inr (.inr (2 + 2 * i))) = .ref (E.2.2.2.1 (2 + 2 * i)) := by
        have a1 : ¬ 2 + 2 * i = 0 := by omega
        have a2 : 2 + 2 * i < 10 := by omega
        simp [m_v, m_ad, a1, a2]
      have h2 : m_v E (.inr (.inr (2 + 2 * i + 1))) = .ref (E.2.2.2.1 (3 + 2 * i)) := by
        have a2 : 2 + 2 * i + 1 < 10 := by omega
        have a3 : 2 + 2 * i + 1 = 3 + 2 * i := by omega
        simp only [m_v, m_ad, if_pos a2, a3]
        rw [if_neg (by omega), if_pos (by omega)]
      rw [List.map_cons, h2] at k0
      rw [List.map_cons, h1]
      exact vk_getf hX.1 hX.2.1 (hC.2.2.1.1 i hi).2.2.1 hS hX.2.2.2.1 (hX.2.2.2.2.1 _ hw) (fun x hx => hx) hd k0
    · cases he
  · cases he
theorem c_strC {nx pc ix : Nat} (hp : pcs j = pc) (hn : pcs nx = pc + 3) (hw : Cond.fieldLink own ix "java/lang/String" "coder" "B" ∈ m_tbl) (hd : decode cc pc = .ok (.getfield ix, 3)) : m_Cert own cc nL ret ini pcs j (opStrC nx) := by
  refine c_rd fun d L S h j' L' S' h' he => ?_
  unfold opStrC at he
  split at he
  · rename_i a S1
    split at he
    · rename_i ha
      obtain ⟨i, hi, rfl⟩ := m_S2 ha
      cases he
      refine ⟨rfl, rfl, fun p l e R s m args below meth c Q E h0 H locs ls cells slots hX hW hS k0 => ?_⟩
      rw [hp]; rw [hn] at k0
      have hC : m_CC E s := hX.2.2.2.2.2.2.2.2.2.1
      have h1 : m_v E (.inr (.inr (2 + 2 * i))) = .ref (E.2.2.2.1 (2 + 2 * i)) := by
        have a1 : ¬ 2 + 2 * i = 0 := by omega
        have a2 : 2 + 2 * i < 10 := by omega
        simp [m_v, m_ad, a1, a2]
      rw [List.map_cons, h1]
      exact vk_getf hX.1 hX.2.1 (hC.2.2.1.1 i hi).2.1 hS hX.2.2.2.1 (hX.2.2.2.2.1 _ hw) (fun x hx => hx) hd k0
    · cases he
  · cases he
theorem m_S3 {a : Nat} (ha : a = 3 ∨ a = 5) : ∃ i, i < 2 ∧ a = 3 + 2 * i := by
  rcases ha with rfl | rfl
  · exact ⟨0, by decide, rfl⟩
  · exact ⟨1, by decide, rfl⟩
theorem m_v3 (E : mEnv) {i : Nat} (hi : i < 2) : m_v E (.inr (.inr (3 + 2 * i))) = .ref (E.2.2.2.1 (3 + 2 * i)) := by
  have a1 : ¬ 3 + 2 * i = 0 := by omega
  have a2 : 3 + 2 * i < 10 := by omega
  simp [m_v, m_ad, a1, a2]
theorem c_strL {nx pc : Nat} (hp : pcs j = pc) (hn : pcs nx = pc + 1) (hd : decode cc pc = .ok (.arraylength, 1)) : m_Cert own cc nL ret ini pcs j (opStrL nx) := by
  refine c_rd fun d L S h j' L' S' h' he => ?_
  unfold opStrL at he
  split at he
  · rename_i a S1
    split at he
    · rename_i ha
      obtain ⟨i, hi, rfl⟩ := m_S3 ha
      cases he
      refine ⟨rfl, rfl, fun p l e R s m args below meth c Q E h0 H locs ls cells slots hX hW hS k0 => ?_⟩
      rw [hp]; rw [hn] at k0
      have hC : m_CC E s := hX.2.2.2.2.2.2.2.2.2.1
      rw [List.map_cons, m_v3 E hi]
      refine va_tlen hX.1 hX.2.1 (hC.2.2.1.1 i hi).2.2.2 hS (v := Int32.ofInt 4) ?_ hd k0
      match i, hi with
      | 0, _ => rfl
      | 1, _ => rfl
    · cases he
  · cases he
theorem c_strB {nx pc : Nat} (hp : pcs j = pc) (hn : pcs nx = pc + 1) (hd : decode cc pc = .ok (.baload, 1)) : m_Cert own cc nL ret ini pcs j (opStrB nx) := by
  refine c_rd fun d L S h j' L' S' h' he => ?_
  unfold opStrB at he
  split at he
  · rename_i x a S1
    split at he
    · rename_i hc
      obtain ⟨ha, hx1, hx2⟩ := hc
      obtain ⟨i, hi, rfl⟩ := m_S3 ha
      cases he
      refine ⟨rfl, rfl, fun p l e R s m args below meth c Q E h0 H locs ls cells slots hX hW hS k0 => ?_⟩
      rw [hp]; rw [hn] at k0
      have hC : m_CC E s := hX.2.2.2.2.2.2.2.2.2.1
      rw [List.map_cons, List.map_cons, m_v3 E hi]
      have hlen : ([4, 4] : List Nat).getD i 0 = 4 := by
        match i, hi with
        | 0, _ => rfl
        | 1, _ => rfl
      have hj : (w32 x).toNat < 4 := by omega
      refine va_tb hX.1 hX.2.1 (hC.2.2.1.1 i hi).2.2.2 hS (m_vpin hx1 (by rw [hlen]; exact hx2)) (v := .int (Int32.ofInt (mByte (3 + 2 * i) (w32 x).toNat))) ?_ hd k0
      rw [m_tc]
      generalize (w32 x).toNat = q at hj
      match i, hi, q, hj with
      | 0, _, 0, _ => rfl
      | 0, _, 1, _ => rfl
      | 0, _, 2, _ => rfl
      | 0, _, 3, _ => rfl
      | 1, _, 0, _ => rfl
      | 1, _, 1, _ => rfl
      | 1, _, 2, _ => rfl
      | 1, _, 3, _ => rfl
    · cases he
  · cases he
theorem c_scLen {nx pc : Nat} (hp : pcs j = pc) (hn : pcs nx = pc + 1) (hd : decode cc pc = .ok (.arraylength, 1)) : m_Cert own cc nL ret ini pcs j (opScLen nx) := by
  refine c_rd fun d L S h j' L' S' h' he => ?_
  unfold opScLen at he
  split at he
  · rename_i S1
    split at he
    · rename_i t n f hg
      cases he
      refine ⟨rfl, rfl, fun p l e R s m args below meth c Q E h0 H locs ls cells slots hX hW hS k0 => ?_⟩
      rw [hp]; rw [hn] at k0
      have hC : m_CC E s := hX.2.2.2.2.2.2.2.2.2.1
      have hsc := hC.2.2.2.2
      have hbl : E.2.2.2.1 1 < s.heap.size := by
        obtain ⟨scr, q, -⟩ := hsc.1
        exact (Array.getElem?_eq_some_iff.mp q).1
      have e1 := hg.symm.trans hW.2.1.2
      cases e1
      have hv : m_v E (.inr (.inr 1)) = .ref (E.2.2.2.1 1) := rfl
      rw [List.map_cons, hv]
      refine va_slen hX.1 hX.2.1 hsc.1 hbl (by have := hsc.2.1; show ¬ E.2.2.1 ≤ _; omega) hS hd ?_
      rw [← Int32.ofInt_eq_ofNat]
      exact k0
    · cases he
  · cases he
theorem c_scLd {nx pc : Nat} (hp : pcs j = pc) (hn : pcs nx = pc + 1) (hd : decode cc pc = .ok (.iaload, 1)) : m_Cert own cc nL ret ini pcs j (opScLd nx) := by
  refine c_rd fun d L S h j' L' S' h' he => ?_
  unfold opScLd at he
  split at he
  · rename_i i S1
    split at he
    · rename_i t n f hg
      split at he
      · rename_i hi
        cases he
        refine ⟨rfl, rfl, fun p l e R s m args below meth c Q E h0 H locs ls cells slots hX hW hS k0 => ?_⟩
        rw [hp]; rw [hn] at k0
        have hC : m_CC E s := hX.2.2.2.2.2.2.2.2.2.1
        have hsc := hC.2.2.2.2
        have hbl : E.2.2.2.1 1 < s.heap.size := by
          obtain ⟨scr, q, -⟩ := hsc.1
          exact (Array.getElem?_eq_some_iff.mp q).1
        have e1 := hg.symm.trans hW.2.1.2
        cases e1
        have hv : m_v E (.inr (.inr 1)) = .ref (E.2.2.2.1 1) := rfl
        rw [List.map_cons, List.map_cons, hv]
        refine va_sld hX.1 hX.2.1 hsc.1 hbl (by have := hsc.2.1; show ¬ E.2.2.1 ≤ _; omega) hS (m_vpin hi.1 hi.2) hd ?_
        rw [m_tc]
        rw [List.map_cons] at k0
        rw [show m_v E (.inl (E.2.2.2.2.2 (w32 i).toNat).toInt) = .int (E.2.2.2.2.2 (w32 i).toNat) by
          show Value.int (Int32.ofInt _) = _
          rw [Int32.ofInt_toInt]] at k0
        exact k0
      · cases he
    · cases he
  · cases he
theorem c_objI {nx pc ix : Nat} (hp : pcs j = pc) (hn : pcs nx = pc + 3) (hw1 : Cond.methodLink own ix Lib.objectInit ∈ m_tbl) (hw2 : Cond.instanceMethod Lib.objectInit ∈ m_tbl) (hw3 : Cond.code Lib.objectInit ⟨#[0xb1]⟩ 1 none ∈ m_tbl) (hd : decode cc pc = .ok (.invokespecial ix, 3)) : m_Cert own cc nL ret ini pcs j (opObjI nx) := by
  intro d L S h j' L' S' h' he
  unfold opObjI at he
  split at he
  · cases he
  · rename_i d'
    split at he
    · rename_i a S1
      split at he
      · rename_i hc
        cases he
        refine ⟨⟨Nat.le_refl _, Nat.le_refl _, rfl⟩, ?_⟩
        intro p l e R s m args below meth c Q E h0 hX hL h1 h2 h3 h4 hgo H locs ls hW hS hF
        rw [hp]; rw [hn] at hgo
        have hts := hX.2.2.2.2.1
        have hfr := hX.2.2.2.2.2.2.2.2.2.2.2.2
        have hlen : ls.size = c.maxLocals := by
          obtain ⟨lv, g1, -⟩ := hF
          rw [hX.2.2.1, g1.1, hL]
        have hv : m_v E (.inr (.inr (a + 1))) = .ref (m_ad E (a + 1)) := by simp [m_v]
        rw [List.map_cons, hv]
        have hrm := m_sumW E S'
        refine W.objInit (g := F0 m pc ls (.ref (m_ad E (a + 1)) :: S'.map (m_v E))) hX.1 hX.2.1 hX.2.2.2.1 (hts _ hw1) (hts _ hw2) (hts _ hw3) rfl hlen rfl hd (by omega) ?_ (hgo H locs ls hW hS hF)
        have h8 := lv_room (pc := pc) (m := m) (ls := ls) (rest := .ref (m_ad E (a + 1)) :: S'.map (m_v E)) (st := S'.map (m_v E)) (by rw [hrm]; exact hc)
        omega
      · cases he
    · cases he
theorem c_mmax {nx pc ix : Nat} (hp : pcs j = pc) (hn : pcs nx = pc + 3) (hw1 : Cond.methodLink own ix Lib.Math.max.name ∈ m_tbl) (hw2 : Cond.static Lib.Math.max.name ∈ m_tbl) (hw3 : Cond.initialized "java/lang/Math" ∈ m_tbl) (hw4 : Cond.code Lib.Math.max.name Lib.Math.max.code 2 (some .int) ∈ m_tbl) (hd : decode cc pc = .ok (.invokestatic ix, 3)) : m_Cert own cc nL ret ini pcs j (opM2 m_max nx) := by
  intro d L S h j' L' S' h' he
  unfold opM2 at he
  split at he
  · cases he
  · rename_i d'
    split at he
    · rename_i y x S1
      split at he
      · rename_i hc
        cases he
        refine ⟨⟨Nat.le_refl _, Nat.le_refl _, rfl⟩, ?_⟩
        intro p l e R s m args below meth c Q E h0 hX hL h1 h2 h3 h4 hgo H locs ls hW hS hF
        rw [hp]; rw [hn] at hgo
        have hts := hX.2.2.2.2.1
        have hfr := hX.2.2.2.2.2.2.2.2.2.2.2.2
        have hlen : c.maxLocals = ls.size := by
          obtain ⟨lv, g1, -⟩ := hF
          rw [hX.2.2.1, g1.1, hL]
        have k := hgo H locs ls hW hS hF
        rw [List.map_cons, show m_v E (.inl (m_max x y)) = .int (if Int32.ofInt x < Int32.ofInt y then Int32.ofInt y else Int32.ofInt x) by
          show Value.int (Int32.ofInt (m_max x y)) = _
          unfold m_max
          simp only [m_lt]
          split <;> exact congrArg Value.int (Int32.ofInt_toInt _)] at k
        rw [List.map_cons, List.map_cons]
        exact va_mmax hX.1 hX.2.1 hlen hX.2.2.2.1 (hts _ hw1) (hts _ hw2) (hts _ hw3) (hts _ hw4) (by omega) (by rw [m_sumW]; omega) h3 h4 hd k
      · cases he
    · cases he
theorem c_mmin {nx pc ix : Nat} (hp : pcs j = pc) (hn : pcs nx = pc + 3) (hw1 : Cond.methodLink own ix Lib.Math.min.name ∈ m_tbl) (hw2 : Cond.static Lib.Math.min.name ∈ m_tbl) (hw3 : Cond.initialized "java/lang/Math" ∈ m_tbl) (hw4 : Cond.code Lib.Math.min.name Lib.Math.min.code 2 (some .int) ∈ m_tbl) (hd : decode cc pc = .ok (.invokestatic ix, 3)) : m_Cert own cc nL ret ini pcs j (opM2 m_min nx) := by
  intro d L S h j' L' S' h' he
  unfold opM2 at he
  split at he
  · cases he
  · rename_i d'
    split at he
    · rename_i y x S1
      split at he
      · rename_i hc
        cases he
        refine ⟨⟨Nat.le_refl _, Nat.le_refl _, rfl⟩, ?_⟩
        intro p l e R s m args below meth c Q E h0 hX hL h1 h2 h3 h4 hgo H locs ls hW hS hF
        rw [hp]; rw [hn] at hgo
        have hts := hX.2.2.2.2.1
        have hfr := hX.2.2.2.2.2.2.2.2.2.2.2.2
        have hlen : c.maxLocals = ls.size := by
          obtain ⟨lv, g1, -⟩ := hF
          rw [hX.2.2.1, g1.1, hL]
        have k := hgo H locs ls hW hS hF
        rw [List.map_cons, show m_v E (.inl (m_min x y)) = .int (if Int32.ofInt y < Int32.ofInt x then Int32.ofInt y else Int32.ofInt x) by
          show Value.int (Int32.ofInt (m_min x y)) = _
          unfold m_min
          simp only [m_lt]
          split <;> exact congrArg Value.int (Int32.ofInt_toInt _)] at k
        rw [List.map_cons, List.map_cons]
        exact va_mmin hX.1 hX.2.1 hlen hX.2.2.2.1 (hts _ hw1) (hts _ hw2) (hts _ hw3) (hts _ hw4) (by omega) (by rw [m_sumW]; omega) h3 h4 hd k
      · cases he
    · cases he
end HM
