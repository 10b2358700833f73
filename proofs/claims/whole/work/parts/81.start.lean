/-! ===== the claim ===== -/
theorem m_T1 {w : Cond} (i : Nat) (h : tables_1_1[i]? = some w) : w ∈ lw_tbl := List.mem_append_right _ (by unfold tables_1; simp only [List.mem_append]; have := List.mem_of_getElem? h; simp only [this, true_or, or_true])
theorem m_T2 {w : Cond} (i : Nat) (h : tables_1_2[i]? = some w) : w ∈ lw_tbl := List.mem_append_right _ (by unfold tables_1; simp only [List.mem_append]; have := List.mem_of_getElem? h; simp only [this, true_or, or_true])
theorem m_T3 {w : Cond} (i : Nat) (h : tables_1_3[i]? = some w) : w ∈ lw_tbl := List.mem_append_right _ (by unfold tables_1; simp only [List.mem_append]; have := List.mem_of_getElem? h; simp only [this, true_or, or_true])
theorem m_T4 {w : Cond} (i : Nat) (h : tables_1_4[i]? = some w) : w ∈ lw_tbl := List.mem_append_right _ (by unfold tables_1; simp only [List.mem_append]; have := List.mem_of_getElem? h; simp only [this, true_or, or_true])
theorem m_T5 {w : Cond} (i : Nat) (h : tables_1_5[i]? = some w) : w ∈ lw_tbl := List.mem_append_right _ (by unfold tables_1; simp only [List.mem_append]; have := List.mem_of_getElem? h; simp only [this, true_or, or_true])
theorem m_T6 {w : Cond} (i : Nat) (h : tables_1_6[i]? = some w) : w ∈ lw_tbl := List.mem_append_right _ (by unfold tables_1; simp only [List.mem_append]; have := List.mem_of_getElem? h; simp only [this, true_or, or_true])
theorem m_T7 {w : Cond} (i : Nat) (h : tables_1_7[i]? = some w) : w ∈ lw_tbl := List.mem_append_right _ (by unfold tables_1; simp only [List.mem_append]; have := List.mem_of_getElem? h; simp only [this, true_or, or_true])
theorem m_hts {s : State} {args : Array Value} (hts : ∀ w ∈ lw_tbl, w.before args s = true) : ∀ w ∈ m_tbl, w.before args s = true := fun w hw => hts w (List.mem_filter.mp hw).1
theorem m_classes {s : State} {args : Array Value} (hts : ∀ w ∈ lw_tbl, w.before args s = true) : ∃ D : va_G, ∀ (k : Nat) (q : vw_C), m_cl[k]? = some q → u_Kn s q.1 q.2.1 q.2.2 (D.1 k) (D.2 k) := by
  obtain ⟨c0, i0, h0⟩ := u_known (C := kR0) (T := kT0) (N := 3) (n := 3) (m_hts hts) ki0 (hts (Cond.instantiable "OneWindow$Borrowed" 3) (m_T2 77 (by decide +kernel)))
  obtain ⟨c1, i1, h1⟩ := u_known (C := kR1) (T := kT1) (N := 3) (n := 3) (m_hts hts) ki1 (hts (Cond.instantiable "OneWindow$Coloured" 3) (m_T2 57 (by decide +kernel)))
  obtain ⟨c2, i2, h2⟩ := u_known (C := kR2) (T := kT2) (N := 3) (n := 3) (m_hts hts) ki2 (hts (Cond.instantiable "OneWindow$Feigned" 3) (m_T2 97 (by decide +kernel)))
  obtain ⟨c3, i3, h3⟩ := u_known (C := kR3) (T := kT3) (N := 3) (n := 3) (m_hts hts) ki3 (hts (Cond.instantiable "OneWindow$Lamp" 3) (m_T1 63 (by decide +kernel)))
  obtain ⟨c4, i4, h4⟩ := u_known (C := kR4) (T := kT4) (N := 8) (n := 8) (m_hts hts) ki4 (hts (Cond.instantiable "OneWindow$Law" 8) (m_T1 95 (by decide +kernel)))
  obtain ⟨c5, i5, h5⟩ := u_known (C := kR5) (T := kT5) (N := 2) (n := 2) (m_hts hts) ki5 (hts (Cond.instantiable "OneWindow$Rays" 2) (m_T1 206 (by decide +kernel)))
  obtain ⟨c6, i6, h6⟩ := u_known (C := kR6) (T := kT6) (N := 2) (n := 2) (m_hts hts) ki6 (hts (Cond.instantiable "OneWindow$Row" 2) (m_T1 32 (by decide +kernel)))
  obtain ⟨c7, i7, h7⟩ := u_known (C := kR7) (T := kT7) (N := 3) (n := 3) (m_hts hts) ki7 (hts (Cond.instantiable "OneWindow$Stained" 3) (m_T2 87 (by decide +kernel)))
  obtain ⟨c8, i8, h8⟩ := u_known (C := kR8) (T := kT8) (N := 3) (n := 3) (m_hts hts) ki8 (hts (Cond.instantiable "OneWindow$Twofold" 3) (m_T2 67 (by decide +kernel)))
  obtain ⟨c9, i9, h9⟩ := u_known (C := kR9) (T := kT9) (N := 18) (n := 18) (m_hts hts) ki9 (hts (Cond.instantiable "OneWindow$Village" 18) (m_T1 52 (by decide +kernel)))
  obtain ⟨c10, i10, h10⟩ := u_known (C := kR10) (T := kT10) (N := 3) (n := 3) (m_hts hts) ki10 (hts (Cond.instantiable "OneWindow$Weak" 3) (m_T2 47 (by decide +kernel)))
  obtain ⟨c11, i11, h11⟩ := u_known (C := kR11) (T := kT11) (N := 13) (n := 13) (m_hts hts) ki11 (hts (Cond.instantiable "OneWindow" 13) (m_T1 24 (by decide +kernel)))
  obtain ⟨c12, i12, h12⟩ := u_known (C := kR12) (T := kT12) (N := 27) (n := 27) (m_hts hts) ki12 (hts (Cond.instantiable "OneWindowModel" 27) (m_T5 84 (by decide +kernel)))
  refine ⟨(fun k => if k = 0 then c0 else if k = 1 then c1 else if k = 2 then c2 else if k = 3 then c3 else if k = 4 then c4 else if k = 5 then c5 else if k = 6 then c6 else if k = 7 then c7 else if k = 8 then c8 else if k = 9 then c9 else if k = 10 then c10 else if k = 11 then c11 else c12, fun k => if k = 0 then i0 else if k = 1 then i1 else if k = 2 then i2 else if k = 3 then i3 else if k = 4 then i4 else if k = 5 then i5 else if k = 6 then i6 else if k = 7 then i7 else if k = 8 then i8 else if k = 9 then i9 else if k = 10 then i10 else if k = 11 then i11 else i12), fun k q hq => ?_⟩
  match k, hq with
  | 0, hq => cases hq; exact h0
  | 1, hq => cases hq; exact h1
  | 2, hq => cases hq; exact h2
  | 3, hq => cases hq; exact h3
  | 4, hq => cases hq; exact h4
  | 5, hq => cases hq; exact h5
  | 6, hq => cases hq; exact h6
  | 7, hq => cases hq; exact h7
  | 8, hq => cases hq; exact h8
  | 9, hq => cases hq; exact h9
  | 10, hq => cases hq; exact h10
  | 11, hq => cases hq; exact h11
  | 12, hq => cases hq; exact h12
  | k + 13, hq => simp [m_cl] at hq
theorem m_arrP {s : State} {args : Array Value} {ty : FieldType} (h : (Cond.arrayClass ty).before args s = true) (hn : ∀ C, ty ≠ .object C) : ∃ cA : ClassId, ArrOfT s cA ty ∧ va_RA s cA ty := by
  obtain ⟨c, k, comp, h1, h2, h3⟩ := Cond.arrayClass_spec (args := args) (first := s) (o := none) (s := s) (idx := []) h
  refine ⟨c, fun n z => ⟨(fun k h => by cases h), k, h2, comp, h3⟩, ?_⟩
  cases ty with
  | object C => exact absurd rfl (hn C)
  | _ => exact h1
theorem m_arrO {s : State} {args : Array Value} {C : String} (h : (Cond.arrayOver (.object C)).before args s = true) : ∃ cA : ClassId, ArrOfT s cA (.object C) ∧ va_RA s cA (.object C) := by
  obtain ⟨comp, c, k, q1, q2, q3, q4, q5⟩ := Cond.arrayOver_spec (args := args) (first := s) (o := none) (s := s) (idx := []) h
  exact ⟨c, fun n z => ⟨(fun k h => by cases h), k, q3, comp, q4⟩, k, comp, q3, q4, q1, q5⟩
theorem m_types {s : State} {args : Array Value} (hts : ∀ w ∈ lw_tbl, w.before args s = true) : ∃ tA : Nat → ClassId, ∀ (k : Nat) (q : ClassId × FieldType), [(tA 0, FieldType.int), (tA 1, .long), (tA 10, .object kR3), (tA 11, .object kR4), (tA 12, .object kR6)][k]? = some q → ArrOfT s q.1 q.2 ∧ va_RA s q.1 q.2 := by
  obtain ⟨a0, h0⟩ := m_arrP (hts (Cond.arrayClass .int) (m_T1 50 (by decide +kernel))) (fun _ h => by cases h)
  obtain ⟨a1, h1⟩ := m_arrP (hts (Cond.arrayClass .long) (m_T2 19 (by decide +kernel))) (fun _ h => by cases h)
  obtain ⟨a2, h2⟩ := m_arrO (hts (Cond.arrayOver (.object "OneWindow$Lamp")) (m_T1 58 (by decide +kernel)))
  obtain ⟨a3, h3⟩ := m_arrO (hts (Cond.arrayOver (.object "OneWindow$Law")) (m_T1 62 (by decide +kernel)))
  obtain ⟨a4, h4⟩ := m_arrO (hts (Cond.arrayOver (.object "OneWindow$Row")) (m_T1 218 (by decide +kernel)))
  refine ⟨fun k => if k = 0 then a0 else if k = 1 then a1 else if k = 10 then a2 else if k = 11 then a3 else a4, fun k q hq => ?_⟩
  match k, hq with
  | 0, hq => cases hq; exact h0
  | 1, hq => cases hq; exact h1
  | 2, hq => cases hq; exact h2
  | 3, hq => cases hq; exact h3
  | 4, hq => cases hq; exact h4
  | k + 5, hq => simp at hq
theorem m_texts {s : State} {args : Array Value} (hg : ∀ w ∈ flatC (Jvm.Cond.and given_1 narrow_1), w.before args s = true) : ∃ adK adV : Nat → Nat, vk_S 2 [4, 4] [[102, 100, 108, 115], [110, 101, 114, 116]] adK adV (fun q : Nat => s.heap.size ≤ q) s s.heap ∧ ∀ i : Nat, i < 2 → (Term.string "OneWindow$Law" (96 + 2 * i)).eval args s none [] s = some (.ref (adK i)) := by
  exact vk_Sof (tm := fun i => Term.string "OneWindow$Law" (96 + 2 * i)) (len := [4, 4]) (byt := [[102, 100, 108, 115], [110, 101, 114, 116]])
    (fun i hi => by
      match i, hi with
      | 0, _ => decide
      | 1, _ => decide
      | i + 2, hi => exact absurd hi (by omega))
    (fun i hi => by
      match i, hi with
      | 0, _ => exact hg (Cond.exactly (.string "OneWindow$Law" 96) "java/lang/String") (by decide +kernel)
      | 1, _ => exact hg (Cond.exactly (.string "OneWindow$Law" 98) "java/lang/String") (by decide +kernel)
      | i + 2, hi => exact absurd hi (by omega))
    (fun i hi => by
      match i, hi with
      | 0, _ => exact hg (Cond.eq (.field (.string "OneWindow$Law" 96) "java/lang/String" "coder" "B") (.int 0)) (by decide +kernel)
      | 1, _ => exact hg (Cond.eq (.field (.string "OneWindow$Law" 98) "java/lang/String" "coder" "B") (.int 0)) (by decide +kernel)
      | i + 2, hi => exact absurd hi (by omega))
    (fun i hi => by
      match i, hi with
      | 0, _ => exact hg (Cond.arrayOf (.field (.string "OneWindow$Law" 96) "java/lang/String" "value" "[B") .byte) (by decide +kernel)
      | 1, _ => exact hg (Cond.arrayOf (.field (.string "OneWindow$Law" 98) "java/lang/String" "value" "[B") .byte) (by decide +kernel)
      | i + 2, hi => exact absurd hi (by omega))
    (fun i hi => by
      match i, hi with
      | 0, _ => exact hg (Cond.eq (.length (.field (.string "OneWindow$Law" 96) "java/lang/String" "value" "[B")) (.int 4)) (by decide +kernel)
      | 1, _ => exact hg (Cond.eq (.length (.field (.string "OneWindow$Law" 98) "java/lang/String" "value" "[B")) (.int 4)) (by decide +kernel)
      | i + 2, hi => exact absurd hi (by omega))
    (fun i hi j hj => by
      match i, hi with
      | 0, _ =>
        match j, hj with
        | 0, _ => exact hg (Cond.eq (.elem (.field (.string "OneWindow$Law" 96) "java/lang/String" "value" "[B") (.int 0)) (.int 102)) (by decide +kernel)
        | 1, _ => exact hg (Cond.eq (.elem (.field (.string "OneWindow$Law" 96) "java/lang/String" "value" "[B") (.int 1)) (.int 100)) (by decide +kernel)
        | 2, _ => exact hg (Cond.eq (.elem (.field (.string "OneWindow$Law" 96) "java/lang/String" "value" "[B") (.int 2)) (.int 108)) (by decide +kernel)
        | 3, _ => exact hg (Cond.eq (.elem (.field (.string "OneWindow$Law" 96) "java/lang/String" "value" "[B") (.int 3)) (.int 115)) (by decide +kernel)
        | j + 4, hj => exact absurd (show j + 4 < 4 from hj) (by omega)
      | 1, _ =>
        match j, hj with
        | 0, _ => exact hg (Cond.eq (.elem (.field (.string "OneWindow$Law" 98) "java/lang/String" "value" "[B") (.int 0)) (.int 110)) (by decide +kernel)
        | 1, _ => exact hg (Cond.eq (.elem (.field (.string "OneWindow$Law" 98) "java/lang/String" "value" "[B") (.int 1)) (.int 101)) (by decide +kernel)
        | 2, _ => exact hg (Cond.eq (.elem (.field (.string "OneWindow$Law" 98) "java/lang/String" "value" "[B") (.int 2)) (.int 114)) (by decide +kernel)
        | 3, _ => exact hg (Cond.eq (.elem (.field (.string "OneWindow$Law" 98) "java/lang/String" "value" "[B") (.int 3)) (.int 116)) (by decide +kernel)
        | j + 4, hj => exact absurd (show j + 4 < 4 from hj) (by omega)
      | i + 2, hi => exact absurd hi (by omega))
    (fun i j hi hj hij => by
      match i, j, hi, hj, hij with
      | 0, 0, _, _, hij => exact absurd rfl hij
      | 0, 1, _, _, _ => exact Or.inl (hg (Cond.not (Cond.eq (.string "OneWindow$Law" 96) (.string "OneWindow$Law" 98))) (by decide +kernel))
      | 1, 0, _, _, _ => exact Or.inr (hg (Cond.not (Cond.eq (.string "OneWindow$Law" 96) (.string "OneWindow$Law" 98))) (by decide +kernel))
      | 1, 1, _, _, hij => exact absurd rfl hij
      | i + 2, j, hi, _, _ => exact absurd hi (by omega)
      | 0, j + 2, _, hj, _ => exact absurd hj (by omega)
      | 1, j + 2, _, hj, _ => exact absurd hj (by omega))
    (fun a h => Nat.not_le.mpr h)
