/-! ===== the law's run: it answers 1, with few new cells ===== -/
def QEnd (v : Int) (s : mSt) : Prop := v = 1 ∧ 0 ≤ s 0 0 ∧ s 0 0 ≤ 2000
theorem law_loop2 {X : Nat → Int} {N : Int} {d : Nat} (hT : StT X N) (hO : StO X N) (hMi : StM X N) (hN : 0 ≤ N ∧ N ≤ 3072) (m : Nat) : ∀ (s : mSt) (cnt i : Int), Inv X N s cnt → i = 6 * cnt → 0 ≤ cnt → i ≤ N + 6 → N - i < 6 * (m : Int) → WP (d + 151) 0 10 [some (.inr (.inr 1)), some (.inr (.inr 10)), some (.inr (.inr 146)), some (.inl i)] [] (encA s) (QI QEnd) := by
  induction m with
  | zero =>
    intro s cnt i hI hi hc hle hm
    obtain ⟨-, -, -, -, -, -, -, hX, -⟩ := id hI
    have e2 := hX.2.2
    refine w_ldI rfl rfl ?_
    refine w_ldR rfl rfl rfl ?_
    refine w_sclen rfl (by rw [e2]; omega) ?_
    rw [e2]
    refine w_push rfl ?_
    refine w_sub rfl ?_
    refine w_crGt rfl (by omega) (by omega) (fun b => ?_) (fun b => by exfalso; omega)
    refine w_push rfl ?_
    exact w_retB rfl (by decide) ⟨rfl, hI.2.2.2.2.2.2.1.1, Int.le_trans hI.2.2.2.2.2.2.1.2 (by omega)⟩
  | succ m ih =>
    intro s cnt i hI hi hc hle hm
    obtain ⟨-, -, -, -, -, -, -, hX, -⟩ := id hI
    have e1 := hX.2.1
    have e2 := hX.2.2
    refine w_ldI rfl rfl ?_
    refine w_ldR rfl rfl rfl ?_
    refine w_sclen rfl (by rw [e2]; omega) ?_
    rw [e2]
    refine w_push rfl ?_
    refine w_sub rfl ?_
    refine w_crGt rfl (by omega) (by omega) (fun b => ?_) (fun b => ?_)
    · refine w_push rfl ?_
      exact w_retB rfl (by decide) ⟨rfl, hI.2.2.2.2.2.2.1.1, Int.le_trans hI.2.2.2.2.2.2.1.2 (by omega)⟩
    · have kk : ∀ s1, Inv X N s1 (cnt + 1) → WP (d + 151) 0 1016 [some (.inr (.inr 1)), some (.inr (.inr 10)), some (.inr (.inr 146)), some (.inl i)] [] (encA s1) (QI QEnd) := fun s1 hI1 => by
        refine w_inc_4_3 rfl rfl ?_
        refine w_go rfl ?_
        exact ih s1 (cnt + 1) (i + 6) hI1 (by omega) (by omega) (by omega) (by omega)
      have kd : Inv X N s (cnt + 1) := hI.scr (by omega) Fr.rf
      have hi6 : 0 ≤ i ∧ i + 6 ≤ N ∧ N ≤ 3072 := by omega
      have hc1 : cnt ≤ 1000 := by omega
      refine w_ldR rfl rfl rfl ?_
      refine w_ldI rfl rfl ?_
      refine w_scld rfl (by rw [e2]; omega) (by rw [e2]; omega) ?_
      rw [e1]
      refine w_push rfl ?_
      refine w_bin rfl ?_
      have hv := m_and_rng (X i.toNat) 63
      generalize m_and (X i.toNat) 63 = v at hv ⊢
      obtain b | b | b | b | b | b | b | b | b | b | b | b | b | b | b | b | b | b | b | b | b | b | b | b | b | b | b | b | b | b | b | b | b | b | b | b | b | b | b | b | b := (by omega : v = 0 ∨ v = 1 ∨ v = 2 ∨ v = 3 ∨ v = 4 ∨ v = 5 ∨ v = 6 ∨ v = 7 ∨ v = 8 ∨ v = 9 ∨ v = 10 ∨ v = 11 ∨ v = 12 ∨ v = 13 ∨ v = 14 ∨ v = 15 ∨ v = 16 ∨ v = 17 ∨ v = 18 ∨ v = 19 ∨ v = 20 ∨ v = 21 ∨ v = 22 ∨ v = 23 ∨ v = 24 ∨ v = 25 ∨ v = 26 ∨ v = 27 ∨ v = 28 ∨ v = 29 ∨ v = 30 ∨ v = 31 ∨ v = 32 ∨ v = 33 ∨ v = 34 ∨ v = 35 ∨ v = 36 ∨ v = 37 ∨ v = 38 ∨ v = 39 ∨ (v < 0 ∨ 40 ≤ v))
      · exact w_sw (tg := 22) rfl (by rw [w32_id (by omega) (by omega), b]; rfl) (bk_cell hI hi6 hc1 kk)
      · exact w_sw (tg := 49) rfl (by rw [w32_id (by omega) (by omega), b]; rfl) (bk_set hI hi6 hc1 kk)
      · exact w_sw (tg := 76) rfl (by rw [w32_id (by omega) (by omega), b]; rfl) (bk_window hI hi6 hc1 kk)
      · exact w_sw (tg := 103) rfl (by rw [w32_id (by omega) (by omega), b]; rfl) (bk_ofWindow hI hi6 hc1 kk)
      · exact w_sw (tg := 130) rfl (by rw [w32_id (by omega) (by omega), b]; rfl) (bk_become hI hi6 hc1 kk)
      · exact w_sw (tg := 157) rfl (by rw [w32_id (by omega) (by omega), b]; rfl) (bk_as hI hi6 hc1 kk)
      · exact w_sw (tg := 184) rfl (by rw [w32_id (by omega) (by omega), b]; rfl) (bk_light hI hi6 hc1 kk)
      · exact w_sw (tg := 211) rfl (by rw [w32_id (by omega) (by omega), b]; rfl) (bk_person hI hi6 hc1 kk)
      · exact w_sw (tg := 238) rfl (by rw [w32_id (by omega) (by omega), b]; rfl) (bk_ofPerson hI hi6 hc1 kk)
      · exact w_sw (tg := 265) rfl (by rw [w32_id (by omega) (by omega), b]; rfl) (bk_change hI hi6 hc1 kk)
      · exact w_sw (tg := 302) rfl (by rw [w32_id (by omega) (by omega), b]; rfl) (bk_met hI hi6 hc1 kk)
      · exact w_sw (tg := 319) rfl (by rw [w32_id (by omega) (by omega), b]; rfl) (bk_turn hI hi6 hc1 kk)
      · exact w_sw (tg := 336) rfl (by rw [w32_id (by omega) (by omega), b]; rfl) (bk_clear hI hi6 hc1 kk)
      · exact w_sw (tg := 343) rfl (by rw [w32_id (by omega) (by omega), b]; rfl) (bk_lit hI hi6 hc1 kk)
      · exact w_sw (tg := 350) rfl (by rw [w32_id (by omega) (by omega), b]; rfl) (bk_feed hI hi6 hc1 kk)
      · exact w_sw (tg := 401) rfl (by rw [w32_id (by omega) (by omega), b]; rfl) (bk_text hT hI hi6 hc1 kk)
      · exact w_sw (tg := 418) rfl (by rw [w32_id (by omega) (by omega), b]; rfl) (bk_law hI hi6 hc1 kk)
      · exact w_sw (tg := 475) rfl (by rw [w32_id (by omega) (by omega), b]; rfl) (bk_nights hI hi6 hc1 kk)
      · exact w_sw (tg := 492) rfl (by rw [w32_id (by omega) (by omega), b]; rfl) (bk_loose hI hi6 hc1 kk)
      · exact w_sw (tg := 509) rfl (by rw [w32_id (by omega) (by omega), b]; rfl) (bk_then hI hi6 hc1 kk)
      · exact w_sw (tg := 546) rfl (by rw [w32_id (by omega) (by omega), b]; rfl) (bk_thenEggs hI hi6 hc1 kk)
      · exact w_sw (tg := 573) rfl (by rw [w32_id (by omega) (by omega), b]; rfl) (bk_order hO hI hi6 hc1 kk)
      · exact w_sw (tg := 590) rfl (by rw [w32_id (by omega) (by omega), b]; rfl) (bk_seat hI hi6 hc1 kk)
      · exact w_sw (tg := 607) rfl (by rw [w32_id (by omega) (by omega), b]; rfl) (bk_curtain hI hi6 hc1 kk)
      · exact w_sw (tg := 634) rfl (by rw [w32_id (by omega) (by omega), b]; rfl) (bk_mirrors hMi hI hi6 hc1 kk)
      · exact w_sw (tg := 681) rfl (by rw [w32_id (by omega) (by omega), b]; rfl) (bk_whose hI hi6 hc1 kk)
      · exact w_sw (tg := 698) rfl (by rw [w32_id (by omega) (by omega), b]; rfl) (bk_seed hI hi6 hc1 kk)
      · exact w_sw (tg := 715) rfl (by rw [w32_id (by omega) (by omega), b]; rfl) (bk_voice hI hi6 hc1 kk)
      · exact w_sw (tg := 752) rfl (by rw [w32_id (by omega) (by omega), b]; rfl) (bk_trace hI hi6 hc1 kk)
      · exact w_sw (tg := 769) rfl (by rw [w32_id (by omega) (by omega), b]; rfl) (bk_sheet hI hi6 hc1 kk)
      · exact w_sw (tg := 806) rfl (by rw [w32_id (by omega) (by omega), b]; rfl) (bk_put hI hi6 hc1 kk)
      · exact w_sw (tg := 843) rfl (by rw [w32_id (by omega) (by omega), b]; rfl) (bk_move hI hi6 hc1 kk)
      · exact w_sw (tg := 900) rfl (by rw [w32_id (by omega) (by omega), b]; rfl) (bk_cells hI hi6 hc1 kk)
      · exact w_sw (tg := 917) rfl (by rw [w32_id (by omega) (by omega), b]; rfl) (bk_judge hI hi6 hc1 kk)
      · exact w_sw (tg := 944) rfl (by rw [w32_id (by omega) (by omega), b]; rfl) (bk_image hI hi6 hc1 kk)
      · exact w_sw (tg := 951) rfl (by rw [w32_id (by omega) (by omega), b]; rfl) (bk_restore hI hi6 hc1 kk)
      · exact w_sw (tg := 958) rfl (by rw [w32_id (by omega) (by omega), b]; rfl) (bk_tell hI hi6 hc1 kk)
      · exact w_sw (tg := 975) rfl (by rw [w32_id (by omega) (by omega), b]; rfl) (bk_check hI hi6 hc1 kk)
      · exact w_sw (tg := 982) rfl (by rw [w32_id (by omega) (by omega), b]; rfl) (bk_count hI hi6 hc1 kk)
      · exact w_sw (tg := 999) rfl (by rw [w32_id (by omega) (by omega), b]; rfl) (bk_told hI hi6 hc1 kk)
      · exact w_sw (tg := 1016) rfl (mSwT_df (by rw [w32_id (by omega) (by omega)]; exact b)) (kk s kd)
theorem law_run {X : Nat → Int} {N : Int} {d : Nat} (hX : ∀ i, -2147483648 ≤ X i ∧ X i < 2147483648) (hN : 0 ≤ N ∧ N ≤ 3072) : ∃ s : mSt, Call (d + 151) 0 [.inr (.inr 1)] (10, 0, f0 X N) (some (.inl 1)) (encA s) ∧ 0 ≤ s 0 0 ∧ s 0 0 ≤ 2000 := by
  have k : WP (d + 151) 0 0 [some (.inr (.inr 1)), none, none, none] [] (10, 0, f0 X N) (QI QEnd) := law_start (law_loop2 (StT_ok X N) (fun d s cnt q hI h => st_order hI h) (StM_ok X N) hN 600 (sI X N) 0 0 (sI_inv hX) (by omega) (by omega) (by omega) (by omega))
  obtain ⟨r, h', kr, v, s, rfl, rfl, rfl, b1, b2⟩ := k
  exact ⟨s, ⟨Nat.le_of_ble_eq_true rfl, kr⟩, b1, b2⟩
