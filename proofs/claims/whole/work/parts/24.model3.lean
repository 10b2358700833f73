/-! ===== the reference: windows, people, turns, what is told ===== -/
theorem i32_of {x : Int} (h1 : -2147483648 ≤ x) (h2 : x < 2147483648) : (Int32.ofInt x).toInt = x := Int32.toInt_ofInt_of_le (by omega) (by omega)
theorem bmod_id {x : Int} (h1 : -2147483648 ≤ x) (h2 : x < 2147483648) : Int.bmod x (2 ^ 32) = x := by
  have := Int.bmod_eq_of_le (n := x) (m := 2 ^ 32) (by omega) (by omega)
  exact this
theorem m_div_pos {x y : Int} (hx : 0 ≤ x ∧ x < 2147483648) (hy : 0 < y ∧ y < 2147483648) : m_div x y = x / y := by
  unfold m_div
  rw [Int32.toInt_div, i32_of (by omega) hx.2, i32_of (by omega) hy.2, Int.tdiv_eq_ediv_of_nonneg hx.1]
  have h1 : 0 ≤ x / y := Int.ediv_nonneg hx.1 (by omega)
  have h2 : x / y ≤ x := Int.ediv_le_self y hx.1
  exact bmod_id (by omega) (by omega)
theorem m_rem_pos {x y : Int} (hx : 0 ≤ x ∧ x < 2147483648) (hy : 0 < y ∧ y < 2147483648) : m_rem x y = x % y := by
  unfold m_rem
  rw [Int32.toInt_sub, Int32.toInt_mul, Int32.toInt_div, i32_of (by omega) hx.2, i32_of (by omega) hy.2, Int.tdiv_eq_ediv_of_nonneg hx.1]
  have h1 : 0 ≤ x / y := Int.ediv_nonneg hx.1 (by omega)
  have h2 : x / y ≤ x := Int.ediv_le_self y hx.1
  have h3 : x / y * y = x - x % y := by have := Int.mul_ediv_add_emod x y; rw [Int.mul_comm] at this; omega
  have h4 := Int.emod_nonneg x (show y ≠ 0 by omega)
  have h5 := Int.emod_lt_of_pos x hy.1
  have h6 : 0 ≤ x / y * y := Int.mul_nonneg h1 (by omega)
  rw [bmod_id (x := x / y) (by omega) (by omega), h3]
  have h7 : x % y ≤ x := by omega
  rw [bmod_id (x := x - x % y) (by omega) (by omega)]
  rw [show x - (x - x % y) = x % y by omega]
  exact bmod_id (by omega) (by omega)
theorem m_rem_rng {x y : Int} (hx : 0 ≤ x ∧ x < 2147483648) (hy : 0 < y ∧ y < 2147483648) : 0 ≤ m_rem x y ∧ m_rem x y < y := by
  rw [m_rem_pos hx hy]
  exact ⟨Int.emod_nonneg x (by omega), Int.emod_lt_of_pos x hy.1⟩
def abv (k : Int) : Int := if k < 4 then 0 else k - 3
def litW (d : Nat → Int) : Int := if d 41 = 0 then -1 else d (109 + d 38 % d 41).toNat
theorem r_window_y {d : Nat} {s : mSt} (hM : MOk (s 147)) {km c : Int} (hrkm : -2147483648 ≤ km ∧ km < 2147483648) (hrc : -2147483648 ≤ c ∧ c < 2147483648) (hy : (0 ≤ km ∧ km ≤ 69) ∧ 0 ≤ c ∧ c ≤ 35) (h6 : ¬ s 147 39 = 6) : Call (d + 2) 197 [.inr (.inr 146), .inl km, .inl c] (encA s) (some (.inl (s 147 39))) (encA (ua s 147 (mup (mup (mup (mup (mup (s 147) ((45 + 4 * s 147 39 + 0).toNat) (km / 10)) ((45 + 4 * s 147 39 + 1).toNat) (km % 10)) ((45 + 4 * s 147 39 + 2).toNat) (c)) ((45 + 4 * s 147 39 + 3).toNat) (0)) (39) (s 147 39 + 1)))) := by
  refine ⟨Nat.le_of_ble_eq_true rfl, ?_⟩
  show Run (d + 2) 197 0 [some (.inr (.inr 146)), some (.inl km), some (.inl c), none] [] (encA s) (some (.inl (s 147 39))) (encA (ua s 147 (mup (mup (mup (mup (mup (s 147) ((45 + 4 * s 147 39 + 0).toNat) (km / 10)) ((45 + 4 * s 147 39 + 1).toNat) (km % 10)) ((45 + 4 * s 147 39 + 2).toNat) (c)) ((45 + 4 * s 147 39 + 3).toNat) (0)) (39) (s 147 39 + 1))))
  obtain ⟨hM39, hM40, hM41, hM43, hM44, hM36, hM37, hM38, hMc, hMw, hMp, hMt, hMb⟩ := hM
  refine x_ldI rfl rfl ?_
  refine x_i2lr rfl (by omega) ?_
  refine x_push rfl ?_
  refine x_push rfl ?_
  refine x_call rfl rfl rfl (r_in (by omega) (by omega) (by omega)) ?_
  refine x_bEq0 rfl (fun h_1 => ?_) (fun h_1 => ?_)
  · first
    | (exfalso; omega)
    | (refine x_ldR rfl rfl rfl ?_
       refine x_push rfl ?_
       refine x_callV rfl rfl rfl rfl rfl rfl rfl r_finds1 ?_
       exact x_retI rfl (by (first | rfl | omega | (simp (disch := omega) only [us_d, ua_ua, ua_eq, mup_ne, mup_eq, m_div_pos, m_rem_pos]))) (by (first | rfl | (simp (disch := omega) only [us_d, ua_ua, ua_eq, mup_ne, mup_eq, m_div_pos, m_rem_pos]))))
  · first
    | (exfalso; omega)
    | (refine x_ldI rfl rfl ?_
       refine x_call rfl rfl rfl (r_isCell (by omega)) ?_
       refine x_bNe0 rfl (fun h_2 => ?_) (fun h_2 => ?_)
       · first
         | (exfalso; omega)
         | (refine x_ldR rfl rfl rfl ?_
            first | refine x_getI rfl rfl rfl rfl rfl ?_ | refine x_getR rfl rfl rfl rfl rfl ?_
            refine x_push rfl ?_
            refine x_aldk 39 rfl rfl rfl rfl rfl rfl ?_
            refine x_push rfl ?_
            refine x_crNe rfl (by omega) (by omega) (fun h_3 => ?_) (fun h_3 => ?_)
            · first
              | (exfalso; omega)
              | (refine x_ldR rfl rfl rfl ?_
                 first | refine x_getI rfl rfl rfl rfl rfl ?_ | refine x_getR rfl rfl rfl rfl rfl ?_
                 refine x_push rfl ?_
                 refine x_aldk 39 rfl rfl rfl rfl rfl rfl ?_
                 refine x_StI_4_3 rfl rfl ?_
                 refine x_ldR rfl rfl rfl ?_
                 first | refine x_getI rfl rfl rfl rfl rfl ?_ | refine x_getR rfl rfl rfl rfl rfl ?_
                 refine x_push rfl ?_
                 refine x_push rfl ?_
                 refine x_ldI rfl rfl ?_
                 refine x_mul rfl ?_
                 refine x_add rfl ?_
                 refine x_push rfl ?_
                 refine x_add rfl ?_
                 refine x_ldI rfl rfl ?_
                 refine x_push rfl ?_
                 refine x_div rfl (by decide) ?_
                 refine x_ast rfl rfl rfl (by omega) rfl ?_
                 refine x_ldR rfl rfl rfl ?_
                 first | refine x_getI rfl rfl rfl rfl rfl ?_ | refine x_getR rfl rfl rfl rfl rfl ?_
                 refine x_push rfl ?_
                 refine x_push rfl ?_
                 refine x_ldI rfl rfl ?_
                 refine x_mul rfl ?_
                 refine x_add rfl ?_
                 refine x_push rfl ?_
                 refine x_add rfl ?_
                 refine x_ldI rfl rfl ?_
                 refine x_push rfl ?_
                 refine x_div rfl (by decide) ?_
                 refine x_ast rfl rfl rfl (by omega) rfl ?_
                 refine x_ldR rfl rfl rfl ?_
                 first | refine x_getI rfl rfl rfl rfl rfl ?_ | refine x_getR rfl rfl rfl rfl rfl ?_
                 refine x_push rfl ?_
                 refine x_push rfl ?_
                 refine x_ldI rfl rfl ?_
                 refine x_mul rfl ?_
                 refine x_add rfl ?_
                 refine x_push rfl ?_
                 refine x_add rfl ?_
                 refine x_ldI rfl rfl ?_
                 refine x_ast rfl rfl rfl (by omega) rfl ?_
                 refine x_ldR rfl rfl rfl ?_
                 first | refine x_getI rfl rfl rfl rfl rfl ?_ | refine x_getR rfl rfl rfl rfl rfl ?_
                 refine x_push rfl ?_
                 refine x_push rfl ?_
                 refine x_ldI rfl rfl ?_
                 refine x_mul rfl ?_
                 refine x_add rfl ?_
                 refine x_push rfl ?_
                 refine x_add rfl ?_
                 refine x_push rfl ?_
                 refine x_ast rfl rfl rfl (by omega) rfl ?_
                 refine x_ldR rfl rfl rfl ?_
                 first | refine x_getI rfl rfl rfl rfl rfl ?_ | refine x_getR rfl rfl rfl rfl rfl ?_
                 refine x_push rfl ?_
                 refine x_dup2 rfl ?_
                 refine x_aldk 39 rfl rfl rfl rfl rfl rfl ?_
                 refine x_push rfl ?_
                 refine x_add rfl ?_
                 refine x_astk 39 rfl rfl rfl rfl rfl rfl ?_
                 refine x_ldI rfl rfl ?_
                 exact x_retI rfl (by (first | rfl | omega | (simp (disch := omega) only [us_d, ua_ua, ua_eq, mup_ne, mup_eq, m_div_pos, m_rem_pos]))) (by (first | rfl | (simp (disch := omega) only [us_d, ua_ua, ua_eq, mup_ne, mup_eq, m_div_pos, m_rem_pos]))))
            · first
              | (exfalso; omega)
              | (refine x_ldR rfl rfl rfl ?_
                 refine x_push rfl ?_
                 refine x_callV rfl rfl rfl rfl rfl rfl rfl r_finds1 ?_
                 exact x_retI rfl (by (first | rfl | omega | (simp (disch := omega) only [us_d, ua_ua, ua_eq, mup_ne, mup_eq, m_div_pos, m_rem_pos]))) (by (first | rfl | (simp (disch := omega) only [us_d, ua_ua, ua_eq, mup_ne, mup_eq, m_div_pos, m_rem_pos])))))
       · first
         | (exfalso; omega)
         | (refine x_ldR rfl rfl rfl ?_
            refine x_push rfl ?_
            refine x_callV rfl rfl rfl rfl rfl rfl rfl r_finds1 ?_
            exact x_retI rfl (by (first | rfl | omega | (simp (disch := omega) only [us_d, ua_ua, ua_eq, mup_ne, mup_eq, m_div_pos, m_rem_pos]))) (by (first | rfl | (simp (disch := omega) only [us_d, ua_ua, ua_eq, mup_ne, mup_eq, m_div_pos, m_rem_pos])))))
theorem r_window_n {d : Nat} {s : mSt} (hM : MOk (s 147)) {km c : Int} (hrkm : -2147483648 ≤ km ∧ km < 2147483648) (hrc : -2147483648 ≤ c ∧ c < 2147483648) (hy : ¬ ((0 ≤ km ∧ km ≤ 69) ∧ 0 ≤ c ∧ c ≤ 35)) : Call (d + 2) 197 [.inr (.inr 146), .inl km, .inl c] (encA s) (some (.inl (-1000000000 - 1))) (encA (us s 150 1 (s 150 1 + 1))) := by
  refine ⟨Nat.le_of_ble_eq_true rfl, ?_⟩
  show Run (d + 2) 197 0 [some (.inr (.inr 146)), some (.inl km), some (.inl c), none] [] (encA s) (some (.inl (-1000000000 - 1))) (encA (us s 150 1 (s 150 1 + 1)))
  obtain ⟨hM39, hM40, hM41, hM43, hM44, hM36, hM37, hM38, hMc, hMw, hMp, hMt, hMb⟩ := hM
  refine x_ldI rfl rfl ?_
  refine x_i2lr rfl (by omega) ?_
  refine x_push rfl ?_
  refine x_push rfl ?_
  refine x_call rfl rfl rfl (r_in (by omega) (by omega) (by omega)) ?_
  refine x_bEq0 rfl (fun h_1 => ?_) (fun h_1 => ?_)
  · first
    | (exfalso; omega)
    | (refine x_ldR rfl rfl rfl ?_
       refine x_push rfl ?_
       refine x_callV rfl rfl rfl rfl rfl rfl rfl r_finds1 ?_
       exact x_retI rfl (by (first | rfl | omega | (simp (disch := omega) only [us_d, ua_ua, ua_eq, mup_ne, mup_eq, m_div_pos, m_rem_pos]))) (by (first | rfl | (simp (disch := omega) only [us_d, ua_ua, ua_eq, mup_ne, mup_eq, m_div_pos, m_rem_pos]))))
  · first
    | (exfalso; omega)
    | (refine x_ldI rfl rfl ?_
       refine x_call rfl rfl rfl (r_isCell (by omega)) ?_
       refine x_bNe0 rfl (fun h_2 => ?_) (fun h_2 => ?_)
       · first
         | (exfalso; omega)
         | (refine x_ldR rfl rfl rfl ?_
            first | refine x_getI rfl rfl rfl rfl rfl ?_ | refine x_getR rfl rfl rfl rfl rfl ?_
            refine x_push rfl ?_
            refine x_aldk 39 rfl rfl rfl rfl rfl rfl ?_
            refine x_push rfl ?_
            refine x_crNe rfl (by omega) (by omega) (fun h_3 => ?_) (fun h_3 => ?_)
            · first
              | (exfalso; omega)
              | (refine x_ldR rfl rfl rfl ?_
                 first | refine x_getI rfl rfl rfl rfl rfl ?_ | refine x_getR rfl rfl rfl rfl rfl ?_
                 refine x_push rfl ?_
                 refine x_aldk 39 rfl rfl rfl rfl rfl rfl ?_
                 refine x_StI_4_3 rfl rfl ?_
                 refine x_ldR rfl rfl rfl ?_
                 first | refine x_getI rfl rfl rfl rfl rfl ?_ | refine x_getR rfl rfl rfl rfl rfl ?_
                 refine x_push rfl ?_
                 refine x_push rfl ?_
                 refine x_ldI rfl rfl ?_
                 refine x_mul rfl ?_
                 refine x_add rfl ?_
                 refine x_push rfl ?_
                 refine x_add rfl ?_
                 refine x_ldI rfl rfl ?_
                 refine x_push rfl ?_
                 refine x_div rfl (by decide) ?_
                 refine x_ast rfl rfl rfl (by omega) rfl ?_
                 refine x_ldR rfl rfl rfl ?_
                 first | refine x_getI rfl rfl rfl rfl rfl ?_ | refine x_getR rfl rfl rfl rfl rfl ?_
                 refine x_push rfl ?_
                 refine x_push rfl ?_
                 refine x_ldI rfl rfl ?_
                 refine x_mul rfl ?_
                 refine x_add rfl ?_
                 refine x_push rfl ?_
                 refine x_add rfl ?_
                 refine x_ldI rfl rfl ?_
                 refine x_push rfl ?_
                 refine x_div rfl (by decide) ?_
                 refine x_ast rfl rfl rfl (by omega) rfl ?_
                 refine x_ldR rfl rfl rfl ?_
                 first | refine x_getI rfl rfl rfl rfl rfl ?_ | refine x_getR rfl rfl rfl rfl rfl ?_
                 refine x_push rfl ?_
                 refine x_push rfl ?_
                 refine x_ldI rfl rfl ?_
                 refine x_mul rfl ?_
                 refine x_add rfl ?_
                 refine x_push rfl ?_
                 refine x_add rfl ?_
                 refine x_ldI rfl rfl ?_
                 refine x_ast rfl rfl rfl (by omega) rfl ?_
                 refine x_ldR rfl rfl rfl ?_
                 first | refine x_getI rfl rfl rfl rfl rfl ?_ | refine x_getR rfl rfl rfl rfl rfl ?_
                 refine x_push rfl ?_
                 refine x_push rfl ?_
                 refine x_ldI rfl rfl ?_
                 refine x_mul rfl ?_
                 refine x_add rfl ?_
                 refine x_push rfl ?_
                 refine x_add rfl ?_
                 refine x_push rfl ?_
                 refine x_ast rfl rfl rfl (by omega) rfl ?_
                 refine x_ldR rfl rfl rfl ?_
                 first | refine x_getI rfl rfl rfl rfl rfl ?_ | refine x_getR rfl rfl rfl rfl rfl ?_
                 refine x_push rfl ?_
                 refine x_dup2 rfl ?_
                 refine x_aldk 39 rfl rfl rfl rfl rfl rfl ?_
                 refine x_push rfl ?_
                 refine x_add rfl ?_
                 refine x_astk 39 rfl rfl rfl rfl rfl rfl ?_
                 refine x_ldI rfl rfl ?_
                 exact x_retI rfl (by (first | rfl | omega | (simp (disch := omega) only [us_d, ua_ua, ua_eq, mup_ne, mup_eq, m_div_pos, m_rem_pos]))) (by (first | rfl | (simp (disch := omega) only [us_d, ua_ua, ua_eq, mup_ne, mup_eq, m_div_pos, m_rem_pos]))))
            · first
              | (exfalso; omega)
              | (refine x_ldR rfl rfl rfl ?_
                 refine x_push rfl ?_
                 refine x_callV rfl rfl rfl rfl rfl rfl rfl r_finds1 ?_
                 exact x_retI rfl (by (first | rfl | omega | (simp (disch := omega) only [us_d, ua_ua, ua_eq, mup_ne, mup_eq, m_div_pos, m_rem_pos]))) (by (first | rfl | (simp (disch := omega) only [us_d, ua_ua, ua_eq, mup_ne, mup_eq, m_div_pos, m_rem_pos])))))
       · first
         | (exfalso; omega)
         | (refine x_ldR rfl rfl rfl ?_
            refine x_push rfl ?_
            refine x_callV rfl rfl rfl rfl rfl rfl rfl r_finds1 ?_
            exact x_retI rfl (by (first | rfl | omega | (simp (disch := omega) only [us_d, ua_ua, ua_eq, mup_ne, mup_eq, m_div_pos, m_rem_pos]))) (by (first | rfl | (simp (disch := omega) only [us_d, ua_ua, ua_eq, mup_ne, mup_eq, m_div_pos, m_rem_pos])))))
theorem r_window_f {d : Nat} {s : mSt} (hM : MOk (s 147)) {km c : Int} (hrkm : -2147483648 ≤ km ∧ km < 2147483648) (hrc : -2147483648 ≤ c ∧ c < 2147483648) (hy : (0 ≤ km ∧ km ≤ 69) ∧ 0 ≤ c ∧ c ≤ 35) (h6 : s 147 39 = 6) : Call (d + 2) 197 [.inr (.inr 146), .inl km, .inl c] (encA s) (some (.inl (-1000000000 - 4))) (encA (us s 150 4 (s 150 4 + 1))) := by
  refine ⟨Nat.le_of_ble_eq_true rfl, ?_⟩
  show Run (d + 2) 197 0 [some (.inr (.inr 146)), some (.inl km), some (.inl c), none] [] (encA s) (some (.inl (-1000000000 - 4))) (encA (us s 150 4 (s 150 4 + 1)))
  obtain ⟨hM39, hM40, hM41, hM43, hM44, hM36, hM37, hM38, hMc, hMw, hMp, hMt, hMb⟩ := hM
  refine x_ldI rfl rfl ?_
  refine x_i2lr rfl (by omega) ?_
  refine x_push rfl ?_
  refine x_push rfl ?_
  refine x_call rfl rfl rfl (r_in (by omega) (by omega) (by omega)) ?_
  refine x_bEq0 rfl (fun h_1 => ?_) (fun h_1 => ?_)
  · first
    | (exfalso; omega)
    | (refine x_ldR rfl rfl rfl ?_
       refine x_push rfl ?_
       refine x_callV rfl rfl rfl rfl rfl rfl rfl r_finds4 ?_
       exact x_retI rfl (by (first | rfl | omega | (simp (disch := omega) only [us_d, ua_ua, ua_eq, mup_ne, mup_eq, m_div_pos, m_rem_pos]))) (by (first | rfl | (simp (disch := omega) only [us_d, ua_ua, ua_eq, mup_ne, mup_eq, m_div_pos, m_rem_pos]))))
  · first
    | (exfalso; omega)
    | (refine x_ldI rfl rfl ?_
       refine x_call rfl rfl rfl (r_isCell (by omega)) ?_
       refine x_bNe0 rfl (fun h_2 => ?_) (fun h_2 => ?_)
       · first
         | (exfalso; omega)
         | (refine x_ldR rfl rfl rfl ?_
            first | refine x_getI rfl rfl rfl rfl rfl ?_ | refine x_getR rfl rfl rfl rfl rfl ?_
            refine x_push rfl ?_
            refine x_aldk 39 rfl rfl rfl rfl rfl rfl ?_
            refine x_push rfl ?_
            refine x_crNe rfl (by omega) (by omega) (fun h_3 => ?_) (fun h_3 => ?_)
            · first
              | (exfalso; omega)
              | (refine x_ldR rfl rfl rfl ?_
                 first | refine x_getI rfl rfl rfl rfl rfl ?_ | refine x_getR rfl rfl rfl rfl rfl ?_
                 refine x_push rfl ?_
                 refine x_aldk 39 rfl rfl rfl rfl rfl rfl ?_
                 refine x_StI_4_3 rfl rfl ?_
                 refine x_ldR rfl rfl rfl ?_
                 first | refine x_getI rfl rfl rfl rfl rfl ?_ | refine x_getR rfl rfl rfl rfl rfl ?_
                 refine x_push rfl ?_
                 refine x_push rfl ?_
                 refine x_ldI rfl rfl ?_
                 refine x_mul rfl ?_
                 refine x_add rfl ?_
                 refine x_push rfl ?_
                 refine x_add rfl ?_
                 refine x_ldI rfl rfl ?_
                 refine x_push rfl ?_
                 refine x_div rfl (by decide) ?_
                 refine x_ast rfl rfl rfl (by omega) rfl ?_
                 refine x_ldR rfl rfl rfl ?_
                 first | refine x_getI rfl rfl rfl rfl rfl ?_ | refine x_getR rfl rfl rfl rfl rfl ?_
                 refine x_push rfl ?_
                 refine x_push rfl ?_
                 refine x_ldI rfl rfl ?_
                 refine x_mul rfl ?_
                 refine x_add rfl ?_
                 refine x_push rfl ?_
                 refine x_add rfl ?_
                 refine x_ldI rfl rfl ?_
                 refine x_push rfl ?_
                 refine x_div rfl (by decide) ?_
                 refine x_ast rfl rfl rfl (by omega) rfl ?_
                 refine x_ldR rfl rfl rfl ?_
                 first | refine x_getI rfl rfl rfl rfl rfl ?_ | refine x_getR rfl rfl rfl rfl rfl ?_
                 refine x_push rfl ?_
                 refine x_push rfl ?_
                 refine x_ldI rfl rfl ?_
                 refine x_mul rfl ?_
                 refine x_add rfl ?_
                 refine x_push rfl ?_
                 refine x_add rfl ?_
                 refine x_ldI rfl rfl ?_
                 refine x_ast rfl rfl rfl (by omega) rfl ?_
                 refine x_ldR rfl rfl rfl ?_
                 first | refine x_getI rfl rfl rfl rfl rfl ?_ | refine x_getR rfl rfl rfl rfl rfl ?_
                 refine x_push rfl ?_
                 refine x_push rfl ?_
                 refine x_ldI rfl rfl ?_
                 refine x_mul rfl ?_
                 refine x_add rfl ?_
                 refine x_push rfl ?_
                 refine x_add rfl ?_
                 refine x_push rfl ?_
                 refine x_ast rfl rfl rfl (by omega) rfl ?_
                 refine x_ldR rfl rfl rfl ?_
                 first | refine x_getI rfl rfl rfl rfl rfl ?_ | refine x_getR rfl rfl rfl rfl rfl ?_
                 refine x_push rfl ?_
                 refine x_dup2 rfl ?_
                 refine x_aldk 39 rfl rfl rfl rfl rfl rfl ?_
                 refine x_push rfl ?_
                 refine x_add rfl ?_
                 refine x_astk 39 rfl rfl rfl rfl rfl rfl ?_
                 refine x_ldI rfl rfl ?_
                 exact x_retI rfl (by (first | rfl | omega | (simp (disch := omega) only [us_d, ua_ua, ua_eq, mup_ne, mup_eq, m_div_pos, m_rem_pos]))) (by (first | rfl | (simp (disch := omega) only [us_d, ua_ua, ua_eq, mup_ne, mup_eq, m_div_pos, m_rem_pos]))))
            · first
              | (exfalso; omega)
              | (refine x_ldR rfl rfl rfl ?_
                 refine x_push rfl ?_
                 refine x_callV rfl rfl rfl rfl rfl rfl rfl r_finds4 ?_
                 exact x_retI rfl (by (first | rfl | omega | (simp (disch := omega) only [us_d, ua_ua, ua_eq, mup_ne, mup_eq, m_div_pos, m_rem_pos]))) (by (first | rfl | (simp (disch := omega) only [us_d, ua_ua, ua_eq, mup_ne, mup_eq, m_div_pos, m_rem_pos])))))
       · first
         | (exfalso; omega)
         | (refine x_ldR rfl rfl rfl ?_
            refine x_push rfl ?_
            refine x_callV rfl rfl rfl rfl rfl rfl rfl r_finds4 ?_
            exact x_retI rfl (by (first | rfl | omega | (simp (disch := omega) only [us_d, ua_ua, ua_eq, mup_ne, mup_eq, m_div_pos, m_rem_pos]))) (by (first | rfl | (simp (disch := omega) only [us_d, ua_ua, ua_eq, mup_ne, mup_eq, m_div_pos, m_rem_pos])))))
theorem r_become_y {d : Nat} {s : mSt} (hM : MOk (s 147)) {w km : Int} (hrw : -2147483648 ≤ w ∧ w < 2147483648) (hrkm : -2147483648 ≤ km ∧ km < 2147483648) (hy : (0 ≤ w ∧ w ≤ s 147 39 - 1) ∧ 0 ≤ km ∧ km ≤ 69) : Call (d + 2) 209 [.inr (.inr 146), .inl w, .inl km] (encA s) (some (.inl (s 147 (45 + 4 * w + 0).toNat))) (encA (ua s 147 (mup (mup (s 147) ((45 + 4 * w + 0).toNat) (km / 10)) ((45 + 4 * w + 1).toNat) (km % 10)))) := by
  refine ⟨Nat.le_of_ble_eq_true rfl, ?_⟩
  show Run (d + 2) 209 0 [some (.inr (.inr 146)), some (.inl w), some (.inl km), none] [] (encA s) (some (.inl (s 147 (45 + 4 * w + 0).toNat))) (encA (ua s 147 (mup (mup (s 147) ((45 + 4 * w + 0).toNat) (km / 10)) ((45 + 4 * w + 1).toNat) (km % 10))))
  obtain ⟨hM39, hM40, hM41, hM43, hM44, hM36, hM37, hM38, hMc, hMw, hMp, hMt, hMb⟩ := hM
  refine x_ldR rfl rfl rfl ?_
  refine x_ldI rfl rfl ?_
  refine x_callV rfl rfl rfl rfl rfl rfl rfl (r_isWindow (by omega) (by omega)) ?_
  refine x_bEq0 rfl (fun h_1 => ?_) (fun h_1 => ?_)
  · first
    | (exfalso; omega)
    | (refine x_ldR rfl rfl rfl ?_
       refine x_push rfl ?_
       refine x_callV rfl rfl rfl rfl rfl rfl rfl r_finds1 ?_
       exact x_retI rfl (by (first | rfl | omega | (simp (disch := omega) only [us_d, ua_ua, ua_eq, mup_ne, mup_eq, m_div_pos, m_rem_pos]))) (by (first | rfl | (simp (disch := omega) only [us_d, ua_ua, ua_eq, mup_ne, mup_eq, m_div_pos, m_rem_pos]))))
  · first
    | (exfalso; omega)
    | (refine x_ldI rfl rfl ?_
       refine x_i2lr rfl (by omega) ?_
       refine x_push rfl ?_
       refine x_push rfl ?_
       refine x_call rfl rfl rfl (r_in (by omega) (by omega) (by omega)) ?_
       refine x_bNe0 rfl (fun h_2 => ?_) (fun h_2 => ?_)
       · first
         | (exfalso; omega)
         | (refine x_ldR rfl rfl rfl ?_
            refine x_ldI rfl rfl ?_
            refine x_push rfl ?_
            refine x_callV rfl rfl rfl rfl rfl rfl rfl (r_ofIt (by omega) (by omega)) ?_
            refine x_StI_4_3 rfl rfl ?_
            refine x_ldR rfl rfl rfl ?_
            first | refine x_getI rfl rfl rfl rfl rfl ?_ | refine x_getR rfl rfl rfl rfl rfl ?_
            refine x_push rfl ?_
            refine x_push rfl ?_
            refine x_ldI rfl rfl ?_
            refine x_mul rfl ?_
            refine x_add rfl ?_
            refine x_push rfl ?_
            refine x_add rfl ?_
            refine x_ldI rfl rfl ?_
            refine x_push rfl ?_
            refine x_div rfl (by decide) ?_
            refine x_ast rfl rfl rfl (by omega) rfl ?_
            refine x_ldR rfl rfl rfl ?_
            first | refine x_getI rfl rfl rfl rfl rfl ?_ | refine x_getR rfl rfl rfl rfl rfl ?_
            refine x_push rfl ?_
            refine x_push rfl ?_
            refine x_ldI rfl rfl ?_
            refine x_mul rfl ?_
            refine x_add rfl ?_
            refine x_push rfl ?_
            refine x_add rfl ?_
            refine x_ldI rfl rfl ?_
            refine x_push rfl ?_
            refine x_div rfl (by decide) ?_
            refine x_ast rfl rfl rfl (by omega) rfl ?_
            refine x_ldI rfl rfl ?_
            exact x_retI rfl (by (first | rfl | omega | (simp (disch := omega) only [us_d, ua_ua, ua_eq, mup_ne, mup_eq, m_div_pos, m_rem_pos]))) (by (first | rfl | (simp (disch := omega) only [us_d, ua_ua, ua_eq, mup_ne, mup_eq, m_div_pos, m_rem_pos]))))
       · first
         | (exfalso; omega)
         | (refine x_ldR rfl rfl rfl ?_
            refine x_push rfl ?_
            refine x_callV rfl rfl rfl rfl rfl rfl rfl r_finds1 ?_
            exact x_retI rfl (by (first | rfl | omega | (simp (disch := omega) only [us_d, ua_ua, ua_eq, mup_ne, mup_eq, m_div_pos, m_rem_pos]))) (by (first | rfl | (simp (disch := omega) only [us_d, ua_ua, ua_eq, mup_ne, mup_eq, m_div_pos, m_rem_pos])))))
theorem r_become_n {d : Nat} {s : mSt} (hM : MOk (s 147)) {w km : Int} (hrw : -2147483648 ≤ w ∧ w < 2147483648) (hrkm : -2147483648 ≤ km ∧ km < 2147483648) (hy : ¬ ((0 ≤ w ∧ w ≤ s 147 39 - 1) ∧ 0 ≤ km ∧ km ≤ 69)) : Call (d + 2) 209 [.inr (.inr 146), .inl w, .inl km] (encA s) (some (.inl (-1000000000 - 1))) (encA (us s 150 1 (s 150 1 + 1))) := by
  refine ⟨Nat.le_of_ble_eq_true rfl, ?_⟩
  show Run (d + 2) 209 0 [some (.inr (.inr 146)), some (.inl w), some (.inl km), none] [] (encA s) (some (.inl (-1000000000 - 1))) (encA (us s 150 1 (s 150 1 + 1)))
  obtain ⟨hM39, hM40, hM41, hM43, hM44, hM36, hM37, hM38, hMc, hMw, hMp, hMt, hMb⟩ := hM
  refine x_ldR rfl rfl rfl ?_
  refine x_ldI rfl rfl ?_
  refine x_callV rfl rfl rfl rfl rfl rfl rfl (r_isWindow (by omega) (by omega)) ?_
  refine x_bEq0 rfl (fun h_1 => ?_) (fun h_1 => ?_)
  · first
    | (exfalso; omega)
    | (refine x_ldR rfl rfl rfl ?_
       refine x_push rfl ?_
       refine x_callV rfl rfl rfl rfl rfl rfl rfl r_finds1 ?_
       exact x_retI rfl (by (first | rfl | omega | (simp (disch := omega) only [us_d, ua_ua, ua_eq, mup_ne, mup_eq, m_div_pos, m_rem_pos]))) (by (first | rfl | (simp (disch := omega) only [us_d, ua_ua, ua_eq, mup_ne, mup_eq, m_div_pos, m_rem_pos]))))
  · first
    | (exfalso; omega)
    | (refine x_ldI rfl rfl ?_
       refine x_i2lr rfl (by omega) ?_
       refine x_push rfl ?_
       refine x_push rfl ?_
       refine x_call rfl rfl rfl (r_in (by omega) (by omega) (by omega)) ?_
       refine x_bNe0 rfl (fun h_2 => ?_) (fun h_2 => ?_)
       · first
         | (exfalso; omega)
         | (refine x_ldR rfl rfl rfl ?_
            refine x_ldI rfl rfl ?_
            refine x_push rfl ?_
            refine x_callV rfl rfl rfl rfl rfl rfl rfl (r_ofIt (by omega) (by omega)) ?_
            refine x_StI_4_3 rfl rfl ?_
            refine x_ldR rfl rfl rfl ?_
            first | refine x_getI rfl rfl rfl rfl rfl ?_ | refine x_getR rfl rfl rfl rfl rfl ?_
            refine x_push rfl ?_
            refine x_push rfl ?_
            refine x_ldI rfl rfl ?_
            refine x_mul rfl ?_
            refine x_add rfl ?_
            refine x_push rfl ?_
            refine x_add rfl ?_
            refine x_ldI rfl rfl ?_
            refine x_push rfl ?_
            refine x_div rfl (by decide) ?_
            refine x_ast rfl rfl rfl (by omega) rfl ?_
            refine x_ldR rfl rfl rfl ?_
            first | refine x_getI rfl rfl rfl rfl rfl ?_ | refine x_getR rfl rfl rfl rfl rfl ?_
            refine x_push rfl ?_
            refine x_push rfl ?_
            refine x_ldI rfl rfl ?_
            refine x_mul rfl ?_
            refine x_add rfl ?_
            refine x_push rfl ?_
            refine x_add rfl ?_
            refine x_ldI rfl rfl ?_
            refine x_push rfl ?_
            refine x_div rfl (by decide) ?_
            refine x_ast rfl rfl rfl (by omega) rfl ?_
            refine x_ldI rfl rfl ?_
            exact x_retI rfl (by (first | rfl | omega | (simp (disch := omega) only [us_d, ua_ua, ua_eq, mup_ne, mup_eq, m_div_pos, m_rem_pos]))) (by (first | rfl | (simp (disch := omega) only [us_d, ua_ua, ua_eq, mup_ne, mup_eq, m_div_pos, m_rem_pos]))))
       · first
         | (exfalso; omega)
         | (refine x_ldR rfl rfl rfl ?_
            refine x_push rfl ?_
            refine x_callV rfl rfl rfl rfl rfl rfl rfl r_finds1 ?_
            exact x_retI rfl (by (first | rfl | omega | (simp (disch := omega) only [us_d, ua_ua, ua_eq, mup_ne, mup_eq, m_div_pos, m_rem_pos]))) (by (first | rfl | (simp (disch := omega) only [us_d, ua_ua, ua_eq, mup_ne, mup_eq, m_div_pos, m_rem_pos])))))
theorem r_above {d : Nat} {s : mSt} {k : Int} (hk : 0 ≤ k ∧ k ≤ 6) : Call (d + 0) 210 [.inl k] (encA s) (some (.inl (abv k))) (encA (s)) := by
  refine ⟨Nat.le_of_ble_eq_true rfl, ?_⟩
  show Run (d + 0) 210 0 [some (.inl k)] [] (encA s) (some (.inl (abv k))) (encA (s))
  refine x_ldI rfl rfl ?_
  refine x_push rfl ?_
  refine x_crGe rfl (by omega) (by omega) (fun h_1 => ?_) (fun h_1 => ?_)
  · first
    | (exfalso; omega)
    | (refine x_ldI rfl rfl ?_
       refine x_push rfl ?_
       refine x_sub rfl ?_
       exact x_retI rfl (by (unfold abv; split <;> omega)) (by rfl))
  · first
    | (exfalso; omega)
    | (refine x_push rfl ?_
       refine x_go rfl ?_
       exact x_retI rfl (by (unfold abv; split <;> omega)) (by rfl))
theorem r_person_y {d : Nat} {s : mSt} (hM : MOk (s 147)) {c n : Int} (hrc : -2147483648 ≤ c ∧ c < 2147483648) (hrn : -2147483648 ≤ n ∧ n < 2147483648) (hy : (0 ≤ c ∧ c ≤ 35) ∧ 1 ≤ n ∧ n ≤ 20) (h6 : ¬ s 147 40 = 10) : Call (d + 2) 213 [.inr (.inr 146), .inl c, .inl n] (encA s) (some (.inl (s 147 40))) (encA (ua s 147 (mup (mup (mup (mup (mup (s 147) ((69 + 4 * s 147 40 + 0).toNat) (c)) ((69 + 4 * s 147 40 + 1).toNat) (n)) ((69 + 4 * s 147 40 + 2).toNat) (20)) ((69 + 4 * s 147 40 + 3).toNat) (0)) (40) (s 147 40 + 1)))) := by
  refine ⟨Nat.le_of_ble_eq_true rfl, ?_⟩
  show Run (d + 2) 213 0 [some (.inr (.inr 146)), some (.inl c), some (.inl n), none] [] (encA s) (some (.inl (s 147 40))) (encA (ua s 147 (mup (mup (mup (mup (mup (s 147) ((69 + 4 * s 147 40 + 0).toNat) (c)) ((69 + 4 * s 147 40 + 1).toNat) (n)) ((69 + 4 * s 147 40 + 2).toNat) (20)) ((69 + 4 * s 147 40 + 3).toNat) (0)) (40) (s 147 40 + 1))))
  obtain ⟨hM39, hM40, hM41, hM43, hM44, hM36, hM37, hM38, hMc, hMw, hMp, hMt, hMb⟩ := hM
  refine x_ldI rfl rfl ?_
  refine x_call rfl rfl rfl (r_isCell (by omega)) ?_
  refine x_bEq0 rfl (fun h_1 => ?_) (fun h_1 => ?_)
  · first
    | (exfalso; omega)
    | (refine x_ldR rfl rfl rfl ?_
       refine x_push rfl ?_
       refine x_callV rfl rfl rfl rfl rfl rfl rfl r_finds1 ?_
       exact x_retI rfl (by (first | rfl | omega | (simp (disch := omega) only [us_d, ua_ua, ua_eq, mup_ne, mup_eq, m_div_pos, m_rem_pos]))) (by (first | rfl | (simp (disch := omega) only [us_d, ua_ua, ua_eq, mup_ne, mup_eq, m_div_pos, m_rem_pos]))))
  · first
    | (exfalso; omega)
    | (refine x_ldI rfl rfl ?_
       refine x_i2lr rfl (by omega) ?_
       refine x_push rfl ?_
       refine x_push rfl ?_
       refine x_call rfl rfl rfl (r_in (by omega) (by omega) (by omega)) ?_
       refine x_bNe0 rfl (fun h_2 => ?_) (fun h_2 => ?_)
       · first
         | (exfalso; omega)
         | (refine x_ldR rfl rfl rfl ?_
            first | refine x_getI rfl rfl rfl rfl rfl ?_ | refine x_getR rfl rfl rfl rfl rfl ?_
            refine x_push rfl ?_
            refine x_aldk 40 rfl rfl rfl rfl rfl rfl ?_
            refine x_push rfl ?_
            refine x_crNe rfl (by omega) (by omega) (fun h_3 => ?_) (fun h_3 => ?_)
            · first
              | (exfalso; omega)
              | (refine x_ldR rfl rfl rfl ?_
                 first | refine x_getI rfl rfl rfl rfl rfl ?_ | refine x_getR rfl rfl rfl rfl rfl ?_
                 refine x_push rfl ?_
                 refine x_aldk 40 rfl rfl rfl rfl rfl rfl ?_
                 refine x_StI_4_3 rfl rfl ?_
                 refine x_ldR rfl rfl rfl ?_
                 first | refine x_getI rfl rfl rfl rfl rfl ?_ | refine x_getR rfl rfl rfl rfl rfl ?_
                 refine x_push rfl ?_
                 refine x_push rfl ?_
                 refine x_ldI rfl rfl ?_
                 refine x_mul rfl ?_
                 refine x_add rfl ?_
                 refine x_push rfl ?_
                 refine x_add rfl ?_
                 refine x_ldI rfl rfl ?_
                 refine x_ast rfl rfl rfl (by omega) rfl ?_
                 refine x_ldR rfl rfl rfl ?_
                 first | refine x_getI rfl rfl rfl rfl rfl ?_ | refine x_getR rfl rfl rfl rfl rfl ?_
                 refine x_push rfl ?_
                 refine x_push rfl ?_
                 refine x_ldI rfl rfl ?_
                 refine x_mul rfl ?_
                 refine x_add rfl ?_
                 refine x_push rfl ?_
                 refine x_add rfl ?_
                 refine x_ldI rfl rfl ?_
                 refine x_ast rfl rfl rfl (by omega) rfl ?_
                 refine x_ldR rfl rfl rfl ?_
                 first | refine x_getI rfl rfl rfl rfl rfl ?_ | refine x_getR rfl rfl rfl rfl rfl ?_
                 refine x_push rfl ?_
                 refine x_push rfl ?_
                 refine x_ldI rfl rfl ?_
                 refine x_mul rfl ?_
                 refine x_add rfl ?_
                 refine x_push rfl ?_
                 refine x_add rfl ?_
                 refine x_push rfl ?_
                 refine x_ast rfl rfl rfl (by omega) rfl ?_
                 refine x_ldR rfl rfl rfl ?_
                 first | refine x_getI rfl rfl rfl rfl rfl ?_ | refine x_getR rfl rfl rfl rfl rfl ?_
                 refine x_push rfl ?_
                 refine x_push rfl ?_
                 refine x_ldI rfl rfl ?_
                 refine x_mul rfl ?_
                 refine x_add rfl ?_
                 refine x_push rfl ?_
                 refine x_add rfl ?_
                 refine x_push rfl ?_
                 refine x_ast rfl rfl rfl (by omega) rfl ?_
                 refine x_ldR rfl rfl rfl ?_
                 first | refine x_getI rfl rfl rfl rfl rfl ?_ | refine x_getR rfl rfl rfl rfl rfl ?_
                 refine x_push rfl ?_
                 refine x_dup2 rfl ?_
                 refine x_aldk 40 rfl rfl rfl rfl rfl rfl ?_
                 refine x_push rfl ?_
                 refine x_add rfl ?_
                 refine x_astk 40 rfl rfl rfl rfl rfl rfl ?_
                 refine x_ldI rfl rfl ?_
                 exact x_retI rfl (by (first | rfl | omega | (simp (disch := omega) only [us_d, ua_ua, ua_eq, mup_ne, mup_eq, m_div_pos, m_rem_pos]))) (by (first | rfl | (simp (disch := omega) only [us_d, ua_ua, ua_eq, mup_ne, mup_eq, m_div_pos, m_rem_pos]))))
            · first
              | (exfalso; omega)
              | (refine x_ldR rfl rfl rfl ?_
                 refine x_push rfl ?_
                 refine x_callV rfl rfl rfl rfl rfl rfl rfl r_finds1 ?_
                 exact x_retI rfl (by (first | rfl | omega | (simp (disch := omega) only [us_d, ua_ua, ua_eq, mup_ne, mup_eq, m_div_pos, m_rem_pos]))) (by (first | rfl | (simp (disch := omega) only [us_d, ua_ua, ua_eq, mup_ne, mup_eq, m_div_pos, m_rem_pos])))))
       · first
         | (exfalso; omega)
         | (refine x_ldR rfl rfl rfl ?_
            refine x_push rfl ?_
            refine x_callV rfl rfl rfl rfl rfl rfl rfl r_finds1 ?_
            exact x_retI rfl (by (first | rfl | omega | (simp (disch := omega) only [us_d, ua_ua, ua_eq, mup_ne, mup_eq, m_div_pos, m_rem_pos]))) (by (first | rfl | (simp (disch := omega) only [us_d, ua_ua, ua_eq, mup_ne, mup_eq, m_div_pos, m_rem_pos])))))
theorem r_person_n {d : Nat} {s : mSt} (hM : MOk (s 147)) {c n : Int} (hrc : -2147483648 ≤ c ∧ c < 2147483648) (hrn : -2147483648 ≤ n ∧ n < 2147483648) (hy : ¬ ((0 ≤ c ∧ c ≤ 35) ∧ 1 ≤ n ∧ n ≤ 20)) : Call (d + 2) 213 [.inr (.inr 146), .inl c, .inl n] (encA s) (some (.inl (-1000000000 - 1))) (encA (us s 150 1 (s 150 1 + 1))) := by
  refine ⟨Nat.le_of_ble_eq_true rfl, ?_⟩
  show Run (d + 2) 213 0 [some (.inr (.inr 146)), some (.inl c), some (.inl n), none] [] (encA s) (some (.inl (-1000000000 - 1))) (encA (us s 150 1 (s 150 1 + 1)))
  obtain ⟨hM39, hM40, hM41, hM43, hM44, hM36, hM37, hM38, hMc, hMw, hMp, hMt, hMb⟩ := hM
  refine x_ldI rfl rfl ?_
  refine x_call rfl rfl rfl (r_isCell (by omega)) ?_
  refine x_bEq0 rfl (fun h_1 => ?_) (fun h_1 => ?_)
  · first
    | (exfalso; omega)
    | (refine x_ldR rfl rfl rfl ?_
       refine x_push rfl ?_
       refine x_callV rfl rfl rfl rfl rfl rfl rfl r_finds1 ?_
       exact x_retI rfl (by (first | rfl | omega | (simp (disch := omega) only [us_d, ua_ua, ua_eq, mup_ne, mup_eq, m_div_pos, m_rem_pos]))) (by (first | rfl | (simp (disch := omega) only [us_d, ua_ua, ua_eq, mup_ne, mup_eq, m_div_pos, m_rem_pos]))))
  · first
    | (exfalso; omega)
    | (refine x_ldI rfl rfl ?_
       refine x_i2lr rfl (by omega) ?_
       refine x_push rfl ?_
       refine x_push rfl ?_
       refine x_call rfl rfl rfl (r_in (by omega) (by omega) (by omega)) ?_
       refine x_bNe0 rfl (fun h_2 => ?_) (fun h_2 => ?_)
       · first
         | (exfalso; omega)
         | (refine x_ldR rfl rfl rfl ?_
            first | refine x_getI rfl rfl rfl rfl rfl ?_ | refine x_getR rfl rfl rfl rfl rfl ?_
            refine x_push rfl ?_
            refine x_aldk 40 rfl rfl rfl rfl rfl rfl ?_
            refine x_push rfl ?_
            refine x_crNe rfl (by omega) (by omega) (fun h_3 => ?_) (fun h_3 => ?_)
            · first
              | (exfalso; omega)
              | (refine x_ldR rfl rfl rfl ?_
                 first | refine x_getI rfl rfl rfl rfl rfl ?_ | refine x_getR rfl rfl rfl rfl rfl ?_
                 refine x_push rfl ?_
                 refine x_aldk 40 rfl rfl rfl rfl rfl rfl ?_
                 refine x_StI_4_3 rfl rfl ?_
                 refine x_ldR rfl rfl rfl ?_
                 first | refine x_getI rfl rfl rfl rfl rfl ?_ | refine x_getR rfl rfl rfl rfl rfl ?_
                 refine x_push rfl ?_
                 refine x_push rfl ?_
                 refine x_ldI rfl rfl ?_
                 refine x_mul rfl ?_
                 refine x_add rfl ?_
                 refine x_push rfl ?_
                 refine x_add rfl ?_
                 refine x_ldI rfl rfl ?_
                 refine x_ast rfl rfl rfl (by omega) rfl ?_
                 refine x_ldR rfl rfl rfl ?_
                 first | refine x_getI rfl rfl rfl rfl rfl ?_ | refine x_getR rfl rfl rfl rfl rfl ?_
                 refine x_push rfl ?_
                 refine x_push rfl ?_
                 refine x_ldI rfl rfl ?_
                 refine x_mul rfl ?_
                 refine x_add rfl ?_
                 refine x_push rfl ?_
                 refine x_add rfl ?_
                 refine x_ldI rfl rfl ?_
                 refine x_ast rfl rfl rfl (by omega) rfl ?_
                 refine x_ldR rfl rfl rfl ?_
                 first | refine x_getI rfl rfl rfl rfl rfl ?_ | refine x_getR rfl rfl rfl rfl rfl ?_
                 refine x_push rfl ?_
                 refine x_push rfl ?_
                 refine x_ldI rfl rfl ?_
                 refine x_mul rfl ?_
                 refine x_add rfl ?_
                 refine x_push rfl ?_
                 refine x_add rfl ?_
                 refine x_push rfl ?_
                 refine x_ast rfl rfl rfl (by omega) rfl ?_
                 refine x_ldR rfl rfl rfl ?_
                 first | refine x_getI rfl rfl rfl rfl rfl ?_ | refine x_getR rfl rfl rfl rfl rfl ?_
                 refine x_push rfl ?_
                 refine x_push rfl ?_
                 refine x_ldI rfl rfl ?_
                 refine x_mul rfl ?_
                 refine x_add rfl ?_
                 refine x_push rfl ?_
                 refine x_add rfl ?_
                 refine x_push rfl ?_
                 refine x_ast rfl rfl rfl (by omega) rfl ?_
                 refine x_ldR rfl rfl rfl ?_
                 first | refine x_getI rfl rfl rfl rfl rfl ?_ | refine x_getR rfl rfl rfl rfl rfl ?_
                 refine x_push rfl ?_
                 refine x_dup2 rfl ?_
                 refine x_aldk 40 rfl rfl rfl rfl rfl rfl ?_
                 refine x_push rfl ?_
                 refine x_add rfl ?_
                 refine x_astk 40 rfl rfl rfl rfl rfl rfl ?_
                 refine x_ldI rfl rfl ?_
                 exact x_retI rfl (by (first | rfl | omega | (simp (disch := omega) only [us_d, ua_ua, ua_eq, mup_ne, mup_eq, m_div_pos, m_rem_pos]))) (by (first | rfl | (simp (disch := omega) only [us_d, ua_ua, ua_eq, mup_ne, mup_eq, m_div_pos, m_rem_pos]))))
            · first
              | (exfalso; omega)
              | (refine x_ldR rfl rfl rfl ?_
                 refine x_push rfl ?_
                 refine x_callV rfl rfl rfl rfl rfl rfl rfl r_finds1 ?_
                 exact x_retI rfl (by (first | rfl | omega | (simp (disch := omega) only [us_d, ua_ua, ua_eq, mup_ne, mup_eq, m_div_pos, m_rem_pos]))) (by (first | rfl | (simp (disch := omega) only [us_d, ua_ua, ua_eq, mup_ne, mup_eq, m_div_pos, m_rem_pos])))))
       · first
         | (exfalso; omega)
         | (refine x_ldR rfl rfl rfl ?_
            refine x_push rfl ?_
            refine x_callV rfl rfl rfl rfl rfl rfl rfl r_finds1 ?_
            exact x_retI rfl (by (first | rfl | omega | (simp (disch := omega) only [us_d, ua_ua, ua_eq, mup_ne, mup_eq, m_div_pos, m_rem_pos]))) (by (first | rfl | (simp (disch := omega) only [us_d, ua_ua, ua_eq, mup_ne, mup_eq, m_div_pos, m_rem_pos])))))
theorem r_person_f {d : Nat} {s : mSt} (hM : MOk (s 147)) {c n : Int} (hrc : -2147483648 ≤ c ∧ c < 2147483648) (hrn : -2147483648 ≤ n ∧ n < 2147483648) (hy : (0 ≤ c ∧ c ≤ 35) ∧ 1 ≤ n ∧ n ≤ 20) (h6 : s 147 40 = 10) : Call (d + 2) 213 [.inr (.inr 146), .inl c, .inl n] (encA s) (some (.inl (-1000000000 - 4))) (encA (us s 150 4 (s 150 4 + 1))) := by
  refine ⟨Nat.le_of_ble_eq_true rfl, ?_⟩
  show Run (d + 2) 213 0 [some (.inr (.inr 146)), some (.inl c), some (.inl n), none] [] (encA s) (some (.inl (-1000000000 - 4))) (encA (us s 150 4 (s 150 4 + 1)))
  obtain ⟨hM39, hM40, hM41, hM43, hM44, hM36, hM37, hM38, hMc, hMw, hMp, hMt, hMb⟩ := hM
  refine x_ldI rfl rfl ?_
  refine x_call rfl rfl rfl (r_isCell (by omega)) ?_
  refine x_bEq0 rfl (fun h_1 => ?_) (fun h_1 => ?_)
  · first
    | (exfalso; omega)
    | (refine x_ldR rfl rfl rfl ?_
       refine x_push rfl ?_
       refine x_callV rfl rfl rfl rfl rfl rfl rfl r_finds4 ?_
       exact x_retI rfl (by (first | rfl | omega | (simp (disch := omega) only [us_d, ua_ua, ua_eq, mup_ne, mup_eq, m_div_pos, m_rem_pos]))) (by (first | rfl | (simp (disch := omega) only [us_d, ua_ua, ua_eq, mup_ne, mup_eq, m_div_pos, m_rem_pos]))))
  · first
    | (exfalso; omega)
    | (refine x_ldI rfl rfl ?_
       refine x_i2lr rfl (by omega) ?_
       refine x_push rfl ?_
       refine x_push rfl ?_
       refine x_call rfl rfl rfl (r_in (by omega) (by omega) (by omega)) ?_
       refine x_bNe0 rfl (fun h_2 => ?_) (fun h_2 => ?_)
       · first
         | (exfalso; omega)
         | (refine x_ldR rfl rfl rfl ?_
            first | refine x_getI rfl rfl rfl rfl rfl ?_ | refine x_getR rfl rfl rfl rfl rfl ?_
            refine x_push rfl ?_
            refine x_aldk 40 rfl rfl rfl rfl rfl rfl ?_
            refine x_push rfl ?_
            refine x_crNe rfl (by omega) (by omega) (fun h_3 => ?_) (fun h_3 => ?_)
            · first
              | (exfalso; omega)
              | (refine x_ldR rfl rfl rfl ?_
                 first | refine x_getI rfl rfl rfl rfl rfl ?_ | refine x_getR rfl rfl rfl rfl rfl ?_
                 refine x_push rfl ?_
                 refine x_aldk 40 rfl rfl rfl rfl rfl rfl ?_
                 refine x_StI_4_3 rfl rfl ?_
                 refine x_ldR rfl rfl rfl ?_
                 first | refine x_getI rfl rfl rfl rfl rfl ?_ | refine x_getR rfl rfl rfl rfl rfl ?_
                 refine x_push rfl ?_
                 refine x_push rfl ?_
                 refine x_ldI rfl rfl ?_
                 refine x_mul rfl ?_
                 refine x_add rfl ?_
                 refine x_push rfl ?_
                 refine x_add rfl ?_
                 refine x_ldI rfl rfl ?_
                 refine x_ast rfl rfl rfl (by omega) rfl ?_
                 refine x_ldR rfl rfl rfl ?_
                 first | refine x_getI rfl rfl rfl rfl rfl ?_ | refine x_getR rfl rfl rfl rfl rfl ?_
                 refine x_push rfl ?_
                 refine x_push rfl ?_
                 refine x_ldI rfl rfl ?_
                 refine x_mul rfl ?_
                 refine x_add rfl ?_
                 refine x_push rfl ?_
                 refine x_add rfl ?_
                 refine x_ldI rfl rfl ?_
                 refine x_ast rfl rfl rfl (by omega) rfl ?_
                 refine x_ldR rfl rfl rfl ?_
                 first | refine x_getI rfl rfl rfl rfl rfl ?_ | refine x_getR rfl rfl rfl rfl rfl ?_
                 refine x_push rfl ?_
                 refine x_push rfl ?_
                 refine x_ldI rfl rfl ?_
                 refine x_mul rfl ?_
                 refine x_add rfl ?_
                 refine x_push rfl ?_
                 refine x_add rfl ?_
                 refine x_push rfl ?_
                 refine x_ast rfl rfl rfl (by omega) rfl ?_
                 refine x_ldR rfl rfl rfl ?_
                 first | refine x_getI rfl rfl rfl rfl rfl ?_ | refine x_getR rfl rfl rfl rfl rfl ?_
                 refine x_push rfl ?_
                 refine x_push rfl ?_
                 refine x_ldI rfl rfl ?_
                 refine x_mul rfl ?_
                 refine x_add rfl ?_
                 refine x_push rfl ?_
                 refine x_add rfl ?_
                 refine x_push rfl ?_
                 refine x_ast rfl rfl rfl (by omega) rfl ?_
                 refine x_ldR rfl rfl rfl ?_
                 first | refine x_getI rfl rfl rfl rfl rfl ?_ | refine x_getR rfl rfl rfl rfl rfl ?_
                 refine x_push rfl ?_
                 refine x_dup2 rfl ?_
                 refine x_aldk 40 rfl rfl rfl rfl rfl rfl ?_
                 refine x_push rfl ?_
                 refine x_add rfl ?_
                 refine x_astk 40 rfl rfl rfl rfl rfl rfl ?_
                 refine x_ldI rfl rfl ?_
                 exact x_retI rfl (by (first | rfl | omega | (simp (disch := omega) only [us_d, ua_ua, ua_eq, mup_ne, mup_eq, m_div_pos, m_rem_pos]))) (by (first | rfl | (simp (disch := omega) only [us_d, ua_ua, ua_eq, mup_ne, mup_eq, m_div_pos, m_rem_pos]))))
            · first
              | (exfalso; omega)
              | (refine x_ldR rfl rfl rfl ?_
                 refine x_push rfl ?_
                 refine x_callV rfl rfl rfl rfl rfl rfl rfl r_finds4 ?_
                 exact x_retI rfl (by (first | rfl | omega | (simp (disch := omega) only [us_d, ua_ua, ua_eq, mup_ne, mup_eq, m_div_pos, m_rem_pos]))) (by (first | rfl | (simp (disch := omega) only [us_d, ua_ua, ua_eq, mup_ne, mup_eq, m_div_pos, m_rem_pos])))))
       · first
         | (exfalso; omega)
         | (refine x_ldR rfl rfl rfl ?_
            refine x_push rfl ?_
            refine x_callV rfl rfl rfl rfl rfl rfl rfl r_finds4 ?_
            exact x_retI rfl (by (first | rfl | omega | (simp (disch := omega) only [us_d, ua_ua, ua_eq, mup_ne, mup_eq, m_div_pos, m_rem_pos]))) (by (first | rfl | (simp (disch := omega) only [us_d, ua_ua, ua_eq, mup_ne, mup_eq, m_div_pos, m_rem_pos])))))
theorem r_turn_y {d : Nat} {s : mSt} (hM : MOk (s 147)) {w : Int} (hrw : -2147483648 ≤ w ∧ w < 2147483648) (hy : 0 ≤ w ∧ w ≤ s 147 39 - 1) (h6 : ¬ s 147 41 = 12) : Call (d + 2) 218 [.inr (.inr 146), .inl w] (encA s) (some (.inl (s 147 41 + 1))) (encA (ua s 147 (mup (mup (s 147) ((109 + s 147 41).toNat) (w)) (41) (s 147 41 + 1)))) := by
  refine ⟨Nat.le_of_ble_eq_true rfl, ?_⟩
  show Run (d + 2) 218 0 [some (.inr (.inr 146)), some (.inl w)] [] (encA s) (some (.inl (s 147 41 + 1))) (encA (ua s 147 (mup (mup (s 147) ((109 + s 147 41).toNat) (w)) (41) (s 147 41 + 1))))
  obtain ⟨hM39, hM40, hM41, hM43, hM44, hM36, hM37, hM38, hMc, hMw, hMp, hMt, hMb⟩ := hM
  refine x_ldR rfl rfl rfl ?_
  refine x_ldI rfl rfl ?_
  refine x_callV rfl rfl rfl rfl rfl rfl rfl (r_isWindow (by omega) (by omega)) ?_
  refine x_bNe0 rfl (fun h_1 => ?_) (fun h_1 => ?_)
  · first
    | (exfalso; omega)
    | (refine x_ldR rfl rfl rfl ?_
       first | refine x_getI rfl rfl rfl rfl rfl ?_ | refine x_getR rfl rfl rfl rfl rfl ?_
       refine x_push rfl ?_
       refine x_aldk 41 rfl rfl rfl rfl rfl rfl ?_
       refine x_push rfl ?_
       refine x_crNe rfl (by omega) (by omega) (fun h_2 => ?_) (fun h_2 => ?_)
       · first
         | (exfalso; omega)
         | (refine x_ldR rfl rfl rfl ?_
            first | refine x_getI rfl rfl rfl rfl rfl ?_ | refine x_getR rfl rfl rfl rfl rfl ?_
            refine x_push rfl ?_
            refine x_ldR rfl rfl rfl ?_
            first | refine x_getI rfl rfl rfl rfl rfl ?_ | refine x_getR rfl rfl rfl rfl rfl ?_
            refine x_push rfl ?_
            refine x_aldk 41 rfl rfl rfl rfl rfl rfl ?_
            refine x_add rfl ?_
            refine x_ldI rfl rfl ?_
            refine x_ast rfl rfl rfl (by omega) rfl ?_
            refine x_ldR rfl rfl rfl ?_
            first | refine x_getI rfl rfl rfl rfl rfl ?_ | refine x_getR rfl rfl rfl rfl rfl ?_
            refine x_push rfl ?_
            refine x_dup2 rfl ?_
            refine x_aldk 41 rfl rfl rfl rfl rfl rfl ?_
            refine x_push rfl ?_
            refine x_add rfl ?_
            refine x_astk 41 rfl rfl rfl rfl rfl rfl ?_
            refine x_ldR rfl rfl rfl ?_
            first | refine x_getI rfl rfl rfl rfl rfl ?_ | refine x_getR rfl rfl rfl rfl rfl ?_
            refine x_push rfl ?_
            refine x_aldk 41 rfl rfl rfl rfl rfl rfl ?_
            exact x_retI rfl (by (first | rfl | omega | (simp (disch := omega) only [us_d, ua_ua, ua_eq, mup_ne, mup_eq, m_div_pos, m_rem_pos]))) (by (first | rfl | (simp (disch := omega) only [us_d, ua_ua, ua_eq, mup_ne, mup_eq, m_div_pos, m_rem_pos]))))
       · first
         | (exfalso; omega)
         | (refine x_ldR rfl rfl rfl ?_
            refine x_push rfl ?_
            refine x_callV rfl rfl rfl rfl rfl rfl rfl r_finds1 ?_
            exact x_retI rfl (by (first | rfl | omega | (simp (disch := omega) only [us_d, ua_ua, ua_eq, mup_ne, mup_eq, m_div_pos, m_rem_pos]))) (by (first | rfl | (simp (disch := omega) only [us_d, ua_ua, ua_eq, mup_ne, mup_eq, m_div_pos, m_rem_pos])))))
  · first
    | (exfalso; omega)
    | (refine x_ldR rfl rfl rfl ?_
       refine x_push rfl ?_
       refine x_callV rfl rfl rfl rfl rfl rfl rfl r_finds1 ?_
       exact x_retI rfl (by (first | rfl | omega | (simp (disch := omega) only [us_d, ua_ua, ua_eq, mup_ne, mup_eq, m_div_pos, m_rem_pos]))) (by (first | rfl | (simp (disch := omega) only [us_d, ua_ua, ua_eq, mup_ne, mup_eq, m_div_pos, m_rem_pos]))))
theorem r_turn_n {d : Nat} {s : mSt} (hM : MOk (s 147)) {w : Int} (hrw : -2147483648 ≤ w ∧ w < 2147483648) (hy : ¬ (0 ≤ w ∧ w ≤ s 147 39 - 1)) : Call (d + 2) 218 [.inr (.inr 146), .inl w] (encA s) (some (.inl (-1000000000 - 1))) (encA (us s 150 1 (s 150 1 + 1))) := by
  refine ⟨Nat.le_of_ble_eq_true rfl, ?_⟩
  show Run (d + 2) 218 0 [some (.inr (.inr 146)), some (.inl w)] [] (encA s) (some (.inl (-1000000000 - 1))) (encA (us s 150 1 (s 150 1 + 1)))
  obtain ⟨hM39, hM40, hM41, hM43, hM44, hM36, hM37, hM38, hMc, hMw, hMp, hMt, hMb⟩ := hM
  refine x_ldR rfl rfl rfl ?_
  refine x_ldI rfl rfl ?_
  refine x_callV rfl rfl rfl rfl rfl rfl rfl (r_isWindow (by omega) (by omega)) ?_
  refine x_bNe0 rfl (fun h_1 => ?_) (fun h_1 => ?_)
  · first
    | (exfalso; omega)
    | (refine x_ldR rfl rfl rfl ?_
       first | refine x_getI rfl rfl rfl rfl rfl ?_ | refine x_getR rfl rfl rfl rfl rfl ?_
       refine x_push rfl ?_
       refine x_aldk 41 rfl rfl rfl rfl rfl rfl ?_
       refine x_push rfl ?_
       refine x_crNe rfl (by omega) (by omega) (fun h_2 => ?_) (fun h_2 => ?_)
       · first
         | (exfalso; omega)
         | (refine x_ldR rfl rfl rfl ?_
            first | refine x_getI rfl rfl rfl rfl rfl ?_ | refine x_getR rfl rfl rfl rfl rfl ?_
            refine x_push rfl ?_
            refine x_ldR rfl rfl rfl ?_
            first | refine x_getI rfl rfl rfl rfl rfl ?_ | refine x_getR rfl rfl rfl rfl rfl ?_
            refine x_push rfl ?_
            refine x_aldk 41 rfl rfl rfl rfl rfl rfl ?_
            refine x_add rfl ?_
            refine x_ldI rfl rfl ?_
            refine x_ast rfl rfl rfl (by omega) rfl ?_
            refine x_ldR rfl rfl rfl ?_
            first | refine x_getI rfl rfl rfl rfl rfl ?_ | refine x_getR rfl rfl rfl rfl rfl ?_
            refine x_push rfl ?_
            refine x_dup2 rfl ?_
            refine x_aldk 41 rfl rfl rfl rfl rfl rfl ?_
            refine x_push rfl ?_
            refine x_add rfl ?_
            refine x_astk 41 rfl rfl rfl rfl rfl rfl ?_
            refine x_ldR rfl rfl rfl ?_
            first | refine x_getI rfl rfl rfl rfl rfl ?_ | refine x_getR rfl rfl rfl rfl rfl ?_
            refine x_push rfl ?_
            refine x_aldk 41 rfl rfl rfl rfl rfl rfl ?_
            exact x_retI rfl (by (first | rfl | omega | (simp (disch := omega) only [us_d, ua_ua, ua_eq, mup_ne, mup_eq, m_div_pos, m_rem_pos]))) (by (first | rfl | (simp (disch := omega) only [us_d, ua_ua, ua_eq, mup_ne, mup_eq, m_div_pos, m_rem_pos]))))
       · first
         | (exfalso; omega)
         | (refine x_ldR rfl rfl rfl ?_
            refine x_push rfl ?_
            refine x_callV rfl rfl rfl rfl rfl rfl rfl r_finds1 ?_
            exact x_retI rfl (by (first | rfl | omega | (simp (disch := omega) only [us_d, ua_ua, ua_eq, mup_ne, mup_eq, m_div_pos, m_rem_pos]))) (by (first | rfl | (simp (disch := omega) only [us_d, ua_ua, ua_eq, mup_ne, mup_eq, m_div_pos, m_rem_pos])))))
  · first
    | (exfalso; omega)
    | (refine x_ldR rfl rfl rfl ?_
       refine x_push rfl ?_
       refine x_callV rfl rfl rfl rfl rfl rfl rfl r_finds1 ?_
       exact x_retI rfl (by (first | rfl | omega | (simp (disch := omega) only [us_d, ua_ua, ua_eq, mup_ne, mup_eq, m_div_pos, m_rem_pos]))) (by (first | rfl | (simp (disch := omega) only [us_d, ua_ua, ua_eq, mup_ne, mup_eq, m_div_pos, m_rem_pos]))))
theorem r_turn_f {d : Nat} {s : mSt} (hM : MOk (s 147)) {w : Int} (hrw : -2147483648 ≤ w ∧ w < 2147483648) (hy : 0 ≤ w ∧ w ≤ s 147 39 - 1) (h6 : s 147 41 = 12) : Call (d + 2) 218 [.inr (.inr 146), .inl w] (encA s) (some (.inl (-1000000000 - 4))) (encA (us s 150 4 (s 150 4 + 1))) := by
  refine ⟨Nat.le_of_ble_eq_true rfl, ?_⟩
  show Run (d + 2) 218 0 [some (.inr (.inr 146)), some (.inl w)] [] (encA s) (some (.inl (-1000000000 - 4))) (encA (us s 150 4 (s 150 4 + 1)))
  obtain ⟨hM39, hM40, hM41, hM43, hM44, hM36, hM37, hM38, hMc, hMw, hMp, hMt, hMb⟩ := hM
  refine x_ldR rfl rfl rfl ?_
  refine x_ldI rfl rfl ?_
  refine x_callV rfl rfl rfl rfl rfl rfl rfl (r_isWindow (by omega) (by omega)) ?_
  refine x_bNe0 rfl (fun h_1 => ?_) (fun h_1 => ?_)
  · first
    | (exfalso; omega)
    | (refine x_ldR rfl rfl rfl ?_
       first | refine x_getI rfl rfl rfl rfl rfl ?_ | refine x_getR rfl rfl rfl rfl rfl ?_
       refine x_push rfl ?_
       refine x_aldk 41 rfl rfl rfl rfl rfl rfl ?_
       refine x_push rfl ?_
       refine x_crNe rfl (by omega) (by omega) (fun h_2 => ?_) (fun h_2 => ?_)
       · first
         | (exfalso; omega)
         | (refine x_ldR rfl rfl rfl ?_
            first | refine x_getI rfl rfl rfl rfl rfl ?_ | refine x_getR rfl rfl rfl rfl rfl ?_
            refine x_push rfl ?_
            refine x_ldR rfl rfl rfl ?_
            first | refine x_getI rfl rfl rfl rfl rfl ?_ | refine x_getR rfl rfl rfl rfl rfl ?_
            refine x_push rfl ?_
            refine x_aldk 41 rfl rfl rfl rfl rfl rfl ?_
            refine x_add rfl ?_
            refine x_ldI rfl rfl ?_
            refine x_ast rfl rfl rfl (by omega) rfl ?_
            refine x_ldR rfl rfl rfl ?_
            first | refine x_getI rfl rfl rfl rfl rfl ?_ | refine x_getR rfl rfl rfl rfl rfl ?_
            refine x_push rfl ?_
            refine x_dup2 rfl ?_
            refine x_aldk 41 rfl rfl rfl rfl rfl rfl ?_
            refine x_push rfl ?_
            refine x_add rfl ?_
            refine x_astk 41 rfl rfl rfl rfl rfl rfl ?_
            refine x_ldR rfl rfl rfl ?_
            first | refine x_getI rfl rfl rfl rfl rfl ?_ | refine x_getR rfl rfl rfl rfl rfl ?_
            refine x_push rfl ?_
            refine x_aldk 41 rfl rfl rfl rfl rfl rfl ?_
            exact x_retI rfl (by (first | rfl | omega | (simp (disch := omega) only [us_d, ua_ua, ua_eq, mup_ne, mup_eq, m_div_pos, m_rem_pos]))) (by (first | rfl | (simp (disch := omega) only [us_d, ua_ua, ua_eq, mup_ne, mup_eq, m_div_pos, m_rem_pos]))))
       · first
         | (exfalso; omega)
         | (refine x_ldR rfl rfl rfl ?_
            refine x_push rfl ?_
            refine x_callV rfl rfl rfl rfl rfl rfl rfl r_finds4 ?_
            exact x_retI rfl (by (first | rfl | omega | (simp (disch := omega) only [us_d, ua_ua, ua_eq, mup_ne, mup_eq, m_div_pos, m_rem_pos]))) (by (first | rfl | (simp (disch := omega) only [us_d, ua_ua, ua_eq, mup_ne, mup_eq, m_div_pos, m_rem_pos])))))
  · first
    | (exfalso; omega)
    | (refine x_ldR rfl rfl rfl ?_
       refine x_push rfl ?_
       refine x_callV rfl rfl rfl rfl rfl rfl rfl r_finds4 ?_
       exact x_retI rfl (by (first | rfl | omega | (simp (disch := omega) only [us_d, ua_ua, ua_eq, mup_ne, mup_eq, m_div_pos, m_rem_pos]))) (by (first | rfl | (simp (disch := omega) only [us_d, ua_ua, ua_eq, mup_ne, mup_eq, m_div_pos, m_rem_pos]))))
theorem r_litNow {d : Nat} {s : mSt} (hM : MOk (s 147)) : Call (d + 0) 220 [.inr (.inr 146)] (encA s) (some (.inl (litW (s 147)))) (encA (s)) := by
  refine ⟨Nat.le_of_ble_eq_true rfl, ?_⟩
  show Run (d + 0) 220 0 [some (.inr (.inr 146))] [] (encA s) (some (.inl (litW (s 147)))) (encA (s))
  obtain ⟨hM39, hM40, hM41, hM43, hM44, hM36, hM37, hM38, hMc, hMw, hMp, hMt, hMb⟩ := hM
  refine x_ldR rfl rfl rfl ?_
  first | refine x_getI rfl rfl rfl rfl rfl ?_ | refine x_getR rfl rfl rfl rfl rfl ?_
  refine x_push rfl ?_
  refine x_aldk 41 rfl rfl rfl rfl rfl rfl ?_
  refine x_irNe0 rfl (by omega) (fun h_1 => ?_) (fun h_1 => ?_)
  · first
    | (exfalso; omega)
    | (refine x_ldR rfl rfl rfl ?_
       first | refine x_getI rfl rfl rfl rfl rfl ?_ | refine x_getR rfl rfl rfl rfl rfl ?_
       refine x_push rfl ?_
       refine x_ldR rfl rfl rfl ?_
       first | refine x_getI rfl rfl rfl rfl rfl ?_ | refine x_getR rfl rfl rfl rfl rfl ?_
       refine x_push rfl ?_
       refine x_aldk 38 rfl rfl rfl rfl rfl rfl ?_
       refine x_ldR rfl rfl rfl ?_
       first | refine x_getI rfl rfl rfl rfl rfl ?_ | refine x_getR rfl rfl rfl rfl rfl ?_
       refine x_push rfl ?_
       refine x_aldk 41 rfl rfl rfl rfl rfl rfl ?_
       refine x_div rfl (by rw [w32_id (by omega) (by omega)]; omega) ?_
       refine x_add rfl ?_
       refine x_ald rfl rfl rfl (by have hq := @m_rem_rng (s 147 38) (s 147 41) (by omega) (by omega); omega) rfl ?_
       exact x_retI rfl (by (unfold litW; (first | rw [if_pos (by omega)] | (rw [if_neg (by omega), m_rem_pos (by omega) (by omega)])))) (by rfl))
  · first
    | (exfalso; omega)
    | (refine x_push rfl ?_
       refine x_go rfl ?_
       exact x_retI rfl (by (unfold litW; (first | rw [if_pos (by omega)] | (rw [if_neg (by omega), m_rem_pos (by omega) (by omega)])))) (by rfl))
theorem r_tell_y {d : Nat} {s : mSt} (hM : MOk (s 147)) {v : Int} (hy : ¬ s 147 44 = 20) : Call (d + 1) 261 [.inr (.inr 146), .inl v] (encA s) (some (.inl (s 147 44 + 1))) (encA (ua s 147 (mup (mup (s 147) ((123 + s 147 44).toNat) (v)) (44) (s 147 44 + 1)))) := by
  refine ⟨Nat.le_of_ble_eq_true rfl, ?_⟩
  show Run (d + 1) 261 0 [some (.inr (.inr 146)), some (.inl v)] [] (encA s) (some (.inl (s 147 44 + 1))) (encA (ua s 147 (mup (mup (s 147) ((123 + s 147 44).toNat) (v)) (44) (s 147 44 + 1))))
  obtain ⟨hM39, hM40, hM41, hM43, hM44, hM36, hM37, hM38, hMc, hMw, hMp, hMt, hMb⟩ := hM
  refine x_ldR rfl rfl rfl ?_
  first | refine x_getI rfl rfl rfl rfl rfl ?_ | refine x_getR rfl rfl rfl rfl rfl ?_
  refine x_push rfl ?_
  refine x_aldk 44 rfl rfl rfl rfl rfl rfl ?_
  refine x_push rfl ?_
  refine x_crNe rfl (by omega) (by omega) (fun h_1 => ?_) (fun h_1 => ?_)
  · first
    | (exfalso; omega)
    | (refine x_ldR rfl rfl rfl ?_
       first | refine x_getI rfl rfl rfl rfl rfl ?_ | refine x_getR rfl rfl rfl rfl rfl ?_
       refine x_push rfl ?_
       refine x_ldR rfl rfl rfl ?_
       first | refine x_getI rfl rfl rfl rfl rfl ?_ | refine x_getR rfl rfl rfl rfl rfl ?_
       refine x_push rfl ?_
       refine x_aldk 44 rfl rfl rfl rfl rfl rfl ?_
       refine x_add rfl ?_
       refine x_ldI rfl rfl ?_
       refine x_ast rfl rfl rfl (by omega) rfl ?_
       refine x_ldR rfl rfl rfl ?_
       first | refine x_getI rfl rfl rfl rfl rfl ?_ | refine x_getR rfl rfl rfl rfl rfl ?_
       refine x_push rfl ?_
       refine x_dup2 rfl ?_
       refine x_aldk 44 rfl rfl rfl rfl rfl rfl ?_
       refine x_push rfl ?_
       refine x_add rfl ?_
       refine x_astk 44 rfl rfl rfl rfl rfl rfl ?_
       refine x_ldR rfl rfl rfl ?_
       first | refine x_getI rfl rfl rfl rfl rfl ?_ | refine x_getR rfl rfl rfl rfl rfl ?_
       refine x_push rfl ?_
       refine x_aldk 44 rfl rfl rfl rfl rfl rfl ?_
       exact x_retI rfl (by (first | rfl | omega | (simp (disch := omega) only [us_d, ua_ua, ua_eq, mup_ne, mup_eq, m_div_pos, m_rem_pos]))) (by (first | rfl | (simp (disch := omega) only [us_d, ua_ua, ua_eq, mup_ne, mup_eq, m_div_pos, m_rem_pos]))))
  · first
    | (exfalso; omega)
    | (refine x_ldR rfl rfl rfl ?_
       refine x_push rfl ?_
       refine x_callV rfl rfl rfl rfl rfl rfl rfl r_finds1 ?_
       exact x_retI rfl (by (first | rfl | omega | (simp (disch := omega) only [us_d, ua_ua, ua_eq, mup_ne, mup_eq, m_div_pos, m_rem_pos]))) (by (first | rfl | (simp (disch := omega) only [us_d, ua_ua, ua_eq, mup_ne, mup_eq, m_div_pos, m_rem_pos]))))
theorem r_tell_n {d : Nat} {s : mSt} (hM : MOk (s 147)) {v : Int} (hy : s 147 44 = 20) : Call (d + 1) 261 [.inr (.inr 146), .inl v] (encA s) (some (.inl (-1000000000 - 4))) (encA (us s 150 4 (s 150 4 + 1))) := by
  refine ⟨Nat.le_of_ble_eq_true rfl, ?_⟩
  show Run (d + 1) 261 0 [some (.inr (.inr 146)), some (.inl v)] [] (encA s) (some (.inl (-1000000000 - 4))) (encA (us s 150 4 (s 150 4 + 1)))
  obtain ⟨hM39, hM40, hM41, hM43, hM44, hM36, hM37, hM38, hMc, hMw, hMp, hMt, hMb⟩ := hM
  refine x_ldR rfl rfl rfl ?_
  first | refine x_getI rfl rfl rfl rfl rfl ?_ | refine x_getR rfl rfl rfl rfl rfl ?_
  refine x_push rfl ?_
  refine x_aldk 44 rfl rfl rfl rfl rfl rfl ?_
  refine x_push rfl ?_
  refine x_crNe rfl (by omega) (by omega) (fun h_1 => ?_) (fun h_1 => ?_)
  · first
    | (exfalso; omega)
    | (refine x_ldR rfl rfl rfl ?_
       first | refine x_getI rfl rfl rfl rfl rfl ?_ | refine x_getR rfl rfl rfl rfl rfl ?_
       refine x_push rfl ?_
       refine x_ldR rfl rfl rfl ?_
       first | refine x_getI rfl rfl rfl rfl rfl ?_ | refine x_getR rfl rfl rfl rfl rfl ?_
       refine x_push rfl ?_
       refine x_aldk 44 rfl rfl rfl rfl rfl rfl ?_
       refine x_add rfl ?_
       refine x_ldI rfl rfl ?_
       refine x_ast rfl rfl rfl (by omega) rfl ?_
       refine x_ldR rfl rfl rfl ?_
       first | refine x_getI rfl rfl rfl rfl rfl ?_ | refine x_getR rfl rfl rfl rfl rfl ?_
       refine x_push rfl ?_
       refine x_dup2 rfl ?_
       refine x_aldk 44 rfl rfl rfl rfl rfl rfl ?_
       refine x_push rfl ?_
       refine x_add rfl ?_
       refine x_astk 44 rfl rfl rfl rfl rfl rfl ?_
       refine x_ldR rfl rfl rfl ?_
       first | refine x_getI rfl rfl rfl rfl rfl ?_ | refine x_getR rfl rfl rfl rfl rfl ?_
       refine x_push rfl ?_
       refine x_aldk 44 rfl rfl rfl rfl rfl rfl ?_
       exact x_retI rfl (by (first | rfl | omega | (simp (disch := omega) only [us_d, ua_ua, ua_eq, mup_ne, mup_eq, m_div_pos, m_rem_pos]))) (by (first | rfl | (simp (disch := omega) only [us_d, ua_ua, ua_eq, mup_ne, mup_eq, m_div_pos, m_rem_pos]))))
  · first
    | (exfalso; omega)
    | (refine x_ldR rfl rfl rfl ?_
       refine x_push rfl ?_
       refine x_callV rfl rfl rfl rfl rfl rfl rfl r_finds4 ?_
       exact x_retI rfl (by (first | rfl | omega | (simp (disch := omega) only [us_d, ua_ua, ua_eq, mup_ne, mup_eq, m_div_pos, m_rem_pos]))) (by (first | rfl | (simp (disch := omega) only [us_d, ua_ua, ua_eq, mup_ne, mup_eq, m_div_pos, m_rem_pos]))))
theorem r_told_y {d : Nat} {s : mSt} (hM : MOk (s 147)) {k : Int} (hrk : -2147483648 ≤ k ∧ k < 2147483648) (hy : 1 ≤ k ∧ k ≤ 5) : Call (d + 1) 265 [.inr (.inr 146), .inl k] (encA s) (some (.inl (s 150 k.toNat))) (encA (s)) := by
  refine ⟨Nat.le_of_ble_eq_true rfl, ?_⟩
  show Run (d + 1) 265 0 [some (.inr (.inr 146)), some (.inl k)] [] (encA s) (some (.inl (s 150 k.toNat))) (encA (s))
  obtain ⟨hM39, hM40, hM41, hM43, hM44, hM36, hM37, hM38, hMc, hMw, hMp, hMt, hMb⟩ := hM
  refine x_ldI rfl rfl ?_
  refine x_i2lr rfl (by omega) ?_
  refine x_push rfl ?_
  refine x_push rfl ?_
  refine x_call rfl rfl rfl (r_in (by omega) (by omega) (by omega)) ?_
  refine x_bEq0 rfl (fun h_1 => ?_) (fun h_1 => ?_)
  · first
    | (exfalso; omega)
    | (refine x_ldR rfl rfl rfl ?_
       refine x_push rfl ?_
       refine x_callV rfl rfl rfl rfl rfl rfl rfl r_finds1 ?_
       exact x_retI rfl (by (first | rfl | omega | (simp (disch := omega) only [us_d, ua_ua, ua_eq, mup_ne, mup_eq, m_div_pos, m_rem_pos]))) (by (first | rfl | (simp (disch := omega) only [us_d, ua_ua, ua_eq, mup_ne, mup_eq, m_div_pos, m_rem_pos]))))
  · first
    | (exfalso; omega)
    | (refine x_ldR rfl rfl rfl ?_
       first | refine x_getI rfl rfl rfl rfl rfl ?_ | refine x_getR rfl rfl rfl rfl rfl ?_
       refine x_ldI rfl rfl ?_
       refine x_ald rfl rfl rfl (by omega) rfl ?_
       refine x_go rfl ?_
       exact x_retI rfl (by (first | rfl | omega | (simp (disch := omega) only [us_d, ua_ua, ua_eq, mup_ne, mup_eq, m_div_pos, m_rem_pos]))) (by (first | rfl | (simp (disch := omega) only [us_d, ua_ua, ua_eq, mup_ne, mup_eq, m_div_pos, m_rem_pos]))))
theorem r_told_n {d : Nat} {s : mSt} (hM : MOk (s 147)) {k : Int} (hrk : -2147483648 ≤ k ∧ k < 2147483648) (hy : ¬ (1 ≤ k ∧ k ≤ 5)) : Call (d + 1) 265 [.inr (.inr 146), .inl k] (encA s) (some (.inl (-1000000000 - 1))) (encA (us s 150 1 (s 150 1 + 1))) := by
  refine ⟨Nat.le_of_ble_eq_true rfl, ?_⟩
  show Run (d + 1) 265 0 [some (.inr (.inr 146)), some (.inl k)] [] (encA s) (some (.inl (-1000000000 - 1))) (encA (us s 150 1 (s 150 1 + 1)))
  obtain ⟨hM39, hM40, hM41, hM43, hM44, hM36, hM37, hM38, hMc, hMw, hMp, hMt, hMb⟩ := hM
  refine x_ldI rfl rfl ?_
  refine x_i2lr rfl (by omega) ?_
  refine x_push rfl ?_
  refine x_push rfl ?_
  refine x_call rfl rfl rfl (r_in (by omega) (by omega) (by omega)) ?_
  refine x_bEq0 rfl (fun h_1 => ?_) (fun h_1 => ?_)
  · first
    | (exfalso; omega)
    | (refine x_ldR rfl rfl rfl ?_
       refine x_push rfl ?_
       refine x_callV rfl rfl rfl rfl rfl rfl rfl r_finds1 ?_
       exact x_retI rfl (by (first | rfl | omega | (simp (disch := omega) only [us_d, ua_ua, ua_eq, mup_ne, mup_eq, m_div_pos, m_rem_pos]))) (by (first | rfl | (simp (disch := omega) only [us_d, ua_ua, ua_eq, mup_ne, mup_eq, m_div_pos, m_rem_pos]))))
  · first
    | (exfalso; omega)
    | (refine x_ldR rfl rfl rfl ?_
       first | refine x_getI rfl rfl rfl rfl rfl ?_ | refine x_getR rfl rfl rfl rfl rfl ?_
       refine x_ldI rfl rfl ?_
       refine x_ald rfl rfl rfl (by omega) rfl ?_
       refine x_go rfl ?_
       exact x_retI rfl (by (first | rfl | omega | (simp (disch := omega) only [us_d, ua_ua, ua_eq, mup_ne, mup_eq, m_div_pos, m_rem_pos]))) (by (first | rfl | (simp (disch := omega) only [us_d, ua_ua, ua_eq, mup_ne, mup_eq, m_div_pos, m_rem_pos]))))
