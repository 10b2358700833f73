/-! ===== the reference: calls that ask and set ===== -/
theorem r_cell_y {d : Nat} {s : mSt} (hM : MOk (s 147)) {c v : Int} (hrc : -2147483648 ≤ c ∧ c < 2147483648) (hrv : -2147483648 ≤ v ∧ v < 2147483648) (hy : (0 ≤ c ∧ c ≤ 35) ∧ 0 ≤ v ∧ v ≤ 3) : Call (d + 2) 195 [.inr (.inr 146), .inl c, .inl v] (encA s) (some (.inl (s 147 (0 + c).toNat))) (encA (us s 147 (0 + c).toNat v)) := by
  refine ⟨Nat.le_of_ble_eq_true rfl, ?_⟩
  show Run (d + 2) 195 0 [some (.inr (.inr 146)), some (.inl c), some (.inl v), none] [] (encA s) (some (.inl (s 147 (0 + c).toNat))) (encA (us s 147 (0 + c).toNat v))
  obtain ⟨hM39, hM40, hM41, hM43, hM44, hM36, hM37, hM38, hMc, hMw, hMp, hMt, hMb⟩ := hM
  refine x_ldI rfl rfl ?_
  refine x_call rfl rfl rfl (r_isCell (by omega)) ?_
  refine x_bEq0 rfl (fun h_1 => ?_) (fun h_1 => ?_)
  · first
    | (exfalso; omega)
    | (refine x_ldR rfl rfl rfl ?_
       refine x_push rfl ?_
       refine x_callV rfl rfl rfl rfl rfl rfl rfl r_finds1 ?_
       exact x_retI rfl (by (first | rfl | omega | (simp (disch := omega) only [us_d, ua_ua, ua_eq, mup_ne, mup_eq]))) (by (first | rfl | (simp (disch := omega) only [us_d, ua_ua, ua_eq, mup_ne, mup_eq]))))
  · first
    | (exfalso; omega)
    | (refine x_ldI rfl rfl ?_
       refine x_i2lr rfl (by omega) ?_
       refine x_push rfl ?_
       refine x_push rfl ?_
       refine x_call rfl rfl rfl (r_in (by omega) (by omega) (by omega)) ?_
       refine x_bNe0 rfl (fun h_2 => ?_) (fun h_2 => ?_)
       · first
         | (exfalso; omega)
         | (refine x_ldR rfl rfl rfl ?_
            first | refine x_getI rfl rfl rfl rfl rfl ?_ | refine x_getR rfl rfl rfl rfl rfl ?_
            refine x_push rfl ?_
            refine x_ldI rfl rfl ?_
            refine x_add rfl ?_
            refine x_ald rfl rfl rfl (by omega) rfl ?_
            refine x_StI_4_3 rfl rfl ?_
            refine x_ldR rfl rfl rfl ?_
            first | refine x_getI rfl rfl rfl rfl rfl ?_ | refine x_getR rfl rfl rfl rfl rfl ?_
            refine x_push rfl ?_
            refine x_ldI rfl rfl ?_
            refine x_add rfl ?_
            refine x_ldI rfl rfl ?_
            refine x_ast rfl rfl rfl (by omega) rfl ?_
            refine x_ldI rfl rfl ?_
            exact x_retI rfl (by (first | rfl | omega | (simp (disch := omega) only [us_d, ua_ua, ua_eq, mup_ne, mup_eq]))) (by (first | rfl | (simp (disch := omega) only [us_d, ua_ua, ua_eq, mup_ne, mup_eq]))))
       · first
         | (exfalso; omega)
         | (refine x_ldR rfl rfl rfl ?_
            refine x_push rfl ?_
            refine x_callV rfl rfl rfl rfl rfl rfl rfl r_finds1 ?_
            exact x_retI rfl (by (first | rfl | omega | (simp (disch := omega) only [us_d, ua_ua, ua_eq, mup_ne, mup_eq]))) (by (first | rfl | (simp (disch := omega) only [us_d, ua_ua, ua_eq, mup_ne, mup_eq])))))
theorem r_cell_n {d : Nat} {s : mSt} (hM : MOk (s 147)) {c v : Int} (hrc : -2147483648 ≤ c ∧ c < 2147483648) (hrv : -2147483648 ≤ v ∧ v < 2147483648) (hy : ¬ ((0 ≤ c ∧ c ≤ 35) ∧ 0 ≤ v ∧ v ≤ 3)) : Call (d + 2) 195 [.inr (.inr 146), .inl c, .inl v] (encA s) (some (.inl (-1000000000 - 1))) (encA (us s 150 1 (s 150 1 + 1))) := by
  refine ⟨Nat.le_of_ble_eq_true rfl, ?_⟩
  show Run (d + 2) 195 0 [some (.inr (.inr 146)), some (.inl c), some (.inl v), none] [] (encA s) (some (.inl (-1000000000 - 1))) (encA (us s 150 1 (s 150 1 + 1)))
  obtain ⟨hM39, hM40, hM41, hM43, hM44, hM36, hM37, hM38, hMc, hMw, hMp, hMt, hMb⟩ := hM
  refine x_ldI rfl rfl ?_
  refine x_call rfl rfl rfl (r_isCell (by omega)) ?_
  refine x_bEq0 rfl (fun h_1 => ?_) (fun h_1 => ?_)
  · first
    | (exfalso; omega)
    | (refine x_ldR rfl rfl rfl ?_
       refine x_push rfl ?_
       refine x_callV rfl rfl rfl rfl rfl rfl rfl r_finds1 ?_
       exact x_retI rfl (by (first | rfl | omega | (simp (disch := omega) only [us_d, ua_ua, ua_eq, mup_ne, mup_eq]))) (by (first | rfl | (simp (disch := omega) only [us_d, ua_ua, ua_eq, mup_ne, mup_eq]))))
  · first
    | (exfalso; omega)
    | (refine x_ldI rfl rfl ?_
       refine x_i2lr rfl (by omega) ?_
       refine x_push rfl ?_
       refine x_push rfl ?_
       refine x_call rfl rfl rfl (r_in (by omega) (by omega) (by omega)) ?_
       refine x_bNe0 rfl (fun h_2 => ?_) (fun h_2 => ?_)
       · first
         | (exfalso; omega)
         | (refine x_ldR rfl rfl rfl ?_
            first | refine x_getI rfl rfl rfl rfl rfl ?_ | refine x_getR rfl rfl rfl rfl rfl ?_
            refine x_push rfl ?_
            refine x_ldI rfl rfl ?_
            refine x_add rfl ?_
            refine x_ald rfl rfl rfl (by omega) rfl ?_
            refine x_StI_4_3 rfl rfl ?_
            refine x_ldR rfl rfl rfl ?_
            first | refine x_getI rfl rfl rfl rfl rfl ?_ | refine x_getR rfl rfl rfl rfl rfl ?_
            refine x_push rfl ?_
            refine x_ldI rfl rfl ?_
            refine x_add rfl ?_
            refine x_ldI rfl rfl ?_
            refine x_ast rfl rfl rfl (by omega) rfl ?_
            refine x_ldI rfl rfl ?_
            exact x_retI rfl (by (first | rfl | omega | (simp (disch := omega) only [us_d, ua_ua, ua_eq, mup_ne, mup_eq]))) (by (first | rfl | (simp (disch := omega) only [us_d, ua_ua, ua_eq, mup_ne, mup_eq]))))
       · first
         | (exfalso; omega)
         | (refine x_ldR rfl rfl rfl ?_
            refine x_push rfl ?_
            refine x_callV rfl rfl rfl rfl rfl rfl rfl r_finds1 ?_
            exact x_retI rfl (by (first | rfl | omega | (simp (disch := omega) only [us_d, ua_ua, ua_eq, mup_ne, mup_eq]))) (by (first | rfl | (simp (disch := omega) only [us_d, ua_ua, ua_eq, mup_ne, mup_eq])))))
theorem r_set_y {d : Nat} {s : mSt} (hM : MOk (s 147)) {w v : Int} (hrw : -2147483648 ≤ w ∧ w < 2147483648) (hrv : -2147483648 ≤ v ∧ v < 2147483648) (hy : (0 ≤ w ∧ w ≤ 1) ∧ 0 ≤ v ∧ v ≤ 9) : Call (d + 1) 196 [.inr (.inr 146), .inl w, .inl v] (encA s) (some (.inl (s 147 (36 + w).toNat))) (encA (us s 147 (36 + w).toNat v)) := by
  refine ⟨Nat.le_of_ble_eq_true rfl, ?_⟩
  show Run (d + 1) 196 0 [some (.inr (.inr 146)), some (.inl w), some (.inl v), none] [] (encA s) (some (.inl (s 147 (36 + w).toNat))) (encA (us s 147 (36 + w).toNat v))
  obtain ⟨hM39, hM40, hM41, hM43, hM44, hM36, hM37, hM38, hMc, hMw, hMp, hMt, hMb⟩ := hM
  refine x_ldI rfl rfl ?_
  refine x_i2lr rfl (by omega) ?_
  refine x_push rfl ?_
  refine x_push rfl ?_
  refine x_call rfl rfl rfl (r_in (by omega) (by omega) (by omega)) ?_
  refine x_bEq0 rfl (fun h_1 => ?_) (fun h_1 => ?_)
  · first
    | (exfalso; omega)
    | (refine x_ldR rfl rfl rfl ?_
       refine x_push rfl ?_
       refine x_callV rfl rfl rfl rfl rfl rfl rfl r_finds1 ?_
       exact x_retI rfl (by (first | rfl | omega | (simp (disch := omega) only [us_d, ua_ua, ua_eq, mup_ne, mup_eq]))) (by (first | rfl | (simp (disch := omega) only [us_d, ua_ua, ua_eq, mup_ne, mup_eq]))))
  · first
    | (exfalso; omega)
    | (refine x_ldI rfl rfl ?_
       refine x_i2lr rfl (by omega) ?_
       refine x_push rfl ?_
       refine x_push rfl ?_
       refine x_call rfl rfl rfl (r_in (by omega) (by omega) (by omega)) ?_
       refine x_bNe0 rfl (fun h_2 => ?_) (fun h_2 => ?_)
       · first
         | (exfalso; omega)
         | (refine x_ldR rfl rfl rfl ?_
            first | refine x_getI rfl rfl rfl rfl rfl ?_ | refine x_getR rfl rfl rfl rfl rfl ?_
            refine x_push rfl ?_
            refine x_ldI rfl rfl ?_
            refine x_add rfl ?_
            refine x_ald rfl rfl rfl (by omega) rfl ?_
            refine x_StI_4_3 rfl rfl ?_
            refine x_ldR rfl rfl rfl ?_
            first | refine x_getI rfl rfl rfl rfl rfl ?_ | refine x_getR rfl rfl rfl rfl rfl ?_
            refine x_push rfl ?_
            refine x_ldI rfl rfl ?_
            refine x_add rfl ?_
            refine x_ldI rfl rfl ?_
            refine x_ast rfl rfl rfl (by omega) rfl ?_
            refine x_ldI rfl rfl ?_
            exact x_retI rfl (by (first | rfl | omega | (simp (disch := omega) only [us_d, ua_ua, ua_eq, mup_ne, mup_eq]))) (by (first | rfl | (simp (disch := omega) only [us_d, ua_ua, ua_eq, mup_ne, mup_eq]))))
       · first
         | (exfalso; omega)
         | (refine x_ldR rfl rfl rfl ?_
            refine x_push rfl ?_
            refine x_callV rfl rfl rfl rfl rfl rfl rfl r_finds1 ?_
            exact x_retI rfl (by (first | rfl | omega | (simp (disch := omega) only [us_d, ua_ua, ua_eq, mup_ne, mup_eq]))) (by (first | rfl | (simp (disch := omega) only [us_d, ua_ua, ua_eq, mup_ne, mup_eq])))))
theorem r_set_n {d : Nat} {s : mSt} (hM : MOk (s 147)) {w v : Int} (hrw : -2147483648 ≤ w ∧ w < 2147483648) (hrv : -2147483648 ≤ v ∧ v < 2147483648) (hy : ¬ ((0 ≤ w ∧ w ≤ 1) ∧ 0 ≤ v ∧ v ≤ 9)) : Call (d + 1) 196 [.inr (.inr 146), .inl w, .inl v] (encA s) (some (.inl (-1000000000 - 1))) (encA (us s 150 1 (s 150 1 + 1))) := by
  refine ⟨Nat.le_of_ble_eq_true rfl, ?_⟩
  show Run (d + 1) 196 0 [some (.inr (.inr 146)), some (.inl w), some (.inl v), none] [] (encA s) (some (.inl (-1000000000 - 1))) (encA (us s 150 1 (s 150 1 + 1)))
  obtain ⟨hM39, hM40, hM41, hM43, hM44, hM36, hM37, hM38, hMc, hMw, hMp, hMt, hMb⟩ := hM
  refine x_ldI rfl rfl ?_
  refine x_i2lr rfl (by omega) ?_
  refine x_push rfl ?_
  refine x_push rfl ?_
  refine x_call rfl rfl rfl (r_in (by omega) (by omega) (by omega)) ?_
  refine x_bEq0 rfl (fun h_1 => ?_) (fun h_1 => ?_)
  · first
    | (exfalso; omega)
    | (refine x_ldR rfl rfl rfl ?_
       refine x_push rfl ?_
       refine x_callV rfl rfl rfl rfl rfl rfl rfl r_finds1 ?_
       exact x_retI rfl (by (first | rfl | omega | (simp (disch := omega) only [us_d, ua_ua, ua_eq, mup_ne, mup_eq]))) (by (first | rfl | (simp (disch := omega) only [us_d, ua_ua, ua_eq, mup_ne, mup_eq]))))
  · first
    | (exfalso; omega)
    | (refine x_ldI rfl rfl ?_
       refine x_i2lr rfl (by omega) ?_
       refine x_push rfl ?_
       refine x_push rfl ?_
       refine x_call rfl rfl rfl (r_in (by omega) (by omega) (by omega)) ?_
       refine x_bNe0 rfl (fun h_2 => ?_) (fun h_2 => ?_)
       · first
         | (exfalso; omega)
         | (refine x_ldR rfl rfl rfl ?_
            first | refine x_getI rfl rfl rfl rfl rfl ?_ | refine x_getR rfl rfl rfl rfl rfl ?_
            refine x_push rfl ?_
            refine x_ldI rfl rfl ?_
            refine x_add rfl ?_
            refine x_ald rfl rfl rfl (by omega) rfl ?_
            refine x_StI_4_3 rfl rfl ?_
            refine x_ldR rfl rfl rfl ?_
            first | refine x_getI rfl rfl rfl rfl rfl ?_ | refine x_getR rfl rfl rfl rfl rfl ?_
            refine x_push rfl ?_
            refine x_ldI rfl rfl ?_
            refine x_add rfl ?_
            refine x_ldI rfl rfl ?_
            refine x_ast rfl rfl rfl (by omega) rfl ?_
            refine x_ldI rfl rfl ?_
            exact x_retI rfl (by (first | rfl | omega | (simp (disch := omega) only [us_d, ua_ua, ua_eq, mup_ne, mup_eq]))) (by (first | rfl | (simp (disch := omega) only [us_d, ua_ua, ua_eq, mup_ne, mup_eq]))))
       · first
         | (exfalso; omega)
         | (refine x_ldR rfl rfl rfl ?_
            refine x_push rfl ?_
            refine x_callV rfl rfl rfl rfl rfl rfl rfl r_finds1 ?_
            exact x_retI rfl (by (first | rfl | omega | (simp (disch := omega) only [us_d, ua_ua, ua_eq, mup_ne, mup_eq]))) (by (first | rfl | (simp (disch := omega) only [us_d, ua_ua, ua_eq, mup_ne, mup_eq])))))
theorem r_seed {d : Nat} {s : mSt} (hM : MOk (s 147)) {v : Int} : Call (d + 0) 244 [.inr (.inr 146), .inl v] (encA s) (some (.inl (s 147 42))) (encA (us s 147 42 v)) := by
  refine ⟨Nat.le_of_ble_eq_true rfl, ?_⟩
  show Run (d + 0) 244 0 [some (.inr (.inr 146)), some (.inl v), none] [] (encA s) (some (.inl (s 147 42))) (encA (us s 147 42 v))
  obtain ⟨hM39, hM40, hM41, hM43, hM44, hM36, hM37, hM38, hMc, hMw, hMp, hMt, hMb⟩ := hM
  refine x_ldR rfl rfl rfl ?_
  first | refine x_getI rfl rfl rfl rfl rfl ?_ | refine x_getR rfl rfl rfl rfl rfl ?_
  refine x_push rfl ?_
  refine x_aldk 42 rfl rfl rfl rfl rfl rfl ?_
  refine x_StI_3_2 rfl rfl ?_
  refine x_ldR rfl rfl rfl ?_
  first | refine x_getI rfl rfl rfl rfl rfl ?_ | refine x_getR rfl rfl rfl rfl rfl ?_
  refine x_push rfl ?_
  refine x_ldI rfl rfl ?_
  refine x_astk 42 rfl rfl rfl rfl rfl rfl ?_
  refine x_ldI rfl rfl ?_
  exact x_retI rfl (by (first | rfl | omega | (simp (disch := omega) only [us_d, ua_ua, ua_eq, mup_ne, mup_eq]))) (by (first | rfl | (simp (disch := omega) only [us_d, ua_ua, ua_eq, mup_ne, mup_eq])))
theorem r_clear {d : Nat} {s : mSt} (hM : MOk (s 147))  : Call (d + 0) 219 [.inr (.inr 146)] (encA s) (some (.inl (s 147 41))) (encA (us s 147 41 0)) := by
  refine ⟨Nat.le_of_ble_eq_true rfl, ?_⟩
  show Run (d + 0) 219 0 [some (.inr (.inr 146)), none] [] (encA s) (some (.inl (s 147 41))) (encA (us s 147 41 0))
  obtain ⟨hM39, hM40, hM41, hM43, hM44, hM36, hM37, hM38, hMc, hMw, hMp, hMt, hMb⟩ := hM
  refine x_ldR rfl rfl rfl ?_
  first | refine x_getI rfl rfl rfl rfl rfl ?_ | refine x_getR rfl rfl rfl rfl rfl ?_
  refine x_push rfl ?_
  refine x_aldk 41 rfl rfl rfl rfl rfl rfl ?_
  refine x_StI_2_1 rfl rfl ?_
  refine x_ldR rfl rfl rfl ?_
  first | refine x_getI rfl rfl rfl rfl rfl ?_ | refine x_getR rfl rfl rfl rfl rfl ?_
  refine x_push rfl ?_
  refine x_push rfl ?_
  refine x_astk 41 rfl rfl rfl rfl rfl rfl ?_
  refine x_ldI rfl rfl ?_
  exact x_retI rfl (by (first | rfl | omega | (simp (disch := omega) only [us_d, ua_ua, ua_eq, mup_ne, mup_eq]))) (by (first | rfl | (simp (disch := omega) only [us_d, ua_ua, ua_eq, mup_ne, mup_eq])))
