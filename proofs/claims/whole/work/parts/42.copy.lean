/-! ===== the class: villages copied ===== -/
theorem mcpy_i {f g : Nat → Int} {n i : Nat} (h : i < n) : mcpy f g (0 : Int).toNat (0 : Int).toNat n i = f i := by
  unfold mcpy
  simp [h]
theorem k_copyR60_22 {d : Nat} {s : mSt} (hs : 0 ≤ s 22 1 ∧ s 22 1 ≤ 12) : CV (d + 1) 72 [.inr (.inr 60), .inr (.inr 22)] (s) (fun s1 => s1 60 1 = s 22 1 ∧ (∀ i : Int, 0 ≤ i → i < s 22 1 → s1 61 i.toNat = s 23 i.toNat) ∧ Fr [60, 61] s s1) := by
  refine CV.mk rfl ?_
  show WP (d + 1) 72 0 [some (.inr (.inr 60)), some (.inr (.inr 22))] [] (encA (s)) _
  refine w_ldR rfl rfl rfl ?_
  refine w_ldR rfl rfl rfl ?_
  first | refine w_getI rfl rfl rfl rfl rfl ?_ | refine w_getR rfl rfl rfl rfl rfl ?_
  refine w_ldR rfl rfl rfl ?_
  first | refine w_getI rfl rfl rfl rfl rfl ?_ | refine w_getR rfl rfl rfl rfl rfl ?_
  refine w_alen rfl rfl rfl ?_
  refine w_m2 rfl rfl ?_
  rw [m_min_id (by omega) (by omega), show min (s 22 1) ((12 : Nat) : Int) = s 22 1 by omega]
  refine w_putI rfl rfl rfl rfl rfl rfl rfl ?_
  refine w_ldR rfl rfl rfl ?_
  first | refine w_getI rfl rfl rfl rfl rfl ?_ | refine w_getR rfl rfl rfl rfl rfl ?_
  refine w_push rfl ?_
  refine w_ldR rfl rfl rfl ?_
  first | refine w_getI rfl rfl rfl rfl rfl ?_ | refine w_getR rfl rfl rfl rfl rfl ?_
  refine w_push rfl ?_
  refine w_ldR rfl rfl rfl ?_
  first | refine w_getI rfl rfl rfl rfl rfl ?_ | refine w_getR rfl rfl rfl rfl rfl ?_
  rw [us_eq, mup_eq]
  refine w_cpy rfl rfl rfl rfl rfl (by omega) (by omega) (by omega) (by omega) (by omega) rfl rfl rfl ?_
  refine w_retV rfl ?_
  refine ⟨by rw [ua_ne (by decide), us_eq, mup_eq], fun i h1 h2 => ?_, (Fr.us rfl).tr (Fr.ua rfl)⟩
  rw [ua_eq, mcpy_i (by omega), us_ne (by decide)]
theorem k_copyR62_24 {d : Nat} {s : mSt} (hs : 0 ≤ s 24 1 ∧ s 24 1 ≤ 50) : CV (d + 1) 72 [.inr (.inr 62), .inr (.inr 24)] (s) (fun s1 => s1 62 1 = s 24 1 ∧ (∀ i : Int, 0 ≤ i → i < s 24 1 → s1 63 i.toNat = s 25 i.toNat) ∧ Fr [62, 63] s s1) := by
  refine CV.mk rfl ?_
  show WP (d + 1) 72 0 [some (.inr (.inr 62)), some (.inr (.inr 24))] [] (encA (s)) _
  refine w_ldR rfl rfl rfl ?_
  refine w_ldR rfl rfl rfl ?_
  first | refine w_getI rfl rfl rfl rfl rfl ?_ | refine w_getR rfl rfl rfl rfl rfl ?_
  refine w_ldR rfl rfl rfl ?_
  first | refine w_getI rfl rfl rfl rfl rfl ?_ | refine w_getR rfl rfl rfl rfl rfl ?_
  refine w_alen rfl rfl rfl ?_
  refine w_m2 rfl rfl ?_
  rw [m_min_id (by omega) (by omega), show min (s 24 1) ((50 : Nat) : Int) = s 24 1 by omega]
  refine w_putI rfl rfl rfl rfl rfl rfl rfl ?_
  refine w_ldR rfl rfl rfl ?_
  first | refine w_getI rfl rfl rfl rfl rfl ?_ | refine w_getR rfl rfl rfl rfl rfl ?_
  refine w_push rfl ?_
  refine w_ldR rfl rfl rfl ?_
  first | refine w_getI rfl rfl rfl rfl rfl ?_ | refine w_getR rfl rfl rfl rfl rfl ?_
  refine w_push rfl ?_
  refine w_ldR rfl rfl rfl ?_
  first | refine w_getI rfl rfl rfl rfl rfl ?_ | refine w_getR rfl rfl rfl rfl rfl ?_
  rw [us_eq, mup_eq]
  refine w_cpy rfl rfl rfl rfl rfl (by omega) (by omega) (by omega) (by omega) (by omega) rfl rfl rfl ?_
  refine w_retV rfl ?_
  refine ⟨by rw [ua_ne (by decide), us_eq, mup_eq], fun i h1 h2 => ?_, (Fr.us rfl).tr (Fr.ua rfl)⟩
  rw [ua_eq, mcpy_i (by omega), us_ne (by decide)]
theorem k_copyR64_26 {d : Nat} {s : mSt} (hs : 0 ≤ s 26 1 ∧ s 26 1 ≤ 20) : CV (d + 1) 72 [.inr (.inr 64), .inr (.inr 26)] (s) (fun s1 => s1 64 1 = s 26 1 ∧ (∀ i : Int, 0 ≤ i → i < s 26 1 → s1 65 i.toNat = s 27 i.toNat) ∧ Fr [64, 65] s s1) := by
  refine CV.mk rfl ?_
  show WP (d + 1) 72 0 [some (.inr (.inr 64)), some (.inr (.inr 26))] [] (encA (s)) _
  refine w_ldR rfl rfl rfl ?_
  refine w_ldR rfl rfl rfl ?_
  first | refine w_getI rfl rfl rfl rfl rfl ?_ | refine w_getR rfl rfl rfl rfl rfl ?_
  refine w_ldR rfl rfl rfl ?_
  first | refine w_getI rfl rfl rfl rfl rfl ?_ | refine w_getR rfl rfl rfl rfl rfl ?_
  refine w_alen rfl rfl rfl ?_
  refine w_m2 rfl rfl ?_
  rw [m_min_id (by omega) (by omega), show min (s 26 1) ((20 : Nat) : Int) = s 26 1 by omega]
  refine w_putI rfl rfl rfl rfl rfl rfl rfl ?_
  refine w_ldR rfl rfl rfl ?_
  first | refine w_getI rfl rfl rfl rfl rfl ?_ | refine w_getR rfl rfl rfl rfl rfl ?_
  refine w_push rfl ?_
  refine w_ldR rfl rfl rfl ?_
  first | refine w_getI rfl rfl rfl rfl rfl ?_ | refine w_getR rfl rfl rfl rfl rfl ?_
  refine w_push rfl ?_
  refine w_ldR rfl rfl rfl ?_
  first | refine w_getI rfl rfl rfl rfl rfl ?_ | refine w_getR rfl rfl rfl rfl rfl ?_
  rw [us_eq, mup_eq]
  refine w_cpy rfl rfl rfl rfl rfl (by omega) (by omega) (by omega) (by omega) (by omega) rfl rfl rfl ?_
  refine w_retV rfl ?_
  refine ⟨by rw [ua_ne (by decide), us_eq, mup_eq], fun i h1 h2 => ?_, (Fr.us rfl).tr (Fr.ua rfl)⟩
  rw [ua_eq, mcpy_i (by omega), us_ne (by decide)]
theorem k_copyR74_36 {d : Nat} {s : mSt} (hs : 0 ≤ s 36 1 ∧ s 36 1 ≤ 50) : CV (d + 1) 72 [.inr (.inr 74), .inr (.inr 36)] (s) (fun s1 => s1 74 1 = s 36 1 ∧ (∀ i : Int, 0 ≤ i → i < s 36 1 → s1 75 i.toNat = s 37 i.toNat) ∧ Fr [74, 75] s s1) := by
  refine CV.mk rfl ?_
  show WP (d + 1) 72 0 [some (.inr (.inr 74)), some (.inr (.inr 36))] [] (encA (s)) _
  refine w_ldR rfl rfl rfl ?_
  refine w_ldR rfl rfl rfl ?_
  first | refine w_getI rfl rfl rfl rfl rfl ?_ | refine w_getR rfl rfl rfl rfl rfl ?_
  refine w_ldR rfl rfl rfl ?_
  first | refine w_getI rfl rfl rfl rfl rfl ?_ | refine w_getR rfl rfl rfl rfl rfl ?_
  refine w_alen rfl rfl rfl ?_
  refine w_m2 rfl rfl ?_
  rw [m_min_id (by omega) (by omega), show min (s 36 1) ((50 : Nat) : Int) = s 36 1 by omega]
  refine w_putI rfl rfl rfl rfl rfl rfl rfl ?_
  refine w_ldR rfl rfl rfl ?_
  first | refine w_getI rfl rfl rfl rfl rfl ?_ | refine w_getR rfl rfl rfl rfl rfl ?_
  refine w_push rfl ?_
  refine w_ldR rfl rfl rfl ?_
  first | refine w_getI rfl rfl rfl rfl rfl ?_ | refine w_getR rfl rfl rfl rfl rfl ?_
  refine w_push rfl ?_
  refine w_ldR rfl rfl rfl ?_
  first | refine w_getI rfl rfl rfl rfl rfl ?_ | refine w_getR rfl rfl rfl rfl rfl ?_
  rw [us_eq, mup_eq]
  refine w_cpy rfl rfl rfl rfl rfl (by omega) (by omega) (by omega) (by omega) (by omega) rfl rfl rfl ?_
  refine w_retV rfl ?_
  refine ⟨by rw [ua_ne (by decide), us_eq, mup_eq], fun i h1 h2 => ?_, (Fr.us rfl).tr (Fr.ua rfl)⟩
  rw [ua_eq, mcpy_i (by omega), us_ne (by decide)]
theorem k_copyR82_44 {d : Nat} {s : mSt} (hs : 0 ≤ s 44 1 ∧ s 44 1 ≤ 50) : CV (d + 1) 72 [.inr (.inr 82), .inr (.inr 44)] (s) (fun s1 => s1 82 1 = s 44 1 ∧ (∀ i : Int, 0 ≤ i → i < s 44 1 → s1 83 i.toNat = s 45 i.toNat) ∧ Fr [82, 83] s s1) := by
  refine CV.mk rfl ?_
  show WP (d + 1) 72 0 [some (.inr (.inr 82)), some (.inr (.inr 44))] [] (encA (s)) _
  refine w_ldR rfl rfl rfl ?_
  refine w_ldR rfl rfl rfl ?_
  first | refine w_getI rfl rfl rfl rfl rfl ?_ | refine w_getR rfl rfl rfl rfl rfl ?_
  refine w_ldR rfl rfl rfl ?_
  first | refine w_getI rfl rfl rfl rfl rfl ?_ | refine w_getR rfl rfl rfl rfl rfl ?_
  refine w_alen rfl rfl rfl ?_
  refine w_m2 rfl rfl ?_
  rw [m_min_id (by omega) (by omega), show min (s 44 1) ((50 : Nat) : Int) = s 44 1 by omega]
  refine w_putI rfl rfl rfl rfl rfl rfl rfl ?_
  refine w_ldR rfl rfl rfl ?_
  first | refine w_getI rfl rfl rfl rfl rfl ?_ | refine w_getR rfl rfl rfl rfl rfl ?_
  refine w_push rfl ?_
  refine w_ldR rfl rfl rfl ?_
  first | refine w_getI rfl rfl rfl rfl rfl ?_ | refine w_getR rfl rfl rfl rfl rfl ?_
  refine w_push rfl ?_
  refine w_ldR rfl rfl rfl ?_
  first | refine w_getI rfl rfl rfl rfl rfl ?_ | refine w_getR rfl rfl rfl rfl rfl ?_
  rw [us_eq, mup_eq]
  refine w_cpy rfl rfl rfl rfl rfl (by omega) (by omega) (by omega) (by omega) (by omega) rfl rfl rfl ?_
  refine w_retV rfl ?_
  refine ⟨by rw [ua_ne (by decide), us_eq, mup_eq], fun i h1 h2 => ?_, (Fr.us rfl).tr (Fr.ua rfl)⟩
  rw [ua_eq, mcpy_i (by omega), us_ne (by decide)]
theorem k_copyL73_35 {d : Nat} {s : mSt} (hs : 0 ≤ s 36 1 ∧ s 36 1 ≤ 50) : CV (d + 2) 38 [.inr (.inr 73), .inr (.inr 35)] (s) (fun s1 => s1 74 1 = s 36 1 ∧ (∀ i : Int, 0 ≤ i → i < s 36 1 → s1 75 i.toNat = s 37 i.toNat) ∧ Fr [74, 75] s s1) := by
  refine CV.mk rfl ?_
  show WP (d + 2) 38 0 [some (.inr (.inr 73)), some (.inr (.inr 35))] [] (encA (s)) _
  refine w_ldR rfl rfl rfl ?_
  first | refine w_getI rfl rfl rfl rfl rfl ?_ | refine w_getR rfl rfl rfl rfl rfl ?_
  refine w_ldR rfl rfl rfl ?_
  first | refine w_getI rfl rfl rfl rfl rfl ?_ | refine w_getR rfl rfl rfl rfl rfl ?_
  refine w_callWN rfl rfl rfl rfl rfl rfl rfl (k_copyR74_36 hs) (fun s4 p4 => ?_)
  refine w_retV rfl ?_
  exact p4
theorem k_copyL81_43 {d : Nat} {s : mSt} (hs : 0 ≤ s 44 1 ∧ s 44 1 ≤ 50) : CV (d + 2) 38 [.inr (.inr 81), .inr (.inr 43)] (s) (fun s1 => s1 82 1 = s 44 1 ∧ (∀ i : Int, 0 ≤ i → i < s 44 1 → s1 83 i.toNat = s 45 i.toNat) ∧ Fr [82, 83] s s1) := by
  refine CV.mk rfl ?_
  show WP (d + 2) 38 0 [some (.inr (.inr 81)), some (.inr (.inr 43))] [] (encA (s)) _
  refine w_ldR rfl rfl rfl ?_
  first | refine w_getI rfl rfl rfl rfl rfl ?_ | refine w_getR rfl rfl rfl rfl rfl ?_
  refine w_ldR rfl rfl rfl ?_
  first | refine w_getI rfl rfl rfl rfl rfl ?_ | refine w_getR rfl rfl rfl rfl rfl ?_
  refine w_callWN rfl rfl rfl rfl rfl rfl rfl (k_copyR82_44 hs) (fun s4 p4 => ?_)
  refine w_retV rfl ?_
  exact p4
theorem k_cpA51_13 {d : Nat} {s : mSt} {Q : mQ} (kk : ∀ s1, Fr [51, 52] s s1 → (∀ i : Int, 0 ≤ i → i < 36 → s1 52 i.toNat = s 14 i.toNat) → s1 51 1 = s 13 1 → s1 51 2 = s 13 2 → s1 51 3 = s 13 3 → s1 51 4 = s 13 4 → s1 51 5 = s 13 5 → WP (d + 3) 85 30 [some (.inr (.inr 51)), some (.inr (.inr 13)), some (.inl 0)] [] (encA (s1)) (Q)) : WP (d + 3) 85 0 [some (.inr (.inr 51)), some (.inr (.inr 13)), none] [] (encA (s)) (Q) := by
  refine w_ldR rfl rfl rfl ?_
  first | refine w_getI rfl rfl rfl rfl rfl ?_ | refine w_getR rfl rfl rfl rfl rfl ?_
  refine w_push rfl ?_
  refine w_ldR rfl rfl rfl ?_
  first | refine w_getI rfl rfl rfl rfl rfl ?_ | refine w_getR rfl rfl rfl rfl rfl ?_
  refine w_push rfl ?_
  refine w_push rfl ?_
  refine w_cpy rfl rfl rfl rfl rfl (by omega) (by omega) (by omega) (by omega) (by omega) rfl rfl rfl ?_
  refine w_ldR rfl rfl rfl ?_
  refine w_ldR rfl rfl rfl ?_
  first | refine w_getI rfl rfl rfl rfl rfl ?_ | refine w_getR rfl rfl rfl rfl rfl ?_
  refine w_putI rfl rfl rfl rfl rfl rfl rfl ?_
  refine w_ldR rfl rfl rfl ?_
  refine w_ldR rfl rfl rfl ?_
  first | refine w_getI rfl rfl rfl rfl rfl ?_ | refine w_getR rfl rfl rfl rfl rfl ?_
  refine w_putI rfl rfl rfl rfl rfl rfl rfl ?_
  refine w_ldR rfl rfl rfl ?_
  refine w_ldR rfl rfl rfl ?_
  first | refine w_getI rfl rfl rfl rfl rfl ?_ | refine w_getR rfl rfl rfl rfl rfl ?_
  refine w_putI rfl rfl rfl rfl rfl rfl rfl ?_
  refine w_ldR rfl rfl rfl ?_
  refine w_ldR rfl rfl rfl ?_
  first | refine w_getI rfl rfl rfl rfl rfl ?_ | refine w_getR rfl rfl rfl rfl rfl ?_
  refine w_putI rfl rfl rfl rfl rfl rfl rfl ?_
  refine w_ldR rfl rfl rfl ?_
  refine w_ldR rfl rfl rfl ?_
  first | refine w_getI rfl rfl rfl rfl rfl ?_ | refine w_getR rfl rfl rfl rfl rfl ?_
  refine w_putI rfl rfl rfl rfl rfl rfl rfl ?_
  refine w_push rfl ?_
  refine w_StI_3_2 rfl rfl ?_
  refine kk _ ?_ (fun i h1 h2 => ?_) ?_ ?_ ?_ ?_ ?_
  · (repeat (first | exact Fr.rf | refine Fr.tr ?_ (Fr.us rfl) | refine Fr.tr ?_ (Fr.ua rfl)))
  · simp (disch := decide) only [us_d, ua_ua, ua_eq, ua_ne, mup_ne, mup_eq]
    exact mcpy_i (by omega)
  · simp (disch := decide) only [us_d, ua_ua, ua_eq, ua_ne, mup_ne, mup_eq]
  · simp (disch := decide) only [us_d, ua_ua, ua_eq, ua_ne, mup_ne, mup_eq]
  · simp (disch := decide) only [us_d, ua_ua, ua_eq, ua_ne, mup_ne, mup_eq]
  · simp (disch := decide) only [us_d, ua_ua, ua_eq, ua_ne, mup_ne, mup_eq]
  · simp (disch := decide) only [us_d, ua_ua, ua_eq, ua_ne, mup_ne, mup_eq]
theorem l_cpM51_13 {d : Nat} {s : mSt} {Q : mQ} {s0 : mSt} (k : Nat) (i : Int) (hi : i = (k : Int)) (hk : k ≤ 6) (hf : Fr [53] s0 s) (hL : ∀ j : Int, 0 ≤ j → j < 6 → ∃ a n m, LampAt s0 (s0 15 j.toNat) a n m) (h1 : ∀ j : Int, 0 ≤ j → j < (k : Int) → s 53 j.toNat = s0 15 j.toNat) (kk : ∀ s1, Fr [53] s0 s1 → (∀ j : Int, 0 ≤ j → j < 6 → s1 53 j.toNat = s0 15 j.toNat) → WP (d + 3) 85 43 [some (.inr (.inr 51)), some (.inr (.inr 13)), some (.inl 6)] [] (encA (s1)) (Q)) : WP (d + 3) 85 30 [some (.inr (.inr 51)), some (.inr (.inr 13)), some (.inl i)] [] (encA (s)) (Q) := by
  subst hi
  refine w_ldI rfl rfl ?_
  refine w_push rfl ?_
  refine w_crGe rfl (by omega) (by omega) (fun b32 => ?_) (fun b32 => ?_)
  · first
    | (exfalso; omega)
    | (obtain rfl : k = 6 := by omega
       exact kk s hf h1)
  · first
    | (exfalso; omega)
    | (refine w_ldR rfl rfl rfl ?_
       first | refine w_getI rfl rfl rfl rfl rfl ?_ | refine w_getR rfl rfl rfl rfl rfl ?_
       refine w_ldI rfl rfl ?_
       refine w_ldR rfl rfl rfl ?_
       first | refine w_getI rfl rfl rfl rfl rfl ?_ | refine w_getR rfl rfl rfl rfl rfl ?_
       refine w_ldI rfl rfl ?_
       obtain ⟨a, n, m, la, hr, had, hla⟩ := hL k (by omega) (by omega)
       have hla2 := LampA.f2 rfl hf had hla
       refine w_rldL rfl rfl rfl (by omega) rfl ?_
       rw [hf.at 15 rfl, hr, Int.toNat_natCast]
       refine w_rstL rfl rfl rfl hla.1 hla2.2 (kc_all a) (by omega) rfl ?_
       refine w_inc_3_2 rfl rfl ?_
       refine w_go rfl ?_
       refine l_cpM51_13 (k + 1) ((k : Int) + 1) (by omega) (by omega) (hf.tr (Fr.us rfl)) hL (fun j h3 h4 => ?_) kk
       rw [us_eq]
       unfold mup
       by_cases e : j.toNat = (k : Int).toNat
       · rw [if_pos e, e, hr]
       · rw [if_neg e]; exact h1 j h3 (by omega))
termination_by 6 - k
decreasing_by all_goals omega
theorem k_cpB51_13 {d : Nat} {s : mSt} {Q : mQ} {l2 : Option mAV} (kk : ∀ s1, Fr [51, 54, 55, 56, 57, 58, 59] s s1 → (∀ i : Int, 0 ≤ i → i < 6 → s1 54 i.toNat = s 16 i.toNat) → (∀ i : Int, 0 ≤ i → i < 6 → s1 55 i.toNat = s 17 i.toNat) → (∀ i : Int, 0 ≤ i → i < 10 → s1 56 i.toNat = s 18 i.toNat) → (∀ i : Int, 0 ≤ i → i < 10 → s1 57 i.toNat = s 19 i.toNat) → (∀ i : Int, 0 ≤ i → i < 10 → s1 58 i.toNat = s 20 i.toNat) → (∀ i : Int, 0 ≤ i → i < 10 → s1 59 i.toNat = s 21 i.toNat) → s1 51 9 = s 13 9 → s1 51 1 = s 51 1 → s1 51 2 = s 51 2 → s1 51 3 = s 51 3 → s1 51 4 = s 51 4 → s1 51 5 = s 51 5 → WP (d + 3) 85 95 [some (.inr (.inr 51)), some (.inr (.inr 13)), l2] [] (encA (s1)) (Q)) : WP (d + 3) 85 43 [some (.inr (.inr 51)), some (.inr (.inr 13)), l2] [] (encA (s)) (Q) := by
  refine w_ldR rfl rfl rfl ?_
  first | refine w_getI rfl rfl rfl rfl rfl ?_ | refine w_getR rfl rfl rfl rfl rfl ?_
  refine w_push rfl ?_
  refine w_ldR rfl rfl rfl ?_
  first | refine w_getI rfl rfl rfl rfl rfl ?_ | refine w_getR rfl rfl rfl rfl rfl ?_
  refine w_push rfl ?_
  refine w_push rfl ?_
  refine w_cpy rfl rfl rfl rfl rfl (by omega) (by omega) (by omega) (by omega) (by omega) rfl rfl rfl ?_
  refine w_ldR rfl rfl rfl ?_
  first | refine w_getI rfl rfl rfl rfl rfl ?_ | refine w_getR rfl rfl rfl rfl rfl ?_
  refine w_push rfl ?_
  refine w_ldR rfl rfl rfl ?_
  first | refine w_getI rfl rfl rfl rfl rfl ?_ | refine w_getR rfl rfl rfl rfl rfl ?_
  refine w_push rfl ?_
  refine w_push rfl ?_
  refine w_cpy rfl rfl rfl rfl rfl (by omega) (by omega) (by omega) (by omega) (by omega) rfl rfl rfl ?_
  refine w_ldR rfl rfl rfl ?_
  refine w_ldR rfl rfl rfl ?_
  first | refine w_getI rfl rfl rfl rfl rfl ?_ | refine w_getR rfl rfl rfl rfl rfl ?_
  refine w_putI rfl rfl rfl rfl rfl rfl rfl ?_
  refine w_ldR rfl rfl rfl ?_
  first | refine w_getI rfl rfl rfl rfl rfl ?_ | refine w_getR rfl rfl rfl rfl rfl ?_
  refine w_push rfl ?_
  refine w_ldR rfl rfl rfl ?_
  first | refine w_getI rfl rfl rfl rfl rfl ?_ | refine w_getR rfl rfl rfl rfl rfl ?_
  refine w_push rfl ?_
  refine w_push rfl ?_
  refine w_cpy rfl rfl rfl rfl rfl (by omega) (by omega) (by omega) (by omega) (by omega) rfl rfl rfl ?_
  refine w_ldR rfl rfl rfl ?_
  first | refine w_getI rfl rfl rfl rfl rfl ?_ | refine w_getR rfl rfl rfl rfl rfl ?_
  refine w_push rfl ?_
  refine w_ldR rfl rfl rfl ?_
  first | refine w_getI rfl rfl rfl rfl rfl ?_ | refine w_getR rfl rfl rfl rfl rfl ?_
  refine w_push rfl ?_
  refine w_push rfl ?_
  refine w_cpy rfl rfl rfl rfl rfl (by omega) (by omega) (by omega) (by omega) (by omega) rfl rfl rfl ?_
  refine w_ldR rfl rfl rfl ?_
  first | refine w_getI rfl rfl rfl rfl rfl ?_ | refine w_getR rfl rfl rfl rfl rfl ?_
  refine w_push rfl ?_
  refine w_ldR rfl rfl rfl ?_
  first | refine w_getI rfl rfl rfl rfl rfl ?_ | refine w_getR rfl rfl rfl rfl rfl ?_
  refine w_push rfl ?_
  refine w_push rfl ?_
  refine w_cpy rfl rfl rfl rfl rfl (by omega) (by omega) (by omega) (by omega) (by omega) rfl rfl rfl ?_
  refine w_ldR rfl rfl rfl ?_
  first | refine w_getI rfl rfl rfl rfl rfl ?_ | refine w_getR rfl rfl rfl rfl rfl ?_
  refine w_push rfl ?_
  refine w_ldR rfl rfl rfl ?_
  first | refine w_getI rfl rfl rfl rfl rfl ?_ | refine w_getR rfl rfl rfl rfl rfl ?_
  refine w_push rfl ?_
  refine w_push rfl ?_
  refine w_cpy rfl rfl rfl rfl rfl (by omega) (by omega) (by omega) (by omega) (by omega) rfl rfl rfl ?_
  refine kk _ ?_ (fun i h1 h2 => ?_) (fun i h1 h2 => ?_) (fun i h1 h2 => ?_) (fun i h1 h2 => ?_) (fun i h1 h2 => ?_) (fun i h1 h2 => ?_) ?_ ?_ ?_ ?_ ?_ ?_
  · (repeat (first | exact Fr.rf | refine Fr.tr ?_ (Fr.us rfl) | refine Fr.tr ?_ (Fr.ua rfl)))
  · simp (disch := decide) only [us_d, ua_ua, ua_eq, ua_ne, mup_ne, mup_eq]
    exact mcpy_i (by omega)
  · simp (disch := decide) only [us_d, ua_ua, ua_eq, ua_ne, mup_ne, mup_eq]
    exact mcpy_i (by omega)
  · simp (disch := decide) only [us_d, ua_ua, ua_eq, ua_ne, mup_ne, mup_eq]
    exact mcpy_i (by omega)
  · simp (disch := decide) only [us_d, ua_ua, ua_eq, ua_ne, mup_ne, mup_eq]
    exact mcpy_i (by omega)
  · simp (disch := decide) only [us_d, ua_ua, ua_eq, ua_ne, mup_ne, mup_eq]
    exact mcpy_i (by omega)
  · simp (disch := decide) only [us_d, ua_ua, ua_eq, ua_ne, mup_ne, mup_eq]
    exact mcpy_i (by omega)
  · simp (disch := decide) only [us_d, ua_ua, ua_eq, ua_ne, mup_ne, mup_eq]
  · simp (disch := decide) only [us_d, ua_ua, ua_eq, ua_ne, mup_ne, mup_eq]
  · simp (disch := decide) only [us_d, ua_ua, ua_eq, ua_ne, mup_ne, mup_eq]
  · simp (disch := decide) only [us_d, ua_ua, ua_eq, ua_ne, mup_ne, mup_eq]
  · simp (disch := decide) only [us_d, ua_ua, ua_eq, ua_ne, mup_ne, mup_eq]
  · simp (disch := decide) only [us_d, ua_ua, ua_eq, ua_ne, mup_ne, mup_eq]
theorem k_cpC51_13 {d : Nat} {s : mSt} {Q : mQ} {l2 : Option mAV} (h9 : 0 ≤ s 22 1 ∧ s 22 1 ≤ 12) (h11 : 0 ≤ s 24 1 ∧ s 24 1 ≤ 50) (h13 : 0 ≤ s 26 1 ∧ s 26 1 ≤ 20) (kk : ∀ s1, Fr [60, 61, 62, 63, 64, 65] s s1 → s1 60 1 = s 22 1 → (∀ i : Int, 0 ≤ i → i < s 22 1 → s1 61 i.toNat = s 23 i.toNat) → s1 62 1 = s 24 1 → (∀ i : Int, 0 ≤ i → i < s 24 1 → s1 63 i.toNat = s 25 i.toNat) → s1 64 1 = s 26 1 → (∀ i : Int, 0 ≤ i → i < s 26 1 → s1 65 i.toNat = s 27 i.toNat) → WP (d + 3) 85 112 [some (.inr (.inr 51)), some (.inr (.inr 13)), some (.inl 0)] [] (encA (s1)) (Q)) : WP (d + 3) 85 95 [some (.inr (.inr 51)), some (.inr (.inr 13)), l2] [] (encA (s)) (Q) := by
  refine w_ldR rfl rfl rfl ?_
  first | refine w_getI rfl rfl rfl rfl rfl ?_ | refine w_getR rfl rfl rfl rfl rfl ?_
  refine w_ldR rfl rfl rfl ?_
  first | refine w_getI rfl rfl rfl rfl rfl ?_ | refine w_getR rfl rfl rfl rfl rfl ?_
  refine w_callWN rfl rfl rfl rfl rfl rfl rfl (k_copyR60_22 h9) (fun s99 p99 => ?_)
  refine w_ldR rfl rfl rfl ?_
  first | refine w_getI rfl rfl rfl rfl rfl ?_ | refine w_getR rfl rfl rfl rfl rfl ?_
  refine w_ldR rfl rfl rfl ?_
  first | refine w_getI rfl rfl rfl rfl rfl ?_ | refine w_getR rfl rfl rfl rfl rfl ?_
  refine w_callWN rfl rfl rfl rfl rfl rfl rfl (k_copyR62_24 (by rw [p99.2.2.at 24 rfl]; exact h11)) (fun s104 p104 => ?_)
  refine w_ldR rfl rfl rfl ?_
  first | refine w_getI rfl rfl rfl rfl rfl ?_ | refine w_getR rfl rfl rfl rfl rfl ?_
  refine w_ldR rfl rfl rfl ?_
  first | refine w_getI rfl rfl rfl rfl rfl ?_ | refine w_getR rfl rfl rfl rfl rfl ?_
  refine w_callWN rfl rfl rfl rfl rfl rfl rfl (k_copyR64_26 (by rw [p104.2.2.at 26 rfl, p99.2.2.at 26 rfl]; exact h13)) (fun s109 p109 => ?_)
  refine w_push rfl ?_
  refine w_StI_3_2 rfl rfl ?_
  have g1 := p99.2.2
  have g2 := p104.2.2
  have g3 := p109.2.2
  refine kk _ ((Fr.mono rfl g1).tr ((Fr.mono rfl g2).tr (Fr.mono rfl g3))) ?_ ?_ ?_ ?_ ?_ ?_
  · rw [g3.at 60 rfl, g2.at 60 rfl]; exact p99.1
  · rw [g3.at 61 rfl, g2.at 61 rfl]; exact p99.2.1
  · rw [g3.at 62 rfl, p104.1, g1.at 24 rfl]
  · intro i h1 h2
    rw [g3.at 63 rfl, p104.2.1 i h1 (by rw [g1.at 24 rfl]; exact h2), g1.at 25 rfl]
  · rw [p109.1, g2.at 26 rfl, g1.at 26 rfl]
  · intro i h1 h2
    rw [p109.2.1 i h1 (by rw [g2.at 26 rfl, g1.at 26 rfl]; exact h2), g2.at 27 rfl, g1.at 27 rfl]
theorem k_cpD251_13 {d : Nat} {s : mSt} {P : mSt → Prop} (hP : P s) : WP (d + 3) 85 112 [some (.inr (.inr 51)), some (.inr (.inr 13)), some (.inl 2)] [] (encA (s)) (QV P) := by
  refine w_ldI rfl rfl ?_
  refine w_push rfl ?_
  refine w_crGe rfl (by omega) (by omega) (fun b114 => ?_) (fun b114 => ?_)
  · first
    | (exfalso; omega)
    | (refine w_retV rfl ?_
       exact hP)
  · (exfalso; omega)
theorem k_cpD151_13 {d : Nat} {s : mSt} {P : mSt → Prop} (h31 : 0 ≤ s 44 1 ∧ s 44 1 ≤ 50) (hP : ∀ s1, Fr [82, 83] s s1 → s1 82 1 = s 44 1 → (∀ i : Int, 0 ≤ i → i < s 44 1 → s1 83 i.toNat = s 45 i.toNat) → P s1) : WP (d + 3) 85 112 [some (.inr (.inr 51)), some (.inr (.inr 13)), some (.inl 1)] [] (encA (s)) (QV P) := by
  refine w_ldI rfl rfl ?_
  refine w_push rfl ?_
  refine w_crGe rfl (by omega) (by omega) (fun b114 => ?_) (fun b114 => ?_)
  · (exfalso; omega)
  · first
    | (exfalso; omega)
    | (refine w_ldR rfl rfl rfl ?_
       first | refine w_getI rfl rfl rfl rfl rfl ?_ | refine w_getR rfl rfl rfl rfl rfl ?_
       refine w_ldI rfl rfl ?_
       refine w_rld rfl rfl rfl (by omega) rfl ?_
       show WP _ _ _ _ (.inr (.inr 81) :: _) _ _
       refine w_ldR rfl rfl rfl ?_
       first | refine w_getI rfl rfl rfl rfl rfl ?_ | refine w_getR rfl rfl rfl rfl rfl ?_
       refine w_ldI rfl rfl ?_
       refine w_rld rfl rfl rfl (by omega) rfl ?_
       show WP _ _ _ _ (.inr (.inr 43) :: _) _ _
       refine w_callWN rfl rfl rfl rfl rfl rfl rfl (k_copyL81_43 h31) (fun s123 p123 => ?_)
       refine w_inc_3_2 rfl rfl ?_
       refine w_go rfl ?_
       exact k_cpD251_13 (hP _ p123.2.2 p123.1 p123.2.1))
theorem k_cpD051_13 {d : Nat} {s : mSt} {P : mSt → Prop} (h23 : 0 ≤ s 36 1 ∧ s 36 1 ≤ 50) (h31 : 0 ≤ s 44 1 ∧ s 44 1 ≤ 50) (hP : ∀ s1, Fr [74, 75, 82, 83] s s1 → s1 74 1 = s 36 1 → (∀ i : Int, 0 ≤ i → i < s 36 1 → s1 75 i.toNat = s 37 i.toNat) → s1 82 1 = s 44 1 → (∀ i : Int, 0 ≤ i → i < s 44 1 → s1 83 i.toNat = s 45 i.toNat) → P s1) : WP (d + 3) 85 112 [some (.inr (.inr 51)), some (.inr (.inr 13)), some (.inl 0)] [] (encA (s)) (QV P) := by
  refine w_ldI rfl rfl ?_
  refine w_push rfl ?_
  refine w_crGe rfl (by omega) (by omega) (fun b114 => ?_) (fun b114 => ?_)
  · (exfalso; omega)
  · first
    | (exfalso; omega)
    | (refine w_ldR rfl rfl rfl ?_
       first | refine w_getI rfl rfl rfl rfl rfl ?_ | refine w_getR rfl rfl rfl rfl rfl ?_
       refine w_ldI rfl rfl ?_
       refine w_rld rfl rfl rfl (by omega) rfl ?_
       show WP _ _ _ _ (.inr (.inr 73) :: _) _ _
       refine w_ldR rfl rfl rfl ?_
       first | refine w_getI rfl rfl rfl rfl rfl ?_ | refine w_getR rfl rfl rfl rfl rfl ?_
       refine w_ldI rfl rfl ?_
       refine w_rld rfl rfl rfl (by omega) rfl ?_
       show WP _ _ _ _ (.inr (.inr 35) :: _) _ _
       refine w_callWN rfl rfl rfl rfl rfl rfl rfl (k_copyL73_35 h23) (fun s123 p123 => ?_)
       refine w_inc_3_2 rfl rfl ?_
       refine w_go rfl ?_
       have g1 := p123.2.2
       refine k_cpD151_13 (by rw [g1.at 44 rfl]; exact h31) (fun s1 hf e1 e2 => hP s1 ((Fr.mono rfl g1).tr (Fr.mono rfl hf)) ?_ ?_ ?_ ?_)
       · rw [hf.at 74 rfl]; exact p123.1
       · rw [hf.at 75 rfl]; exact p123.2.1
       · rw [e1, g1.at 44 rfl]
       · intro i h1 h2
         rw [e2 i h1 (by rw [g1.at 44 rfl]; exact h2), g1.at 45 rfl])
theorem k_copy51_13 {d : Nat} {s : mSt} {D : Nat → Int} (hV : VN13 s D) (hM : MOk D) (hC : COk D) (hu0 : s 73 0 = 0) (hu1 : s 81 0 = 1) : CV (d + 3) 85 [.inr (.inr 51), .inr (.inr 13)] s (fun s1 => VN51 s1 D ∧ s1 51 1 = s 13 1 ∧ Fr [51, 52, 53, 54, 55, 56, 57, 58, 59, 60, 61, 62, 63, 64, 65, 74, 75, 82, 83] s s1) := by
  obtain ⟨vc, vpl, vga, vse, vne, veg, vre, vtu, vta, vwa, v36, v37, v39, v40, v42, v41, v43, v44, vl0, vl1, vlm⟩ := hV
  have hn0 := hC.1.1
  have hn1 := hC.2.1
  obtain ⟨hM39, hM40, hM41, hM43, hM44, -⟩ := hM
  refine CV.mk rfl ?_
  refine k_cpA51_13 (fun sA fA aA a1 a2 a3 a4 a5 => ?_)
  refine l_cpM51_13 (s0 := sA) 0 0 rfl (by omega) Fr.rf (fun j h1 h2 => ?_) (fun j h1 h2 => by omega) (fun sM fM aM => ?_)
  · rw [fA.at 15 rfl]
    exact ⟨_, _, _, LampAt.fr rfl fA (vlm j h1 h2)⟩
  refine k_cpB51_13 (fun sB fB aB3 aB4 aB5 aB6 aB7 aB8 e9 b1 b2 b3 b4 b5 => ?_)
  refine k_cpC51_13 (by rw [fB.at 22 rfl, fM.at 22 rfl, fA.at 22 rfl, v41]; omega) (by rw [fB.at 24 rfl, fM.at 24 rfl, fA.at 24 rfl, v43]; omega) (by rw [fB.at 26 rfl, fM.at 26 rfl, fA.at 26 rfl, v44]; omega) (fun sC fC e9r aC9 e11 aC11 e13 aC13 => ?_)
  refine k_cpD051_13 (by rw [fC.at 36 rfl, fB.at 36 rfl, fM.at 36 rfl, fA.at 36 rfl, vl0.2.1]; omega) (by rw [fC.at 44 rfl, fB.at 44 rfl, fM.at 44 rfl, fA.at 44 rfl, vl1.2.1]; omega) (fun s1 fD e23 aD23 e31 aD31 => ?_)
  have fAll : Fr [51, 52, 53, 54, 55, 56, 57, 58, 59, 60, 61, 62, 63, 64, 65, 74, 75, 82, 83] s s1 := (Fr.mono rfl fA).tr ((Fr.mono rfl fM).tr ((Fr.mono rfl fB).tr ((Fr.mono rfl fC).tr (Fr.mono rfl fD))))
  refine ⟨⟨fun i h1 h2 => by rw [fD.at 52 rfl, fC.at 52 rfl, fB.at 52 rfl, fM.at 52 rfl, aA i h1 h2]; exact vc i h1 h2,
    fun i h1 h2 => by rw [fD.at 54 rfl, fC.at 54 rfl, aB3 i h1 h2, fM.at 16 rfl, fA.at 16 rfl]; exact vpl i h1 h2,
    fun i h1 h2 => by rw [fD.at 55 rfl, fC.at 55 rfl, aB4 i h1 h2, fM.at 17 rfl, fA.at 17 rfl]; exact vga i h1 h2,
    fun i h1 h2 => by rw [fD.at 56 rfl, fC.at 56 rfl, aB5 i h1 h2, fM.at 18 rfl, fA.at 18 rfl]; exact vse i h1 h2,
    fun i h1 h2 => by rw [fD.at 57 rfl, fC.at 57 rfl, aB6 i h1 h2, fM.at 19 rfl, fA.at 19 rfl]; exact vne i h1 h2,
    fun i h1 h2 => by rw [fD.at 58 rfl, fC.at 58 rfl, aB7 i h1 h2, fM.at 20 rfl, fA.at 20 rfl]; exact veg i h1 h2,
    fun i h1 h2 => by rw [fD.at 59 rfl, fC.at 59 rfl, aB8 i h1 h2, fM.at 21 rfl, fA.at 21 rfl]; exact vre i h1 h2,
    fun i h1 h2 => by rw [fD.at 61 rfl, aC9 i h1 (by rw [fB.at 22 rfl, fM.at 22 rfl, fA.at 22 rfl]; omega), fB.at 23 rfl, fM.at 23 rfl, fA.at 23 rfl]; exact vtu i h1 h2,
    fun i h1 h2 => by rw [fD.at 63 rfl, aC11 i h1 (by rw [fB.at 24 rfl, fM.at 24 rfl, fA.at 24 rfl]; omega), fB.at 25 rfl, fM.at 25 rfl, fA.at 25 rfl]; exact vta i h1 h2,
    fun i h1 h2 => by rw [fD.at 65 rfl, aC13 i h1 (by rw [fB.at 26 rfl, fM.at 26 rfl, fA.at 26 rfl]; omega), fB.at 27 rfl, fM.at 27 rfl, fA.at 27 rfl]; exact vwa i h1 h2,
    by rw [fD.at 51 rfl, fC.at 51 rfl, b2, fM.at 51 rfl, a2]; exact v36,
    by rw [fD.at 51 rfl, fC.at 51 rfl, b3, fM.at 51 rfl, a3]; exact v37,
    by rw [fD.at 51 rfl, fC.at 51 rfl, b5, fM.at 51 rfl, a5]; exact v39,
    by rw [fD.at 51 rfl, fC.at 51 rfl, e9, fM.at 13 rfl, fA.at 13 rfl]; exact v40,
    by rw [fD.at 51 rfl, fC.at 51 rfl, b4, fM.at 51 rfl, a4]; exact v42,
    by rw [fD.at 60 rfl, e9r, fB.at 22 rfl, fM.at 22 rfl, fA.at 22 rfl]; exact v41,
    by rw [fD.at 62 rfl, e11, fB.at 24 rfl, fM.at 24 rfl, fA.at 24 rfl]; exact v43,
    by rw [fD.at 64 rfl, e13, fB.at 26 rfl, fM.at 26 rfl, fA.at 26 rfl]; exact v44,
    ⟨by rw [fD.at 73 rfl, fC.at 73 rfl, fB.at 73 rfl, fM.at 73 rfl, fA.at 73 rfl]; exact hu0, by rw [e23, fC.at 36 rfl, fB.at 36 rfl, fM.at 36 rfl, fA.at 36 rfl]; exact vl0.2.1, fun i h1 h2 h3 => by rw [aD23 i h1 (by rw [fC.at 36 rfl, fB.at 36 rfl, fM.at 36 rfl, fA.at 36 rfl, vl0.2.1]; exact h2), fC.at 37 rfl, fB.at 37 rfl, fM.at 37 rfl, fA.at 37 rfl]; exact vl0.2.2 i h1 h2 h3⟩,
    ⟨by rw [fD.at 81 rfl, fC.at 81 rfl, fB.at 81 rfl, fM.at 81 rfl, fA.at 81 rfl]; exact hu1, by rw [e31, fC.at 44 rfl, fB.at 44 rfl, fM.at 44 rfl, fA.at 44 rfl]; exact vl1.2.1, fun i h1 h2 h3 => by rw [aD31 i h1 (by rw [fC.at 44 rfl, fB.at 44 rfl, fM.at 44 rfl, fA.at 44 rfl, vl1.2.1]; exact h2), fC.at 45 rfl, fB.at 45 rfl, fM.at 45 rfl, fA.at 45 rfl]; exact vl1.2.2 i h1 h2 h3⟩,
    fun i h1 h2 => by rw [fD.at 53 rfl, fC.at 53 rfl, fB.at 53 rfl, aM i h1 h2, fA.at 15 rfl]; exact LampAt.fr rfl fAll (vlm i h1 h2)⟩, by rw [fD.at 51 rfl, fC.at 51 rfl, b1, fM.at 51 rfl, a1], fAll⟩
theorem k_copyR22_60 {d : Nat} {s : mSt} (hs : 0 ≤ s 60 1 ∧ s 60 1 ≤ 12) : CV (d + 1) 72 [.inr (.inr 22), .inr (.inr 60)] (s) (fun s1 => s1 22 1 = s 60 1 ∧ (∀ i : Int, 0 ≤ i → i < s 60 1 → s1 23 i.toNat = s 61 i.toNat) ∧ Fr [22, 23] s s1) := by
  refine CV.mk rfl ?_
  show WP (d + 1) 72 0 [some (.inr (.inr 22)), some (.inr (.inr 60))] [] (encA (s)) _
  refine w_ldR rfl rfl rfl ?_
  refine w_ldR rfl rfl rfl ?_
  first | refine w_getI rfl rfl rfl rfl rfl ?_ | refine w_getR rfl rfl rfl rfl rfl ?_
  refine w_ldR rfl rfl rfl ?_
  first | refine w_getI rfl rfl rfl rfl rfl ?_ | refine w_getR rfl rfl rfl rfl rfl ?_
  refine w_alen rfl rfl rfl ?_
  refine w_m2 rfl rfl ?_
  rw [m_min_id (by omega) (by omega), show min (s 60 1) ((12 : Nat) : Int) = s 60 1 by omega]
  refine w_putI rfl rfl rfl rfl rfl rfl rfl ?_
  refine w_ldR rfl rfl rfl ?_
  first | refine w_getI rfl rfl rfl rfl rfl ?_ | refine w_getR rfl rfl rfl rfl rfl ?_
  refine w_push rfl ?_
  refine w_ldR rfl rfl rfl ?_
  first | refine w_getI rfl rfl rfl rfl rfl ?_ | refine w_getR rfl rfl rfl rfl rfl ?_
  refine w_push rfl ?_
  refine w_ldR rfl rfl rfl ?_
  first | refine w_getI rfl rfl rfl rfl rfl ?_ | refine w_getR rfl rfl rfl rfl rfl ?_
  rw [us_eq, mup_eq]
  refine w_cpy rfl rfl rfl rfl rfl (by omega) (by omega) (by omega) (by omega) (by omega) rfl rfl rfl ?_
  refine w_retV rfl ?_
  refine ⟨by rw [ua_ne (by decide), us_eq, mup_eq], fun i h1 h2 => ?_, (Fr.us rfl).tr (Fr.ua rfl)⟩
  rw [ua_eq, mcpy_i (by omega), us_ne (by decide)]
theorem k_copyR24_62 {d : Nat} {s : mSt} (hs : 0 ≤ s 62 1 ∧ s 62 1 ≤ 50) : CV (d + 1) 72 [.inr (.inr 24), .inr (.inr 62)] (s) (fun s1 => s1 24 1 = s 62 1 ∧ (∀ i : Int, 0 ≤ i → i < s 62 1 → s1 25 i.toNat = s 63 i.toNat) ∧ Fr [24, 25] s s1) := by
  refine CV.mk rfl ?_
  show WP (d + 1) 72 0 [some (.inr (.inr 24)), some (.inr (.inr 62))] [] (encA (s)) _
  refine w_ldR rfl rfl rfl ?_
  refine w_ldR rfl rfl rfl ?_
  first | refine w_getI rfl rfl rfl rfl rfl ?_ | refine w_getR rfl rfl rfl rfl rfl ?_
  refine w_ldR rfl rfl rfl ?_
  first | refine w_getI rfl rfl rfl rfl rfl ?_ | refine w_getR rfl rfl rfl rfl rfl ?_
  refine w_alen rfl rfl rfl ?_
  refine w_m2 rfl rfl ?_
  rw [m_min_id (by omega) (by omega), show min (s 62 1) ((50 : Nat) : Int) = s 62 1 by omega]
  refine w_putI rfl rfl rfl rfl rfl rfl rfl ?_
  refine w_ldR rfl rfl rfl ?_
  first | refine w_getI rfl rfl rfl rfl rfl ?_ | refine w_getR rfl rfl rfl rfl rfl ?_
  refine w_push rfl ?_
  refine w_ldR rfl rfl rfl ?_
  first | refine w_getI rfl rfl rfl rfl rfl ?_ | refine w_getR rfl rfl rfl rfl rfl ?_
  refine w_push rfl ?_
  refine w_ldR rfl rfl rfl ?_
  first | refine w_getI rfl rfl rfl rfl rfl ?_ | refine w_getR rfl rfl rfl rfl rfl ?_
  rw [us_eq, mup_eq]
  refine w_cpy rfl rfl rfl rfl rfl (by omega) (by omega) (by omega) (by omega) (by omega) rfl rfl rfl ?_
  refine w_retV rfl ?_
  refine ⟨by rw [ua_ne (by decide), us_eq, mup_eq], fun i h1 h2 => ?_, (Fr.us rfl).tr (Fr.ua rfl)⟩
  rw [ua_eq, mcpy_i (by omega), us_ne (by decide)]
theorem k_copyR26_64 {d : Nat} {s : mSt} (hs : 0 ≤ s 64 1 ∧ s 64 1 ≤ 20) : CV (d + 1) 72 [.inr (.inr 26), .inr (.inr 64)] (s) (fun s1 => s1 26 1 = s 64 1 ∧ (∀ i : Int, 0 ≤ i → i < s 64 1 → s1 27 i.toNat = s 65 i.toNat) ∧ Fr [26, 27] s s1) := by
  refine CV.mk rfl ?_
  show WP (d + 1) 72 0 [some (.inr (.inr 26)), some (.inr (.inr 64))] [] (encA (s)) _
  refine w_ldR rfl rfl rfl ?_
  refine w_ldR rfl rfl rfl ?_
  first | refine w_getI rfl rfl rfl rfl rfl ?_ | refine w_getR rfl rfl rfl rfl rfl ?_
  refine w_ldR rfl rfl rfl ?_
  first | refine w_getI rfl rfl rfl rfl rfl ?_ | refine w_getR rfl rfl rfl rfl rfl ?_
  refine w_alen rfl rfl rfl ?_
  refine w_m2 rfl rfl ?_
  rw [m_min_id (by omega) (by omega), show min (s 64 1) ((20 : Nat) : Int) = s 64 1 by omega]
  refine w_putI rfl rfl rfl rfl rfl rfl rfl ?_
  refine w_ldR rfl rfl rfl ?_
  first | refine w_getI rfl rfl rfl rfl rfl ?_ | refine w_getR rfl rfl rfl rfl rfl ?_
  refine w_push rfl ?_
  refine w_ldR rfl rfl rfl ?_
  first | refine w_getI rfl rfl rfl rfl rfl ?_ | refine w_getR rfl rfl rfl rfl rfl ?_
  refine w_push rfl ?_
  refine w_ldR rfl rfl rfl ?_
  first | refine w_getI rfl rfl rfl rfl rfl ?_ | refine w_getR rfl rfl rfl rfl rfl ?_
  rw [us_eq, mup_eq]
  refine w_cpy rfl rfl rfl rfl rfl (by omega) (by omega) (by omega) (by omega) (by omega) rfl rfl rfl ?_
  refine w_retV rfl ?_
  refine ⟨by rw [ua_ne (by decide), us_eq, mup_eq], fun i h1 h2 => ?_, (Fr.us rfl).tr (Fr.ua rfl)⟩
  rw [ua_eq, mcpy_i (by omega), us_ne (by decide)]
theorem k_copyR36_74 {d : Nat} {s : mSt} (hs : 0 ≤ s 74 1 ∧ s 74 1 ≤ 50) : CV (d + 1) 72 [.inr (.inr 36), .inr (.inr 74)] (s) (fun s1 => s1 36 1 = s 74 1 ∧ (∀ i : Int, 0 ≤ i → i < s 74 1 → s1 37 i.toNat = s 75 i.toNat) ∧ Fr [36, 37] s s1) := by
  refine CV.mk rfl ?_
  show WP (d + 1) 72 0 [some (.inr (.inr 36)), some (.inr (.inr 74))] [] (encA (s)) _
  refine w_ldR rfl rfl rfl ?_
  refine w_ldR rfl rfl rfl ?_
  first | refine w_getI rfl rfl rfl rfl rfl ?_ | refine w_getR rfl rfl rfl rfl rfl ?_
  refine w_ldR rfl rfl rfl ?_
  first | refine w_getI rfl rfl rfl rfl rfl ?_ | refine w_getR rfl rfl rfl rfl rfl ?_
  refine w_alen rfl rfl rfl ?_
  refine w_m2 rfl rfl ?_
  rw [m_min_id (by omega) (by omega), show min (s 74 1) ((50 : Nat) : Int) = s 74 1 by omega]
  refine w_putI rfl rfl rfl rfl rfl rfl rfl ?_
  refine w_ldR rfl rfl rfl ?_
  first | refine w_getI rfl rfl rfl rfl rfl ?_ | refine w_getR rfl rfl rfl rfl rfl ?_
  refine w_push rfl ?_
  refine w_ldR rfl rfl rfl ?_
  first | refine w_getI rfl rfl rfl rfl rfl ?_ | refine w_getR rfl rfl rfl rfl rfl ?_
  refine w_push rfl ?_
  refine w_ldR rfl rfl rfl ?_
  first | refine w_getI rfl rfl rfl rfl rfl ?_ | refine w_getR rfl rfl rfl rfl rfl ?_
  rw [us_eq, mup_eq]
  refine w_cpy rfl rfl rfl rfl rfl (by omega) (by omega) (by omega) (by omega) (by omega) rfl rfl rfl ?_
  refine w_retV rfl ?_
  refine ⟨by rw [ua_ne (by decide), us_eq, mup_eq], fun i h1 h2 => ?_, (Fr.us rfl).tr (Fr.ua rfl)⟩
  rw [ua_eq, mcpy_i (by omega), us_ne (by decide)]
theorem k_copyR44_82 {d : Nat} {s : mSt} (hs : 0 ≤ s 82 1 ∧ s 82 1 ≤ 50) : CV (d + 1) 72 [.inr (.inr 44), .inr (.inr 82)] (s) (fun s1 => s1 44 1 = s 82 1 ∧ (∀ i : Int, 0 ≤ i → i < s 82 1 → s1 45 i.toNat = s 83 i.toNat) ∧ Fr [44, 45] s s1) := by
  refine CV.mk rfl ?_
  show WP (d + 1) 72 0 [some (.inr (.inr 44)), some (.inr (.inr 82))] [] (encA (s)) _
  refine w_ldR rfl rfl rfl ?_
  refine w_ldR rfl rfl rfl ?_
  first | refine w_getI rfl rfl rfl rfl rfl ?_ | refine w_getR rfl rfl rfl rfl rfl ?_
  refine w_ldR rfl rfl rfl ?_
  first | refine w_getI rfl rfl rfl rfl rfl ?_ | refine w_getR rfl rfl rfl rfl rfl ?_
  refine w_alen rfl rfl rfl ?_
  refine w_m2 rfl rfl ?_
  rw [m_min_id (by omega) (by omega), show min (s 82 1) ((50 : Nat) : Int) = s 82 1 by omega]
  refine w_putI rfl rfl rfl rfl rfl rfl rfl ?_
  refine w_ldR rfl rfl rfl ?_
  first | refine w_getI rfl rfl rfl rfl rfl ?_ | refine w_getR rfl rfl rfl rfl rfl ?_
  refine w_push rfl ?_
  refine w_ldR rfl rfl rfl ?_
  first | refine w_getI rfl rfl rfl rfl rfl ?_ | refine w_getR rfl rfl rfl rfl rfl ?_
  refine w_push rfl ?_
  refine w_ldR rfl rfl rfl ?_
  first | refine w_getI rfl rfl rfl rfl rfl ?_ | refine w_getR rfl rfl rfl rfl rfl ?_
  rw [us_eq, mup_eq]
  refine w_cpy rfl rfl rfl rfl rfl (by omega) (by omega) (by omega) (by omega) (by omega) rfl rfl rfl ?_
  refine w_retV rfl ?_
  refine ⟨by rw [ua_ne (by decide), us_eq, mup_eq], fun i h1 h2 => ?_, (Fr.us rfl).tr (Fr.ua rfl)⟩
  rw [ua_eq, mcpy_i (by omega), us_ne (by decide)]
theorem k_copyL35_73 {d : Nat} {s : mSt} (hs : 0 ≤ s 74 1 ∧ s 74 1 ≤ 50) : CV (d + 2) 38 [.inr (.inr 35), .inr (.inr 73)] (s) (fun s1 => s1 36 1 = s 74 1 ∧ (∀ i : Int, 0 ≤ i → i < s 74 1 → s1 37 i.toNat = s 75 i.toNat) ∧ Fr [36, 37] s s1) := by
  refine CV.mk rfl ?_
  show WP (d + 2) 38 0 [some (.inr (.inr 35)), some (.inr (.inr 73))] [] (encA (s)) _
  refine w_ldR rfl rfl rfl ?_
  first | refine w_getI rfl rfl rfl rfl rfl ?_ | refine w_getR rfl rfl rfl rfl rfl ?_
  refine w_ldR rfl rfl rfl ?_
  first | refine w_getI rfl rfl rfl rfl rfl ?_ | refine w_getR rfl rfl rfl rfl rfl ?_
  refine w_callWN rfl rfl rfl rfl rfl rfl rfl (k_copyR36_74 hs) (fun s4 p4 => ?_)
  refine w_retV rfl ?_
  exact p4
theorem k_copyL43_81 {d : Nat} {s : mSt} (hs : 0 ≤ s 82 1 ∧ s 82 1 ≤ 50) : CV (d + 2) 38 [.inr (.inr 43), .inr (.inr 81)] (s) (fun s1 => s1 44 1 = s 82 1 ∧ (∀ i : Int, 0 ≤ i → i < s 82 1 → s1 45 i.toNat = s 83 i.toNat) ∧ Fr [44, 45] s s1) := by
  refine CV.mk rfl ?_
  show WP (d + 2) 38 0 [some (.inr (.inr 43)), some (.inr (.inr 81))] [] (encA (s)) _
  refine w_ldR rfl rfl rfl ?_
  first | refine w_getI rfl rfl rfl rfl rfl ?_ | refine w_getR rfl rfl rfl rfl rfl ?_
  refine w_ldR rfl rfl rfl ?_
  first | refine w_getI rfl rfl rfl rfl rfl ?_ | refine w_getR rfl rfl rfl rfl rfl ?_
  refine w_callWN rfl rfl rfl rfl rfl rfl rfl (k_copyR44_82 hs) (fun s4 p4 => ?_)
  refine w_retV rfl ?_
  exact p4
theorem k_cpA13_51 {d : Nat} {s : mSt} {Q : mQ} (kk : ∀ s1, Fr [13, 14] s s1 → (∀ i : Int, 0 ≤ i → i < 36 → s1 14 i.toNat = s 52 i.toNat) → s1 13 1 = s 51 1 → s1 13 2 = s 51 2 → s1 13 3 = s 51 3 → s1 13 4 = s 51 4 → s1 13 5 = s 51 5 → WP (d + 3) 85 30 [some (.inr (.inr 13)), some (.inr (.inr 51)), some (.inl 0)] [] (encA (s1)) (Q)) : WP (d + 3) 85 0 [some (.inr (.inr 13)), some (.inr (.inr 51)), none] [] (encA (s)) (Q) := by
  refine w_ldR rfl rfl rfl ?_
  first | refine w_getI rfl rfl rfl rfl rfl ?_ | refine w_getR rfl rfl rfl rfl rfl ?_
  refine w_push rfl ?_
  refine w_ldR rfl rfl rfl ?_
  first | refine w_getI rfl rfl rfl rfl rfl ?_ | refine w_getR rfl rfl rfl rfl rfl ?_
  refine w_push rfl ?_
  refine w_push rfl ?_
  refine w_cpy rfl rfl rfl rfl rfl (by omega) (by omega) (by omega) (by omega) (by omega) rfl rfl rfl ?_
  refine w_ldR rfl rfl rfl ?_
  refine w_ldR rfl rfl rfl ?_
  first | refine w_getI rfl rfl rfl rfl rfl ?_ | refine w_getR rfl rfl rfl rfl rfl ?_
  refine w_putI rfl rfl rfl rfl rfl rfl rfl ?_
  refine w_ldR rfl rfl rfl ?_
  refine w_ldR rfl rfl rfl ?_
  first | refine w_getI rfl rfl rfl rfl rfl ?_ | refine w_getR rfl rfl rfl rfl rfl ?_
  refine w_putI rfl rfl rfl rfl rfl rfl rfl ?_
  refine w_ldR rfl rfl rfl ?_
  refine w_ldR rfl rfl rfl ?_
  first | refine w_getI rfl rfl rfl rfl rfl ?_ | refine w_getR rfl rfl rfl rfl rfl ?_
  refine w_putI rfl rfl rfl rfl rfl rfl rfl ?_
  refine w_ldR rfl rfl rfl ?_
  refine w_ldR rfl rfl rfl ?_
  first | refine w_getI rfl rfl rfl rfl rfl ?_ | refine w_getR rfl rfl rfl rfl rfl ?_
  refine w_putI rfl rfl rfl rfl rfl rfl rfl ?_
  refine w_ldR rfl rfl rfl ?_
  refine w_ldR rfl rfl rfl ?_
  first | refine w_getI rfl rfl rfl rfl rfl ?_ | refine w_getR rfl rfl rfl rfl rfl ?_
  refine w_putI rfl rfl rfl rfl rfl rfl rfl ?_
  refine w_push rfl ?_
  refine w_StI_3_2 rfl rfl ?_
  refine kk _ ?_ (fun i h1 h2 => ?_) ?_ ?_ ?_ ?_ ?_
  · (repeat (first | exact Fr.rf | refine Fr.tr ?_ (Fr.us rfl) | refine Fr.tr ?_ (Fr.ua rfl)))
  · simp (disch := decide) only [us_d, ua_ua, ua_eq, ua_ne, mup_ne, mup_eq]
    exact mcpy_i (by omega)
  · simp (disch := decide) only [us_d, ua_ua, ua_eq, ua_ne, mup_ne, mup_eq]
  · simp (disch := decide) only [us_d, ua_ua, ua_eq, ua_ne, mup_ne, mup_eq]
  · simp (disch := decide) only [us_d, ua_ua, ua_eq, ua_ne, mup_ne, mup_eq]
  · simp (disch := decide) only [us_d, ua_ua, ua_eq, ua_ne, mup_ne, mup_eq]
  · simp (disch := decide) only [us_d, ua_ua, ua_eq, ua_ne, mup_ne, mup_eq]
theorem l_cpM13_51 {d : Nat} {s : mSt} {Q : mQ} {s0 : mSt} (k : Nat) (i : Int) (hi : i = (k : Int)) (hk : k ≤ 6) (hf : Fr [15] s0 s) (hL : ∀ j : Int, 0 ≤ j → j < 6 → ∃ a n m, LampAt s0 (s0 53 j.toNat) a n m) (h1 : ∀ j : Int, 0 ≤ j → j < (k : Int) → s 15 j.toNat = s0 53 j.toNat) (kk : ∀ s1, Fr [15] s0 s1 → (∀ j : Int, 0 ≤ j → j < 6 → s1 15 j.toNat = s0 53 j.toNat) → WP (d + 3) 85 43 [some (.inr (.inr 13)), some (.inr (.inr 51)), some (.inl 6)] [] (encA (s1)) (Q)) : WP (d + 3) 85 30 [some (.inr (.inr 13)), some (.inr (.inr 51)), some (.inl i)] [] (encA (s)) (Q) := by
  subst hi
  refine w_ldI rfl rfl ?_
  refine w_push rfl ?_
  refine w_crGe rfl (by omega) (by omega) (fun b32 => ?_) (fun b32 => ?_)
  · first
    | (exfalso; omega)
    | (obtain rfl : k = 6 := by omega
       exact kk s hf h1)
  · first
    | (exfalso; omega)
    | (refine w_ldR rfl rfl rfl ?_
       first | refine w_getI rfl rfl rfl rfl rfl ?_ | refine w_getR rfl rfl rfl rfl rfl ?_
       refine w_ldI rfl rfl ?_
       refine w_ldR rfl rfl rfl ?_
       first | refine w_getI rfl rfl rfl rfl rfl ?_ | refine w_getR rfl rfl rfl rfl rfl ?_
       refine w_ldI rfl rfl ?_
       obtain ⟨a, n, m, la, hr, had, hla⟩ := hL k (by omega) (by omega)
       have hla2 := LampA.f2 rfl hf had hla
       refine w_rldL rfl rfl rfl (by omega) rfl ?_
       rw [hf.at 53 rfl, hr, Int.toNat_natCast]
       refine w_rstL rfl rfl rfl hla.1 hla2.2 (kc_all a) (by omega) rfl ?_
       refine w_inc_3_2 rfl rfl ?_
       refine w_go rfl ?_
       refine l_cpM13_51 (k + 1) ((k : Int) + 1) (by omega) (by omega) (hf.tr (Fr.us rfl)) hL (fun j h3 h4 => ?_) kk
       rw [us_eq]
       unfold mup
       by_cases e : j.toNat = (k : Int).toNat
       · rw [if_pos e, e, hr]
       · rw [if_neg e]; exact h1 j h3 (by omega))
termination_by 6 - k
decreasing_by all_goals omega
theorem k_cpB13_51 {d : Nat} {s : mSt} {Q : mQ} {l2 : Option mAV} (kk : ∀ s1, Fr [13, 16, 17, 18, 19, 20, 21] s s1 → (∀ i : Int, 0 ≤ i → i < 6 → s1 16 i.toNat = s 54 i.toNat) → (∀ i : Int, 0 ≤ i → i < 6 → s1 17 i.toNat = s 55 i.toNat) → (∀ i : Int, 0 ≤ i → i < 10 → s1 18 i.toNat = s 56 i.toNat) → (∀ i : Int, 0 ≤ i → i < 10 → s1 19 i.toNat = s 57 i.toNat) → (∀ i : Int, 0 ≤ i → i < 10 → s1 20 i.toNat = s 58 i.toNat) → (∀ i : Int, 0 ≤ i → i < 10 → s1 21 i.toNat = s 59 i.toNat) → s1 13 9 = s 51 9 → s1 13 1 = s 13 1 → s1 13 2 = s 13 2 → s1 13 3 = s 13 3 → s1 13 4 = s 13 4 → s1 13 5 = s 13 5 → WP (d + 3) 85 95 [some (.inr (.inr 13)), some (.inr (.inr 51)), l2] [] (encA (s1)) (Q)) : WP (d + 3) 85 43 [some (.inr (.inr 13)), some (.inr (.inr 51)), l2] [] (encA (s)) (Q) := by
  refine w_ldR rfl rfl rfl ?_
  first | refine w_getI rfl rfl rfl rfl rfl ?_ | refine w_getR rfl rfl rfl rfl rfl ?_
  refine w_push rfl ?_
  refine w_ldR rfl rfl rfl ?_
  first | refine w_getI rfl rfl rfl rfl rfl ?_ | refine w_getR rfl rfl rfl rfl rfl ?_
  refine w_push rfl ?_
  refine w_push rfl ?_
  refine w_cpy rfl rfl rfl rfl rfl (by omega) (by omega) (by omega) (by omega) (by omega) rfl rfl rfl ?_
  refine w_ldR rfl rfl rfl ?_
  first | refine w_getI rfl rfl rfl rfl rfl ?_ | refine w_getR rfl rfl rfl rfl rfl ?_
  refine w_push rfl ?_
  refine w_ldR rfl rfl rfl ?_
  first | refine w_getI rfl rfl rfl rfl rfl ?_ | refine w_getR rfl rfl rfl rfl rfl ?_
  refine w_push rfl ?_
  refine w_push rfl ?_
  refine w_cpy rfl rfl rfl rfl rfl (by omega) (by omega) (by omega) (by omega) (by omega) rfl rfl rfl ?_
  refine w_ldR rfl rfl rfl ?_
  refine w_ldR rfl rfl rfl ?_
  first | refine w_getI rfl rfl rfl rfl rfl ?_ | refine w_getR rfl rfl rfl rfl rfl ?_
  refine w_putI rfl rfl rfl rfl rfl rfl rfl ?_
  refine w_ldR rfl rfl rfl ?_
  first | refine w_getI rfl rfl rfl rfl rfl ?_ | refine w_getR rfl rfl rfl rfl rfl ?_
  refine w_push rfl ?_
  refine w_ldR rfl rfl rfl ?_
  first | refine w_getI rfl rfl rfl rfl rfl ?_ | refine w_getR rfl rfl rfl rfl rfl ?_
  refine w_push rfl ?_
  refine w_push rfl ?_
  refine w_cpy rfl rfl rfl rfl rfl (by omega) (by omega) (by omega) (by omega) (by omega) rfl rfl rfl ?_
  refine w_ldR rfl rfl rfl ?_
  first | refine w_getI rfl rfl rfl rfl rfl ?_ | refine w_getR rfl rfl rfl rfl rfl ?_
  refine w_push rfl ?_
  refine w_ldR rfl rfl rfl ?_
  first | refine w_getI rfl rfl rfl rfl rfl ?_ | refine w_getR rfl rfl rfl rfl rfl ?_
  refine w_push rfl ?_
  refine w_push rfl ?_
  refine w_cpy rfl rfl rfl rfl rfl (by omega) (by omega) (by omega) (by omega) (by omega) rfl rfl rfl ?_
  refine w_ldR rfl rfl rfl ?_
  first | refine w_getI rfl rfl rfl rfl rfl ?_ | refine w_getR rfl rfl rfl rfl rfl ?_
  refine w_push rfl ?_
  refine w_ldR rfl rfl rfl ?_
  first | refine w_getI rfl rfl rfl rfl rfl ?_ | refine w_getR rfl rfl rfl rfl rfl ?_
  refine w_push rfl ?_
  refine w_push rfl ?_
  refine w_cpy rfl rfl rfl rfl rfl (by omega) (by omega) (by omega) (by omega) (by omega) rfl rfl rfl ?_
  refine w_ldR rfl rfl rfl ?_
  first | refine w_getI rfl rfl rfl rfl rfl ?_ | refine w_getR rfl rfl rfl rfl rfl ?_
  refine w_push rfl ?_
  refine w_ldR rfl rfl rfl ?_
  first | refine w_getI rfl rfl rfl rfl rfl ?_ | refine w_getR rfl rfl rfl rfl rfl ?_
  refine w_push rfl ?_
  refine w_push rfl ?_
  refine w_cpy rfl rfl rfl rfl rfl (by omega) (by omega) (by omega) (by omega) (by omega) rfl rfl rfl ?_
  refine kk _ ?_ (fun i h1 h2 => ?_) (fun i h1 h2 => ?_) (fun i h1 h2 => ?_) (fun i h1 h2 => ?_) (fun i h1 h2 => ?_) (fun i h1 h2 => ?_) ?_ ?_ ?_ ?_ ?_ ?_
  · (repeat (first | exact Fr.rf | refine Fr.tr ?_ (Fr.us rfl) | refine Fr.tr ?_ (Fr.ua rfl)))
  · simp (disch := decide) only [us_d, ua_ua, ua_eq, ua_ne, mup_ne, mup_eq]
    exact mcpy_i (by omega)
  · simp (disch := decide) only [us_d, ua_ua, ua_eq, ua_ne, mup_ne, mup_eq]
    exact mcpy_i (by omega)
  · simp (disch := decide) only [us_d, ua_ua, ua_eq, ua_ne, mup_ne, mup_eq]
    exact mcpy_i (by omega)
  · simp (disch := decide) only [us_d, ua_ua, ua_eq, ua_ne, mup_ne, mup_eq]
    exact mcpy_i (by omega)
  · simp (disch := decide) only [us_d, ua_ua, ua_eq, ua_ne, mup_ne, mup_eq]
    exact mcpy_i (by omega)
  · simp (disch := decide) only [us_d, ua_ua, ua_eq, ua_ne, mup_ne, mup_eq]
    exact mcpy_i (by omega)
  · simp (disch := decide) only [us_d, ua_ua, ua_eq, ua_ne, mup_ne, mup_eq]
  · simp (disch := decide) only [us_d, ua_ua, ua_eq, ua_ne, mup_ne, mup_eq]
  · simp (disch := decide) only [us_d, ua_ua, ua_eq, ua_ne, mup_ne, mup_eq]
  · simp (disch := decide) only [us_d, ua_ua, ua_eq, ua_ne, mup_ne, mup_eq]
  · simp (disch := decide) only [us_d, ua_ua, ua_eq, ua_ne, mup_ne, mup_eq]
  · simp (disch := decide) only [us_d, ua_ua, ua_eq, ua_ne, mup_ne, mup_eq]
theorem k_cpC13_51 {d : Nat} {s : mSt} {Q : mQ} {l2 : Option mAV} (h9 : 0 ≤ s 60 1 ∧ s 60 1 ≤ 12) (h11 : 0 ≤ s 62 1 ∧ s 62 1 ≤ 50) (h13 : 0 ≤ s 64 1 ∧ s 64 1 ≤ 20) (kk : ∀ s1, Fr [22, 23, 24, 25, 26, 27] s s1 → s1 22 1 = s 60 1 → (∀ i : Int, 0 ≤ i → i < s 60 1 → s1 23 i.toNat = s 61 i.toNat) → s1 24 1 = s 62 1 → (∀ i : Int, 0 ≤ i → i < s 62 1 → s1 25 i.toNat = s 63 i.toNat) → s1 26 1 = s 64 1 → (∀ i : Int, 0 ≤ i → i < s 64 1 → s1 27 i.toNat = s 65 i.toNat) → WP (d + 3) 85 112 [some (.inr (.inr 13)), some (.inr (.inr 51)), some (.inl 0)] [] (encA (s1)) (Q)) : WP (d + 3) 85 95 [some (.inr (.inr 13)), some (.inr (.inr 51)), l2] [] (encA (s)) (Q) := by
  refine w_ldR rfl rfl rfl ?_
  first | refine w_getI rfl rfl rfl rfl rfl ?_ | refine w_getR rfl rfl rfl rfl rfl ?_
  refine w_ldR rfl rfl rfl ?_
  first | refine w_getI rfl rfl rfl rfl rfl ?_ | refine w_getR rfl rfl rfl rfl rfl ?_
  refine w_callWN rfl rfl rfl rfl rfl rfl rfl (k_copyR22_60 h9) (fun s99 p99 => ?_)
  refine w_ldR rfl rfl rfl ?_
  first | refine w_getI rfl rfl rfl rfl rfl ?_ | refine w_getR rfl rfl rfl rfl rfl ?_
  refine w_ldR rfl rfl rfl ?_
  first | refine w_getI rfl rfl rfl rfl rfl ?_ | refine w_getR rfl rfl rfl rfl rfl ?_
  refine w_callWN rfl rfl rfl rfl rfl rfl rfl (k_copyR24_62 (by rw [p99.2.2.at 62 rfl]; exact h11)) (fun s104 p104 => ?_)
  refine w_ldR rfl rfl rfl ?_
  first | refine w_getI rfl rfl rfl rfl rfl ?_ | refine w_getR rfl rfl rfl rfl rfl ?_
  refine w_ldR rfl rfl rfl ?_
  first | refine w_getI rfl rfl rfl rfl rfl ?_ | refine w_getR rfl rfl rfl rfl rfl ?_
  refine w_callWN rfl rfl rfl rfl rfl rfl rfl (k_copyR26_64 (by rw [p104.2.2.at 64 rfl, p99.2.2.at 64 rfl]; exact h13)) (fun s109 p109 => ?_)
  refine w_push rfl ?_
  refine w_StI_3_2 rfl rfl ?_
  have g1 := p99.2.2
  have g2 := p104.2.2
  have g3 := p109.2.2
  refine kk _ ((Fr.mono rfl g1).tr ((Fr.mono rfl g2).tr (Fr.mono rfl g3))) ?_ ?_ ?_ ?_ ?_ ?_
  · rw [g3.at 22 rfl, g2.at 22 rfl]; exact p99.1
  · rw [g3.at 23 rfl, g2.at 23 rfl]; exact p99.2.1
  · rw [g3.at 24 rfl, p104.1, g1.at 62 rfl]
  · intro i h1 h2
    rw [g3.at 25 rfl, p104.2.1 i h1 (by rw [g1.at 62 rfl]; exact h2), g1.at 63 rfl]
  · rw [p109.1, g2.at 64 rfl, g1.at 64 rfl]
  · intro i h1 h2
    rw [p109.2.1 i h1 (by rw [g2.at 64 rfl, g1.at 64 rfl]; exact h2), g2.at 65 rfl, g1.at 65 rfl]
theorem k_cpD213_51 {d : Nat} {s : mSt} {P : mSt → Prop} (hP : P s) : WP (d + 3) 85 112 [some (.inr (.inr 13)), some (.inr (.inr 51)), some (.inl 2)] [] (encA (s)) (QV P) := by
  refine w_ldI rfl rfl ?_
  refine w_push rfl ?_
  refine w_crGe rfl (by omega) (by omega) (fun b114 => ?_) (fun b114 => ?_)
  · first
    | (exfalso; omega)
    | (refine w_retV rfl ?_
       exact hP)
  · (exfalso; omega)
theorem k_cpD113_51 {d : Nat} {s : mSt} {P : mSt → Prop} (h31 : 0 ≤ s 82 1 ∧ s 82 1 ≤ 50) (hP : ∀ s1, Fr [44, 45] s s1 → s1 44 1 = s 82 1 → (∀ i : Int, 0 ≤ i → i < s 82 1 → s1 45 i.toNat = s 83 i.toNat) → P s1) : WP (d + 3) 85 112 [some (.inr (.inr 13)), some (.inr (.inr 51)), some (.inl 1)] [] (encA (s)) (QV P) := by
  refine w_ldI rfl rfl ?_
  refine w_push rfl ?_
  refine w_crGe rfl (by omega) (by omega) (fun b114 => ?_) (fun b114 => ?_)
  · (exfalso; omega)
  · first
    | (exfalso; omega)
    | (refine w_ldR rfl rfl rfl ?_
       first | refine w_getI rfl rfl rfl rfl rfl ?_ | refine w_getR rfl rfl rfl rfl rfl ?_
       refine w_ldI rfl rfl ?_
       refine w_rld rfl rfl rfl (by omega) rfl ?_
       show WP _ _ _ _ (.inr (.inr 43) :: _) _ _
       refine w_ldR rfl rfl rfl ?_
       first | refine w_getI rfl rfl rfl rfl rfl ?_ | refine w_getR rfl rfl rfl rfl rfl ?_
       refine w_ldI rfl rfl ?_
       refine w_rld rfl rfl rfl (by omega) rfl ?_
       show WP _ _ _ _ (.inr (.inr 81) :: _) _ _
       refine w_callWN rfl rfl rfl rfl rfl rfl rfl (k_copyL43_81 h31) (fun s123 p123 => ?_)
       refine w_inc_3_2 rfl rfl ?_
       refine w_go rfl ?_
       exact k_cpD213_51 (hP _ p123.2.2 p123.1 p123.2.1))
theorem k_cpD013_51 {d : Nat} {s : mSt} {P : mSt → Prop} (h23 : 0 ≤ s 74 1 ∧ s 74 1 ≤ 50) (h31 : 0 ≤ s 82 1 ∧ s 82 1 ≤ 50) (hP : ∀ s1, Fr [36, 37, 44, 45] s s1 → s1 36 1 = s 74 1 → (∀ i : Int, 0 ≤ i → i < s 74 1 → s1 37 i.toNat = s 75 i.toNat) → s1 44 1 = s 82 1 → (∀ i : Int, 0 ≤ i → i < s 82 1 → s1 45 i.toNat = s 83 i.toNat) → P s1) : WP (d + 3) 85 112 [some (.inr (.inr 13)), some (.inr (.inr 51)), some (.inl 0)] [] (encA (s)) (QV P) := by
  refine w_ldI rfl rfl ?_
  refine w_push rfl ?_
  refine w_crGe rfl (by omega) (by omega) (fun b114 => ?_) (fun b114 => ?_)
  · (exfalso; omega)
  · first
    | (exfalso; omega)
    | (refine w_ldR rfl rfl rfl ?_
       first | refine w_getI rfl rfl rfl rfl rfl ?_ | refine w_getR rfl rfl rfl rfl rfl ?_
       refine w_ldI rfl rfl ?_
       refine w_rld rfl rfl rfl (by omega) rfl ?_
       show WP _ _ _ _ (.inr (.inr 35) :: _) _ _
       refine w_ldR rfl rfl rfl ?_
       first | refine w_getI rfl rfl rfl rfl rfl ?_ | refine w_getR rfl rfl rfl rfl rfl ?_
       refine w_ldI rfl rfl ?_
       refine w_rld rfl rfl rfl (by omega) rfl ?_
       show WP _ _ _ _ (.inr (.inr 73) :: _) _ _
       refine w_callWN rfl rfl rfl rfl rfl rfl rfl (k_copyL35_73 h23) (fun s123 p123 => ?_)
       refine w_inc_3_2 rfl rfl ?_
       refine w_go rfl ?_
       have g1 := p123.2.2
       refine k_cpD113_51 (by rw [g1.at 82 rfl]; exact h31) (fun s1 hf e1 e2 => hP s1 ((Fr.mono rfl g1).tr (Fr.mono rfl hf)) ?_ ?_ ?_ ?_)
       · rw [hf.at 36 rfl]; exact p123.1
       · rw [hf.at 37 rfl]; exact p123.2.1
       · rw [e1, g1.at 82 rfl]
       · intro i h1 h2
         rw [e2 i h1 (by rw [g1.at 82 rfl]; exact h2), g1.at 83 rfl])
theorem k_copy13_51 {d : Nat} {s : mSt} {D : Nat → Int} (hV : VN51 s D) (hM : MOk D) (hC : COk D) (hu0 : s 35 0 = 0) (hu1 : s 43 0 = 1) : CV (d + 3) 85 [.inr (.inr 13), .inr (.inr 51)] s (fun s1 => VN13 s1 D ∧ s1 13 1 = s 51 1 ∧ Fr [13, 14, 15, 16, 17, 18, 19, 20, 21, 22, 23, 24, 25, 26, 27, 36, 37, 44, 45] s s1) := by
  obtain ⟨vc, vpl, vga, vse, vne, veg, vre, vtu, vta, vwa, v36, v37, v39, v40, v42, v41, v43, v44, vl0, vl1, vlm⟩ := hV
  have hn0 := hC.1.1
  have hn1 := hC.2.1
  obtain ⟨hM39, hM40, hM41, hM43, hM44, -⟩ := hM
  refine CV.mk rfl ?_
  refine k_cpA13_51 (fun sA fA aA a1 a2 a3 a4 a5 => ?_)
  refine l_cpM13_51 (s0 := sA) 0 0 rfl (by omega) Fr.rf (fun j h1 h2 => ?_) (fun j h1 h2 => by omega) (fun sM fM aM => ?_)
  · rw [fA.at 53 rfl]
    exact ⟨_, _, _, LampAt.fr rfl fA (vlm j h1 h2)⟩
  refine k_cpB13_51 (fun sB fB aB3 aB4 aB5 aB6 aB7 aB8 e9 b1 b2 b3 b4 b5 => ?_)
  refine k_cpC13_51 (by rw [fB.at 60 rfl, fM.at 60 rfl, fA.at 60 rfl, v41]; omega) (by rw [fB.at 62 rfl, fM.at 62 rfl, fA.at 62 rfl, v43]; omega) (by rw [fB.at 64 rfl, fM.at 64 rfl, fA.at 64 rfl, v44]; omega) (fun sC fC e9r aC9 e11 aC11 e13 aC13 => ?_)
  refine k_cpD013_51 (by rw [fC.at 74 rfl, fB.at 74 rfl, fM.at 74 rfl, fA.at 74 rfl, vl0.2.1]; omega) (by rw [fC.at 82 rfl, fB.at 82 rfl, fM.at 82 rfl, fA.at 82 rfl, vl1.2.1]; omega) (fun s1 fD e23 aD23 e31 aD31 => ?_)
  have fAll : Fr [13, 14, 15, 16, 17, 18, 19, 20, 21, 22, 23, 24, 25, 26, 27, 36, 37, 44, 45] s s1 := (Fr.mono rfl fA).tr ((Fr.mono rfl fM).tr ((Fr.mono rfl fB).tr ((Fr.mono rfl fC).tr (Fr.mono rfl fD))))
  refine ⟨⟨fun i h1 h2 => by rw [fD.at 14 rfl, fC.at 14 rfl, fB.at 14 rfl, fM.at 14 rfl, aA i h1 h2]; exact vc i h1 h2,
    fun i h1 h2 => by rw [fD.at 16 rfl, fC.at 16 rfl, aB3 i h1 h2, fM.at 54 rfl, fA.at 54 rfl]; exact vpl i h1 h2,
    fun i h1 h2 => by rw [fD.at 17 rfl, fC.at 17 rfl, aB4 i h1 h2, fM.at 55 rfl, fA.at 55 rfl]; exact vga i h1 h2,
    fun i h1 h2 => by rw [fD.at 18 rfl, fC.at 18 rfl, aB5 i h1 h2, fM.at 56 rfl, fA.at 56 rfl]; exact vse i h1 h2,
    fun i h1 h2 => by rw [fD.at 19 rfl, fC.at 19 rfl, aB6 i h1 h2, fM.at 57 rfl, fA.at 57 rfl]; exact vne i h1 h2,
    fun i h1 h2 => by rw [fD.at 20 rfl, fC.at 20 rfl, aB7 i h1 h2, fM.at 58 rfl, fA.at 58 rfl]; exact veg i h1 h2,
    fun i h1 h2 => by rw [fD.at 21 rfl, fC.at 21 rfl, aB8 i h1 h2, fM.at 59 rfl, fA.at 59 rfl]; exact vre i h1 h2,
    fun i h1 h2 => by rw [fD.at 23 rfl, aC9 i h1 (by rw [fB.at 60 rfl, fM.at 60 rfl, fA.at 60 rfl]; omega), fB.at 61 rfl, fM.at 61 rfl, fA.at 61 rfl]; exact vtu i h1 h2,
    fun i h1 h2 => by rw [fD.at 25 rfl, aC11 i h1 (by rw [fB.at 62 rfl, fM.at 62 rfl, fA.at 62 rfl]; omega), fB.at 63 rfl, fM.at 63 rfl, fA.at 63 rfl]; exact vta i h1 h2,
    fun i h1 h2 => by rw [fD.at 27 rfl, aC13 i h1 (by rw [fB.at 64 rfl, fM.at 64 rfl, fA.at 64 rfl]; omega), fB.at 65 rfl, fM.at 65 rfl, fA.at 65 rfl]; exact vwa i h1 h2,
    by rw [fD.at 13 rfl, fC.at 13 rfl, b2, fM.at 13 rfl, a2]; exact v36,
    by rw [fD.at 13 rfl, fC.at 13 rfl, b3, fM.at 13 rfl, a3]; exact v37,
    by rw [fD.at 13 rfl, fC.at 13 rfl, b5, fM.at 13 rfl, a5]; exact v39,
    by rw [fD.at 13 rfl, fC.at 13 rfl, e9, fM.at 51 rfl, fA.at 51 rfl]; exact v40,
    by rw [fD.at 13 rfl, fC.at 13 rfl, b4, fM.at 13 rfl, a4]; exact v42,
    by rw [fD.at 22 rfl, e9r, fB.at 60 rfl, fM.at 60 rfl, fA.at 60 rfl]; exact v41,
    by rw [fD.at 24 rfl, e11, fB.at 62 rfl, fM.at 62 rfl, fA.at 62 rfl]; exact v43,
    by rw [fD.at 26 rfl, e13, fB.at 64 rfl, fM.at 64 rfl, fA.at 64 rfl]; exact v44,
    ⟨by rw [fD.at 35 rfl, fC.at 35 rfl, fB.at 35 rfl, fM.at 35 rfl, fA.at 35 rfl]; exact hu0, by rw [e23, fC.at 74 rfl, fB.at 74 rfl, fM.at 74 rfl, fA.at 74 rfl]; exact vl0.2.1, fun i h1 h2 h3 => by rw [aD23 i h1 (by rw [fC.at 74 rfl, fB.at 74 rfl, fM.at 74 rfl, fA.at 74 rfl, vl0.2.1]; exact h2), fC.at 75 rfl, fB.at 75 rfl, fM.at 75 rfl, fA.at 75 rfl]; exact vl0.2.2 i h1 h2 h3⟩,
    ⟨by rw [fD.at 43 rfl, fC.at 43 rfl, fB.at 43 rfl, fM.at 43 rfl, fA.at 43 rfl]; exact hu1, by rw [e31, fC.at 82 rfl, fB.at 82 rfl, fM.at 82 rfl, fA.at 82 rfl]; exact vl1.2.1, fun i h1 h2 h3 => by rw [aD31 i h1 (by rw [fC.at 82 rfl, fB.at 82 rfl, fM.at 82 rfl, fA.at 82 rfl, vl1.2.1]; exact h2), fC.at 83 rfl, fB.at 83 rfl, fM.at 83 rfl, fA.at 83 rfl]; exact vl1.2.2 i h1 h2 h3⟩,
    fun i h1 h2 => by rw [fD.at 15 rfl, fC.at 15 rfl, fB.at 15 rfl, aM i h1 h2, fA.at 53 rfl]; exact LampAt.fr rfl fAll (vlm i h1 h2)⟩, by rw [fD.at 13 rfl, fC.at 13 rfl, b1, fM.at 13 rfl, a1], fAll⟩
theorem k_copyR98_22 {d : Nat} {s : mSt} (hs : 0 ≤ s 22 1 ∧ s 22 1 ≤ 12) : CV (d + 1) 72 [.inr (.inr 98), .inr (.inr 22)] (s) (fun s1 => s1 98 1 = s 22 1 ∧ (∀ i : Int, 0 ≤ i → i < s 22 1 → s1 99 i.toNat = s 23 i.toNat) ∧ Fr [98, 99] s s1) := by
  refine CV.mk rfl ?_
  show WP (d + 1) 72 0 [some (.inr (.inr 98)), some (.inr (.inr 22))] [] (encA (s)) _
  refine w_ldR rfl rfl rfl ?_
  refine w_ldR rfl rfl rfl ?_
  first | refine w_getI rfl rfl rfl rfl rfl ?_ | refine w_getR rfl rfl rfl rfl rfl ?_
  refine w_ldR rfl rfl rfl ?_
  first | refine w_getI rfl rfl rfl rfl rfl ?_ | refine w_getR rfl rfl rfl rfl rfl ?_
  refine w_alen rfl rfl rfl ?_
  refine w_m2 rfl rfl ?_
  rw [m_min_id (by omega) (by omega), show min (s 22 1) ((12 : Nat) : Int) = s 22 1 by omega]
  refine w_putI rfl rfl rfl rfl rfl rfl rfl ?_
  refine w_ldR rfl rfl rfl ?_
  first | refine w_getI rfl rfl rfl rfl rfl ?_ | refine w_getR rfl rfl rfl rfl rfl ?_
  refine w_push rfl ?_
  refine w_ldR rfl rfl rfl ?_
  first | refine w_getI rfl rfl rfl rfl rfl ?_ | refine w_getR rfl rfl rfl rfl rfl ?_
  refine w_push rfl ?_
  refine w_ldR rfl rfl rfl ?_
  first | refine w_getI rfl rfl rfl rfl rfl ?_ | refine w_getR rfl rfl rfl rfl rfl ?_
  rw [us_eq, mup_eq]
  refine w_cpy rfl rfl rfl rfl rfl (by omega) (by omega) (by omega) (by omega) (by omega) rfl rfl rfl ?_
  refine w_retV rfl ?_
  refine ⟨by rw [ua_ne (by decide), us_eq, mup_eq], fun i h1 h2 => ?_, (Fr.us rfl).tr (Fr.ua rfl)⟩
  rw [ua_eq, mcpy_i (by omega), us_ne (by decide)]
theorem k_copyR100_24 {d : Nat} {s : mSt} (hs : 0 ≤ s 24 1 ∧ s 24 1 ≤ 50) : CV (d + 1) 72 [.inr (.inr 100), .inr (.inr 24)] (s) (fun s1 => s1 100 1 = s 24 1 ∧ (∀ i : Int, 0 ≤ i → i < s 24 1 → s1 101 i.toNat = s 25 i.toNat) ∧ Fr [100, 101] s s1) := by
  refine CV.mk rfl ?_
  show WP (d + 1) 72 0 [some (.inr (.inr 100)), some (.inr (.inr 24))] [] (encA (s)) _
  refine w_ldR rfl rfl rfl ?_
  refine w_ldR rfl rfl rfl ?_
  first | refine w_getI rfl rfl rfl rfl rfl ?_ | refine w_getR rfl rfl rfl rfl rfl ?_
  refine w_ldR rfl rfl rfl ?_
  first | refine w_getI rfl rfl rfl rfl rfl ?_ | refine w_getR rfl rfl rfl rfl rfl ?_
  refine w_alen rfl rfl rfl ?_
  refine w_m2 rfl rfl ?_
  rw [m_min_id (by omega) (by omega), show min (s 24 1) ((50 : Nat) : Int) = s 24 1 by omega]
  refine w_putI rfl rfl rfl rfl rfl rfl rfl ?_
  refine w_ldR rfl rfl rfl ?_
  first | refine w_getI rfl rfl rfl rfl rfl ?_ | refine w_getR rfl rfl rfl rfl rfl ?_
  refine w_push rfl ?_
  refine w_ldR rfl rfl rfl ?_
  first | refine w_getI rfl rfl rfl rfl rfl ?_ | refine w_getR rfl rfl rfl rfl rfl ?_
  refine w_push rfl ?_
  refine w_ldR rfl rfl rfl ?_
  first | refine w_getI rfl rfl rfl rfl rfl ?_ | refine w_getR rfl rfl rfl rfl rfl ?_
  rw [us_eq, mup_eq]
  refine w_cpy rfl rfl rfl rfl rfl (by omega) (by omega) (by omega) (by omega) (by omega) rfl rfl rfl ?_
  refine w_retV rfl ?_
  refine ⟨by rw [ua_ne (by decide), us_eq, mup_eq], fun i h1 h2 => ?_, (Fr.us rfl).tr (Fr.ua rfl)⟩
  rw [ua_eq, mcpy_i (by omega), us_ne (by decide)]
theorem k_copyR102_26 {d : Nat} {s : mSt} (hs : 0 ≤ s 26 1 ∧ s 26 1 ≤ 20) : CV (d + 1) 72 [.inr (.inr 102), .inr (.inr 26)] (s) (fun s1 => s1 102 1 = s 26 1 ∧ (∀ i : Int, 0 ≤ i → i < s 26 1 → s1 103 i.toNat = s 27 i.toNat) ∧ Fr [102, 103] s s1) := by
  refine CV.mk rfl ?_
  show WP (d + 1) 72 0 [some (.inr (.inr 102)), some (.inr (.inr 26))] [] (encA (s)) _
  refine w_ldR rfl rfl rfl ?_
  refine w_ldR rfl rfl rfl ?_
  first | refine w_getI rfl rfl rfl rfl rfl ?_ | refine w_getR rfl rfl rfl rfl rfl ?_
  refine w_ldR rfl rfl rfl ?_
  first | refine w_getI rfl rfl rfl rfl rfl ?_ | refine w_getR rfl rfl rfl rfl rfl ?_
  refine w_alen rfl rfl rfl ?_
  refine w_m2 rfl rfl ?_
  rw [m_min_id (by omega) (by omega), show min (s 26 1) ((20 : Nat) : Int) = s 26 1 by omega]
  refine w_putI rfl rfl rfl rfl rfl rfl rfl ?_
  refine w_ldR rfl rfl rfl ?_
  first | refine w_getI rfl rfl rfl rfl rfl ?_ | refine w_getR rfl rfl rfl rfl rfl ?_
  refine w_push rfl ?_
  refine w_ldR rfl rfl rfl ?_
  first | refine w_getI rfl rfl rfl rfl rfl ?_ | refine w_getR rfl rfl rfl rfl rfl ?_
  refine w_push rfl ?_
  refine w_ldR rfl rfl rfl ?_
  first | refine w_getI rfl rfl rfl rfl rfl ?_ | refine w_getR rfl rfl rfl rfl rfl ?_
  rw [us_eq, mup_eq]
  refine w_cpy rfl rfl rfl rfl rfl (by omega) (by omega) (by omega) (by omega) (by omega) rfl rfl rfl ?_
  refine w_retV rfl ?_
  refine ⟨by rw [ua_ne (by decide), us_eq, mup_eq], fun i h1 h2 => ?_, (Fr.us rfl).tr (Fr.ua rfl)⟩
  rw [ua_eq, mcpy_i (by omega), us_ne (by decide)]
theorem k_copyR112_36 {d : Nat} {s : mSt} (hs : 0 ≤ s 36 1 ∧ s 36 1 ≤ 50) : CV (d + 1) 72 [.inr (.inr 112), .inr (.inr 36)] (s) (fun s1 => s1 112 1 = s 36 1 ∧ (∀ i : Int, 0 ≤ i → i < s 36 1 → s1 113 i.toNat = s 37 i.toNat) ∧ Fr [112, 113] s s1) := by
  refine CV.mk rfl ?_
  show WP (d + 1) 72 0 [some (.inr (.inr 112)), some (.inr (.inr 36))] [] (encA (s)) _
  refine w_ldR rfl rfl rfl ?_
  refine w_ldR rfl rfl rfl ?_
  first | refine w_getI rfl rfl rfl rfl rfl ?_ | refine w_getR rfl rfl rfl rfl rfl ?_
  refine w_ldR rfl rfl rfl ?_
  first | refine w_getI rfl rfl rfl rfl rfl ?_ | refine w_getR rfl rfl rfl rfl rfl ?_
  refine w_alen rfl rfl rfl ?_
  refine w_m2 rfl rfl ?_
  rw [m_min_id (by omega) (by omega), show min (s 36 1) ((50 : Nat) : Int) = s 36 1 by omega]
  refine w_putI rfl rfl rfl rfl rfl rfl rfl ?_
  refine w_ldR rfl rfl rfl ?_
  first | refine w_getI rfl rfl rfl rfl rfl ?_ | refine w_getR rfl rfl rfl rfl rfl ?_
  refine w_push rfl ?_
  refine w_ldR rfl rfl rfl ?_
  first | refine w_getI rfl rfl rfl rfl rfl ?_ | refine w_getR rfl rfl rfl rfl rfl ?_
  refine w_push rfl ?_
  refine w_ldR rfl rfl rfl ?_
  first | refine w_getI rfl rfl rfl rfl rfl ?_ | refine w_getR rfl rfl rfl rfl rfl ?_
  rw [us_eq, mup_eq]
  refine w_cpy rfl rfl rfl rfl rfl (by omega) (by omega) (by omega) (by omega) (by omega) rfl rfl rfl ?_
  refine w_retV rfl ?_
  refine ⟨by rw [ua_ne (by decide), us_eq, mup_eq], fun i h1 h2 => ?_, (Fr.us rfl).tr (Fr.ua rfl)⟩
  rw [ua_eq, mcpy_i (by omega), us_ne (by decide)]
theorem k_copyR120_44 {d : Nat} {s : mSt} (hs : 0 ≤ s 44 1 ∧ s 44 1 ≤ 50) : CV (d + 1) 72 [.inr (.inr 120), .inr (.inr 44)] (s) (fun s1 => s1 120 1 = s 44 1 ∧ (∀ i : Int, 0 ≤ i → i < s 44 1 → s1 121 i.toNat = s 45 i.toNat) ∧ Fr [120, 121] s s1) := by
  refine CV.mk rfl ?_
  show WP (d + 1) 72 0 [some (.inr (.inr 120)), some (.inr (.inr 44))] [] (encA (s)) _
  refine w_ldR rfl rfl rfl ?_
  refine w_ldR rfl rfl rfl ?_
  first | refine w_getI rfl rfl rfl rfl rfl ?_ | refine w_getR rfl rfl rfl rfl rfl ?_
  refine w_ldR rfl rfl rfl ?_
  first | refine w_getI rfl rfl rfl rfl rfl ?_ | refine w_getR rfl rfl rfl rfl rfl ?_
  refine w_alen rfl rfl rfl ?_
  refine w_m2 rfl rfl ?_
  rw [m_min_id (by omega) (by omega), show min (s 44 1) ((50 : Nat) : Int) = s 44 1 by omega]
  refine w_putI rfl rfl rfl rfl rfl rfl rfl ?_
  refine w_ldR rfl rfl rfl ?_
  first | refine w_getI rfl rfl rfl rfl rfl ?_ | refine w_getR rfl rfl rfl rfl rfl ?_
  refine w_push rfl ?_
  refine w_ldR rfl rfl rfl ?_
  first | refine w_getI rfl rfl rfl rfl rfl ?_ | refine w_getR rfl rfl rfl rfl rfl ?_
  refine w_push rfl ?_
  refine w_ldR rfl rfl rfl ?_
  first | refine w_getI rfl rfl rfl rfl rfl ?_ | refine w_getR rfl rfl rfl rfl rfl ?_
  rw [us_eq, mup_eq]
  refine w_cpy rfl rfl rfl rfl rfl (by omega) (by omega) (by omega) (by omega) (by omega) rfl rfl rfl ?_
  refine w_retV rfl ?_
  refine ⟨by rw [ua_ne (by decide), us_eq, mup_eq], fun i h1 h2 => ?_, (Fr.us rfl).tr (Fr.ua rfl)⟩
  rw [ua_eq, mcpy_i (by omega), us_ne (by decide)]
theorem k_copyL111_35 {d : Nat} {s : mSt} (hs : 0 ≤ s 36 1 ∧ s 36 1 ≤ 50) : CV (d + 2) 38 [.inr (.inr 111), .inr (.inr 35)] (s) (fun s1 => s1 112 1 = s 36 1 ∧ (∀ i : Int, 0 ≤ i → i < s 36 1 → s1 113 i.toNat = s 37 i.toNat) ∧ Fr [112, 113] s s1) := by
  refine CV.mk rfl ?_
  show WP (d + 2) 38 0 [some (.inr (.inr 111)), some (.inr (.inr 35))] [] (encA (s)) _
  refine w_ldR rfl rfl rfl ?_
  first | refine w_getI rfl rfl rfl rfl rfl ?_ | refine w_getR rfl rfl rfl rfl rfl ?_
  refine w_ldR rfl rfl rfl ?_
  first | refine w_getI rfl rfl rfl rfl rfl ?_ | refine w_getR rfl rfl rfl rfl rfl ?_
  refine w_callWN rfl rfl rfl rfl rfl rfl rfl (k_copyR112_36 hs) (fun s4 p4 => ?_)
  refine w_retV rfl ?_
  exact p4
theorem k_copyL119_43 {d : Nat} {s : mSt} (hs : 0 ≤ s 44 1 ∧ s 44 1 ≤ 50) : CV (d + 2) 38 [.inr (.inr 119), .inr (.inr 43)] (s) (fun s1 => s1 120 1 = s 44 1 ∧ (∀ i : Int, 0 ≤ i → i < s 44 1 → s1 121 i.toNat = s 45 i.toNat) ∧ Fr [120, 121] s s1) := by
  refine CV.mk rfl ?_
  show WP (d + 2) 38 0 [some (.inr (.inr 119)), some (.inr (.inr 43))] [] (encA (s)) _
  refine w_ldR rfl rfl rfl ?_
  first | refine w_getI rfl rfl rfl rfl rfl ?_ | refine w_getR rfl rfl rfl rfl rfl ?_
  refine w_ldR rfl rfl rfl ?_
  first | refine w_getI rfl rfl rfl rfl rfl ?_ | refine w_getR rfl rfl rfl rfl rfl ?_
  refine w_callWN rfl rfl rfl rfl rfl rfl rfl (k_copyR120_44 hs) (fun s4 p4 => ?_)
  refine w_retV rfl ?_
  exact p4
theorem k_cpA89_13 {d : Nat} {s : mSt} {Q : mQ} (kk : ∀ s1, Fr [89, 90] s s1 → (∀ i : Int, 0 ≤ i → i < 36 → s1 90 i.toNat = s 14 i.toNat) → s1 89 1 = s 13 1 → s1 89 2 = s 13 2 → s1 89 3 = s 13 3 → s1 89 4 = s 13 4 → s1 89 5 = s 13 5 → WP (d + 3) 85 30 [some (.inr (.inr 89)), some (.inr (.inr 13)), some (.inl 0)] [] (encA (s1)) (Q)) : WP (d + 3) 85 0 [some (.inr (.inr 89)), some (.inr (.inr 13)), none] [] (encA (s)) (Q) := by
  refine w_ldR rfl rfl rfl ?_
  first | refine w_getI rfl rfl rfl rfl rfl ?_ | refine w_getR rfl rfl rfl rfl rfl ?_
  refine w_push rfl ?_
  refine w_ldR rfl rfl rfl ?_
  first | refine w_getI rfl rfl rfl rfl rfl ?_ | refine w_getR rfl rfl rfl rfl rfl ?_
  refine w_push rfl ?_
  refine w_push rfl ?_
  refine w_cpy rfl rfl rfl rfl rfl (by omega) (by omega) (by omega) (by omega) (by omega) rfl rfl rfl ?_
  refine w_ldR rfl rfl rfl ?_
  refine w_ldR rfl rfl rfl ?_
  first | refine w_getI rfl rfl rfl rfl rfl ?_ | refine w_getR rfl rfl rfl rfl rfl ?_
  refine w_putI rfl rfl rfl rfl rfl rfl rfl ?_
  refine w_ldR rfl rfl rfl ?_
  refine w_ldR rfl rfl rfl ?_
  first | refine w_getI rfl rfl rfl rfl rfl ?_ | refine w_getR rfl rfl rfl rfl rfl ?_
  refine w_putI rfl rfl rfl rfl rfl rfl rfl ?_
  refine w_ldR rfl rfl rfl ?_
  refine w_ldR rfl rfl rfl ?_
  first | refine w_getI rfl rfl rfl rfl rfl ?_ | refine w_getR rfl rfl rfl rfl rfl ?_
  refine w_putI rfl rfl rfl rfl rfl rfl rfl ?_
  refine w_ldR rfl rfl rfl ?_
  refine w_ldR rfl rfl rfl ?_
  first | refine w_getI rfl rfl rfl rfl rfl ?_ | refine w_getR rfl rfl rfl rfl rfl ?_
  refine w_putI rfl rfl rfl rfl rfl rfl rfl ?_
  refine w_ldR rfl rfl rfl ?_
  refine w_ldR rfl rfl rfl ?_
  first | refine w_getI rfl rfl rfl rfl rfl ?_ | refine w_getR rfl rfl rfl rfl rfl ?_
  refine w_putI rfl rfl rfl rfl rfl rfl rfl ?_
  refine w_push rfl ?_
  refine w_StI_3_2 rfl rfl ?_
  refine kk _ ?_ (fun i h1 h2 => ?_) ?_ ?_ ?_ ?_ ?_
  · (repeat (first | exact Fr.rf | refine Fr.tr ?_ (Fr.us rfl) | refine Fr.tr ?_ (Fr.ua rfl)))
  · simp (disch := decide) only [us_d, ua_ua, ua_eq, ua_ne, mup_ne, mup_eq]
    exact mcpy_i (by omega)
  · simp (disch := decide) only [us_d, ua_ua, ua_eq, ua_ne, mup_ne, mup_eq]
  · simp (disch := decide) only [us_d, ua_ua, ua_eq, ua_ne, mup_ne, mup_eq]
  · simp (disch := decide) only [us_d, ua_ua, ua_eq, ua_ne, mup_ne, mup_eq]
  · simp (disch := decide) only [us_d, ua_ua, ua_eq, ua_ne, mup_ne, mup_eq]
  · simp (disch := decide) only [us_d, ua_ua, ua_eq, ua_ne, mup_ne, mup_eq]
theorem l_cpM89_13 {d : Nat} {s : mSt} {Q : mQ} {s0 : mSt} (k : Nat) (i : Int) (hi : i = (k : Int)) (hk : k ≤ 6) (hf : Fr [91] s0 s) (hL : ∀ j : Int, 0 ≤ j → j < 6 → ∃ a n m, LampAt s0 (s0 15 j.toNat) a n m) (h1 : ∀ j : Int, 0 ≤ j → j < (k : Int) → s 91 j.toNat = s0 15 j.toNat) (kk : ∀ s1, Fr [91] s0 s1 → (∀ j : Int, 0 ≤ j → j < 6 → s1 91 j.toNat = s0 15 j.toNat) → WP (d + 3) 85 43 [some (.inr (.inr 89)), some (.inr (.inr 13)), some (.inl 6)] [] (encA (s1)) (Q)) : WP (d + 3) 85 30 [some (.inr (.inr 89)), some (.inr (.inr 13)), some (.inl i)] [] (encA (s)) (Q) := by
  subst hi
  refine w_ldI rfl rfl ?_
  refine w_push rfl ?_
  refine w_crGe rfl (by omega) (by omega) (fun b32 => ?_) (fun b32 => ?_)
  · first
    | (exfalso; omega)
    | (obtain rfl : k = 6 := by omega
       exact kk s hf h1)
  · first
    | (exfalso; omega)
    | (refine w_ldR rfl rfl rfl ?_
       first | refine w_getI rfl rfl rfl rfl rfl ?_ | refine w_getR rfl rfl rfl rfl rfl ?_
       refine w_ldI rfl rfl ?_
       refine w_ldR rfl rfl rfl ?_
       first | refine w_getI rfl rfl rfl rfl rfl ?_ | refine w_getR rfl rfl rfl rfl rfl ?_
       refine w_ldI rfl rfl ?_
       obtain ⟨a, n, m, la, hr, had, hla⟩ := hL k (by omega) (by omega)
       have hla2 := LampA.f2 rfl hf had hla
       refine w_rldL rfl rfl rfl (by omega) rfl ?_
       rw [hf.at 15 rfl, hr, Int.toNat_natCast]
       refine w_rstL rfl rfl rfl hla.1 hla2.2 (kc_all a) (by omega) rfl ?_
       refine w_inc_3_2 rfl rfl ?_
       refine w_go rfl ?_
       refine l_cpM89_13 (k + 1) ((k : Int) + 1) (by omega) (by omega) (hf.tr (Fr.us rfl)) hL (fun j h3 h4 => ?_) kk
       rw [us_eq]
       unfold mup
       by_cases e : j.toNat = (k : Int).toNat
       · rw [if_pos e, e, hr]
       · rw [if_neg e]; exact h1 j h3 (by omega))
termination_by 6 - k
decreasing_by all_goals omega
theorem k_cpB89_13 {d : Nat} {s : mSt} {Q : mQ} {l2 : Option mAV} (kk : ∀ s1, Fr [89, 92, 93, 94, 95, 96, 97] s s1 → (∀ i : Int, 0 ≤ i → i < 6 → s1 92 i.toNat = s 16 i.toNat) → (∀ i : Int, 0 ≤ i → i < 6 → s1 93 i.toNat = s 17 i.toNat) → (∀ i : Int, 0 ≤ i → i < 10 → s1 94 i.toNat = s 18 i.toNat) → (∀ i : Int, 0 ≤ i → i < 10 → s1 95 i.toNat = s 19 i.toNat) → (∀ i : Int, 0 ≤ i → i < 10 → s1 96 i.toNat = s 20 i.toNat) → (∀ i : Int, 0 ≤ i → i < 10 → s1 97 i.toNat = s 21 i.toNat) → s1 89 9 = s 13 9 → s1 89 1 = s 89 1 → s1 89 2 = s 89 2 → s1 89 3 = s 89 3 → s1 89 4 = s 89 4 → s1 89 5 = s 89 5 → WP (d + 3) 85 95 [some (.inr (.inr 89)), some (.inr (.inr 13)), l2] [] (encA (s1)) (Q)) : WP (d + 3) 85 43 [some (.inr (.inr 89)), some (.inr (.inr 13)), l2] [] (encA (s)) (Q) := by
  refine w_ldR rfl rfl rfl ?_
  first | refine w_getI rfl rfl rfl rfl rfl ?_ | refine w_getR rfl rfl rfl rfl rfl ?_
  refine w_push rfl ?_
  refine w_ldR rfl rfl rfl ?_
  first | refine w_getI rfl rfl rfl rfl rfl ?_ | refine w_getR rfl rfl rfl rfl rfl ?_
  refine w_push rfl ?_
  refine w_push rfl ?_
  refine w_cpy rfl rfl rfl rfl rfl (by omega) (by omega) (by omega) (by omega) (by omega) rfl rfl rfl ?_
  refine w_ldR rfl rfl rfl ?_
  first | refine w_getI rfl rfl rfl rfl rfl ?_ | refine w_getR rfl rfl rfl rfl rfl ?_
  refine w_push rfl ?_
  refine w_ldR rfl rfl rfl ?_
  first | refine w_getI rfl rfl rfl rfl rfl ?_ | refine w_getR rfl rfl rfl rfl rfl ?_
  refine w_push rfl ?_
  refine w_push rfl ?_
  refine w_cpy rfl rfl rfl rfl rfl (by omega) (by omega) (by omega) (by omega) (by omega) rfl rfl rfl ?_
  refine w_ldR rfl rfl rfl ?_
  refine w_ldR rfl rfl rfl ?_
  first | refine w_getI rfl rfl rfl rfl rfl ?_ | refine w_getR rfl rfl rfl rfl rfl ?_
  refine w_putI rfl rfl rfl rfl rfl rfl rfl ?_
  refine w_ldR rfl rfl rfl ?_
  first | refine w_getI rfl rfl rfl rfl rfl ?_ | refine w_getR rfl rfl rfl rfl rfl ?_
  refine w_push rfl ?_
  refine w_ldR rfl rfl rfl ?_
  first | refine w_getI rfl rfl rfl rfl rfl ?_ | refine w_getR rfl rfl rfl rfl rfl ?_
  refine w_push rfl ?_
  refine w_push rfl ?_
  refine w_cpy rfl rfl rfl rfl rfl (by omega) (by omega) (by omega) (by omega) (by omega) rfl rfl rfl ?_
  refine w_ldR rfl rfl rfl ?_
  first | refine w_getI rfl rfl rfl rfl rfl ?_ | refine w_getR rfl rfl rfl rfl rfl ?_
  refine w_push rfl ?_
  refine w_ldR rfl rfl rfl ?_
  first | refine w_getI rfl rfl rfl rfl rfl ?_ | refine w_getR rfl rfl rfl rfl rfl ?_
  refine w_push rfl ?_
  refine w_push rfl ?_
  refine w_cpy rfl rfl rfl rfl rfl (by omega) (by omega) (by omega) (by omega) (by omega) rfl rfl rfl ?_
  refine w_ldR rfl rfl rfl ?_
  first | refine w_getI rfl rfl rfl rfl rfl ?_ | refine w_getR rfl rfl rfl rfl rfl ?_
  refine w_push rfl ?_
  refine w_ldR rfl rfl rfl ?_
  first | refine w_getI rfl rfl rfl rfl rfl ?_ | refine w_getR rfl rfl rfl rfl rfl ?_
  refine w_push rfl ?_
  refine w_push rfl ?_
  refine w_cpy rfl rfl rfl rfl rfl (by omega) (by omega) (by omega) (by omega) (by omega) rfl rfl rfl ?_
  refine w_ldR rfl rfl rfl ?_
  first | refine w_getI rfl rfl rfl rfl rfl ?_ | refine w_getR rfl rfl rfl rfl rfl ?_
  refine w_push rfl ?_
  refine w_ldR rfl rfl rfl ?_
  first | refine w_getI rfl rfl rfl rfl rfl ?_ | refine w_getR rfl rfl rfl rfl rfl ?_
  refine w_push rfl ?_
  refine w_push rfl ?_
  refine w_cpy rfl rfl rfl rfl rfl (by omega) (by omega) (by omega) (by omega) (by omega) rfl rfl rfl ?_
  refine kk _ ?_ (fun i h1 h2 => ?_) (fun i h1 h2 => ?_) (fun i h1 h2 => ?_) (fun i h1 h2 => ?_) (fun i h1 h2 => ?_) (fun i h1 h2 => ?_) ?_ ?_ ?_ ?_ ?_ ?_
  · (repeat (first | exact Fr.rf | refine Fr.tr ?_ (Fr.us rfl) | refine Fr.tr ?_ (Fr.ua rfl)))
  · simp (disch := decide) only [us_d, ua_ua, ua_eq, ua_ne, mup_ne, mup_eq]
    exact mcpy_i (by omega)
  · simp (disch := decide) only [us_d, ua_ua, ua_eq, ua_ne, mup_ne, mup_eq]
    exact mcpy_i (by omega)
  · simp (disch := decide) only [us_d, ua_ua, ua_eq, ua_ne, mup_ne, mup_eq]
    exact mcpy_i (by omega)
  · simp (disch := decide) only [us_d, ua_ua, ua_eq, ua_ne, mup_ne, mup_eq]
    exact mcpy_i (by omega)
  · simp (disch := decide) only [us_d, ua_ua, ua_eq, ua_ne, mup_ne, mup_eq]
    exact mcpy_i (by omega)
  · simp (disch := decide) only [us_d, ua_ua, ua_eq, ua_ne, mup_ne, mup_eq]
    exact mcpy_i (by omega)
  · simp (disch := decide) only [us_d, ua_ua, ua_eq, ua_ne, mup_ne, mup_eq]
  · simp (disch := decide) only [us_d, ua_ua, ua_eq, ua_ne, mup_ne, mup_eq]
  · simp (disch := decide) only [us_d, ua_ua, ua_eq, ua_ne, mup_ne, mup_eq]
  · simp (disch := decide) only [us_d, ua_ua, ua_eq, ua_ne, mup_ne, mup_eq]
  · simp (disch := decide) only [us_d, ua_ua, ua_eq, ua_ne, mup_ne, mup_eq]
  · simp (disch := decide) only [us_d, ua_ua, ua_eq, ua_ne, mup_ne, mup_eq]
theorem k_cpC89_13 {d : Nat} {s : mSt} {Q : mQ} {l2 : Option mAV} (h9 : 0 ≤ s 22 1 ∧ s 22 1 ≤ 12) (h11 : 0 ≤ s 24 1 ∧ s 24 1 ≤ 50) (h13 : 0 ≤ s 26 1 ∧ s 26 1 ≤ 20) (kk : ∀ s1, Fr [98, 99, 100, 101, 102, 103] s s1 → s1 98 1 = s 22 1 → (∀ i : Int, 0 ≤ i → i < s 22 1 → s1 99 i.toNat = s 23 i.toNat) → s1 100 1 = s 24 1 → (∀ i : Int, 0 ≤ i → i < s 24 1 → s1 101 i.toNat = s 25 i.toNat) → s1 102 1 = s 26 1 → (∀ i : Int, 0 ≤ i → i < s 26 1 → s1 103 i.toNat = s 27 i.toNat) → WP (d + 3) 85 112 [some (.inr (.inr 89)), some (.inr (.inr 13)), some (.inl 0)] [] (encA (s1)) (Q)) : WP (d + 3) 85 95 [some (.inr (.inr 89)), some (.inr (.inr 13)), l2] [] (encA (s)) (Q) := by
  refine w_ldR rfl rfl rfl ?_
  first | refine w_getI rfl rfl rfl rfl rfl ?_ | refine w_getR rfl rfl rfl rfl rfl ?_
  refine w_ldR rfl rfl rfl ?_
  first | refine w_getI rfl rfl rfl rfl rfl ?_ | refine w_getR rfl rfl rfl rfl rfl ?_
  refine w_callWN rfl rfl rfl rfl rfl rfl rfl (k_copyR98_22 h9) (fun s99 p99 => ?_)
  refine w_ldR rfl rfl rfl ?_
  first | refine w_getI rfl rfl rfl rfl rfl ?_ | refine w_getR rfl rfl rfl rfl rfl ?_
  refine w_ldR rfl rfl rfl ?_
  first | refine w_getI rfl rfl rfl rfl rfl ?_ | refine w_getR rfl rfl rfl rfl rfl ?_
  refine w_callWN rfl rfl rfl rfl rfl rfl rfl (k_copyR100_24 (by rw [p99.2.2.at 24 rfl]; exact h11)) (fun s104 p104 => ?_)
  refine w_ldR rfl rfl rfl ?_
  first | refine w_getI rfl rfl rfl rfl rfl ?_ | refine w_getR rfl rfl rfl rfl rfl ?_
  refine w_ldR rfl rfl rfl ?_
  first | refine w_getI rfl rfl rfl rfl rfl ?_ | refine w_getR rfl rfl rfl rfl rfl ?_
  refine w_callWN rfl rfl rfl rfl rfl rfl rfl (k_copyR102_26 (by rw [p104.2.2.at 26 rfl, p99.2.2.at 26 rfl]; exact h13)) (fun s109 p109 => ?_)
  refine w_push rfl ?_
  refine w_StI_3_2 rfl rfl ?_
  have g1 := p99.2.2
  have g2 := p104.2.2
  have g3 := p109.2.2
  refine kk _ ((Fr.mono rfl g1).tr ((Fr.mono rfl g2).tr (Fr.mono rfl g3))) ?_ ?_ ?_ ?_ ?_ ?_
  · rw [g3.at 98 rfl, g2.at 98 rfl]; exact p99.1
  · rw [g3.at 99 rfl, g2.at 99 rfl]; exact p99.2.1
  · rw [g3.at 100 rfl, p104.1, g1.at 24 rfl]
  · intro i h1 h2
    rw [g3.at 101 rfl, p104.2.1 i h1 (by rw [g1.at 24 rfl]; exact h2), g1.at 25 rfl]
  · rw [p109.1, g2.at 26 rfl, g1.at 26 rfl]
  · intro i h1 h2
    rw [p109.2.1 i h1 (by rw [g2.at 26 rfl, g1.at 26 rfl]; exact h2), g2.at 27 rfl, g1.at 27 rfl]
theorem k_cpD289_13 {d : Nat} {s : mSt} {P : mSt → Prop} (hP : P s) : WP (d + 3) 85 112 [some (.inr (.inr 89)), some (.inr (.inr 13)), some (.inl 2)] [] (encA (s)) (QV P) := by
  refine w_ldI rfl rfl ?_
  refine w_push rfl ?_
  refine w_crGe rfl (by omega) (by omega) (fun b114 => ?_) (fun b114 => ?_)
  · first
    | (exfalso; omega)
    | (refine w_retV rfl ?_
       exact hP)
  · (exfalso; omega)
theorem k_cpD189_13 {d : Nat} {s : mSt} {P : mSt → Prop} (h31 : 0 ≤ s 44 1 ∧ s 44 1 ≤ 50) (hP : ∀ s1, Fr [120, 121] s s1 → s1 120 1 = s 44 1 → (∀ i : Int, 0 ≤ i → i < s 44 1 → s1 121 i.toNat = s 45 i.toNat) → P s1) : WP (d + 3) 85 112 [some (.inr (.inr 89)), some (.inr (.inr 13)), some (.inl 1)] [] (encA (s)) (QV P) := by
  refine w_ldI rfl rfl ?_
  refine w_push rfl ?_
  refine w_crGe rfl (by omega) (by omega) (fun b114 => ?_) (fun b114 => ?_)
  · (exfalso; omega)
  · first
    | (exfalso; omega)
    | (refine w_ldR rfl rfl rfl ?_
       first | refine w_getI rfl rfl rfl rfl rfl ?_ | refine w_getR rfl rfl rfl rfl rfl ?_
       refine w_ldI rfl rfl ?_
       refine w_rld rfl rfl rfl (by omega) rfl ?_
       show WP _ _ _ _ (.inr (.inr 119) :: _) _ _
       refine w_ldR rfl rfl rfl ?_
       first | refine w_getI rfl rfl rfl rfl rfl ?_ | refine w_getR rfl rfl rfl rfl rfl ?_
       refine w_ldI rfl rfl ?_
       refine w_rld rfl rfl rfl (by omega) rfl ?_
       show WP _ _ _ _ (.inr (.inr 43) :: _) _ _
       refine w_callWN rfl rfl rfl rfl rfl rfl rfl (k_copyL119_43 h31) (fun s123 p123 => ?_)
       refine w_inc_3_2 rfl rfl ?_
       refine w_go rfl ?_
       exact k_cpD289_13 (hP _ p123.2.2 p123.1 p123.2.1))
theorem k_cpD089_13 {d : Nat} {s : mSt} {P : mSt → Prop} (h23 : 0 ≤ s 36 1 ∧ s 36 1 ≤ 50) (h31 : 0 ≤ s 44 1 ∧ s 44 1 ≤ 50) (hP : ∀ s1, Fr [112, 113, 120, 121] s s1 → s1 112 1 = s 36 1 → (∀ i : Int, 0 ≤ i → i < s 36 1 → s1 113 i.toNat = s 37 i.toNat) → s1 120 1 = s 44 1 → (∀ i : Int, 0 ≤ i → i < s 44 1 → s1 121 i.toNat = s 45 i.toNat) → P s1) : WP (d + 3) 85 112 [some (.inr (.inr 89)), some (.inr (.inr 13)), some (.inl 0)] [] (encA (s)) (QV P) := by
  refine w_ldI rfl rfl ?_
  refine w_push rfl ?_
  refine w_crGe rfl (by omega) (by omega) (fun b114 => ?_) (fun b114 => ?_)
  · (exfalso; omega)
  · first
    | (exfalso; omega)
    | (refine w_ldR rfl rfl rfl ?_
       first | refine w_getI rfl rfl rfl rfl rfl ?_ | refine w_getR rfl rfl rfl rfl rfl ?_
       refine w_ldI rfl rfl ?_
       refine w_rld rfl rfl rfl (by omega) rfl ?_
       show WP _ _ _ _ (.inr (.inr 111) :: _) _ _
       refine w_ldR rfl rfl rfl ?_
       first | refine w_getI rfl rfl rfl rfl rfl ?_ | refine w_getR rfl rfl rfl rfl rfl ?_
       refine w_ldI rfl rfl ?_
       refine w_rld rfl rfl rfl (by omega) rfl ?_
       show WP _ _ _ _ (.inr (.inr 35) :: _) _ _
       refine w_callWN rfl rfl rfl rfl rfl rfl rfl (k_copyL111_35 h23) (fun s123 p123 => ?_)
       refine w_inc_3_2 rfl rfl ?_
       refine w_go rfl ?_
       have g1 := p123.2.2
       refine k_cpD189_13 (by rw [g1.at 44 rfl]; exact h31) (fun s1 hf e1 e2 => hP s1 ((Fr.mono rfl g1).tr (Fr.mono rfl hf)) ?_ ?_ ?_ ?_)
       · rw [hf.at 112 rfl]; exact p123.1
       · rw [hf.at 113 rfl]; exact p123.2.1
       · rw [e1, g1.at 44 rfl]
       · intro i h1 h2
         rw [e2 i h1 (by rw [g1.at 44 rfl]; exact h2), g1.at 45 rfl])
theorem k_copy89_13 {d : Nat} {s : mSt} {D : Nat → Int} (hV : VN13 s D) (hM : MOk D) (hC : COk D) (hu0 : s 111 0 = 0) (hu1 : s 119 0 = 1) : CV (d + 3) 85 [.inr (.inr 89), .inr (.inr 13)] s (fun s1 => VN89 s1 D ∧ s1 89 1 = s 13 1 ∧ Fr [89, 90, 91, 92, 93, 94, 95, 96, 97, 98, 99, 100, 101, 102, 103, 112, 113, 120, 121] s s1) := by
  obtain ⟨vc, vpl, vga, vse, vne, veg, vre, vtu, vta, vwa, v36, v37, v39, v40, v42, v41, v43, v44, vl0, vl1, vlm⟩ := hV
  have hn0 := hC.1.1
  have hn1 := hC.2.1
  obtain ⟨hM39, hM40, hM41, hM43, hM44, -⟩ := hM
  refine CV.mk rfl ?_
  refine k_cpA89_13 (fun sA fA aA a1 a2 a3 a4 a5 => ?_)
  refine l_cpM89_13 (s0 := sA) 0 0 rfl (by omega) Fr.rf (fun j h1 h2 => ?_) (fun j h1 h2 => by omega) (fun sM fM aM => ?_)
  · rw [fA.at 15 rfl]
    exact ⟨_, _, _, LampAt.fr rfl fA (vlm j h1 h2)⟩
  refine k_cpB89_13 (fun sB fB aB3 aB4 aB5 aB6 aB7 aB8 e9 b1 b2 b3 b4 b5 => ?_)
  refine k_cpC89_13 (by rw [fB.at 22 rfl, fM.at 22 rfl, fA.at 22 rfl, v41]; omega) (by rw [fB.at 24 rfl, fM.at 24 rfl, fA.at 24 rfl, v43]; omega) (by rw [fB.at 26 rfl, fM.at 26 rfl, fA.at 26 rfl, v44]; omega) (fun sC fC e9r aC9 e11 aC11 e13 aC13 => ?_)
  refine k_cpD089_13 (by rw [fC.at 36 rfl, fB.at 36 rfl, fM.at 36 rfl, fA.at 36 rfl, vl0.2.1]; omega) (by rw [fC.at 44 rfl, fB.at 44 rfl, fM.at 44 rfl, fA.at 44 rfl, vl1.2.1]; omega) (fun s1 fD e23 aD23 e31 aD31 => ?_)
  have fAll : Fr [89, 90, 91, 92, 93, 94, 95, 96, 97, 98, 99, 100, 101, 102, 103, 112, 113, 120, 121] s s1 := (Fr.mono rfl fA).tr ((Fr.mono rfl fM).tr ((Fr.mono rfl fB).tr ((Fr.mono rfl fC).tr (Fr.mono rfl fD))))
  refine ⟨⟨fun i h1 h2 => by rw [fD.at 90 rfl, fC.at 90 rfl, fB.at 90 rfl, fM.at 90 rfl, aA i h1 h2]; exact vc i h1 h2,
    fun i h1 h2 => by rw [fD.at 92 rfl, fC.at 92 rfl, aB3 i h1 h2, fM.at 16 rfl, fA.at 16 rfl]; exact vpl i h1 h2,
    fun i h1 h2 => by rw [fD.at 93 rfl, fC.at 93 rfl, aB4 i h1 h2, fM.at 17 rfl, fA.at 17 rfl]; exact vga i h1 h2,
    fun i h1 h2 => by rw [fD.at 94 rfl, fC.at 94 rfl, aB5 i h1 h2, fM.at 18 rfl, fA.at 18 rfl]; exact vse i h1 h2,
    fun i h1 h2 => by rw [fD.at 95 rfl, fC.at 95 rfl, aB6 i h1 h2, fM.at 19 rfl, fA.at 19 rfl]; exact vne i h1 h2,
    fun i h1 h2 => by rw [fD.at 96 rfl, fC.at 96 rfl, aB7 i h1 h2, fM.at 20 rfl, fA.at 20 rfl]; exact veg i h1 h2,
    fun i h1 h2 => by rw [fD.at 97 rfl, fC.at 97 rfl, aB8 i h1 h2, fM.at 21 rfl, fA.at 21 rfl]; exact vre i h1 h2,
    fun i h1 h2 => by rw [fD.at 99 rfl, aC9 i h1 (by rw [fB.at 22 rfl, fM.at 22 rfl, fA.at 22 rfl]; omega), fB.at 23 rfl, fM.at 23 rfl, fA.at 23 rfl]; exact vtu i h1 h2,
    fun i h1 h2 => by rw [fD.at 101 rfl, aC11 i h1 (by rw [fB.at 24 rfl, fM.at 24 rfl, fA.at 24 rfl]; omega), fB.at 25 rfl, fM.at 25 rfl, fA.at 25 rfl]; exact vta i h1 h2,
    fun i h1 h2 => by rw [fD.at 103 rfl, aC13 i h1 (by rw [fB.at 26 rfl, fM.at 26 rfl, fA.at 26 rfl]; omega), fB.at 27 rfl, fM.at 27 rfl, fA.at 27 rfl]; exact vwa i h1 h2,
    by rw [fD.at 89 rfl, fC.at 89 rfl, b2, fM.at 89 rfl, a2]; exact v36,
    by rw [fD.at 89 rfl, fC.at 89 rfl, b3, fM.at 89 rfl, a3]; exact v37,
    by rw [fD.at 89 rfl, fC.at 89 rfl, b5, fM.at 89 rfl, a5]; exact v39,
    by rw [fD.at 89 rfl, fC.at 89 rfl, e9, fM.at 13 rfl, fA.at 13 rfl]; exact v40,
    by rw [fD.at 89 rfl, fC.at 89 rfl, b4, fM.at 89 rfl, a4]; exact v42,
    by rw [fD.at 98 rfl, e9r, fB.at 22 rfl, fM.at 22 rfl, fA.at 22 rfl]; exact v41,
    by rw [fD.at 100 rfl, e11, fB.at 24 rfl, fM.at 24 rfl, fA.at 24 rfl]; exact v43,
    by rw [fD.at 102 rfl, e13, fB.at 26 rfl, fM.at 26 rfl, fA.at 26 rfl]; exact v44,
    ⟨by rw [fD.at 111 rfl, fC.at 111 rfl, fB.at 111 rfl, fM.at 111 rfl, fA.at 111 rfl]; exact hu0, by rw [e23, fC.at 36 rfl, fB.at 36 rfl, fM.at 36 rfl, fA.at 36 rfl]; exact vl0.2.1, fun i h1 h2 h3 => by rw [aD23 i h1 (by rw [fC.at 36 rfl, fB.at 36 rfl, fM.at 36 rfl, fA.at 36 rfl, vl0.2.1]; exact h2), fC.at 37 rfl, fB.at 37 rfl, fM.at 37 rfl, fA.at 37 rfl]; exact vl0.2.2 i h1 h2 h3⟩,
    ⟨by rw [fD.at 119 rfl, fC.at 119 rfl, fB.at 119 rfl, fM.at 119 rfl, fA.at 119 rfl]; exact hu1, by rw [e31, fC.at 44 rfl, fB.at 44 rfl, fM.at 44 rfl, fA.at 44 rfl]; exact vl1.2.1, fun i h1 h2 h3 => by rw [aD31 i h1 (by rw [fC.at 44 rfl, fB.at 44 rfl, fM.at 44 rfl, fA.at 44 rfl, vl1.2.1]; exact h2), fC.at 45 rfl, fB.at 45 rfl, fM.at 45 rfl, fA.at 45 rfl]; exact vl1.2.2 i h1 h2 h3⟩,
    fun i h1 h2 => by rw [fD.at 91 rfl, fC.at 91 rfl, fB.at 91 rfl, aM i h1 h2, fA.at 15 rfl]; exact LampAt.fr rfl fAll (vlm i h1 h2)⟩, by rw [fD.at 89 rfl, fC.at 89 rfl, b1, fM.at 89 rfl, a1], fAll⟩
