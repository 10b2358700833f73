/-! ===== curtain, feed ===== -/
theorem mup_back {D : Nat → Int} {i : Nat} {v : Int} (h : D i = 0) : mup (mup D i v) i 0 = D := by
  rw [mup_mup]
  funext j
  unfold mup
  split
  · rename_i e; rw [e, h]
  · rfl
def wlF (D : Nat → Int) (c : Int) : Nat → Int := mup D c.toNat 1
theorem wlF_ok {D : Nat → Int} (hM : MOk D) (hC : COk D) {c : Int} (hc : 0 ≤ c ∧ c < 36) : MOk (wlF D c) ∧ COk (wlF D c) ∧ wlF D c 38 = D 38 := by
  unfold wlF
  exact ⟨MOk_set hM ⟨by omega, by omega, by omega, by omega, by omega, by omega, by omega, by omega, by omega, fun w hw => ⟨by omega, by omega, by omega, by omega⟩, fun p hp => ⟨by omega, by omega, by omega, by omega⟩, fun j hj => by omega, fun j hj => by omega⟩, COk_set2 (by omega) hC, mup_ne (by omega)⟩
theorem x_curtain_y {d : Nat} {s : mSt} (hI : IvD s) {w c : Int} (hrw : -2147483648 ≤ w ∧ w < 2147483648) (hrc : -2147483648 ≤ c ∧ c < 2147483648) (hy : (0 ≤ w ∧ w ≤ s 147 39 - 1) ∧ 0 ≤ c ∧ c ≤ 35) (h0 : s 147 c.toNat = 0) : CI (d + 5) 124 [.inr (.inr 10), .inl w, .inl c] (s) (fun r s1 => r = pcF (mtW (s 147) w) - pcF (mtW (wlF (s 147) c) w) ∧ VN13 s1 (s 147) ∧ s1 13 = s 13 ∧ Fr [14, 38, 46, 128, 129] s s1) := by
  refine CI.mk rfl ?_
  show WP (d + 5) 124 0 [some (.inr (.inr 10)), some (.inl w), some (.inl c), none, none] [] (encA (s)) _
  have hI0 := hI
  obtain ⟨⟨hM, hC, hN⟩, hV, h8⟩ := hI
  have hV0 := hV
  have hM0 := hM
  obtain ⟨vc, vpl, vga, vse, vne, veg, vre, vtu, vta, vwa, v36, v37, v39, v40, v42, v41, v43, v44, vl0, vl1, vlm⟩ := hV
  obtain ⟨hM39, hM40, hM41, hM43, hM44, hM36, hM37, hM38, hMc, hMw, hMp, hMt, hMb⟩ := hM
  have hwl := wlF_ok hM0 hC (c := c)
  refine w_ldR rfl rfl rfl ?_
  refine w_ldI rfl rfl ?_
  refine w_callV rfl rfl rfl rfl rfl rfl rfl (k_isWindow (by omega) (by omega)) ?_
  refine w_bEq0 rfl (fun b3 => ?_) (fun b3 => ?_)
  · first
    | (exfalso; omega)
    | (refine w_ldR rfl rfl rfl ?_
       refine w_push rfl ?_
       refine w_callWI rfl rfl rfl rfl rfl rfl rfl k_error1 (fun v9 s9 p9 => ?_)
       obtain ⟨rfl, rfl⟩ := p9
       refine w_retI rfl ?_
       refine ⟨rfl, ?_, by rw [us_ne (by decide), f45.at 13 rfl, us_ne (by decide), f29.at 13 rfl], (((Fr.mono rfl f29).tr (Fr.us rfl)).tr (Fr.mono rfl f45)).tr (Fr.us rfl)⟩
       have h := (hVw.fr rfl f45).set_vc (p := c) (v := 0) (by omega)
       unfold wlF at h
       rw [mup_back h0] at h
       exact h)
  · first
    | (exfalso; omega)
    | (refine w_ldI rfl rfl ?_
       refine w_call rfl rfl rfl (k_isCell (by omega)) ?_
       refine w_bNe0 rfl (fun b6 => ?_) (fun b6 => ?_)
       · first
         | (exfalso; omega)
         | (refine w_ldR rfl rfl rfl ?_
            first | refine w_getI rfl rfl rfl rfl rfl ?_ | refine w_getR rfl rfl rfl rfl rfl ?_
            first | refine w_getI rfl rfl rfl rfl rfl ?_ | refine w_getR rfl rfl rfl rfl rfl ?_
            refine w_ldI rfl rfl ?_
            refine w_ald rfl rfl rfl (by omega) rfl ?_
            rw [vc _ (by omega) (by omega)]
            refine w_irEq0 rfl (by omega) (fun b16 => ?_) (fun b16 => ?_)
            · first
              | (exfalso; omega)
              | (refine w_ldR rfl rfl rfl ?_
                 first | refine w_getI rfl rfl rfl rfl rfl ?_ | refine w_getR rfl rfl rfl rfl rfl ?_
                 refine w_ldI rfl rfl ?_
                 refine w_ldR rfl rfl rfl ?_
                 first | refine w_getI rfl rfl rfl rfl rfl ?_ | refine w_getR rfl rfl rfl rfl rfl ?_
                 first | refine w_getI rfl rfl rfl rfl rfl ?_ | refine w_getR rfl rfl rfl rfl rfl ?_
                 refine w_ldR rfl rfl rfl ?_
                 first | refine w_getI rfl rfl rfl rfl rfl ?_ | refine w_getR rfl rfl rfl rfl rfl ?_
                 refine w_callWI rfl rfl rfl rfl rfl rfl rfl (k_metBy13 hV0 hM0 hC (by omega) h8) (fun v29 s29 p29 => ?_)
                 obtain ⟨rfl, f29⟩ := p29
                 have hV29 := hV0.fr rfl f29
                 refine w_StI_5_3 rfl rfl ?_
                 refine w_ldR rfl rfl rfl ?_
                 first | refine w_getI rfl rfl rfl rfl rfl ?_ | refine w_getR rfl rfl rfl rfl rfl ?_
                 first | refine w_getI rfl rfl rfl rfl rfl ?_ | refine w_getR rfl rfl rfl rfl rfl ?_
                 refine w_ldI rfl rfl ?_
                 refine w_push rfl ?_
                 refine w_ast rfl rfl rfl (by omega) rfl ?_
                 have hwl := hwl (by omega)
                 have hVw : VN13 (us s29 14 c.toNat 1) (wlF (s 147) c) := hV29.set_vc (p := c) (v := 1) (by omega)
                 refine w_ldR rfl rfl rfl ?_
                 first | refine w_getI rfl rfl rfl rfl rfl ?_ | refine w_getR rfl rfl rfl rfl rfl ?_
                 refine w_ldI rfl rfl ?_
                 refine w_ldR rfl rfl rfl ?_
                 first | refine w_getI rfl rfl rfl rfl rfl ?_ | refine w_getR rfl rfl rfl rfl rfl ?_
                 first | refine w_getI rfl rfl rfl rfl rfl ?_ | refine w_getR rfl rfl rfl rfl rfl ?_
                 refine w_ldR rfl rfl rfl ?_
                 first | refine w_getI rfl rfl rfl rfl rfl ?_ | refine w_getR rfl rfl rfl rfl rfl ?_
                 refine w_callWI rfl rfl rfl rfl rfl rfl rfl (k_metBy13 hVw hwl.1 hwl.2.1 (by omega) (by rw [us_ne (by decide), f29.at 13 rfl, hwl.2.2]; exact h8)) (fun v45 s45 p45 => ?_)
                 obtain ⟨rfl, f45⟩ := p45
                 refine w_StI_5_4 rfl rfl ?_
                 refine w_ldR rfl rfl rfl ?_
                 first | refine w_getI rfl rfl rfl rfl rfl ?_ | refine w_getR rfl rfl rfl rfl rfl ?_
                 first | refine w_getI rfl rfl rfl rfl rfl ?_ | refine w_getR rfl rfl rfl rfl rfl ?_
                 refine w_ldI rfl rfl ?_
                 refine w_push rfl ?_
                 refine w_ast rfl rfl rfl (by omega) rfl ?_
                 refine w_ldI rfl rfl ?_
                 refine w_call rfl rfl rfl (k_bitCount (by first | exact mtW_1024 hM0 w | exact mtW_1024 hwl.1 w)) ?_
                 refine w_ldI rfl rfl ?_
                 refine w_call rfl rfl rfl (k_bitCount (by first | exact mtW_1024 hM0 w | exact mtW_1024 hwl.1 w)) ?_
                 refine w_sub rfl ?_
                 refine w_retI rfl ?_
                 refine ⟨rfl, ?_, by rw [us_ne (by decide), f45.at 13 rfl, us_ne (by decide), f29.at 13 rfl], (((Fr.mono rfl f29).tr (Fr.us rfl)).tr (Fr.mono rfl f45)).tr (Fr.us rfl)⟩
                 have h := (hVw.fr rfl f45).set_vc (p := c) (v := 0) (by omega)
                 unfold wlF at h
                 rw [mup_back h0] at h
                 exact h)
            · first
              | (exfalso; omega)
              | (refine w_ldR rfl rfl rfl ?_
                 refine w_push rfl ?_
                 refine w_callWI rfl rfl rfl rfl rfl rfl rfl k_error1 (fun v19 s19 p19 => ?_)
                 obtain ⟨rfl, rfl⟩ := p19
                 refine w_retI rfl ?_
                 refine ⟨rfl, ?_, by rw [us_ne (by decide), f45.at 13 rfl, us_ne (by decide), f29.at 13 rfl], (((Fr.mono rfl f29).tr (Fr.us rfl)).tr (Fr.mono rfl f45)).tr (Fr.us rfl)⟩
                 have h := (hVw.fr rfl f45).set_vc (p := c) (v := 0) (by omega)
                 unfold wlF at h
                 rw [mup_back h0] at h
                 exact h))
       · first
         | (exfalso; omega)
         | (refine w_ldR rfl rfl rfl ?_
            refine w_push rfl ?_
            refine w_callWI rfl rfl rfl rfl rfl rfl rfl k_error1 (fun v9 s9 p9 => ?_)
            obtain ⟨rfl, rfl⟩ := p9
            refine w_retI rfl ?_
            refine ⟨rfl, ?_, by rw [us_ne (by decide), f45.at 13 rfl, us_ne (by decide), f29.at 13 rfl], (((Fr.mono rfl f29).tr (Fr.us rfl)).tr (Fr.mono rfl f45)).tr (Fr.us rfl)⟩
            have h := (hVw.fr rfl f45).set_vc (p := c) (v := 0) (by omega)
            unfold wlF at h
            rw [mup_back h0] at h
            exact h))
theorem x_curtain_s {d : Nat} {s : mSt} (hI : IvD s) {w c : Int} (hrw : -2147483648 ≤ w ∧ w < 2147483648) (hrc : -2147483648 ≤ c ∧ c < 2147483648) (hy : (0 ≤ w ∧ w ≤ s 147 39 - 1) ∧ 0 ≤ c ∧ c ≤ 35) (h0 : ¬ s 147 c.toNat = 0) : CI (d + 5) 124 [.inr (.inr 10), .inl w, .inl c] (s) (fun r s1 => r = -1000000000 - 3 ∧ s1 = us s 132 3 (s 132 3 + 1)) := by
  refine CI.mk rfl ?_
  show WP (d + 5) 124 0 [some (.inr (.inr 10)), some (.inl w), some (.inl c), none, none] [] (encA (s)) _
  have hI0 := hI
  obtain ⟨⟨hM, hC, hN⟩, hV, h8⟩ := hI
  have hV0 := hV
  have hM0 := hM
  obtain ⟨vc, vpl, vga, vse, vne, veg, vre, vtu, vta, vwa, v36, v37, v39, v40, v42, v41, v43, v44, vl0, vl1, vlm⟩ := hV
  obtain ⟨hM39, hM40, hM41, hM43, hM44, hM36, hM37, hM38, hMc, hMw, hMp, hMt, hMb⟩ := hM
  refine w_ldR rfl rfl rfl ?_
  refine w_ldI rfl rfl ?_
  refine w_callV rfl rfl rfl rfl rfl rfl rfl (k_isWindow (by omega) (by omega)) ?_
  refine w_bEq0 rfl (fun b3 => ?_) (fun b3 => ?_)
  · first
    | (exfalso; omega)
    | (exfalso; omega)
  · first
    | (exfalso; omega)
    | (refine w_ldI rfl rfl ?_
       refine w_call rfl rfl rfl (k_isCell (by omega)) ?_
       refine w_bNe0 rfl (fun b6 => ?_) (fun b6 => ?_)
       · first
         | (exfalso; omega)
         | (refine w_ldR rfl rfl rfl ?_
            first | refine w_getI rfl rfl rfl rfl rfl ?_ | refine w_getR rfl rfl rfl rfl rfl ?_
            first | refine w_getI rfl rfl rfl rfl rfl ?_ | refine w_getR rfl rfl rfl rfl rfl ?_
            refine w_ldI rfl rfl ?_
            refine w_ald rfl rfl rfl (by omega) rfl ?_
            rw [vc _ (by omega) (by omega)]
            have hcc := MOk_cell hM0 c.toNat (by omega)
            refine w_irEq0 rfl (by omega) (fun b16 => ?_) (fun b16 => ?_)
            · first
              | (exfalso; omega)
              | (exfalso; omega)
            · first
              | (exfalso; omega)
              | (refine w_ldR rfl rfl rfl ?_
                 refine w_push rfl ?_
                 refine w_callWI rfl rfl rfl rfl rfl rfl rfl k_error3 (fun v19 s19 p19 => ?_)
                 obtain ⟨rfl, rfl⟩ := p19
                 refine w_retI rfl ?_
                 exact ⟨rfl, rfl⟩))
       · first
         | (exfalso; omega)
         | (exfalso; omega))
theorem x_curtain_n {d : Nat} {s : mSt} (hI : IvD s) {w c : Int} (hrw : -2147483648 ≤ w ∧ w < 2147483648) (hrc : -2147483648 ≤ c ∧ c < 2147483648) (hy : ¬ ((0 ≤ w ∧ w ≤ s 147 39 - 1) ∧ 0 ≤ c ∧ c ≤ 35)) : CI (d + 5) 124 [.inr (.inr 10), .inl w, .inl c] (s) (fun r s1 => r = -1000000000 - 1 ∧ s1 = us s 132 1 (s 132 1 + 1)) := by
  refine CI.mk rfl ?_
  show WP (d + 5) 124 0 [some (.inr (.inr 10)), some (.inl w), some (.inl c), none, none] [] (encA (s)) _
  have hI0 := hI
  obtain ⟨⟨hM, hC, hN⟩, hV, h8⟩ := hI
  have hV0 := hV
  have hM0 := hM
  obtain ⟨vc, vpl, vga, vse, vne, veg, vre, vtu, vta, vwa, v36, v37, v39, v40, v42, v41, v43, v44, vl0, vl1, vlm⟩ := hV
  obtain ⟨hM39, hM40, hM41, hM43, hM44, hM36, hM37, hM38, hMc, hMw, hMp, hMt, hMb⟩ := hM
  refine w_ldR rfl rfl rfl ?_
  refine w_ldI rfl rfl ?_
  refine w_callV rfl rfl rfl rfl rfl rfl rfl (k_isWindow (by omega) (by omega)) ?_
  refine w_bEq0 rfl (fun b3 => ?_) (fun b3 => ?_)
  · first
    | (exfalso; omega)
    | (refine w_ldR rfl rfl rfl ?_
       refine w_push rfl ?_
       refine w_callWI rfl rfl rfl rfl rfl rfl rfl k_error1 (fun v9 s9 p9 => ?_)
       obtain ⟨rfl, rfl⟩ := p9
       refine w_retI rfl ?_
       exact ⟨rfl, rfl⟩)
  · first
    | (exfalso; omega)
    | (refine w_ldI rfl rfl ?_
       refine w_call rfl rfl rfl (k_isCell (by omega)) ?_
       refine w_bNe0 rfl (fun b6 => ?_) (fun b6 => ?_)
       · first
         | (exfalso; omega)
         | (exfalso; omega)
       · first
         | (exfalso; omega)
         | (refine w_ldR rfl rfl rfl ?_
            refine w_push rfl ?_
            refine w_callWI rfl rfl rfl rfl rfl rfl rfl k_error1 (fun v9 s9 p9 => ?_)
            obtain ⟨rfl, rfl⟩ := p9
            refine w_retI rfl ?_
            exact ⟨rfl, rfl⟩))
theorem m_curtain_y {d : Nat} {s : mSt} {D : Nat → Int} (hD : s 147 = D) (hM : MOk D) (hC : COk D) {w c : Int} (hrw : -2147483648 ≤ w ∧ w < 2147483648) (hrc : -2147483648 ≤ c ∧ c < 2147483648) (hy : (0 ≤ w ∧ w ≤ D 39 - 1) ∧ 0 ≤ c ∧ c ≤ 35) (h0 : D c.toNat = 0) : CI (d + 6) 235 [.inr (.inr 146), .inl w, .inl c] (s) (fun r s1 => r = pcF (mtW D w) - pcF (mtW (wlF D c) w) ∧ s1 147 = D ∧ Fr [147, 151, 153, 154] s s1) := by
  refine CI.mk rfl ?_
  show WP (d + 6) 235 0 [some (.inr (.inr 146)), some (.inl w), some (.inl c), none, none] [] (encA (s)) _
  have hM0 := hM
  obtain ⟨hM39, hM40, hM41, hM43, hM44, hM36, hM37, hM38, hMc, hMw, hMp, hMt, hMb⟩ := hM
  have hwl := wlF_ok hM0 hC (c := c)
  refine w_ldR rfl rfl rfl ?_
  refine w_ldI rfl rfl ?_
  refine w_callV rfl rfl rfl rfl rfl rfl rfl (r_isWindow (by omega) (by rw [hD]; omega)) ?_
  rw [hD]
  try simp only [hD]
  refine w_bEq0 rfl (fun b3 => ?_) (fun b3 => ?_)
  · first
    | (exfalso; omega)
    | (refine w_ldR rfl rfl rfl ?_
       refine w_push rfl ?_
       refine w_callV rfl rfl rfl rfl rfl rfl rfl r_finds1 ?_
       try simp only [hD]
       refine w_retI rfl ?_
       rw [Int.zero_add]
       exact ⟨rfl, by rw [us_eq, f36.at 147 rfl, hDw]; exact mup_back h0, (((Fr.mono rfl f24).tr (Fr.us rfl)).tr (Fr.mono rfl f36)).tr (Fr.us rfl)⟩)
  · first
    | (exfalso; omega)
    | (refine w_ldI rfl rfl ?_
       refine w_call rfl rfl rfl (r_isCell (by omega)) ?_
       try simp only [hD]
       refine w_bNe0 rfl (fun b6 => ?_) (fun b6 => ?_)
       · first
         | (exfalso; omega)
         | (refine w_ldR rfl rfl rfl ?_
            first | refine w_getI rfl rfl rfl rfl rfl ?_ | refine w_getR rfl rfl rfl rfl rfl ?_
            try simp only [hD]
            refine w_push rfl ?_
            refine w_ldI rfl rfl ?_
            refine w_add rfl ?_
            refine w_ald rfl rfl rfl (by omega) rfl ?_
            rw [hD, Int.zero_add]
            refine w_irEq0 rfl (by omega) (fun b17 => ?_) (fun b17 => ?_)
            · first
              | (exfalso; omega)
              | (refine w_ldR rfl rfl rfl ?_
                 refine w_ldI rfl rfl ?_
                 refine w_callWI rfl rfl rfl rfl rfl rfl rfl (c_metBy hD hM0 hC (by omega)) (fun v24 s24 p24 => ?_)
                 obtain ⟨rfl, f24⟩ := p24
                 refine w_call rfl rfl rfl (c_ones (by first | exact mtW_1024 hM0 w | exact mtW_1024 hwl.1 w)) ?_
                 try simp only [hD]
                 refine w_StI_5_3 rfl rfl ?_
                 refine w_ldR rfl rfl rfl ?_
                 first | refine w_getI rfl rfl rfl rfl rfl ?_ | refine w_getR rfl rfl rfl rfl rfl ?_
                 try simp only [hD]
                 refine w_push rfl ?_
                 refine w_ldI rfl rfl ?_
                 refine w_add rfl ?_
                 refine w_push rfl ?_
                 refine w_ast rfl rfl rfl (by omega) rfl ?_
                 have hwl := hwl (by omega)
                 rw [Int.zero_add]
                 have hDw : us s24 147 c.toNat 1 147 = wlF D c := by rw [us_eq, f24.at 147 rfl, hD]; rfl
                 refine w_ldR rfl rfl rfl ?_
                 refine w_ldI rfl rfl ?_
                 refine w_callWI rfl rfl rfl rfl rfl rfl rfl (c_metBy hDw hwl.1 hwl.2.1 (by omega)) (fun v36 s36 p36 => ?_)
                 obtain ⟨rfl, f36⟩ := p36
                 refine w_call rfl rfl rfl (c_ones (by first | exact mtW_1024 hM0 w | exact mtW_1024 hwl.1 w)) ?_
                 try simp only [hD]
                 refine w_StI_5_4 rfl rfl ?_
                 refine w_ldR rfl rfl rfl ?_
                 first | refine w_getI rfl rfl rfl rfl rfl ?_ | refine w_getR rfl rfl rfl rfl rfl ?_
                 try simp only [hD]
                 refine w_push rfl ?_
                 refine w_ldI rfl rfl ?_
                 refine w_add rfl ?_
                 refine w_push rfl ?_
                 refine w_ast rfl rfl rfl (by omega) rfl ?_
                 refine w_ldI rfl rfl ?_
                 refine w_ldI rfl rfl ?_
                 refine w_sub rfl ?_
                 refine w_retI rfl ?_
                 rw [Int.zero_add]
                 exact ⟨rfl, by rw [us_eq, f36.at 147 rfl, hDw]; exact mup_back h0, (((Fr.mono rfl f24).tr (Fr.us rfl)).tr (Fr.mono rfl f36)).tr (Fr.us rfl)⟩)
            · first
              | (exfalso; omega)
              | (refine w_ldR rfl rfl rfl ?_
                 refine w_push rfl ?_
                 refine w_callV rfl rfl rfl rfl rfl rfl rfl r_finds1 ?_
                 try simp only [hD]
                 refine w_retI rfl ?_
                 rw [Int.zero_add]
                 exact ⟨rfl, by rw [us_eq, f36.at 147 rfl, hDw]; exact mup_back h0, (((Fr.mono rfl f24).tr (Fr.us rfl)).tr (Fr.mono rfl f36)).tr (Fr.us rfl)⟩))
       · first
         | (exfalso; omega)
         | (refine w_ldR rfl rfl rfl ?_
            refine w_push rfl ?_
            refine w_callV rfl rfl rfl rfl rfl rfl rfl r_finds1 ?_
            try simp only [hD]
            refine w_retI rfl ?_
            rw [Int.zero_add]
            exact ⟨rfl, by rw [us_eq, f36.at 147 rfl, hDw]; exact mup_back h0, (((Fr.mono rfl f24).tr (Fr.us rfl)).tr (Fr.mono rfl f36)).tr (Fr.us rfl)⟩))
theorem m_curtain_s {d : Nat} {s : mSt} {D : Nat → Int} (hD : s 147 = D) (hM : MOk D) (hC : COk D) {w c : Int} (hrw : -2147483648 ≤ w ∧ w < 2147483648) (hrc : -2147483648 ≤ c ∧ c < 2147483648) (hy : (0 ≤ w ∧ w ≤ D 39 - 1) ∧ 0 ≤ c ∧ c ≤ 35) (h0 : ¬ D c.toNat = 0) : CI (d + 6) 235 [.inr (.inr 146), .inl w, .inl c] (s) (fun r s1 => r = -1000000000 - 3 ∧ s1 = us s 150 3 (s 150 3 + 1)) := by
  refine CI.mk rfl ?_
  show WP (d + 6) 235 0 [some (.inr (.inr 146)), some (.inl w), some (.inl c), none, none] [] (encA (s)) _
  have hM0 := hM
  obtain ⟨hM39, hM40, hM41, hM43, hM44, hM36, hM37, hM38, hMc, hMw, hMp, hMt, hMb⟩ := hM
  refine w_ldR rfl rfl rfl ?_
  refine w_ldI rfl rfl ?_
  refine w_callV rfl rfl rfl rfl rfl rfl rfl (r_isWindow (by omega) (by rw [hD]; omega)) ?_
  rw [hD]
  try simp only [hD]
  refine w_bEq0 rfl (fun b3 => ?_) (fun b3 => ?_)
  · first
    | (exfalso; omega)
    | (exfalso; omega)
  · first
    | (exfalso; omega)
    | (refine w_ldI rfl rfl ?_
       refine w_call rfl rfl rfl (r_isCell (by omega)) ?_
       try simp only [hD]
       refine w_bNe0 rfl (fun b6 => ?_) (fun b6 => ?_)
       · first
         | (exfalso; omega)
         | (refine w_ldR rfl rfl rfl ?_
            first | refine w_getI rfl rfl rfl rfl rfl ?_ | refine w_getR rfl rfl rfl rfl rfl ?_
            try simp only [hD]
            refine w_push rfl ?_
            refine w_ldI rfl rfl ?_
            refine w_add rfl ?_
            refine w_ald rfl rfl rfl (by omega) rfl ?_
            rw [hD, Int.zero_add]
            have hcc := MOk_cell hM0 c.toNat (by omega)
            refine w_irEq0 rfl (by omega) (fun b17 => ?_) (fun b17 => ?_)
            · first
              | (exfalso; omega)
              | (exfalso; omega)
            · first
              | (exfalso; omega)
              | (refine w_ldR rfl rfl rfl ?_
                 refine w_push rfl ?_
                 refine w_callV rfl rfl rfl rfl rfl rfl rfl r_finds3 ?_
                 try simp only [hD]
                 refine w_retI rfl ?_
                 exact ⟨rfl, rfl⟩))
       · first
         | (exfalso; omega)
         | (exfalso; omega))
theorem m_curtain_n {d : Nat} {s : mSt} {D : Nat → Int} (hD : s 147 = D) (hM : MOk D) (hC : COk D) {w c : Int} (hrw : -2147483648 ≤ w ∧ w < 2147483648) (hrc : -2147483648 ≤ c ∧ c < 2147483648) (hy : ¬ ((0 ≤ w ∧ w ≤ D 39 - 1) ∧ 0 ≤ c ∧ c ≤ 35)) : CI (d + 6) 235 [.inr (.inr 146), .inl w, .inl c] (s) (fun r s1 => r = -1000000000 - 1 ∧ s1 = us s 150 1 (s 150 1 + 1)) := by
  refine CI.mk rfl ?_
  show WP (d + 6) 235 0 [some (.inr (.inr 146)), some (.inl w), some (.inl c), none, none] [] (encA (s)) _
  have hM0 := hM
  obtain ⟨hM39, hM40, hM41, hM43, hM44, hM36, hM37, hM38, hMc, hMw, hMp, hMt, hMb⟩ := hM
  refine w_ldR rfl rfl rfl ?_
  refine w_ldI rfl rfl ?_
  refine w_callV rfl rfl rfl rfl rfl rfl rfl (r_isWindow (by omega) (by rw [hD]; omega)) ?_
  rw [hD]
  try simp only [hD]
  refine w_bEq0 rfl (fun b3 => ?_) (fun b3 => ?_)
  · first
    | (exfalso; omega)
    | (refine w_ldR rfl rfl rfl ?_
       refine w_push rfl ?_
       refine w_callV rfl rfl rfl rfl rfl rfl rfl r_finds1 ?_
       try simp only [hD]
       refine w_retI rfl ?_
       exact ⟨rfl, rfl⟩)
  · first
    | (exfalso; omega)
    | (refine w_ldI rfl rfl ?_
       refine w_call rfl rfl rfl (r_isCell (by omega)) ?_
       try simp only [hD]
       refine w_bNe0 rfl (fun b6 => ?_) (fun b6 => ?_)
       · first
         | (exfalso; omega)
         | (exfalso; omega)
       · first
         | (exfalso; omega)
         | (refine w_ldR rfl rfl rfl ?_
            refine w_push rfl ?_
            refine w_callV rfl rfl rfl rfl rfl rfl rfl r_finds1 ?_
            try simp only [hD]
            refine w_retI rfl ?_
            exact ⟨rfl, rfl⟩))
theorem st_curtain {X : Nat → Int} {N : Int} {d : Nat} {s : mSt} {cnt : Int} (hI : Inv X N s cnt) {w c : Int} (hrw : -2147483648 ≤ w ∧ w < 2147483648) (hrc : -2147483648 ≤ c ∧ c < 2147483648) : Step X N (d + 150) s cnt 124 235 [.inl w, .inl c] := by
  have hI0 := hI
  obtain ⟨hD, -, -, -, -, hT, -, hX, hU⟩ := hI
  have hD0 := hD
  obtain ⟨⟨hM, hC, hN⟩, hV, h8⟩ := hD
  have hV0 := hV
  have hM0 := hM
  obtain ⟨vc, vpl, vga, vse, vne, veg, vre, vtu, vta, vwa, v36, v37, v39, v40, v42, v41, v43, v44, vl0, vl1, vlm⟩ := hV
  obtain ⟨hM39, hM40, hM41, hM43, hM44, hM36, hM37, hM38, hMc, hMw, hMp, hMt, hMb⟩ := hM
  by_cases hy : (0 ≤ w ∧ w ≤ s 147 39 - 1) ∧ 0 ≤ c ∧ c ≤ 35
  · by_cases h0 : s 147 c.toNat = 0
    · obtain ⟨r1, s1, k1, hr, hV1, e13, f1⟩ := x_curtain_y (d := d + 145) hD0 hrw hrc hy h0
      have e : s1 147 = s 147 := f1.at 147 rfl
      obtain ⟨r2, s2, k2, hr2, e2, f2⟩ := m_curtain_y (d := d + 144) (s := s1) e hM0 hC hrw hrc hy h0
      refine Step.mk (by first | exact ⟨(f1.at 1 rfl).trans hX.2.1, (congrFun (f1.at 0 rfl) 1).trans hX.2.2⟩ | exact ⟨hX.2.1, hX.2.2⟩ | exact ⟨by rw [hs1, us_ne (by decide)]; exact hX.2.1, by rw [hs1, us_ne (by decide)]; exact hX.2.2⟩ | exact ⟨by rw [hs1, us_ne (by decide), us_ne (by decide)]; exact hX.2.1, by rw [hs1, us_ne (by decide), us_ne (by decide)]; exact hX.2.2⟩ | exact ⟨by rw [e1, us_ne (by decide), f1.at 1 rfl]; exact hX.2.1, by rw [e1, us_ne (by decide), f1.at 0 rfl]; exact hX.2.2⟩ | exact ⟨by rw [ft.at 1 rfl, hx 1 (by decide) (by decide)]; exact hX.2.1, by rw [ft.at 0 rfl, et, newL_0, mup_ne (by decide)]; exact hX.2.2⟩) k1 k2 (by rw [hr, hr2]) ?_
      have hf : Fr [14, 38, 46, 128, 129, 147, 151, 153, 154] s s2 := (Fr.mono rfl f1).tr (Fr.mono rfl f2)
      exact hI0.vil rfl rfl (by omega) hf (IvD.mk e2 hM0 hC hN (hV1.fr rfl f2) (by rw [f2.at 13 rfl, e13]; exact h8)) (hT.d (fun i hi => by rw [e2]) (hf.at 148 rfl) (hf.at 149 rfl))
    · obtain ⟨r1, s1, k1, hr, hs1⟩ := x_curtain_s (d := d + 145) hD0 hrw hrc hy h0
      have e : s1 147 = s 147 := by rw [hs1]; exact us_ne (by decide)
      obtain ⟨r2, s2, k2, hr2, hs2⟩ := m_curtain_s (d := d + 144) (s := s1) e hM0 hC hrw hrc hy h0
      rw [hs2] at k2
      exact Step.mk (by first | exact ⟨(f1.at 1 rfl).trans hX.2.1, (congrFun (f1.at 0 rfl) 1).trans hX.2.2⟩ | exact ⟨hX.2.1, hX.2.2⟩ | exact ⟨by rw [hs1, us_ne (by decide)]; exact hX.2.1, by rw [hs1, us_ne (by decide)]; exact hX.2.2⟩ | exact ⟨by rw [hs1, us_ne (by decide), us_ne (by decide)]; exact hX.2.1, by rw [hs1, us_ne (by decide), us_ne (by decide)]; exact hX.2.2⟩ | exact ⟨by rw [e1, us_ne (by decide), f1.at 1 rfl]; exact hX.2.1, by rw [e1, us_ne (by decide), f1.at 0 rfl]; exact hX.2.2⟩ | exact ⟨by rw [ft.at 1 rfl, hx 1 (by decide) (by decide)]; exact hX.2.1, by rw [ft.at 0 rfl, et, newL_0, mup_ne (by decide)]; exact hX.2.2⟩) k1 k2 (by rw [hr, hr2]) (hI0.err2 hs1)
  · obtain ⟨r1, s1, k1, hr, hs1⟩ := x_curtain_n (d := d + 145) hD0 hrw hrc hy
    have e : s1 147 = s 147 := by rw [hs1]; exact us_ne (by decide)
    obtain ⟨r2, s2, k2, hr2, hs2⟩ := m_curtain_n (d := d + 144) (s := s1) e hM0 hC hrw hrc hy
    rw [hs2] at k2
    exact Step.mk (by first | exact ⟨(f1.at 1 rfl).trans hX.2.1, (congrFun (f1.at 0 rfl) 1).trans hX.2.2⟩ | exact ⟨hX.2.1, hX.2.2⟩ | exact ⟨by rw [hs1, us_ne (by decide)]; exact hX.2.1, by rw [hs1, us_ne (by decide)]; exact hX.2.2⟩ | exact ⟨by rw [hs1, us_ne (by decide), us_ne (by decide)]; exact hX.2.1, by rw [hs1, us_ne (by decide), us_ne (by decide)]; exact hX.2.2⟩ | exact ⟨by rw [e1, us_ne (by decide), f1.at 1 rfl]; exact hX.2.1, by rw [e1, us_ne (by decide), f1.at 0 rfl]; exact hX.2.2⟩ | exact ⟨by rw [ft.at 1 rfl, hx 1 (by decide) (by decide)]; exact hX.2.1, by rw [ft.at 0 rfl, et, newL_0, mup_ne (by decide)]; exact hX.2.2⟩) k1 k2 (by rw [hr, hr2]) (hI0.err2 hs1)
theorem and32_255 (x : Int) : m_and (w32 x) 255 = x % 256 := by
  unfold m_and w32
  rw [Int32.ofInt_toInt]
  have h1 : (Int32.ofInt x &&& Int32.ofInt 255).toBitVec.toNat = (BitVec.ofInt 32 x).toNat % 256 := by
    rw [Int32.toBitVec_and, BitVec.toNat_and]
    exact Nat.and_two_pow_sub_one_eq_mod _ 8
  have h2 : (Int32.ofInt x &&& Int32.ofInt 255).toInt = ((Int32.ofInt x &&& Int32.ofInt 255).toBitVec.toNat : Int) := BitVec.toInt_eq_toNat_of_lt (by rw [h1]; omega)
  rw [h2, h1, BitVec.toNat_ofInt]
  omega
theorem land_255 (x : Int) : m_land x 255 = x % 256 := by
  unfold m_land
  have h1 : (Int64.ofInt x &&& Int64.ofInt 255).toBitVec.toNat = (BitVec.ofInt 64 x).toNat % 256 := by
    rw [Int64.toBitVec_and, BitVec.toNat_and]
    exact Nat.and_two_pow_sub_one_eq_mod _ 8
  have h2 : (Int64.ofInt x &&& Int64.ofInt 255).toInt = ((Int64.ofInt x &&& Int64.ofInt 255).toBitVec.toNat : Int) := BitVec.toInt_eq_toNat_of_lt (by rw [h1]; omega)
  rw [h2, h1, BitVec.toNat_ofInt]
  omega
theorem by_0 (W : Int) : m_and (w32 (m_lushr W 0)) 255 = w32 (m_land (m_lshr W 0) 255) := by
  rw [and32_255, land_255, w32_id (by omega) (by omega)]
  unfold m_lushr m_lshr
  rw [show (Int32.ofInt 0).toInt64.toUInt64 &&& Int64.toUInt64 63 = 0 from by decide, show (Int32.ofInt 0).toInt64 &&& 63 = 0 from by decide]
  generalize Int64.ofInt W = a
  have h1 : (a >>> (0 : Int64)).toInt = a.toInt / 1 := by
    show (a >>> (0 : Int64)).toBitVec.toInt = _
    rw [Int64.toBitVec_shiftRight]
    show (a.toBitVec.sshiftRight' (0#64)).toInt = _
    rw [BitVec.sshiftRight_eq', BitVec.toInt_sshiftRight, Int.shiftRight_eq_div_pow]
    rfl
  have h2 : (a.toUInt64 >>> 0).toNat = a.toBitVec.toNat / 1 := by
    rw [UInt64.toNat_shiftRight]
    exact Nat.shiftRight_eq_div_pow _ _
  have h3 : (a.toUInt64 >>> 0).toInt64.toInt = if 2 * (a.toUInt64 >>> 0).toNat < 2 ^ 64 then ((a.toUInt64 >>> 0).toNat : Int) else ((a.toUInt64 >>> 0).toNat : Int) - ((2 ^ 64 : Nat) : Int) := BitVec.toInt_eq_toNat_cond _
  have h4 : a.toInt = if 2 * a.toBitVec.toNat < 2 ^ 64 then (a.toBitVec.toNat : Int) else (a.toBitVec.toNat : Int) - ((2 ^ 64 : Nat) : Int) := BitVec.toInt_eq_toNat_cond a.toBitVec
  have h5 := a.toBitVec.isLt
  rw [h1, h3, h4, h2]
  generalize a.toBitVec.toNat = q at *
  split <;> split <;> omega
theorem by_8 (W : Int) : m_and (w32 (m_lushr W 8)) 255 = w32 (m_land (m_lshr W 8) 255) := by
  rw [and32_255, land_255, w32_id (by omega) (by omega)]
  unfold m_lushr m_lshr
  rw [show (Int32.ofInt 8).toInt64.toUInt64 &&& Int64.toUInt64 63 = 8 from by decide, show (Int32.ofInt 8).toInt64 &&& 63 = 8 from by decide]
  generalize Int64.ofInt W = a
  have h1 : (a >>> (8 : Int64)).toInt = a.toInt / 256 := by
    show (a >>> (8 : Int64)).toBitVec.toInt = _
    rw [Int64.toBitVec_shiftRight]
    show (a.toBitVec.sshiftRight' (8#64)).toInt = _
    rw [BitVec.sshiftRight_eq', BitVec.toInt_sshiftRight, Int.shiftRight_eq_div_pow]
    rfl
  have h2 : (a.toUInt64 >>> 8).toNat = a.toBitVec.toNat / 256 := by
    rw [UInt64.toNat_shiftRight]
    exact Nat.shiftRight_eq_div_pow _ _
  have h3 : (a.toUInt64 >>> 8).toInt64.toInt = if 2 * (a.toUInt64 >>> 8).toNat < 2 ^ 64 then ((a.toUInt64 >>> 8).toNat : Int) else ((a.toUInt64 >>> 8).toNat : Int) - ((2 ^ 64 : Nat) : Int) := BitVec.toInt_eq_toNat_cond _
  have h4 : a.toInt = if 2 * a.toBitVec.toNat < 2 ^ 64 then (a.toBitVec.toNat : Int) else (a.toBitVec.toNat : Int) - ((2 ^ 64 : Nat) : Int) := BitVec.toInt_eq_toNat_cond a.toBitVec
  have h5 := a.toBitVec.isLt
  rw [h1, h3, h4, h2]
  generalize a.toBitVec.toNat = q at *
  split <;> split <;> omega
theorem by_16 (W : Int) : m_and (w32 (m_lushr W 16)) 255 = w32 (m_land (m_lshr W 16) 255) := by
  rw [and32_255, land_255, w32_id (by omega) (by omega)]
  unfold m_lushr m_lshr
  rw [show (Int32.ofInt 16).toInt64.toUInt64 &&& Int64.toUInt64 63 = 16 from by decide, show (Int32.ofInt 16).toInt64 &&& 63 = 16 from by decide]
  generalize Int64.ofInt W = a
  have h1 : (a >>> (16 : Int64)).toInt = a.toInt / 65536 := by
    show (a >>> (16 : Int64)).toBitVec.toInt = _
    rw [Int64.toBitVec_shiftRight]
    show (a.toBitVec.sshiftRight' (16#64)).toInt = _
    rw [BitVec.sshiftRight_eq', BitVec.toInt_sshiftRight, Int.shiftRight_eq_div_pow]
    rfl
  have h2 : (a.toUInt64 >>> 16).toNat = a.toBitVec.toNat / 65536 := by
    rw [UInt64.toNat_shiftRight]
    exact Nat.shiftRight_eq_div_pow _ _
  have h3 : (a.toUInt64 >>> 16).toInt64.toInt = if 2 * (a.toUInt64 >>> 16).toNat < 2 ^ 64 then ((a.toUInt64 >>> 16).toNat : Int) else ((a.toUInt64 >>> 16).toNat : Int) - ((2 ^ 64 : Nat) : Int) := BitVec.toInt_eq_toNat_cond _
  have h4 : a.toInt = if 2 * a.toBitVec.toNat < 2 ^ 64 then (a.toBitVec.toNat : Int) else (a.toBitVec.toNat : Int) - ((2 ^ 64 : Nat) : Int) := BitVec.toInt_eq_toNat_cond a.toBitVec
  have h5 := a.toBitVec.isLt
  rw [h1, h3, h4, h2]
  generalize a.toBitVec.toNat = q at *
  split <;> split <;> omega
theorem by_24 (W : Int) : m_and (w32 (m_lushr W 24)) 255 = w32 (m_land (m_lshr W 24) 255) := by
  rw [and32_255, land_255, w32_id (by omega) (by omega)]
  unfold m_lushr m_lshr
  rw [show (Int32.ofInt 24).toInt64.toUInt64 &&& Int64.toUInt64 63 = 24 from by decide, show (Int32.ofInt 24).toInt64 &&& 63 = 24 from by decide]
  generalize Int64.ofInt W = a
  have h1 : (a >>> (24 : Int64)).toInt = a.toInt / 16777216 := by
    show (a >>> (24 : Int64)).toBitVec.toInt = _
    rw [Int64.toBitVec_shiftRight]
    show (a.toBitVec.sshiftRight' (24#64)).toInt = _
    rw [BitVec.sshiftRight_eq', BitVec.toInt_sshiftRight, Int.shiftRight_eq_div_pow]
    rfl
  have h2 : (a.toUInt64 >>> 24).toNat = a.toBitVec.toNat / 16777216 := by
    rw [UInt64.toNat_shiftRight]
    exact Nat.shiftRight_eq_div_pow _ _
  have h3 : (a.toUInt64 >>> 24).toInt64.toInt = if 2 * (a.toUInt64 >>> 24).toNat < 2 ^ 64 then ((a.toUInt64 >>> 24).toNat : Int) else ((a.toUInt64 >>> 24).toNat : Int) - ((2 ^ 64 : Nat) : Int) := BitVec.toInt_eq_toNat_cond _
  have h4 : a.toInt = if 2 * a.toBitVec.toNat < 2 ^ 64 then (a.toBitVec.toNat : Int) else (a.toBitVec.toNat : Int) - ((2 ^ 64 : Nat) : Int) := BitVec.toInt_eq_toNat_cond a.toBitVec
  have h5 := a.toBitVec.isLt
  rw [h1, h3, h4, h2]
  generalize a.toBitVec.toNat = q at *
  split <;> split <;> omega
theorem by_32 (W : Int) : m_and (w32 (m_lushr W 32)) 255 = w32 (m_land (m_lshr W 32) 255) := by
  rw [and32_255, land_255, w32_id (by omega) (by omega)]
  unfold m_lushr m_lshr
  rw [show (Int32.ofInt 32).toInt64.toUInt64 &&& Int64.toUInt64 63 = 32 from by decide, show (Int32.ofInt 32).toInt64 &&& 63 = 32 from by decide]
  generalize Int64.ofInt W = a
  have h1 : (a >>> (32 : Int64)).toInt = a.toInt / 4294967296 := by
    show (a >>> (32 : Int64)).toBitVec.toInt = _
    rw [Int64.toBitVec_shiftRight]
    show (a.toBitVec.sshiftRight' (32#64)).toInt = _
    rw [BitVec.sshiftRight_eq', BitVec.toInt_sshiftRight, Int.shiftRight_eq_div_pow]
    rfl
  have h2 : (a.toUInt64 >>> 32).toNat = a.toBitVec.toNat / 4294967296 := by
    rw [UInt64.toNat_shiftRight]
    exact Nat.shiftRight_eq_div_pow _ _
  have h3 : (a.toUInt64 >>> 32).toInt64.toInt = if 2 * (a.toUInt64 >>> 32).toNat < 2 ^ 64 then ((a.toUInt64 >>> 32).toNat : Int) else ((a.toUInt64 >>> 32).toNat : Int) - ((2 ^ 64 : Nat) : Int) := BitVec.toInt_eq_toNat_cond _
  have h4 : a.toInt = if 2 * a.toBitVec.toNat < 2 ^ 64 then (a.toBitVec.toNat : Int) else (a.toBitVec.toNat : Int) - ((2 ^ 64 : Nat) : Int) := BitVec.toInt_eq_toNat_cond a.toBitVec
  have h5 := a.toBitVec.isLt
  rw [h1, h3, h4, h2]
  generalize a.toBitVec.toNat = q at *
  split <;> split <;> omega
theorem by_40 (W : Int) : m_and (w32 (m_lushr W 40)) 255 = w32 (m_land (m_lshr W 40) 255) := by
  rw [and32_255, land_255, w32_id (by omega) (by omega)]
  unfold m_lushr m_lshr
  rw [show (Int32.ofInt 40).toInt64.toUInt64 &&& Int64.toUInt64 63 = 40 from by decide, show (Int32.ofInt 40).toInt64 &&& 63 = 40 from by decide]
  generalize Int64.ofInt W = a
  have h1 : (a >>> (40 : Int64)).toInt = a.toInt / 1099511627776 := by
    show (a >>> (40 : Int64)).toBitVec.toInt = _
    rw [Int64.toBitVec_shiftRight]
    show (a.toBitVec.sshiftRight' (40#64)).toInt = _
    rw [BitVec.sshiftRight_eq', BitVec.toInt_sshiftRight, Int.shiftRight_eq_div_pow]
    rfl
  have h2 : (a.toUInt64 >>> 40).toNat = a.toBitVec.toNat / 1099511627776 := by
    rw [UInt64.toNat_shiftRight]
    exact Nat.shiftRight_eq_div_pow _ _
  have h3 : (a.toUInt64 >>> 40).toInt64.toInt = if 2 * (a.toUInt64 >>> 40).toNat < 2 ^ 64 then ((a.toUInt64 >>> 40).toNat : Int) else ((a.toUInt64 >>> 40).toNat : Int) - ((2 ^ 64 : Nat) : Int) := BitVec.toInt_eq_toNat_cond _
  have h4 : a.toInt = if 2 * a.toBitVec.toNat < 2 ^ 64 then (a.toBitVec.toNat : Int) else (a.toBitVec.toNat : Int) - ((2 ^ 64 : Nat) : Int) := BitVec.toInt_eq_toNat_cond a.toBitVec
  have h5 := a.toBitVec.isLt
  rw [h1, h3, h4, h2]
  generalize a.toBitVec.toNat = q at *
  split <;> split <;> omega
theorem by_48 (W : Int) : m_and (w32 (m_lushr W 48)) 255 = w32 (m_land (m_lshr W 48) 255) := by
  rw [and32_255, land_255, w32_id (by omega) (by omega)]
  unfold m_lushr m_lshr
  rw [show (Int32.ofInt 48).toInt64.toUInt64 &&& Int64.toUInt64 63 = 48 from by decide, show (Int32.ofInt 48).toInt64 &&& 63 = 48 from by decide]
  generalize Int64.ofInt W = a
  have h1 : (a >>> (48 : Int64)).toInt = a.toInt / 281474976710656 := by
    show (a >>> (48 : Int64)).toBitVec.toInt = _
    rw [Int64.toBitVec_shiftRight]
    show (a.toBitVec.sshiftRight' (48#64)).toInt = _
    rw [BitVec.sshiftRight_eq', BitVec.toInt_sshiftRight, Int.shiftRight_eq_div_pow]
    rfl
  have h2 : (a.toUInt64 >>> 48).toNat = a.toBitVec.toNat / 281474976710656 := by
    rw [UInt64.toNat_shiftRight]
    exact Nat.shiftRight_eq_div_pow _ _
  have h3 : (a.toUInt64 >>> 48).toInt64.toInt = if 2 * (a.toUInt64 >>> 48).toNat < 2 ^ 64 then ((a.toUInt64 >>> 48).toNat : Int) else ((a.toUInt64 >>> 48).toNat : Int) - ((2 ^ 64 : Nat) : Int) := BitVec.toInt_eq_toNat_cond _
  have h4 : a.toInt = if 2 * a.toBitVec.toNat < 2 ^ 64 then (a.toBitVec.toNat : Int) else (a.toBitVec.toNat : Int) - ((2 ^ 64 : Nat) : Int) := BitVec.toInt_eq_toNat_cond a.toBitVec
  have h5 := a.toBitVec.isLt
  rw [h1, h3, h4, h2]
  generalize a.toBitVec.toNat = q at *
  split <;> split <;> omega
theorem by_56 (W : Int) : m_and (w32 (m_lushr W 56)) 255 = w32 (m_land (m_lshr W 56) 255) := by
  rw [and32_255, land_255, w32_id (by omega) (by omega)]
  unfold m_lushr m_lshr
  rw [show (Int32.ofInt 56).toInt64.toUInt64 &&& Int64.toUInt64 63 = 56 from by decide, show (Int32.ofInt 56).toInt64 &&& 63 = 56 from by decide]
  generalize Int64.ofInt W = a
  have h1 : (a >>> (56 : Int64)).toInt = a.toInt / 72057594037927936 := by
    show (a >>> (56 : Int64)).toBitVec.toInt = _
    rw [Int64.toBitVec_shiftRight]
    show (a.toBitVec.sshiftRight' (56#64)).toInt = _
    rw [BitVec.sshiftRight_eq', BitVec.toInt_sshiftRight, Int.shiftRight_eq_div_pow]
    rfl
  have h2 : (a.toUInt64 >>> 56).toNat = a.toBitVec.toNat / 72057594037927936 := by
    rw [UInt64.toNat_shiftRight]
    exact Nat.shiftRight_eq_div_pow _ _
  have h3 : (a.toUInt64 >>> 56).toInt64.toInt = if 2 * (a.toUInt64 >>> 56).toNat < 2 ^ 64 then ((a.toUInt64 >>> 56).toNat : Int) else ((a.toUInt64 >>> 56).toNat : Int) - ((2 ^ 64 : Nat) : Int) := BitVec.toInt_eq_toNat_cond _
  have h4 : a.toInt = if 2 * a.toBitVec.toNat < 2 ^ 64 then (a.toBitVec.toNat : Int) else (a.toBitVec.toNat : Int) - ((2 ^ 64 : Nat) : Int) := BitVec.toInt_eq_toNat_cond a.toBitVec
  have h5 := a.toBitVec.isLt
  rw [h1, h3, h4, h2]
  generalize a.toBitVec.toNat = q at *
  split <;> split <;> omega
def byt (W : Int) (k : Nat) : Int := w32 (m_land (m_lshr W (8 * (k : Int))) 255)
theorem byt_rng (W : Int) (k : Nat) : 0 ≤ byt W k ∧ byt W k ≤ 255 := by
  unfold byt
  rw [land_255, w32_id (by omega) (by omega)]
  omega
theorem byt_x (W : Int) {k : Nat} (hk : k < 8) : m_and (w32 (m_lushr W (8 * (k : Int)))) 255 = byt W k := by
  unfold byt
  rcases (show k = 0 ∨ k = 1 ∨ k = 2 ∨ k = 3 ∨ k = 4 ∨ k = 5 ∨ k = 6 ∨ k = 7 by omega) with rfl | rfl | rfl | rfl | rfl | rfl | rfl | rfl
  · exact by_0 W
  · exact by_8 W
  · exact by_16 W
  · exact by_24 W
  · exact by_32 W
  · exact by_40 W
  · exact by_48 W
  · exact by_56 W
def fdF (W : Int) : Nat → Nat → (Nat → Int) → (Nat → Int)
  | 0, _, D => D
  | n + 1, k, D => fdF W n (k + 1) (mup (mup D (243 + D 43).toNat (byt W k)) 43 (D 43 + 1))
theorem fdF_ok {W : Int} : ∀ (n k : Nat) (D : Nat → Int), MOk D → COk D → D 43 + n ≤ 50 → MOk (fdF W n k D) ∧ COk (fdF W n k D) ∧ fdF W n k D 43 = D 43 + n ∧ ∀ i, (i < 43 ∨ (44 ≤ i ∧ i < 243) ∨ 293 ≤ i) → fdF W n k D i = D i
  | 0, k, D, hM, hC, _ => ⟨hM, hC, by show D 43 = D 43 + 0; omega, fun _ _ => rfl⟩
  | n + 1, k, D, hM, hC, hn => by
    have hb := byt_rng W k
    have h43 := hM.2.2.2.1
    have ih := fdF_ok (W := W) n (k + 1) (mup (mup D (243 + D 43).toNat (byt W k)) 43 (D 43 + 1)) (MOk_set (MOk_set hM ⟨by omega, by omega, by omega, by omega, by omega, by omega, by omega, by omega, by omega, fun w hw => ⟨by omega, by omega, by omega, by omega⟩, fun p hp => ⟨by omega, by omega, by omega, by omega⟩, fun j hj => by omega, fun j hj => by omega⟩) ⟨by omega, by omega, by omega, by omega, by omega, by omega, by omega, by omega, by omega, fun w hw => ⟨by omega, by omega, by omega, by omega⟩, fun p hp => ⟨by omega, by omega, by omega, by omega⟩, fun j hj => by omega, fun j hj => by omega⟩) (COk_set2 (by omega) (COk_set2 (by omega) hC)) (by rw [mup_eq]; omega)
    unfold fdF
    refine ⟨ih.1, ih.2.1, by rw [ih.2.2.1, mup_eq]; omega, fun i hi => ?_⟩
    rw [ih.2.2.2 i hi, mup_ne (by omega), mup_ne (by omega)]
theorem l_feed {d : Nat} {s : mSt} {P : Int → mSt → Prop} {W n : Int} {D : Nat → Int} (m k : Nat) (i : Int) (hi : i = (k : Int)) (hV : VN13 s D) (hM : MOk D) (hk : (k : Int) + m = n ∧ n ≤ 8) (hn : D 43 + m ≤ 50) (hP : ∀ s1, Fr [24, 25] s s1 → VN13 s1 (fdF W m k D) → P (D 43 + m) s1) : WP (d + 1) 115 24 [some (.inr (.inr 10)), some (.inr (.inl W)), none, some (.inl n), some (.inl i)] [] (encA (s)) (QI P) := by
  subst hi
  have hV0 := hV
  have h43 := hM.2.2.2.1
  obtain ⟨vc, vpl, vga, vse, vne, veg, vre, vtu, vta, vwa, v36, v37, v39, v40, v42, v41, v43, v44, vl0, vl1, vlm⟩ := hV
  refine w_ldI rfl rfl ?_
  refine w_ldI rfl rfl ?_
  refine w_crGe rfl (by omega) (by omega) (fun b26 => ?_) (fun b26 => ?_)
  · first
    | (exfalso; omega)
    | (refine w_ldR rfl rfl rfl ?_
       first | refine w_getI rfl rfl rfl rfl rfl ?_ | refine w_getR rfl rfl rfl rfl rfl ?_
       first | refine w_getI rfl rfl rfl rfl rfl ?_ | refine w_getR rfl rfl rfl rfl rfl ?_
       first | refine w_getI rfl rfl rfl rfl rfl ?_ | refine w_getR rfl rfl rfl rfl rfl ?_
       rw [v43]
       refine w_retI rfl ?_
       obtain rfl : m = 0 := by omega
       have h3 := hP s Fr.rf hV0
       rw [show D 43 + ((0 : Nat) : Int) = D 43 by omega] at h3
       exact h3)
  · first
    | (exfalso; omega)
    | (obtain ⟨m, rfl⟩ : ∃ q, m = q + 1 := ⟨m - 1, by omega⟩
       refine w_ldR rfl rfl rfl ?_
       first | refine w_getI rfl rfl rfl rfl rfl ?_ | refine w_getR rfl rfl rfl rfl rfl ?_
       first | refine w_getI rfl rfl rfl rfl rfl ?_ | refine w_getR rfl rfl rfl rfl rfl ?_
       refine w_ldL rfl rfl ?_
       refine w_push rfl ?_
       refine w_ldI rfl rfl ?_
       refine w_mul rfl ?_
       refine w_shL rfl ?_
       refine w_l2i rfl ?_
       refine w_push rfl ?_
       refine w_bin rfl ?_
       rw [byt_x W (by omega)]
       refine w_callWI rfl rfl rfl rfl rfl rfl rfl (k_add24 (by omega)) (fun v38 s38 p38 => ?_)
       obtain ⟨rfl, rfl⟩ := p38
       rw [if_pos (by omega), v43]
       refine w_popI rfl ?_
       refine w_inc_5_4 rfl rfl ?_
       refine w_go rfl ?_
       have hb := byt_rng W k
       refine l_feed (D := (mup (mup D (243 + D 43).toNat (byt W k)) 43 (D 43 + 1))) m (k + 1) ((k : Int) + 1) (by omega) (hV0.push_ta hM (by omega)) (MOk_set (MOk_set hM ⟨by omega, by omega, by omega, by omega, by omega, by omega, by omega, by omega, by omega, fun w hw => ⟨by omega, by omega, by omega, by omega⟩, fun p hp => ⟨by omega, by omega, by omega, by omega⟩, fun j hj => by omega, fun j hj => by omega⟩) ⟨by omega, by omega, by omega, by omega, by omega, by omega, by omega, by omega, by omega, fun w hw => ⟨by omega, by omega, by omega, by omega⟩, fun p hp => ⟨by omega, by omega, by omega, by omega⟩, fun j hj => by omega, fun j hj => by omega⟩) (by omega) (by rw [mup_eq]; omega) (fun s1 h1 h2 => ?_)
       have h3 := hP s1 (((Fr.us rfl).tr (Fr.us rfl)).tr h1) h2
       rw [mup_eq, show D 43 + 1 + (m : Int) = D 43 + ((m + 1 : Nat) : Int) by omega]
       exact h3)
termination_by m
decreasing_by all_goals omega
theorem x_feed_y {d : Nat} {s : mSt} (hI : IvD s) {W n : Int} (hrn : -2147483648 ≤ n ∧ n < 2147483648) (hy : 1 ≤ n ∧ n ≤ 8) (hz : s 147 43 + n ≤ 50) : CI (d + 1) 115 [.inr (.inr 10), .inr (.inl W), .inl n] (s) (fun r s1 => r = s 147 43 + n ∧ VN13 s1 (fdF W n.toNat 0 (s 147)) ∧ Fr [24, 25] s s1) := by
  refine CI.mk rfl ?_
  show WP (d + 1) 115 0 [some (.inr (.inr 10)), some (.inr (.inl W)), none, some (.inl n), none] [] (encA (s)) _
  have hI0 := hI
  obtain ⟨⟨hM, hC, hN⟩, hV, h8⟩ := hI
  have hV0 := hV
  have hM0 := hM
  obtain ⟨vc, vpl, vga, vse, vne, veg, vre, vtu, vta, vwa, v36, v37, v39, v40, v42, v41, v43, v44, vl0, vl1, vlm⟩ := hV
  obtain ⟨hM39, hM40, hM41, hM43, hM44, hM36, hM37, hM38, hMc, hMw, hMp, hMt, hMb⟩ := hM
  refine w_ldI rfl rfl ?_
  refine w_push rfl ?_
  refine w_crLt rfl (by omega) (by omega) (fun b2 => ?_) (fun b2 => ?_)
  · first
    | (exfalso; omega)
    | (exfalso; omega)
  · first
    | (exfalso; omega)
    | (refine w_ldI rfl rfl ?_
       refine w_push rfl ?_
       refine w_crLe rfl (by omega) (by omega) (fun b5 => ?_) (fun b5 => ?_)
       · first
         | (exfalso; omega)
         | (refine w_ldR rfl rfl rfl ?_
            first | refine w_getI rfl rfl rfl rfl rfl ?_ | refine w_getR rfl rfl rfl rfl rfl ?_
            first | refine w_getI rfl rfl rfl rfl rfl ?_ | refine w_getR rfl rfl rfl rfl rfl ?_
            first | refine w_getI rfl rfl rfl rfl rfl ?_ | refine w_getR rfl rfl rfl rfl rfl ?_
            rw [v43]
            refine w_ldI rfl rfl ?_
            refine w_add rfl ?_
            refine w_push rfl ?_
            refine w_crLe rfl (by omega) (by omega) (fun b17 => ?_) (fun b17 => ?_)
            · first
              | (exfalso; omega)
              | (refine w_push rfl ?_
                 refine w_StI_5_4 rfl rfl ?_
                 exact l_feed n.toNat 0 0 rfl hV0 hM0 (by omega) (by omega) (fun s1 h1 h2 => ⟨by omega, h2, h1⟩))
            · first
              | (exfalso; omega)
              | (exfalso; omega))
       · first
         | (exfalso; omega)
         | (exfalso; omega))
theorem x_feed_n {d : Nat} {s : mSt} (hI : IvD s) {W n : Int} (hrn : -2147483648 ≤ n ∧ n < 2147483648) (hy : ¬ (1 ≤ n ∧ n ≤ 8)) : CI (d + 1) 115 [.inr (.inr 10), .inr (.inl W), .inl n] (s) (fun r s1 => r = -1000000000 - 1 ∧ s1 = us s 132 1 (s 132 1 + 1)) := by
  refine CI.mk rfl ?_
  show WP (d + 1) 115 0 [some (.inr (.inr 10)), some (.inr (.inl W)), none, some (.inl n), none] [] (encA (s)) _
  have hI0 := hI
  obtain ⟨⟨hM, hC, hN⟩, hV, h8⟩ := hI
  have hV0 := hV
  have hM0 := hM
  obtain ⟨vc, vpl, vga, vse, vne, veg, vre, vtu, vta, vwa, v36, v37, v39, v40, v42, v41, v43, v44, vl0, vl1, vlm⟩ := hV
  obtain ⟨hM39, hM40, hM41, hM43, hM44, hM36, hM37, hM38, hMc, hMw, hMp, hMt, hMb⟩ := hM
  refine w_ldI rfl rfl ?_
  refine w_push rfl ?_
  refine w_crLt rfl (by omega) (by omega) (fun b2 => ?_) (fun b2 => ?_)
  · first
    | (exfalso; omega)
    | (refine w_ldR rfl rfl rfl ?_
       refine w_push rfl ?_
       refine w_callWI rfl rfl rfl rfl rfl rfl rfl k_error1 (fun v8 s8 p8 => ?_)
       obtain ⟨rfl, rfl⟩ := p8
       refine w_retI rfl ?_
       exact ⟨rfl, rfl⟩)
  · first
    | (exfalso; omega)
    | (refine w_ldI rfl rfl ?_
       refine w_push rfl ?_
       refine w_crLe rfl (by omega) (by omega) (fun b5 => ?_) (fun b5 => ?_)
       · first
         | (exfalso; omega)
         | (exfalso; omega)
       · first
         | (exfalso; omega)
         | (refine w_ldR rfl rfl rfl ?_
            refine w_push rfl ?_
            refine w_callWI rfl rfl rfl rfl rfl rfl rfl k_error1 (fun v8 s8 p8 => ?_)
            obtain ⟨rfl, rfl⟩ := p8
            refine w_retI rfl ?_
            exact ⟨rfl, rfl⟩))
theorem x_feed_f {d : Nat} {s : mSt} (hI : IvD s) {W n : Int} (hrn : -2147483648 ≤ n ∧ n < 2147483648) (hy : 1 ≤ n ∧ n ≤ 8) (hz : ¬ s 147 43 + n ≤ 50) : CI (d + 1) 115 [.inr (.inr 10), .inr (.inl W), .inl n] (s) (fun r s1 => r = -1000000000 - 4 ∧ s1 = us s 132 4 (s 132 4 + 1)) := by
  refine CI.mk rfl ?_
  show WP (d + 1) 115 0 [some (.inr (.inr 10)), some (.inr (.inl W)), none, some (.inl n), none] [] (encA (s)) _
  have hI0 := hI
  obtain ⟨⟨hM, hC, hN⟩, hV, h8⟩ := hI
  have hV0 := hV
  have hM0 := hM
  obtain ⟨vc, vpl, vga, vse, vne, veg, vre, vtu, vta, vwa, v36, v37, v39, v40, v42, v41, v43, v44, vl0, vl1, vlm⟩ := hV
  obtain ⟨hM39, hM40, hM41, hM43, hM44, hM36, hM37, hM38, hMc, hMw, hMp, hMt, hMb⟩ := hM
  refine w_ldI rfl rfl ?_
  refine w_push rfl ?_
  refine w_crLt rfl (by omega) (by omega) (fun b2 => ?_) (fun b2 => ?_)
  · first
    | (exfalso; omega)
    | (exfalso; omega)
  · first
    | (exfalso; omega)
    | (refine w_ldI rfl rfl ?_
       refine w_push rfl ?_
       refine w_crLe rfl (by omega) (by omega) (fun b5 => ?_) (fun b5 => ?_)
       · first
         | (exfalso; omega)
         | (refine w_ldR rfl rfl rfl ?_
            first | refine w_getI rfl rfl rfl rfl rfl ?_ | refine w_getR rfl rfl rfl rfl rfl ?_
            first | refine w_getI rfl rfl rfl rfl rfl ?_ | refine w_getR rfl rfl rfl rfl rfl ?_
            first | refine w_getI rfl rfl rfl rfl rfl ?_ | refine w_getR rfl rfl rfl rfl rfl ?_
            rw [v43]
            refine w_ldI rfl rfl ?_
            refine w_add rfl ?_
            refine w_push rfl ?_
            refine w_crLe rfl (by omega) (by omega) (fun b17 => ?_) (fun b17 => ?_)
            · first
              | (exfalso; omega)
              | (exfalso; omega)
            · first
              | (exfalso; omega)
              | (refine w_ldR rfl rfl rfl ?_
                 refine w_push rfl ?_
                 refine w_callWI rfl rfl rfl rfl rfl rfl rfl k_error4 (fun v20 s20 p20 => ?_)
                 obtain ⟨rfl, rfl⟩ := p20
                 refine w_retI rfl ?_
                 exact ⟨rfl, rfl⟩))
       · first
         | (exfalso; omega)
         | (exfalso; omega))
theorem l_mfeed {d : Nat} {s : mSt} {P : Int → mSt → Prop} {W n : Int} {D : Nat → Int} (m k : Nat) (i : Int) (hi : i = (k : Int)) (hD : s 147 = D) (h43 : 0 ≤ D 43) (hk : (k : Int) + m = n ∧ n ≤ 8) (hn : D 43 + m ≤ 50) (hP : ∀ s1, Fr [147] s s1 → s1 147 = fdF W m k D → P (D 43 + m) s1) : WP (d + 1) 191 24 [some (.inr (.inr 146)), some (.inr (.inl W)), none, some (.inl n), some (.inl i)] [] (encA (s)) (QI P) := by
  subst hi
  refine w_ldI rfl rfl ?_
  refine w_ldI rfl rfl ?_
  refine w_crGe rfl (by omega) (by omega) (fun b26 => ?_) (fun b26 => ?_)
  · first
    | (exfalso; omega)
    | (refine w_ldR rfl rfl rfl ?_
       first | refine w_getI rfl rfl rfl rfl rfl ?_ | refine w_getR rfl rfl rfl rfl rfl ?_
       refine w_push rfl ?_
       refine w_aldk 43 rfl rfl rfl rfl rfl rfl ?_
       rw [hD]
       refine w_retI rfl ?_
       obtain rfl : m = 0 := by omega
       have h3 := hP s Fr.rf hD
       rw [show D 43 + ((0 : Nat) : Int) = D 43 by omega] at h3
       exact h3)
  · first
    | (exfalso; omega)
    | (obtain ⟨m, rfl⟩ : ∃ q, m = q + 1 := ⟨m - 1, by omega⟩
       refine w_ldR rfl rfl rfl ?_
       first | refine w_getI rfl rfl rfl rfl rfl ?_ | refine w_getR rfl rfl rfl rfl rfl ?_
       refine w_push rfl ?_
       refine w_ldR rfl rfl rfl ?_
       first | refine w_getI rfl rfl rfl rfl rfl ?_ | refine w_getR rfl rfl rfl rfl rfl ?_
       refine w_push rfl ?_
       refine w_aldk 43 rfl rfl rfl rfl rfl rfl ?_
       rw [hD]
       refine w_add rfl ?_
       refine w_ldL rfl rfl ?_
       refine w_push rfl ?_
       refine w_ldI rfl rfl ?_
       refine w_mul rfl ?_
       refine w_shL rfl ?_
       refine w_push rfl ?_
       refine w_binL rfl ?_
       refine w_l2i rfl ?_
       refine w_ast rfl rfl rfl (by omega) rfl ?_
       refine w_ldR rfl rfl rfl ?_
       first | refine w_getI rfl rfl rfl rfl rfl ?_ | refine w_getR rfl rfl rfl rfl rfl ?_
       refine w_push rfl ?_
       refine w_dup2 rfl ?_
       refine w_aldk 43 rfl rfl rfl rfl rfl rfl ?_
       rw [us_eq, mup_ne (by omega), hD]
       refine w_push rfl ?_
       refine w_add rfl ?_
       refine w_astk 43 rfl rfl rfl rfl rfl rfl ?_
       refine w_inc_5_4 rfl rfl ?_
       refine w_go rfl ?_
       refine l_mfeed (D := (mup (mup D (243 + D 43).toNat (byt W k)) 43 (D 43 + 1))) m (k + 1) ((k : Int) + 1) (by omega) (by rw [us_eq, us_eq, hD]; rfl) (by rw [mup_eq]; omega) (by omega) (by rw [mup_eq]; omega) (fun s1 h1 h2 => ?_)
       have h3 := hP s1 (((Fr.us rfl).tr (Fr.us rfl)).tr h1) h2
       rw [mup_eq, show D 43 + 1 + (m : Int) = D 43 + ((m + 1 : Nat) : Int) by omega]
       exact h3)
termination_by m
decreasing_by all_goals omega
theorem m_feed_y {d : Nat} {s : mSt} {D : Nat → Int} (hD : s 147 = D) (hM : MOk D) (hC : COk D) {W n : Int} (hrn : -2147483648 ≤ n ∧ n < 2147483648) (hy : 1 ≤ n ∧ n ≤ 8) (hz : D 43 + n ≤ 50) : CI (d + 1) 191 [.inr (.inr 146), .inr (.inl W), .inl n] (s) (fun r s1 => r = D 43 + n ∧ s1 147 = fdF W n.toNat 0 D ∧ Fr [147] s s1) := by
  refine CI.mk rfl ?_
  show WP (d + 1) 191 0 [some (.inr (.inr 146)), some (.inr (.inl W)), none, some (.inl n), none] [] (encA (s)) _
  have hM0 := hM
  obtain ⟨hM39, hM40, hM41, hM43, hM44, hM36, hM37, hM38, hMc, hMw, hMp, hMt, hMb⟩ := hM
  refine w_ldI rfl rfl ?_
  refine w_i2lr rfl (by omega) ?_
  refine w_push rfl ?_
  refine w_push rfl ?_
  refine w_call rfl rfl rfl (r_in (by omega) (by omega) (by omega)) ?_
  try simp only [hD]
  refine w_bNe0 rfl (fun b5 => ?_) (fun b5 => ?_)
  · first
    | (exfalso; omega)
    | (refine w_ldR rfl rfl rfl ?_
       first | refine w_getI rfl rfl rfl rfl rfl ?_ | refine w_getR rfl rfl rfl rfl rfl ?_
       try simp only [hD]
       refine w_push rfl ?_
       refine w_aldk 43 rfl rfl rfl rfl rfl rfl ?_
       try simp only [hD]
       refine w_ldI rfl rfl ?_
       refine w_add rfl ?_
       refine w_push rfl ?_
       refine w_crLe rfl (by omega) (by omega) (fun b17 => ?_) (fun b17 => ?_)
       · first
         | (exfalso; omega)
         | (refine w_push rfl ?_
            refine w_StI_5_4 rfl rfl ?_
            exact l_mfeed n.toNat 0 0 rfl hD (by omega) (by omega) (by omega) (fun s1 h1 h2 => ⟨by omega, h2, h1⟩))
       · first
         | (exfalso; omega)
         | (exfalso; omega))
  · first
    | (exfalso; omega)
    | (exfalso; omega)
theorem m_feed_n {d : Nat} {s : mSt} {D : Nat → Int} (hD : s 147 = D) (hM : MOk D) (hC : COk D) {W n : Int} (hrn : -2147483648 ≤ n ∧ n < 2147483648) (hy : ¬ (1 ≤ n ∧ n ≤ 8)) : CI (d + 1) 191 [.inr (.inr 146), .inr (.inl W), .inl n] (s) (fun r s1 => r = -1000000000 - 1 ∧ s1 = us s 150 1 (s 150 1 + 1)) := by
  refine CI.mk rfl ?_
  show WP (d + 1) 191 0 [some (.inr (.inr 146)), some (.inr (.inl W)), none, some (.inl n), none] [] (encA (s)) _
  have hM0 := hM
  obtain ⟨hM39, hM40, hM41, hM43, hM44, hM36, hM37, hM38, hMc, hMw, hMp, hMt, hMb⟩ := hM
  refine w_ldI rfl rfl ?_
  refine w_i2lr rfl (by omega) ?_
  refine w_push rfl ?_
  refine w_push rfl ?_
  refine w_call rfl rfl rfl (r_in (by omega) (by omega) (by omega)) ?_
  try simp only [hD]
  refine w_bNe0 rfl (fun b5 => ?_) (fun b5 => ?_)
  · first
    | (exfalso; omega)
    | (exfalso; omega)
  · first
    | (exfalso; omega)
    | (refine w_ldR rfl rfl rfl ?_
       refine w_push rfl ?_
       refine w_callV rfl rfl rfl rfl rfl rfl rfl r_finds1 ?_
       try simp only [hD]
       refine w_retI rfl ?_
       exact ⟨rfl, rfl⟩)
theorem m_feed_f {d : Nat} {s : mSt} {D : Nat → Int} (hD : s 147 = D) (hM : MOk D) (hC : COk D) {W n : Int} (hrn : -2147483648 ≤ n ∧ n < 2147483648) (hy : 1 ≤ n ∧ n ≤ 8) (hz : ¬ D 43 + n ≤ 50) : CI (d + 1) 191 [.inr (.inr 146), .inr (.inl W), .inl n] (s) (fun r s1 => r = -1000000000 - 4 ∧ s1 = us s 150 4 (s 150 4 + 1)) := by
  refine CI.mk rfl ?_
  show WP (d + 1) 191 0 [some (.inr (.inr 146)), some (.inr (.inl W)), none, some (.inl n), none] [] (encA (s)) _
  have hM0 := hM
  obtain ⟨hM39, hM40, hM41, hM43, hM44, hM36, hM37, hM38, hMc, hMw, hMp, hMt, hMb⟩ := hM
  refine w_ldI rfl rfl ?_
  refine w_i2lr rfl (by omega) ?_
  refine w_push rfl ?_
  refine w_push rfl ?_
  refine w_call rfl rfl rfl (r_in (by omega) (by omega) (by omega)) ?_
  try simp only [hD]
  refine w_bNe0 rfl (fun b5 => ?_) (fun b5 => ?_)
  · first
    | (exfalso; omega)
    | (refine w_ldR rfl rfl rfl ?_
       first | refine w_getI rfl rfl rfl rfl rfl ?_ | refine w_getR rfl rfl rfl rfl rfl ?_
       try simp only [hD]
       refine w_push rfl ?_
       refine w_aldk 43 rfl rfl rfl rfl rfl rfl ?_
       try simp only [hD]
       refine w_ldI rfl rfl ?_
       refine w_add rfl ?_
       refine w_push rfl ?_
       refine w_crLe rfl (by omega) (by omega) (fun b17 => ?_) (fun b17 => ?_)
       · first
         | (exfalso; omega)
         | (exfalso; omega)
       · first
         | (exfalso; omega)
         | (refine w_ldR rfl rfl rfl ?_
            refine w_push rfl ?_
            refine w_callV rfl rfl rfl rfl rfl rfl rfl r_finds4 ?_
            try simp only [hD]
            refine w_retI rfl ?_
            exact ⟨rfl, rfl⟩))
  · first
    | (exfalso; omega)
    | (exfalso; omega)
theorem st_feed {X : Nat → Int} {N : Int} {d : Nat} {s : mSt} {cnt : Int} (hI : Inv X N s cnt) {W n : Int} (hrn : -2147483648 ≤ n ∧ n < 2147483648) : Step X N (d + 150) s cnt 115 191 [.inr (.inl W), .inl n] := by
  have hI0 := hI
  obtain ⟨hD, -, -, -, -, hT, -, hX, hU⟩ := hI
  have hD0 := hD
  obtain ⟨⟨hM, hC, hN⟩, hV, h8⟩ := hD
  have hV0 := hV
  have hM0 := hM
  obtain ⟨vc, vpl, vga, vse, vne, veg, vre, vtu, vta, vwa, v36, v37, v39, v40, v42, v41, v43, v44, vl0, vl1, vlm⟩ := hV
  obtain ⟨hM39, hM40, hM41, hM43, hM44, hM36, hM37, hM38, hMc, hMw, hMp, hMt, hMb⟩ := hM
  by_cases hy : 1 ≤ n ∧ n ≤ 8
  · by_cases hz : s 147 43 + n ≤ 50
    · obtain ⟨r1, s1, k1, hr, hV1, f1⟩ := x_feed_y (d := d + 149) (W := W) hD0 hrn hy hz
      have e : s1 147 = s 147 := f1.at 147 rfl
      obtain ⟨r2, s2, k2, hr2, e2, f2⟩ := m_feed_y (d := d + 149) (s := s1) (W := W) e hM0 hC hrn hy hz
      refine Step.mk (by first | exact ⟨(f1.at 1 rfl).trans hX.2.1, (congrFun (f1.at 0 rfl) 1).trans hX.2.2⟩ | exact ⟨hX.2.1, hX.2.2⟩ | exact ⟨by rw [hs1, us_ne (by decide)]; exact hX.2.1, by rw [hs1, us_ne (by decide)]; exact hX.2.2⟩ | exact ⟨by rw [hs1, us_ne (by decide), us_ne (by decide)]; exact hX.2.1, by rw [hs1, us_ne (by decide), us_ne (by decide)]; exact hX.2.2⟩ | exact ⟨by rw [e1, us_ne (by decide), f1.at 1 rfl]; exact hX.2.1, by rw [e1, us_ne (by decide), f1.at 0 rfl]; exact hX.2.2⟩ | exact ⟨by rw [ft.at 1 rfl, hx 1 (by decide) (by decide)]; exact hX.2.1, by rw [ft.at 0 rfl, et, newL_0, mup_ne (by decide)]; exact hX.2.2⟩) k1 k2 (by rw [hr, hr2]) ?_
      have hf : Fr [24, 25, 147] s s2 := (Fr.mono rfl f1).tr (Fr.mono rfl f2)
      have hg := fdF_ok (W := W) n.toNat 0 (s 147) hM0 hC (by omega)
      exact hI0.vil rfl rfl (by omega) hf (IvD.mk e2 hg.1 hg.2.1 (by rw [hg.2.2.2 38 (by omega)]; exact hN) (hV1.fr rfl f2) (by rw [hf.at 13 rfl, hg.2.2.2 38 (by omega)]; exact h8)) (hT.d (fun i hi => by rw [e2]; exact hg.2.2.2 i (by omega)) (hf.at 148 rfl) (hf.at 149 rfl))
    · obtain ⟨r1, s1, k1, hr, hs1⟩ := x_feed_f (d := d + 149) hD0 (W := W) hrn hy hz
      have e : s1 147 = s 147 := by rw [hs1]; exact us_ne (by decide)
      obtain ⟨r2, s2, k2, hr2, hs2⟩ := m_feed_f (d := d + 149) (s := s1) e hM0 hC (W := W) hrn hy hz
      rw [hs2] at k2
      exact Step.mk (by first | exact ⟨(f1.at 1 rfl).trans hX.2.1, (congrFun (f1.at 0 rfl) 1).trans hX.2.2⟩ | exact ⟨hX.2.1, hX.2.2⟩ | exact ⟨by rw [hs1, us_ne (by decide)]; exact hX.2.1, by rw [hs1, us_ne (by decide)]; exact hX.2.2⟩ | exact ⟨by rw [hs1, us_ne (by decide), us_ne (by decide)]; exact hX.2.1, by rw [hs1, us_ne (by decide), us_ne (by decide)]; exact hX.2.2⟩ | exact ⟨by rw [e1, us_ne (by decide), f1.at 1 rfl]; exact hX.2.1, by rw [e1, us_ne (by decide), f1.at 0 rfl]; exact hX.2.2⟩ | exact ⟨by rw [ft.at 1 rfl, hx 1 (by decide) (by decide)]; exact hX.2.1, by rw [ft.at 0 rfl, et, newL_0, mup_ne (by decide)]; exact hX.2.2⟩) k1 k2 (by rw [hr, hr2]) (hI0.err2 hs1)
  · obtain ⟨r1, s1, k1, hr, hs1⟩ := x_feed_n (d := d + 149) hD0 (W := W) hrn hy
    have e : s1 147 = s 147 := by rw [hs1]; exact us_ne (by decide)
    obtain ⟨r2, s2, k2, hr2, hs2⟩ := m_feed_n (d := d + 149) (s := s1) e hM0 hC (W := W) hrn hy
    rw [hs2] at k2
    exact Step.mk (by first | exact ⟨(f1.at 1 rfl).trans hX.2.1, (congrFun (f1.at 0 rfl) 1).trans hX.2.2⟩ | exact ⟨hX.2.1, hX.2.2⟩ | exact ⟨by rw [hs1, us_ne (by decide)]; exact hX.2.1, by rw [hs1, us_ne (by decide)]; exact hX.2.2⟩ | exact ⟨by rw [hs1, us_ne (by decide), us_ne (by decide)]; exact hX.2.1, by rw [hs1, us_ne (by decide), us_ne (by decide)]; exact hX.2.2⟩ | exact ⟨by rw [e1, us_ne (by decide), f1.at 1 rfl]; exact hX.2.1, by rw [e1, us_ne (by decide), f1.at 0 rfl]; exact hX.2.2⟩ | exact ⟨by rw [ft.at 1 rfl, hx 1 (by decide) (by decide)]; exact hX.2.1, by rw [ft.at 0 rfl, et, newL_0, mup_ne (by decide)]; exact hX.2.2⟩) k1 k2 (by rw [hr, hr2]) (hI0.err2 hs1)
