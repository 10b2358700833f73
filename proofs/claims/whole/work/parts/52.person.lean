/-! ===== person ===== -/
theorem x_person_y {d : Nat} {s : mSt} (hI : IvD s) {c n : Int} (hrc : -2147483648 ≤ c ∧ c < 2147483648) (hrn : -2147483648 ≤ n ∧ n < 2147483648) (hy : (0 ≤ c ∧ c ≤ 35) ∧ 1 ≤ n ∧ n ≤ 20) (h6 : ¬ s 147 40 = 10) : CI (d + 1) 108 [.inr (.inr 10), .inl c, .inl n] (s) (fun r s1 => r = s 147 40 ∧ s1 = us (us (us (us (us s 18 (s 147 40).toNat c) 19 (s 147 40).toNat n) 20 (s 147 40).toNat 20) 21 (s 147 40).toNat 0) 13 9 (s 147 40 + 1)) := by
  refine CI.mk rfl ?_
  show WP (d + 1) 108 0 [some (.inr (.inr 10)), some (.inl c), some (.inl n), none] [] (encA (s)) _
  have hI0 := hI
  obtain ⟨⟨hM, hC, hN⟩, hV, h8⟩ := hI
  have hV0 := hV
  have hM0 := hM
  obtain ⟨vc, vpl, vga, vse, vne, veg, vre, vtu, vta, vwa, v36, v37, v39, v40, v42, v41, v43, v44, vl0, vl1, vlm⟩ := hV
  obtain ⟨hM39, hM40, hM41, hM43, hM44, hM36, hM37, hM38, hMc, hMw, hMp, hMt, hMb⟩ := hM
  refine w_ldI rfl rfl ?_
  refine w_call rfl rfl rfl (k_isCell (by omega)) ?_
  refine w_bEq0 rfl (fun b2 => ?_) (fun b2 => ?_)
  · first
    | (exfalso; omega)
    | (exfalso; omega)
  · first
    | (exfalso; omega)
    | (refine w_ldI rfl rfl ?_
       refine w_push rfl ?_
       refine w_crLt rfl (by omega) (by omega) (fun b5 => ?_) (fun b5 => ?_)
       · first
         | (exfalso; omega)
         | (exfalso; omega)
       · first
         | (exfalso; omega)
         | (refine w_ldI rfl rfl ?_
            refine w_push rfl ?_
            refine w_crLe rfl (by omega) (by omega) (fun b8 => ?_) (fun b8 => ?_)
            · first
              | (exfalso; omega)
              | (refine w_ldR rfl rfl rfl ?_
                 first | refine w_getI rfl rfl rfl rfl rfl ?_ | refine w_getR rfl rfl rfl rfl rfl ?_
                 first | refine w_getI rfl rfl rfl rfl rfl ?_ | refine w_getR rfl rfl rfl rfl rfl ?_
                 refine w_push rfl ?_
                 refine w_crLt rfl (by omega) (by omega) (fun b17 => ?_) (fun b17 => ?_)
                 · first
                   | (exfalso; omega)
                   | (refine w_ldR rfl rfl rfl ?_
                      first | refine w_getI rfl rfl rfl rfl rfl ?_ | refine w_getR rfl rfl rfl rfl rfl ?_
                      first | refine w_getI rfl rfl rfl rfl rfl ?_ | refine w_getR rfl rfl rfl rfl rfl ?_
                      rw [v40]
                      refine w_StI_4_3 rfl rfl ?_
                      refine w_ldR rfl rfl rfl ?_
                      first | refine w_getI rfl rfl rfl rfl rfl ?_ | refine w_getR rfl rfl rfl rfl rfl ?_
                      first | refine w_getI rfl rfl rfl rfl rfl ?_ | refine w_getR rfl rfl rfl rfl rfl ?_
                      refine w_ldI rfl rfl ?_
                      refine w_ldI rfl rfl ?_
                      refine w_ast rfl rfl rfl (by omega) rfl ?_
                      refine w_ldR rfl rfl rfl ?_
                      first | refine w_getI rfl rfl rfl rfl rfl ?_ | refine w_getR rfl rfl rfl rfl rfl ?_
                      first | refine w_getI rfl rfl rfl rfl rfl ?_ | refine w_getR rfl rfl rfl rfl rfl ?_
                      refine w_ldI rfl rfl ?_
                      refine w_ldI rfl rfl ?_
                      refine w_ast rfl rfl rfl (by omega) rfl ?_
                      refine w_ldR rfl rfl rfl ?_
                      first | refine w_getI rfl rfl rfl rfl rfl ?_ | refine w_getR rfl rfl rfl rfl rfl ?_
                      first | refine w_getI rfl rfl rfl rfl rfl ?_ | refine w_getR rfl rfl rfl rfl rfl ?_
                      refine w_ldI rfl rfl ?_
                      refine w_push rfl ?_
                      refine w_ast rfl rfl rfl (by omega) rfl ?_
                      refine w_ldR rfl rfl rfl ?_
                      first | refine w_getI rfl rfl rfl rfl rfl ?_ | refine w_getR rfl rfl rfl rfl rfl ?_
                      first | refine w_getI rfl rfl rfl rfl rfl ?_ | refine w_getR rfl rfl rfl rfl rfl ?_
                      refine w_ldI rfl rfl ?_
                      refine w_push rfl ?_
                      refine w_ast rfl rfl rfl (by omega) rfl ?_
                      refine w_ldR rfl rfl rfl ?_
                      first | refine w_getI rfl rfl rfl rfl rfl ?_ | refine w_getR rfl rfl rfl rfl rfl ?_
                      first | refine w_dupI rfl ?_ | refine w_dupR rfl ?_
                      first | refine w_getI rfl rfl rfl rfl rfl ?_ | refine w_getR rfl rfl rfl rfl rfl ?_
                      rw [us_ne (by decide), us_ne (by decide), us_ne (by decide), us_ne (by decide), v40]
                      refine w_push rfl ?_
                      refine w_add rfl ?_
                      refine w_putI rfl rfl rfl rfl rfl rfl rfl ?_
                      refine w_ldI rfl rfl ?_
                      refine w_retI rfl ?_
                      exact ⟨rfl, rfl⟩)
                 · first
                   | (exfalso; omega)
                   | (exfalso; omega))
            · first
              | (exfalso; omega)
              | (exfalso; omega)))
theorem x_person_n {d : Nat} {s : mSt} (hI : IvD s) {c n : Int} (hrc : -2147483648 ≤ c ∧ c < 2147483648) (hrn : -2147483648 ≤ n ∧ n < 2147483648) (hy : ¬ ((0 ≤ c ∧ c ≤ 35) ∧ 1 ≤ n ∧ n ≤ 20)) : CI (d + 1) 108 [.inr (.inr 10), .inl c, .inl n] (s) (fun r s1 => r = -1000000000 - 1 ∧ s1 = us s 132 1 (s 132 1 + 1)) := by
  refine CI.mk rfl ?_
  show WP (d + 1) 108 0 [some (.inr (.inr 10)), some (.inl c), some (.inl n), none] [] (encA (s)) _
  have hI0 := hI
  obtain ⟨⟨hM, hC, hN⟩, hV, h8⟩ := hI
  have hV0 := hV
  have hM0 := hM
  obtain ⟨vc, vpl, vga, vse, vne, veg, vre, vtu, vta, vwa, v36, v37, v39, v40, v42, v41, v43, v44, vl0, vl1, vlm⟩ := hV
  obtain ⟨hM39, hM40, hM41, hM43, hM44, hM36, hM37, hM38, hMc, hMw, hMp, hMt, hMb⟩ := hM
  refine w_ldI rfl rfl ?_
  refine w_call rfl rfl rfl (k_isCell (by omega)) ?_
  refine w_bEq0 rfl (fun b2 => ?_) (fun b2 => ?_)
  · first
    | (exfalso; omega)
    | (refine w_ldR rfl rfl rfl ?_
       refine w_push rfl ?_
       refine w_callWI rfl rfl rfl rfl rfl rfl rfl k_error1 (fun v11 s11 p11 => ?_)
       obtain ⟨rfl, rfl⟩ := p11
       refine w_retI rfl ?_
       exact ⟨rfl, rfl⟩)
  · first
    | (exfalso; omega)
    | (refine w_ldI rfl rfl ?_
       refine w_push rfl ?_
       refine w_crLt rfl (by omega) (by omega) (fun b5 => ?_) (fun b5 => ?_)
       · first
         | (exfalso; omega)
         | (refine w_ldR rfl rfl rfl ?_
            refine w_push rfl ?_
            refine w_callWI rfl rfl rfl rfl rfl rfl rfl k_error1 (fun v11 s11 p11 => ?_)
            obtain ⟨rfl, rfl⟩ := p11
            refine w_retI rfl ?_
            exact ⟨rfl, rfl⟩)
       · first
         | (exfalso; omega)
         | (refine w_ldI rfl rfl ?_
            refine w_push rfl ?_
            refine w_crLe rfl (by omega) (by omega) (fun b8 => ?_) (fun b8 => ?_)
            · first
              | (exfalso; omega)
              | (exfalso; omega)
            · first
              | (exfalso; omega)
              | (refine w_ldR rfl rfl rfl ?_
                 refine w_push rfl ?_
                 refine w_callWI rfl rfl rfl rfl rfl rfl rfl k_error1 (fun v11 s11 p11 => ?_)
                 obtain ⟨rfl, rfl⟩ := p11
                 refine w_retI rfl ?_
                 exact ⟨rfl, rfl⟩)))
theorem x_person_f {d : Nat} {s : mSt} (hI : IvD s) {c n : Int} (hrc : -2147483648 ≤ c ∧ c < 2147483648) (hrn : -2147483648 ≤ n ∧ n < 2147483648) (hy : (0 ≤ c ∧ c ≤ 35) ∧ 1 ≤ n ∧ n ≤ 20) (h6 : s 147 40 = 10) : CI (d + 1) 108 [.inr (.inr 10), .inl c, .inl n] (s) (fun r s1 => r = -1000000000 - 4 ∧ s1 = us s 132 4 (s 132 4 + 1)) := by
  refine CI.mk rfl ?_
  show WP (d + 1) 108 0 [some (.inr (.inr 10)), some (.inl c), some (.inl n), none] [] (encA (s)) _
  have hI0 := hI
  obtain ⟨⟨hM, hC, hN⟩, hV, h8⟩ := hI
  have hV0 := hV
  have hM0 := hM
  obtain ⟨vc, vpl, vga, vse, vne, veg, vre, vtu, vta, vwa, v36, v37, v39, v40, v42, v41, v43, v44, vl0, vl1, vlm⟩ := hV
  obtain ⟨hM39, hM40, hM41, hM43, hM44, hM36, hM37, hM38, hMc, hMw, hMp, hMt, hMb⟩ := hM
  refine w_ldI rfl rfl ?_
  refine w_call rfl rfl rfl (k_isCell (by omega)) ?_
  refine w_bEq0 rfl (fun b2 => ?_) (fun b2 => ?_)
  · first
    | (exfalso; omega)
    | (exfalso; omega)
  · first
    | (exfalso; omega)
    | (refine w_ldI rfl rfl ?_
       refine w_push rfl ?_
       refine w_crLt rfl (by omega) (by omega) (fun b5 => ?_) (fun b5 => ?_)
       · first
         | (exfalso; omega)
         | (exfalso; omega)
       · first
         | (exfalso; omega)
         | (refine w_ldI rfl rfl ?_
            refine w_push rfl ?_
            refine w_crLe rfl (by omega) (by omega) (fun b8 => ?_) (fun b8 => ?_)
            · first
              | (exfalso; omega)
              | (refine w_ldR rfl rfl rfl ?_
                 first | refine w_getI rfl rfl rfl rfl rfl ?_ | refine w_getR rfl rfl rfl rfl rfl ?_
                 first | refine w_getI rfl rfl rfl rfl rfl ?_ | refine w_getR rfl rfl rfl rfl rfl ?_
                 refine w_push rfl ?_
                 refine w_crLt rfl (by omega) (by omega) (fun b17 => ?_) (fun b17 => ?_)
                 · first
                   | (exfalso; omega)
                   | (exfalso; omega)
                 · first
                   | (exfalso; omega)
                   | (refine w_ldR rfl rfl rfl ?_
                      refine w_push rfl ?_
                      refine w_callWI rfl rfl rfl rfl rfl rfl rfl k_error4 (fun v20 s20 p20 => ?_)
                      obtain ⟨rfl, rfl⟩ := p20
                      refine w_retI rfl ?_
                      exact ⟨rfl, rfl⟩))
            · first
              | (exfalso; omega)
              | (exfalso; omega)))
theorem st_person {X : Nat → Int} {N : Int} {d : Nat} {s : mSt} {cnt : Int} (hI : Inv X N s cnt) {c n : Int} (hrc : -2147483648 ≤ c ∧ c < 2147483648) (hrn : -2147483648 ≤ n ∧ n < 2147483648) : Step X N (d + 150) s cnt 108 213 [.inl c, .inl n] := by
  have hI0 := hI
  obtain ⟨hD, -, -, -, -, hT, -, hX, hU⟩ := hI
  have hD0 := hD
  obtain ⟨⟨hM, hC, hN⟩, hV, h8⟩ := hD
  have hV0 := hV
  have hM0 := hM
  obtain ⟨vc, vpl, vga, vse, vne, veg, vre, vtu, vta, vwa, v36, v37, v39, v40, v42, v41, v43, v44, vl0, vl1, vlm⟩ := hV
  obtain ⟨hM39, hM40, hM41, hM43, hM44, hM36, hM37, hM38, hMc, hMw, hMp, hMt, hMb⟩ := hM
  by_cases hy : (0 ≤ c ∧ c ≤ 35) ∧ 1 ≤ n ∧ n ≤ 20
  · by_cases h6 : s 147 40 = 10
    · obtain ⟨r1, s1, k1, hr, hs1⟩ := x_person_f (d := d + 149) hD0 hrc hrn hy h6
      have e : s1 147 = s 147 := by rw [hs1]; exact us_ne (by decide)
      have k2 := r_person_f (d := d + 148) (s := s1) (by rw [e]; exact hM0) hrc hrn hy (by rw [e]; exact h6)
      exact Step.mk (by first | exact ⟨(f1.at 1 rfl).trans hX.2.1, (congrFun (f1.at 0 rfl) 1).trans hX.2.2⟩ | exact ⟨hX.2.1, hX.2.2⟩ | exact ⟨by rw [hs1, us_ne (by decide)]; exact hX.2.1, by rw [hs1, us_ne (by decide)]; exact hX.2.2⟩ | exact ⟨by rw [hs1, us_ne (by decide), us_ne (by decide)]; exact hX.2.1, by rw [hs1, us_ne (by decide), us_ne (by decide)]; exact hX.2.2⟩ | exact ⟨by rw [e1, us_ne (by decide), f1.at 1 rfl]; exact hX.2.1, by rw [e1, us_ne (by decide), f1.at 0 rfl]; exact hX.2.2⟩ | exact ⟨by rw [ft.at 1 rfl, hx 1 (by decide) (by decide)]; exact hX.2.1, by rw [ft.at 0 rfl, et, newL_0, mup_ne (by decide)]; exact hX.2.2⟩) k1 k2 (by rw [hr]) (hI0.err2 hs1)
    · obtain ⟨r1, s1, k1, hr, hs1⟩ := x_person_y (d := d + 149) hD0 hrc hrn hy h6
      have f1 : Fr [13, 18, 19, 20, 21] s s1 := by rw [hs1]; exact ((((Fr.us rfl).tr (Fr.us rfl)).tr (Fr.us rfl)).tr (Fr.us rfl)).tr (Fr.us rfl)
      have e : s1 147 = s 147 := f1.at 147 rfl
      have k2 := r_person_y (d := d + 148) (s := s1) (by rw [e]; exact hM0) hrc hrn hy (by rw [e]; exact h6)
      rw [e] at k2
      refine Step.mk (by first | exact ⟨(f1.at 1 rfl).trans hX.2.1, (congrFun (f1.at 0 rfl) 1).trans hX.2.2⟩ | exact ⟨hX.2.1, hX.2.2⟩ | exact ⟨by rw [hs1, us_ne (by decide)]; exact hX.2.1, by rw [hs1, us_ne (by decide)]; exact hX.2.2⟩ | exact ⟨by rw [hs1, us_ne (by decide), us_ne (by decide)]; exact hX.2.1, by rw [hs1, us_ne (by decide), us_ne (by decide)]; exact hX.2.2⟩ | exact ⟨by rw [e1, us_ne (by decide), f1.at 1 rfl]; exact hX.2.1, by rw [e1, us_ne (by decide), f1.at 0 rfl]; exact hX.2.2⟩ | exact ⟨by rw [ft.at 1 rfl, hx 1 (by decide) (by decide)]; exact hX.2.1, by rw [ft.at 0 rfl, et, newL_0, mup_ne (by decide)]; exact hX.2.2⟩) k1 k2 (by rw [hr]) ?_
      generalize hs2 : ua s1 147 _ = s2
      have f2 : Fr [147] s1 s2 := by rw [← hs2]; exact Fr.ua rfl
      have hf : Fr [13, 18, 19, 20, 21, 147] s s2 := (Fr.mono rfl f1).tr (Fr.mono rfl f2)
      have hpr : 0 ≤ s 147 40 ∧ s 147 40 < 10 := by omega
      have e2 : s2 147 = mup (mup (mup (mup (mup (s 147) (69 + 4 * s 147 40 + 0).toNat c) (69 + 4 * s 147 40 + 1).toNat n) (69 + 4 * s 147 40 + 2).toNat 20) (69 + 4 * s 147 40 + 3).toNat 0) 40 (s 147 40 + 1) := by rw [← hs2, ua_eq]
      have hV2 : VN13 s2 _ := (((((hV0.set_vse (p := s 147 40) (v := c) hpr).set_vne (p := s 147 40) (v := n) hpr).set_veg (p := s 147 40) (v := 20) hpr).set_vre (p := s 147 40) (v := 0) hpr).set_v40 (v := s 147 40 + 1)).fr (A := [147]) (s1 := s2) rfl (by rw [← hs2, hs1]; exact Fr.ua rfl)
      refine hI0.vil rfl rfl (by omega) hf (IvD.mk e2 (MOk_set (MOk_set (MOk_set (MOk_set (MOk_set hM0 ⟨by omega, by omega, by omega, by omega, by omega, by omega, by omega, by omega, by omega, fun w hw => ⟨by omega, by omega, by omega, by omega⟩, fun p hp => ⟨by omega, by omega, by omega, by omega⟩, fun j hj => by omega, fun j hj => by omega⟩) ⟨by omega, by omega, by omega, by omega, by omega, by omega, by omega, by omega, by omega, fun w hw => ⟨by omega, by omega, by omega, by omega⟩, fun p hp => ⟨by omega, by omega, by omega, by omega⟩, fun j hj => by omega, fun j hj => by omega⟩) ⟨by omega, by omega, by omega, by omega, by omega, by omega, by omega, by omega, by omega, fun w hw => ⟨by omega, by omega, by omega, by omega⟩, fun p hp => ⟨by omega, by omega, by omega, by omega⟩, fun j hj => by omega, fun j hj => by omega⟩) ⟨by omega, by omega, by omega, by omega, by omega, by omega, by omega, by omega, by omega, fun w hw => ⟨by omega, by omega, by omega, by omega⟩, fun p hp => ⟨by omega, by omega, by omega, by omega⟩, fun j hj => by omega, fun j hj => by omega⟩) ⟨by omega, by omega, by omega, by omega, by omega, by omega, by omega, by omega, by omega, fun w hw => ⟨by omega, by omega, by omega, by omega⟩, fun p hp => ⟨by omega, by omega, by omega, by omega⟩, fun j hj => by omega, fun j hj => by omega⟩) (COk_set2 (by omega) (COk_set2 (by omega) (COk_set2 (by omega) (COk_set2 (by omega) (COk_set2 (by omega) hC))))) (by rw [mup_ne (by omega), mup_ne (by omega), mup_ne (by omega), mup_ne (by omega), mup_ne (by omega)]; exact hN) hV2 (by rw [f2.at 13 rfl, hs1, us_eq, mup_ne (by decide), us_ne (by decide), us_ne (by decide), us_ne (by decide), us_ne (by decide), mup_ne (by omega), mup_ne (by omega), mup_ne (by omega), mup_ne (by omega), mup_ne (by omega)]; exact h8)) (hT.d (fun i hi => by rw [e2, mup_ne (by omega), mup_ne (by omega), mup_ne (by omega), mup_ne (by omega), mup_ne (by omega)]) (hf.at 148 rfl) (hf.at 149 rfl))
  · obtain ⟨r1, s1, k1, hr, hs1⟩ := x_person_n (d := d + 149) hD0 hrc hrn hy
    have e : s1 147 = s 147 := by rw [hs1]; exact us_ne (by decide)
    have k2 := r_person_n (d := d + 148) (s := s1) (by rw [e]; exact hM0) hrc hrn hy
    exact Step.mk (by first | exact ⟨(f1.at 1 rfl).trans hX.2.1, (congrFun (f1.at 0 rfl) 1).trans hX.2.2⟩ | exact ⟨hX.2.1, hX.2.2⟩ | exact ⟨by rw [hs1, us_ne (by decide)]; exact hX.2.1, by rw [hs1, us_ne (by decide)]; exact hX.2.2⟩ | exact ⟨by rw [hs1, us_ne (by decide), us_ne (by decide)]; exact hX.2.1, by rw [hs1, us_ne (by decide), us_ne (by decide)]; exact hX.2.2⟩ | exact ⟨by rw [e1, us_ne (by decide), f1.at 1 rfl]; exact hX.2.1, by rw [e1, us_ne (by decide), f1.at 0 rfl]; exact hX.2.2⟩ | exact ⟨by rw [ft.at 1 rfl, hx 1 (by decide) (by decide)]; exact hX.2.1, by rw [ft.at 0 rfl, et, newL_0, mup_ne (by decide)]; exact hX.2.2⟩) k1 k2 (by rw [hr]) (hI0.err2 hs1)
