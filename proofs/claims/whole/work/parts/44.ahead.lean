/-! ===== looks ahead, images, what is checked ===== -/
theorem l_look {d : Nat} {s : mSt} {P : mSt → Prop} {n : Int} {D : Nat → Int} (m k : Nat) (i : Int) (hi : i = (k : Int)) (hV : VN89 s D) (h8 : s 89 1 = D 38) (hM : MOk D) (hC : COk D) (hk : (k : Int) + m = n ∧ n ≤ 1000) (hn : D 38 + m ≤ 20000) (hP : ∀ s1, Fr [89, 90, 91, 92, 93, 94, 95, 96, 97, 98, 99, 100, 101, 102, 103, 112, 113, 120, 121, 114, 122, 128, 129] s s1 → VN89 s1 (nnF m D) → s1 89 1 = D 38 + m → P s1) : WP (d + 6) 153 7 [some (.inr (.inr 10)), some (.inl n), some (.inl i)] [] (encA (s)) (QV P) := by
  subst hi
  refine w_ldI rfl rfl ?_
  refine w_ldI rfl rfl ?_
  refine w_crGe rfl (by omega) (by omega) (fun b9 => ?_) (fun b9 => ?_)
  · first
    | (exfalso; omega)
    | (refine w_retV rfl ?_
       obtain rfl : m = 0 := by omega
       exact hP s Fr.rf hV (by omega))
  · first
    | (exfalso; omega)
    | (obtain ⟨m, rfl⟩ : ∃ q, m = q + 1 := ⟨m - 1, by omega⟩
       refine w_ldR rfl rfl rfl ?_
       first | refine w_getI rfl rfl rfl rfl rfl ?_ | refine w_getR rfl rfl rfl rfl rfl ?_
       refine w_ldR rfl rfl rfl ?_
       first | refine w_getI rfl rfl rfl rfl rfl ?_ | refine w_getR rfl rfl rfl rfl rfl ?_
       refine w_callWN rfl rfl rfl rfl rfl rfl rfl (k_pass89 hV hM hC h8) (fun s14 p14 => ?_)
       refine w_inc_3_2 rfl rfl ?_
       refine w_go rfl ?_
       have hg := nfF_ok hM hC (by omega)
       obtain ⟨g1, g2, g3⟩ := p14
       exact l_look (D := nfF D) m (k + 1) ((k : Int) + 1) (by omega) g1 (by omega) hg.1 hg.2.1 (by omega) (by omega) (fun s1 hf1 hs hs8 => hP s1 ((Fr.mono rfl g3).tr hf1) hs (by omega)))
termination_by m
decreasing_by all_goals omega
theorem k_look {d : Nat} {s : mSt} (hI : IvD s) {n : Int} (hn : 0 ≤ n ∧ n ≤ 100) (hu0 : s 111 0 = 0) (hu1 : s 119 0 = 1) : CV (d + 6) 153 [.inr (.inr 10), .inl n] (s) (fun s1 => Fr [89, 90, 91, 92, 93, 94, 95, 96, 97, 98, 99, 100, 101, 102, 103, 112, 113, 120, 121, 114, 122, 128, 129] s s1 ∧ VN89 s1 (nnF n.toNat (s 147)) ∧ s1 89 1 = s 147 38 + n) := by
  refine CV.mk rfl ?_
  show WP (d + 6) 153 0 [some (.inr (.inr 10)), some (.inl n), none] [] (encA (s)) _
  have hI0 := hI
  obtain ⟨⟨hM, hC, hN⟩, hV, h8⟩ := hI
  have hV0 := hV
  have hM0 := hM
  obtain ⟨vc, vpl, vga, vse, vne, veg, vre, vtu, vta, vwa, v36, v37, v39, v40, v42, v41, v43, v44, vl0, vl1, vlm⟩ := hV
  obtain ⟨hM39, hM40, hM41, hM43, hM44, hM36, hM37, hM38, hMc, hMw, hMp, hMt, hMb⟩ := hM
  refine w_ldR rfl rfl rfl ?_
  first | refine w_getI rfl rfl rfl rfl rfl ?_ | refine w_getR rfl rfl rfl rfl rfl ?_
  refine w_ldR rfl rfl rfl ?_
  first | refine w_getI rfl rfl rfl rfl rfl ?_ | refine w_getR rfl rfl rfl rfl rfl ?_
  refine w_callWN rfl rfl rfl rfl rfl rfl rfl (k_copy89_13 hV0 hM0 hC hu0 hu1) (fun s4 p4 => ?_)
  refine w_push rfl ?_
  refine w_StI_3_2 rfl rfl ?_
  exact l_look n.toNat 0 0 rfl p4.1 (by rw [p4.2.1]; exact h8) hM0 hC (by omega) (by omega) (fun s1 hf hs hs8 => ⟨(Fr.mono rfl p4.2.2).tr hf, hs, by omega⟩)
theorem x_then_y {d : Nat} {s : mSt} (hI : IvD s) {n p w : Int} (hrn : -2147483648 ≤ n ∧ n < 2147483648) (hrp : -2147483648 ≤ p ∧ p < 2147483648) (hrw : -2147483648 ≤ w ∧ w < 2147483648) (hy : ((0 ≤ n ∧ n ≤ 100) ∧ 0 ≤ p ∧ p ≤ s 147 40 - 1) ∧ 0 ≤ w ∧ w ≤ 4) (hu0 : s 111 0 = 0) (hu1 : s 119 0 = 1) : CI (d + 7) 120 [.inr (.inr 10), .inl n, .inl p, .inl w] (s) (fun r s1 => r = faF (nnF n.toNat (s 147)) p w ∧ Fr [89, 90, 91, 92, 93, 94, 95, 96, 97, 98, 99, 100, 101, 102, 103, 112, 113, 120, 121, 114, 122, 128, 129] s s1) := by
  refine CI.mk rfl ?_
  show WP (d + 7) 120 0 [some (.inr (.inr 10)), some (.inl n), some (.inl p), some (.inl w)] [] (encA (s)) _
  have hI0 := hI
  obtain ⟨⟨hM, hC, hN⟩, hV, h8⟩ := hI
  have hV0 := hV
  have hM0 := hM
  obtain ⟨vc, vpl, vga, vse, vne, veg, vre, vtu, vta, vwa, v36, v37, v39, v40, v42, v41, v43, v44, vl0, vl1, vlm⟩ := hV
  obtain ⟨hM39, hM40, hM41, hM43, hM44, hM36, hM37, hM38, hMc, hMw, hMp, hMt, hMb⟩ := hM
  refine w_ldI rfl rfl ?_
  refine w_call rfl rfl rfl (k_isAhead (by omega)) ?_
  refine w_bEq0 rfl (fun b2 => ?_) (fun b2 => ?_)
  · first
    | (exfalso; omega)
    | (refine w_ldR rfl rfl rfl ?_
       refine w_push rfl ?_
       refine w_callWI rfl rfl rfl rfl rfl rfl rfl k_error1 (fun v14 s14 p14 => ?_)
       obtain ⟨rfl, rfl⟩ := p14
       refine w_retI rfl ?_
       exact ⟨p23.1, f18.tr (Fr.mono rfl p23.2)⟩)
  · first
    | (exfalso; omega)
    | (refine w_ldR rfl rfl rfl ?_
       refine w_ldI rfl rfl ?_
       refine w_callV rfl rfl rfl rfl rfl rfl rfl (k_isPerson (by omega) (by omega)) ?_
       refine w_bEq0 rfl (fun b6 => ?_) (fun b6 => ?_)
       · first
         | (exfalso; omega)
         | (refine w_ldR rfl rfl rfl ?_
            refine w_push rfl ?_
            refine w_callWI rfl rfl rfl rfl rfl rfl rfl k_error1 (fun v14 s14 p14 => ?_)
            obtain ⟨rfl, rfl⟩ := p14
            refine w_retI rfl ?_
            exact ⟨p23.1, f18.tr (Fr.mono rfl p23.2)⟩)
       · first
         | (exfalso; omega)
         | (refine w_ldI rfl rfl ?_
            refine w_irLt0 rfl (by omega) (fun b8 => ?_) (fun b8 => ?_)
            · first
              | (exfalso; omega)
              | (refine w_ldR rfl rfl rfl ?_
                 refine w_push rfl ?_
                 refine w_callWI rfl rfl rfl rfl rfl rfl rfl k_error1 (fun v14 s14 p14 => ?_)
                 obtain ⟨rfl, rfl⟩ := p14
                 refine w_retI rfl ?_
                 exact ⟨p23.1, f18.tr (Fr.mono rfl p23.2)⟩)
            · first
              | (exfalso; omega)
              | (refine w_ldI rfl rfl ?_
                 refine w_push rfl ?_
                 refine w_crLe rfl (by omega) (by omega) (fun b11 => ?_) (fun b11 => ?_)
                 · first
                   | (exfalso; omega)
                   | (refine w_ldR rfl rfl rfl ?_
                      refine w_ldI rfl rfl ?_
                      refine w_callWN rfl rfl rfl rfl rfl rfl rfl (k_look hI0 (by omega) hu0 hu1) (fun s18 p18 => ?_)
                      obtain ⟨f18, g18, n18⟩ := p18
                      have hg := nnF_ok n.toNat (s 147) hM0 hC (by omega)
                      refine w_ldR rfl rfl rfl ?_
                      first | refine w_getI rfl rfl rfl rfl rfl ?_ | refine w_getR rfl rfl rfl rfl rfl ?_
                      refine w_ldI rfl rfl ?_
                      refine w_ldI rfl rfl ?_
                      refine w_callWI rfl rfl rfl rfl rfl rfl rfl (k_factOf89 g18 hg.1 hg.2.1 (by omega) (by omega) (by omega)) (fun v23 s23 p23 => ?_)
                      refine w_retI rfl ?_
                      exact ⟨p23.1, f18.tr (Fr.mono rfl p23.2)⟩)
                 · first
                   | (exfalso; omega)
                   | (refine w_ldR rfl rfl rfl ?_
                      refine w_push rfl ?_
                      refine w_callWI rfl rfl rfl rfl rfl rfl rfl k_error1 (fun v14 s14 p14 => ?_)
                      obtain ⟨rfl, rfl⟩ := p14
                      refine w_retI rfl ?_
                      exact ⟨p23.1, f18.tr (Fr.mono rfl p23.2)⟩))))
theorem x_then_n {d : Nat} {s : mSt} (hI : IvD s) {n p w : Int} (hrn : -2147483648 ≤ n ∧ n < 2147483648) (hrp : -2147483648 ≤ p ∧ p < 2147483648) (hrw : -2147483648 ≤ w ∧ w < 2147483648) (hy : ¬ (((0 ≤ n ∧ n ≤ 100) ∧ 0 ≤ p ∧ p ≤ s 147 40 - 1) ∧ 0 ≤ w ∧ w ≤ 4)) : CI (d + 7) 120 [.inr (.inr 10), .inl n, .inl p, .inl w] (s) (fun r s1 => r = -1000000000 - 1 ∧ s1 = us s 132 1 (s 132 1 + 1)) := by
  refine CI.mk rfl ?_
  show WP (d + 7) 120 0 [some (.inr (.inr 10)), some (.inl n), some (.inl p), some (.inl w)] [] (encA (s)) _
  have hI0 := hI
  obtain ⟨⟨hM, hC, hN⟩, hV, h8⟩ := hI
  have hV0 := hV
  have hM0 := hM
  obtain ⟨vc, vpl, vga, vse, vne, veg, vre, vtu, vta, vwa, v36, v37, v39, v40, v42, v41, v43, v44, vl0, vl1, vlm⟩ := hV
  obtain ⟨hM39, hM40, hM41, hM43, hM44, hM36, hM37, hM38, hMc, hMw, hMp, hMt, hMb⟩ := hM
  refine w_ldI rfl rfl ?_
  refine w_call rfl rfl rfl (k_isAhead (by omega)) ?_
  refine w_bEq0 rfl (fun b2 => ?_) (fun b2 => ?_)
  · first
    | (exfalso; omega)
    | (refine w_ldR rfl rfl rfl ?_
       refine w_push rfl ?_
       refine w_callWI rfl rfl rfl rfl rfl rfl rfl k_error1 (fun v14 s14 p14 => ?_)
       obtain ⟨rfl, rfl⟩ := p14
       refine w_retI rfl ?_
       exact ⟨rfl, rfl⟩)
  · first
    | (exfalso; omega)
    | (refine w_ldR rfl rfl rfl ?_
       refine w_ldI rfl rfl ?_
       refine w_callV rfl rfl rfl rfl rfl rfl rfl (k_isPerson (by omega) (by omega)) ?_
       refine w_bEq0 rfl (fun b6 => ?_) (fun b6 => ?_)
       · first
         | (exfalso; omega)
         | (refine w_ldR rfl rfl rfl ?_
            refine w_push rfl ?_
            refine w_callWI rfl rfl rfl rfl rfl rfl rfl k_error1 (fun v14 s14 p14 => ?_)
            obtain ⟨rfl, rfl⟩ := p14
            refine w_retI rfl ?_
            exact ⟨rfl, rfl⟩)
       · first
         | (exfalso; omega)
         | (refine w_ldI rfl rfl ?_
            refine w_irLt0 rfl (by omega) (fun b8 => ?_) (fun b8 => ?_)
            · first
              | (exfalso; omega)
              | (refine w_ldR rfl rfl rfl ?_
                 refine w_push rfl ?_
                 refine w_callWI rfl rfl rfl rfl rfl rfl rfl k_error1 (fun v14 s14 p14 => ?_)
                 obtain ⟨rfl, rfl⟩ := p14
                 refine w_retI rfl ?_
                 exact ⟨rfl, rfl⟩)
            · first
              | (exfalso; omega)
              | (refine w_ldI rfl rfl ?_
                 refine w_push rfl ?_
                 refine w_crLe rfl (by omega) (by omega) (fun b11 => ?_) (fun b11 => ?_)
                 · first
                   | (exfalso; omega)
                   | (exfalso; omega)
                 · first
                   | (exfalso; omega)
                   | (refine w_ldR rfl rfl rfl ?_
                      refine w_push rfl ?_
                      refine w_callWI rfl rfl rfl rfl rfl rfl rfl k_error1 (fun v14 s14 p14 => ?_)
                      obtain ⟨rfl, rfl⟩ := p14
                      refine w_retI rfl ?_
                      exact ⟨rfl, rfl⟩))))
theorem m_then_y {d : Nat} {s : mSt} {D : Nat → Int} (hD : s 147 = D) (hM : MOk D) (hC : COk D) {n p w : Int} (hrn : -2147483648 ≤ n ∧ n < 2147483648) (hrp : -2147483648 ≤ p ∧ p < 2147483648) (hrw : -2147483648 ≤ w ∧ w < 2147483648) (hy : ((0 ≤ n ∧ n ≤ 100) ∧ 0 ≤ p ∧ p ≤ D 40 - 1) ∧ 0 ≤ w ∧ w ≤ 4) (hN9 : D 38 ≤ 9999) (ht : ∀ i, 300 ≤ i → s 147 i = s 148 i) : CI (d + 8) 230 [.inr (.inr 146), .inl n, .inl p, .inl w] (s) (fun r s1 => r = faF (nnF n.toNat D) p w ∧ s1 147 = D ∧ s1 148 = D ∧ Fr [147, 148, 151, 153, 154] s s1) := by
  refine CI.mk rfl ?_
  show WP (d + 8) 230 0 [some (.inr (.inr 146)), some (.inl n), some (.inl p), some (.inl w), none] [] (encA (s)) _
  have hM0 := hM
  obtain ⟨hM39, hM40, hM41, hM43, hM44, hM36, hM37, hM38, hMc, hMw, hMp, hMt, hMb⟩ := hM
  refine w_ldI rfl rfl ?_
  refine w_i2lr rfl (by omega) ?_
  refine w_push rfl ?_
  refine w_push rfl ?_
  refine w_call rfl rfl rfl (r_in (by omega) (by omega) (by omega)) ?_
  refine w_bEq0 rfl (fun b5 => ?_) (fun b5 => ?_)
  · first
    | (exfalso; omega)
    | (refine w_ldR rfl rfl rfl ?_
       refine w_push rfl ?_
       refine w_callV rfl rfl rfl rfl rfl rfl rfl r_finds1 ?_
       refine w_retI rfl ?_
       exact ⟨p31.1, by rw [ua_eq, g31], by rw [ua_ne (by decide), g31], (f0.tr (Fr.mono rfl p31.2)).tr (Fr.ua rfl)⟩)
  · first
    | (exfalso; omega)
    | (refine w_ldR rfl rfl rfl ?_
       refine w_ldI rfl rfl ?_
       refine w_callV rfl rfl rfl rfl rfl rfl rfl (r_isPerson (by omega) (by rw [hD]; omega)) ?_
       rw [hD]
       refine w_bEq0 rfl (fun b9 => ?_) (fun b9 => ?_)
       · first
         | (exfalso; omega)
         | (refine w_ldR rfl rfl rfl ?_
            refine w_push rfl ?_
            refine w_callV rfl rfl rfl rfl rfl rfl rfl r_finds1 ?_
            refine w_retI rfl ?_
            exact ⟨p31.1, by rw [ua_eq, g31], by rw [ua_ne (by decide), g31], (f0.tr (Fr.mono rfl p31.2)).tr (Fr.ua rfl)⟩)
       · first
         | (exfalso; omega)
         | (refine w_ldI rfl rfl ?_
            refine w_i2lr rfl (by omega) ?_
            refine w_push rfl ?_
            refine w_push rfl ?_
            refine w_call rfl rfl rfl (r_in (by omega) (by omega) (by omega)) ?_
            refine w_bNe0 rfl (fun b15 => ?_) (fun b15 => ?_)
            · first
              | (exfalso; omega)
              | (refine w_ldR rfl rfl rfl ?_
                 first | refine w_getI rfl rfl rfl rfl rfl ?_ | refine w_getR rfl rfl rfl rfl rfl ?_
                 refine w_ldR rfl rfl rfl ?_
                 first | refine w_getI rfl rfl rfl rfl rfl ?_ | refine w_getR rfl rfl rfl rfl rfl ?_
                 refine w_call rfl rfl rfl (r_copies_147_148 ht) ?_
                 refine w_ldR rfl rfl rfl ?_
                 refine w_ldI rfl rfl ?_
                 refine w_callWN rfl rfl rfl rfl rfl rfl rfl (c_goesOn (by rw [ua_ne (by decide), hD]) hM0 hC (by omega) (by omega)) (fun s27 p27 => ?_)
                 have hg := nnF_ok n.toNat D hM0 hC (by omega)
                 have f0 : Fr [147, 148, 151, 153, 154] s s27 := (Fr.ua rfl).tr (Fr.mono rfl p27.2)
                 have g8 : s27 148 = D := by rw [p27.2.at 148 rfl, ua_eq, hD]
                 refine w_ldR rfl rfl rfl ?_
                 refine w_ldI rfl rfl ?_
                 refine w_ldI rfl rfl ?_
                 refine w_callWI rfl rfl rfl rfl rfl rfl rfl (m_isAs p27.1 hg.1 hg.2.1 (by omega) (by omega)) (fun v31 s31 p31 => ?_)
                 have g31 : s31 148 = D := by rw [p31.2.at 148 rfl]; exact g8
                 refine w_StI_5_4 rfl rfl ?_
                 refine w_ldR rfl rfl rfl ?_
                 first | refine w_getI rfl rfl rfl rfl rfl ?_ | refine w_getR rfl rfl rfl rfl rfl ?_
                 refine w_ldR rfl rfl rfl ?_
                 first | refine w_getI rfl rfl rfl rfl rfl ?_ | refine w_getR rfl rfl rfl rfl rfl ?_
                 refine w_call rfl rfl rfl (r_copies_148_147 (fun i hi => by rw [g31, p31.2.at 147 rfl, p27.1]; exact (hg.2.2.1 i (by omega) (by omega)).symm)) ?_
                 refine w_ldI rfl rfl ?_
                 refine w_retI rfl ?_
                 exact ⟨p31.1, by rw [ua_eq, g31], by rw [ua_ne (by decide), g31], (f0.tr (Fr.mono rfl p31.2)).tr (Fr.ua rfl)⟩)
            · first
              | (exfalso; omega)
              | (refine w_ldR rfl rfl rfl ?_
                 refine w_push rfl ?_
                 refine w_callV rfl rfl rfl rfl rfl rfl rfl r_finds1 ?_
                 refine w_retI rfl ?_
                 exact ⟨p31.1, by rw [ua_eq, g31], by rw [ua_ne (by decide), g31], (f0.tr (Fr.mono rfl p31.2)).tr (Fr.ua rfl)⟩)))
theorem m_then_n {d : Nat} {s : mSt} {D : Nat → Int} (hD : s 147 = D) (hM : MOk D) (hC : COk D) {n p w : Int} (hrn : -2147483648 ≤ n ∧ n < 2147483648) (hrp : -2147483648 ≤ p ∧ p < 2147483648) (hrw : -2147483648 ≤ w ∧ w < 2147483648) (hy : ¬ (((0 ≤ n ∧ n ≤ 100) ∧ 0 ≤ p ∧ p ≤ D 40 - 1) ∧ 0 ≤ w ∧ w ≤ 4)) : CI (d + 8) 230 [.inr (.inr 146), .inl n, .inl p, .inl w] (s) (fun r s1 => r = -1000000000 - 1 ∧ s1 = us s 150 1 (s 150 1 + 1)) := by
  refine CI.mk rfl ?_
  show WP (d + 8) 230 0 [some (.inr (.inr 146)), some (.inl n), some (.inl p), some (.inl w), none] [] (encA (s)) _
  have hM0 := hM
  obtain ⟨hM39, hM40, hM41, hM43, hM44, hM36, hM37, hM38, hMc, hMw, hMp, hMt, hMb⟩ := hM
  refine w_ldI rfl rfl ?_
  refine w_i2lr rfl (by omega) ?_
  refine w_push rfl ?_
  refine w_push rfl ?_
  refine w_call rfl rfl rfl (r_in (by omega) (by omega) (by omega)) ?_
  try simp only [hD]
  refine w_bEq0 rfl (fun b5 => ?_) (fun b5 => ?_)
  · first
    | (exfalso; omega)
    | (refine w_ldR rfl rfl rfl ?_
       refine w_push rfl ?_
       refine w_callV rfl rfl rfl rfl rfl rfl rfl r_finds1 ?_
       try simp only [hD]
       refine w_retI rfl ?_
       exact ⟨rfl, rfl⟩)
  · first
    | (exfalso; omega)
    | (refine w_ldR rfl rfl rfl ?_
       refine w_ldI rfl rfl ?_
       refine w_callV rfl rfl rfl rfl rfl rfl rfl (r_isPerson (by omega) (by rw [hD]; omega)) ?_
       rw [hD]
       try simp only [hD]
       refine w_bEq0 rfl (fun b9 => ?_) (fun b9 => ?_)
       · first
         | (exfalso; omega)
         | (refine w_ldR rfl rfl rfl ?_
            refine w_push rfl ?_
            refine w_callV rfl rfl rfl rfl rfl rfl rfl r_finds1 ?_
            try simp only [hD]
            refine w_retI rfl ?_
            exact ⟨rfl, rfl⟩)
       · first
         | (exfalso; omega)
         | (refine w_ldI rfl rfl ?_
            refine w_i2lr rfl (by omega) ?_
            refine w_push rfl ?_
            refine w_push rfl ?_
            refine w_call rfl rfl rfl (r_in (by omega) (by omega) (by omega)) ?_
            try simp only [hD]
            refine w_bNe0 rfl (fun b15 => ?_) (fun b15 => ?_)
            · first
              | (exfalso; omega)
              | (exfalso; omega)
            · first
              | (exfalso; omega)
              | (refine w_ldR rfl rfl rfl ?_
                 refine w_push rfl ?_
                 refine w_callV rfl rfl rfl rfl rfl rfl rfl r_finds1 ?_
                 try simp only [hD]
                 refine w_retI rfl ?_
                 exact ⟨rfl, rfl⟩)))
theorem st_then {X : Nat → Int} {N : Int} {d : Nat} {s : mSt} {cnt : Int} (hI : Inv X N s cnt) {n p w : Int} (hrn : -2147483648 ≤ n ∧ n < 2147483648) (hrp : -2147483648 ≤ p ∧ p < 2147483648) (hrw : -2147483648 ≤ w ∧ w < 2147483648) : Step X N (d + 150) s cnt 120 230 [.inl n, .inl p, .inl w] := by
  have hI0 := hI
  obtain ⟨hD, -, -, -, -, hT, -, hX, hU⟩ := hI
  have hD0 := hD
  obtain ⟨⟨hM, hC, hN⟩, hV, h8⟩ := hD
  have hV0 := hV
  have hM0 := hM
  obtain ⟨vc, vpl, vga, vse, vne, veg, vre, vtu, vta, vwa, v36, v37, v39, v40, v42, v41, v43, v44, vl0, vl1, vlm⟩ := hV
  obtain ⟨hM39, hM40, hM41, hM43, hM44, hM36, hM37, hM38, hMc, hMw, hMp, hMt, hMb⟩ := hM
  by_cases hy : ((0 ≤ n ∧ n ≤ 100) ∧ 0 ≤ p ∧ p ≤ s 147 40 - 1) ∧ 0 ≤ w ∧ w ≤ 4
  · obtain ⟨r1, s1, k1, hr, f1⟩ := x_then_y (d := d + 143) hD0 hrn hrp hrw hy hU.2.2.1 hU.2.2.2
    have e : s1 147 = s 147 := f1.at 147 rfl
    obtain ⟨r2, s2, k2, hr2, e2, e8, f2⟩ := m_then_y (d := d + 142) (s := s1) e hM0 hC hrn hrp hrw hy hN (fun i hi => by rw [f1.at 147 rfl, f1.at 148 rfl, (hT i hi).1, (hT i hi).2.1])
    refine Step.mk (by first | exact ⟨(f1.at 1 rfl).trans hX.2.1, (congrFun (f1.at 0 rfl) 1).trans hX.2.2⟩ | exact ⟨hX.2.1, hX.2.2⟩ | exact ⟨by rw [hs1, us_ne (by decide)]; exact hX.2.1, by rw [hs1, us_ne (by decide)]; exact hX.2.2⟩ | exact ⟨by rw [hs1, us_ne (by decide), us_ne (by decide)]; exact hX.2.1, by rw [hs1, us_ne (by decide), us_ne (by decide)]; exact hX.2.2⟩ | exact ⟨by rw [e1, us_ne (by decide), f1.at 1 rfl]; exact hX.2.1, by rw [e1, us_ne (by decide), f1.at 0 rfl]; exact hX.2.2⟩ | exact ⟨by rw [ft.at 1 rfl, hx 1 (by decide) (by decide)]; exact hX.2.1, by rw [ft.at 0 rfl, et, newL_0, mup_ne (by decide)]; exact hX.2.2⟩) k1 k2 (by rw [hr, hr2]) ?_
    have hf := (Fr.mono (B := [89, 90, 91, 92, 93, 94, 95, 96, 97, 98, 99, 100, 101, 102, 103, 112, 113, 120, 121, 114, 122, 128, 129, 147, 148, 151, 153, 154]) rfl f1).tr (Fr.mono rfl f2)
    refine hI0.vil rfl rfl (by omega) hf (IvD.mk e2 hM0 hC hN ((hV0.fr rfl f1).fr (s1 := s2) rfl f2) (by rw [hf.at 13 rfl]; exact h8)) (fun i hi => ⟨by rw [e2]; exact (hT i hi).1, by rw [e8]; exact (hT i hi).1, by rw [hf.at 149 rfl]; exact (hT i hi).2.2⟩)
  · obtain ⟨r1, s1, k1, hr, hs1⟩ := x_then_n (d := d + 143) hD0 hrn hrp hrw hy
    have e : s1 147 = s 147 := by rw [hs1]; exact us_ne (by decide)
    obtain ⟨r2, s2, k2, hr2, hs2⟩ := m_then_n (d := d + 142) (s := s1) e hM0 hC hrn hrp hrw hy
    rw [hs2] at k2
    exact Step.mk (by first | exact ⟨(f1.at 1 rfl).trans hX.2.1, (congrFun (f1.at 0 rfl) 1).trans hX.2.2⟩ | exact ⟨hX.2.1, hX.2.2⟩ | exact ⟨by rw [hs1, us_ne (by decide)]; exact hX.2.1, by rw [hs1, us_ne (by decide)]; exact hX.2.2⟩ | exact ⟨by rw [hs1, us_ne (by decide), us_ne (by decide)]; exact hX.2.1, by rw [hs1, us_ne (by decide), us_ne (by decide)]; exact hX.2.2⟩ | exact ⟨by rw [e1, us_ne (by decide), f1.at 1 rfl]; exact hX.2.1, by rw [e1, us_ne (by decide), f1.at 0 rfl]; exact hX.2.2⟩ | exact ⟨by rw [ft.at 1 rfl, hx 1 (by decide) (by decide)]; exact hX.2.1, by rw [ft.at 0 rfl, et, newL_0, mup_ne (by decide)]; exact hX.2.2⟩) k1 k2 (by rw [hr, hr2]) (hI0.err2 hs1)
theorem x_thenEggs_y {d : Nat} {s : mSt} (hI : IvD s) {n w : Int} (hrn : -2147483648 ≤ n ∧ n < 2147483648) (hrw : -2147483648 ≤ w ∧ w < 2147483648) (hy : (0 ≤ n ∧ n ≤ 100) ∧ 0 ≤ w ∧ w ≤ s 147 39 - 1) (hu0 : s 111 0 = 0) (hu1 : s 119 0 = 1) : CI (d + 7) 121 [.inr (.inr 10), .inl n, .inl w] (s) (fun r s1 => r = nnF n.toNat (s 147) (45 + 4 * w + 3).toNat ∧ Fr [89, 90, 91, 92, 93, 94, 95, 96, 97, 98, 99, 100, 101, 102, 103, 112, 113, 120, 121, 114, 122, 128, 129] s s1) := by
  refine CI.mk rfl ?_
  show WP (d + 7) 121 0 [some (.inr (.inr 10)), some (.inl n), some (.inl w)] [] (encA (s)) _
  have hI0 := hI
  obtain ⟨⟨hM, hC, hN⟩, hV, h8⟩ := hI
  have hV0 := hV
  have hM0 := hM
  obtain ⟨vc, vpl, vga, vse, vne, veg, vre, vtu, vta, vwa, v36, v37, v39, v40, v42, v41, v43, v44, vl0, vl1, vlm⟩ := hV
  obtain ⟨hM39, hM40, hM41, hM43, hM44, hM36, hM37, hM38, hMc, hMw, hMp, hMt, hMb⟩ := hM
  refine w_ldI rfl rfl ?_
  refine w_call rfl rfl rfl (k_isAhead (by omega)) ?_
  refine w_bEq0 rfl (fun b2 => ?_) (fun b2 => ?_)
  · first
    | (exfalso; omega)
    | (refine w_ldR rfl rfl rfl ?_
       refine w_push rfl ?_
       refine w_callWI rfl rfl rfl rfl rfl rfl rfl k_error1 (fun v9 s9 p9 => ?_)
       obtain ⟨rfl, rfl⟩ := p9
       refine w_retI rfl ?_
       exact ⟨rfl, f13⟩)
  · first
    | (exfalso; omega)
    | (refine w_ldR rfl rfl rfl ?_
       refine w_ldI rfl rfl ?_
       refine w_callV rfl rfl rfl rfl rfl rfl rfl (k_isWindow (by omega) (by omega)) ?_
       refine w_bNe0 rfl (fun b6 => ?_) (fun b6 => ?_)
       · first
         | (exfalso; omega)
         | (refine w_ldR rfl rfl rfl ?_
            refine w_ldI rfl rfl ?_
            refine w_callWN rfl rfl rfl rfl rfl rfl rfl (k_look hI0 (by omega) hu0 hu1) (fun s13 p13 => ?_)
            obtain ⟨f13, g13, n13⟩ := p13
            refine w_ldR rfl rfl rfl ?_
            first | refine w_getI rfl rfl rfl rfl rfl ?_ | refine w_getR rfl rfl rfl rfl rfl ?_
            first | refine w_getI rfl rfl rfl rfl rfl ?_ | refine w_getR rfl rfl rfl rfl rfl ?_
            refine w_ldI rfl rfl ?_
            refine w_ald rfl rfl rfl (by omega) rfl ?_
            rw [g13.2.2.1 w (by omega) (by omega)]
            refine w_retI rfl ?_
            exact ⟨rfl, f13⟩)
       · first
         | (exfalso; omega)
         | (refine w_ldR rfl rfl rfl ?_
            refine w_push rfl ?_
            refine w_callWI rfl rfl rfl rfl rfl rfl rfl k_error1 (fun v9 s9 p9 => ?_)
            obtain ⟨rfl, rfl⟩ := p9
            refine w_retI rfl ?_
            exact ⟨rfl, f13⟩))
theorem x_thenEggs_n {d : Nat} {s : mSt} (hI : IvD s) {n w : Int} (hrn : -2147483648 ≤ n ∧ n < 2147483648) (hrw : -2147483648 ≤ w ∧ w < 2147483648) (hy : ¬ ((0 ≤ n ∧ n ≤ 100) ∧ 0 ≤ w ∧ w ≤ s 147 39 - 1)) : CI (d + 7) 121 [.inr (.inr 10), .inl n, .inl w] (s) (fun r s1 => r = -1000000000 - 1 ∧ s1 = us s 132 1 (s 132 1 + 1)) := by
  refine CI.mk rfl ?_
  show WP (d + 7) 121 0 [some (.inr (.inr 10)), some (.inl n), some (.inl w)] [] (encA (s)) _
  have hI0 := hI
  obtain ⟨⟨hM, hC, hN⟩, hV, h8⟩ := hI
  have hV0 := hV
  have hM0 := hM
  obtain ⟨vc, vpl, vga, vse, vne, veg, vre, vtu, vta, vwa, v36, v37, v39, v40, v42, v41, v43, v44, vl0, vl1, vlm⟩ := hV
  obtain ⟨hM39, hM40, hM41, hM43, hM44, hM36, hM37, hM38, hMc, hMw, hMp, hMt, hMb⟩ := hM
  refine w_ldI rfl rfl ?_
  refine w_call rfl rfl rfl (k_isAhead (by omega)) ?_
  refine w_bEq0 rfl (fun b2 => ?_) (fun b2 => ?_)
  · first
    | (exfalso; omega)
    | (refine w_ldR rfl rfl rfl ?_
       refine w_push rfl ?_
       refine w_callWI rfl rfl rfl rfl rfl rfl rfl k_error1 (fun v9 s9 p9 => ?_)
       obtain ⟨rfl, rfl⟩ := p9
       refine w_retI rfl ?_
       exact ⟨rfl, rfl⟩)
  · first
    | (exfalso; omega)
    | (refine w_ldR rfl rfl rfl ?_
       refine w_ldI rfl rfl ?_
       refine w_callV rfl rfl rfl rfl rfl rfl rfl (k_isWindow (by omega) (by omega)) ?_
       refine w_bNe0 rfl (fun b6 => ?_) (fun b6 => ?_)
       · first
         | (exfalso; omega)
         | (exfalso; omega)
       · first
         | (exfalso; omega)
         | (refine w_ldR rfl rfl rfl ?_
            refine w_push rfl ?_
            refine w_callWI rfl rfl rfl rfl rfl rfl rfl k_error1 (fun v9 s9 p9 => ?_)
            obtain ⟨rfl, rfl⟩ := p9
            refine w_retI rfl ?_
            exact ⟨rfl, rfl⟩))
theorem m_thenEggs_y {d : Nat} {s : mSt} {D : Nat → Int} (hD : s 147 = D) (hM : MOk D) (hC : COk D) {n w : Int} (hrn : -2147483648 ≤ n ∧ n < 2147483648) (hrw : -2147483648 ≤ w ∧ w < 2147483648) (hy : (0 ≤ n ∧ n ≤ 100) ∧ 0 ≤ w ∧ w ≤ D 39 - 1) (hN9 : D 38 ≤ 9999) (ht : ∀ i, 300 ≤ i → s 147 i = s 148 i) : CI (d + 8) 231 [.inr (.inr 146), .inl n, .inl w] (s) (fun r s1 => r = nnF n.toNat D (45 + 4 * w + 3).toNat ∧ s1 147 = D ∧ s1 148 = D ∧ Fr [147, 148, 151, 153, 154] s s1) := by
  refine CI.mk rfl ?_
  show WP (d + 8) 231 0 [some (.inr (.inr 146)), some (.inl n), some (.inl w), none] [] (encA (s)) _
  have hM0 := hM
  obtain ⟨hM39, hM40, hM41, hM43, hM44, hM36, hM37, hM38, hMc, hMw, hMp, hMt, hMb⟩ := hM
  refine w_ldI rfl rfl ?_
  refine w_i2lr rfl (by omega) ?_
  refine w_push rfl ?_
  refine w_push rfl ?_
  refine w_call rfl rfl rfl (r_in (by omega) (by omega) (by omega)) ?_
  refine w_bEq0 rfl (fun b5 => ?_) (fun b5 => ?_)
  · first
    | (exfalso; omega)
    | (refine w_ldR rfl rfl rfl ?_
       refine w_push rfl ?_
       refine w_callV rfl rfl rfl rfl rfl rfl rfl r_finds1 ?_
       refine w_retI rfl ?_
       exact ⟨rfl, by rw [ua_eq, g8], by rw [ua_ne (by decide), g8], f0.tr (Fr.ua rfl)⟩)
  · first
    | (exfalso; omega)
    | (refine w_ldR rfl rfl rfl ?_
       refine w_ldI rfl rfl ?_
       refine w_callV rfl rfl rfl rfl rfl rfl rfl (r_isWindow (by omega) (by rw [hD]; omega)) ?_
       rw [hD]
       refine w_bNe0 rfl (fun b9 => ?_) (fun b9 => ?_)
       · first
         | (exfalso; omega)
         | (refine w_ldR rfl rfl rfl ?_
            first | refine w_getI rfl rfl rfl rfl rfl ?_ | refine w_getR rfl rfl rfl rfl rfl ?_
            refine w_ldR rfl rfl rfl ?_
            first | refine w_getI rfl rfl rfl rfl rfl ?_ | refine w_getR rfl rfl rfl rfl rfl ?_
            refine w_call rfl rfl rfl (r_copies_147_148 ht) ?_
            refine w_ldR rfl rfl rfl ?_
            refine w_ldI rfl rfl ?_
            refine w_callWN rfl rfl rfl rfl rfl rfl rfl (c_goesOn (by rw [ua_ne (by decide), hD]) hM0 hC (by omega) (by omega)) (fun s21 p21 => ?_)
            have hg := nnF_ok n.toNat D hM0 hC (by omega)
            have f0 : Fr [147, 148, 151, 153, 154] s s21 := (Fr.ua rfl).tr (Fr.mono rfl p21.2)
            have g8 : s21 148 = D := by rw [p21.2.at 148 rfl, ua_eq, hD]
            refine w_ldR rfl rfl rfl ?_
            refine w_ldI rfl rfl ?_
            refine w_push rfl ?_
            refine w_callV rfl rfl rfl rfl rfl rfl rfl (r_ofIt (by omega) (by omega)) ?_
            rw [p21.1]
            refine w_StI_4_3 rfl rfl ?_
            refine w_ldR rfl rfl rfl ?_
            first | refine w_getI rfl rfl rfl rfl rfl ?_ | refine w_getR rfl rfl rfl rfl rfl ?_
            refine w_ldR rfl rfl rfl ?_
            first | refine w_getI rfl rfl rfl rfl rfl ?_ | refine w_getR rfl rfl rfl rfl rfl ?_
            refine w_call rfl rfl rfl (r_copies_148_147 (fun i hi => by rw [g8, p21.1]; exact (hg.2.2.1 i (by omega) (by omega)).symm)) ?_
            refine w_ldI rfl rfl ?_
            refine w_retI rfl ?_
            exact ⟨rfl, by rw [ua_eq, g8], by rw [ua_ne (by decide), g8], f0.tr (Fr.ua rfl)⟩)
       · first
         | (exfalso; omega)
         | (refine w_ldR rfl rfl rfl ?_
            refine w_push rfl ?_
            refine w_callV rfl rfl rfl rfl rfl rfl rfl r_finds1 ?_
            refine w_retI rfl ?_
            exact ⟨rfl, by rw [ua_eq, g8], by rw [ua_ne (by decide), g8], f0.tr (Fr.ua rfl)⟩))
theorem m_thenEggs_n {d : Nat} {s : mSt} {D : Nat → Int} (hD : s 147 = D) (hM : MOk D) (hC : COk D) {n w : Int} (hrn : -2147483648 ≤ n ∧ n < 2147483648) (hrw : -2147483648 ≤ w ∧ w < 2147483648) (hy : ¬ ((0 ≤ n ∧ n ≤ 100) ∧ 0 ≤ w ∧ w ≤ D 39 - 1)) : CI (d + 8) 231 [.inr (.inr 146), .inl n, .inl w] (s) (fun r s1 => r = -1000000000 - 1 ∧ s1 = us s 150 1 (s 150 1 + 1)) := by
  refine CI.mk rfl ?_
  show WP (d + 8) 231 0 [some (.inr (.inr 146)), some (.inl n), some (.inl w), none] [] (encA (s)) _
  have hM0 := hM
  obtain ⟨hM39, hM40, hM41, hM43, hM44, hM36, hM37, hM38, hMc, hMw, hMp, hMt, hMb⟩ := hM
  refine w_ldI rfl rfl ?_
  refine w_i2lr rfl (by omega) ?_
  refine w_push rfl ?_
  refine w_push rfl ?_
  refine w_call rfl rfl rfl (r_in (by omega) (by omega) (by omega)) ?_
  try simp only [hD]
  refine w_bEq0 rfl (fun b5 => ?_) (fun b5 => ?_)
  · first
    | (exfalso; omega)
    | (refine w_ldR rfl rfl rfl ?_
       refine w_push rfl ?_
       refine w_callV rfl rfl rfl rfl rfl rfl rfl r_finds1 ?_
       try simp only [hD]
       refine w_retI rfl ?_
       exact ⟨rfl, rfl⟩)
  · first
    | (exfalso; omega)
    | (refine w_ldR rfl rfl rfl ?_
       refine w_ldI rfl rfl ?_
       refine w_callV rfl rfl rfl rfl rfl rfl rfl (r_isWindow (by omega) (by rw [hD]; omega)) ?_
       rw [hD]
       try simp only [hD]
       refine w_bNe0 rfl (fun b9 => ?_) (fun b9 => ?_)
       · first
         | (exfalso; omega)
         | (exfalso; omega)
       · first
         | (exfalso; omega)
         | (refine w_ldR rfl rfl rfl ?_
            refine w_push rfl ?_
            refine w_callV rfl rfl rfl rfl rfl rfl rfl r_finds1 ?_
            try simp only [hD]
            refine w_retI rfl ?_
            exact ⟨rfl, rfl⟩))
theorem st_thenEggs {X : Nat → Int} {N : Int} {d : Nat} {s : mSt} {cnt : Int} (hI : Inv X N s cnt) {n w : Int} (hrn : -2147483648 ≤ n ∧ n < 2147483648) (hrw : -2147483648 ≤ w ∧ w < 2147483648) : Step X N (d + 150) s cnt 121 231 [.inl n, .inl w] := by
  have hI0 := hI
  obtain ⟨hD, -, -, -, -, hT, -, hX, hU⟩ := hI
  have hD0 := hD
  obtain ⟨⟨hM, hC, hN⟩, hV, h8⟩ := hD
  have hV0 := hV
  have hM0 := hM
  obtain ⟨vc, vpl, vga, vse, vne, veg, vre, vtu, vta, vwa, v36, v37, v39, v40, v42, v41, v43, v44, vl0, vl1, vlm⟩ := hV
  obtain ⟨hM39, hM40, hM41, hM43, hM44, hM36, hM37, hM38, hMc, hMw, hMp, hMt, hMb⟩ := hM
  by_cases hy : (0 ≤ n ∧ n ≤ 100) ∧ 0 ≤ w ∧ w ≤ s 147 39 - 1
  · obtain ⟨r1, s1, k1, hr, f1⟩ := x_thenEggs_y (d := d + 143) hD0 hrn hrw hy hU.2.2.1 hU.2.2.2
    have e : s1 147 = s 147 := f1.at 147 rfl
    obtain ⟨r2, s2, k2, hr2, e2, e8, f2⟩ := m_thenEggs_y (d := d + 142) (s := s1) e hM0 hC hrn hrw hy hN (fun i hi => by rw [f1.at 147 rfl, f1.at 148 rfl, (hT i hi).1, (hT i hi).2.1])
    refine Step.mk (by first | exact ⟨(f1.at 1 rfl).trans hX.2.1, (congrFun (f1.at 0 rfl) 1).trans hX.2.2⟩ | exact ⟨hX.2.1, hX.2.2⟩ | exact ⟨by rw [hs1, us_ne (by decide)]; exact hX.2.1, by rw [hs1, us_ne (by decide)]; exact hX.2.2⟩ | exact ⟨by rw [hs1, us_ne (by decide), us_ne (by decide)]; exact hX.2.1, by rw [hs1, us_ne (by decide), us_ne (by decide)]; exact hX.2.2⟩ | exact ⟨by rw [e1, us_ne (by decide), f1.at 1 rfl]; exact hX.2.1, by rw [e1, us_ne (by decide), f1.at 0 rfl]; exact hX.2.2⟩ | exact ⟨by rw [ft.at 1 rfl, hx 1 (by decide) (by decide)]; exact hX.2.1, by rw [ft.at 0 rfl, et, newL_0, mup_ne (by decide)]; exact hX.2.2⟩) k1 k2 (by rw [hr, hr2]) ?_
    have hf := (Fr.mono (B := [89, 90, 91, 92, 93, 94, 95, 96, 97, 98, 99, 100, 101, 102, 103, 112, 113, 120, 121, 114, 122, 128, 129, 147, 148, 151, 153, 154]) rfl f1).tr (Fr.mono rfl f2)
    refine hI0.vil rfl rfl (by omega) hf (IvD.mk e2 hM0 hC hN ((hV0.fr rfl f1).fr (s1 := s2) rfl f2) (by rw [hf.at 13 rfl]; exact h8)) (fun i hi => ⟨by rw [e2]; exact (hT i hi).1, by rw [e8]; exact (hT i hi).1, by rw [hf.at 149 rfl]; exact (hT i hi).2.2⟩)
  · obtain ⟨r1, s1, k1, hr, hs1⟩ := x_thenEggs_n (d := d + 143) hD0 hrn hrw hy
    have e : s1 147 = s 147 := by rw [hs1]; exact us_ne (by decide)
    obtain ⟨r2, s2, k2, hr2, hs2⟩ := m_thenEggs_n (d := d + 142) (s := s1) e hM0 hC hrn hrw hy
    rw [hs2] at k2
    exact Step.mk (by first | exact ⟨(f1.at 1 rfl).trans hX.2.1, (congrFun (f1.at 0 rfl) 1).trans hX.2.2⟩ | exact ⟨hX.2.1, hX.2.2⟩ | exact ⟨by rw [hs1, us_ne (by decide)]; exact hX.2.1, by rw [hs1, us_ne (by decide)]; exact hX.2.2⟩ | exact ⟨by rw [hs1, us_ne (by decide), us_ne (by decide)]; exact hX.2.1, by rw [hs1, us_ne (by decide), us_ne (by decide)]; exact hX.2.2⟩ | exact ⟨by rw [e1, us_ne (by decide), f1.at 1 rfl]; exact hX.2.1, by rw [e1, us_ne (by decide), f1.at 0 rfl]; exact hX.2.2⟩ | exact ⟨by rw [ft.at 1 rfl, hx 1 (by decide) (by decide)]; exact hX.2.1, by rw [ft.at 0 rfl, et, newL_0, mup_ne (by decide)]; exact hX.2.2⟩) k1 k2 (by rw [hr, hr2]) (hI0.err2 hs1)
theorem x_image {d : Nat} {s : mSt} (hI : IvD s)  (hu0 : s 73 0 = 0) (hu1 : s 81 0 = 1) : CI (d + 4) 135 [.inr (.inr 10)] (s) (fun r s1 => r = s 10 8 + 1 ∧ VN51 s1 (s 147) ∧ s1 51 1 = s 147 38 ∧ s1 10 8 = s 10 8 + 1 ∧ Fr [51, 52, 53, 54, 55, 56, 57, 58, 59, 60, 61, 62, 63, 64, 65, 74, 75, 82, 83, 10] s s1) := by
  refine CI.mk rfl ?_
  show WP (d + 4) 135 0 [some (.inr (.inr 10))] [] (encA (s)) _
  have hI0 := hI
  obtain ⟨⟨hM, hC, hN⟩, hV, h8⟩ := hI
  have hV0 := hV
  have hM0 := hM
  obtain ⟨vc, vpl, vga, vse, vne, veg, vre, vtu, vta, vwa, v36, v37, v39, v40, v42, v41, v43, v44, vl0, vl1, vlm⟩ := hV
  obtain ⟨hM39, hM40, hM41, hM43, hM44, hM36, hM37, hM38, hMc, hMw, hMp, hMt, hMb⟩ := hM
  refine w_ldR rfl rfl rfl ?_
  first | refine w_getI rfl rfl rfl rfl rfl ?_ | refine w_getR rfl rfl rfl rfl rfl ?_
  refine w_ldR rfl rfl rfl ?_
  first | refine w_getI rfl rfl rfl rfl rfl ?_ | refine w_getR rfl rfl rfl rfl rfl ?_
  refine w_callWN rfl rfl rfl rfl rfl rfl rfl (k_copy51_13 hV0 hM0 hC hu0 hu1) (fun s4 p4 => ?_)
  obtain ⟨g1, g2, f4⟩ := p4
  have e10 : s4 10 8 = s 10 8 := by rw [f4.at 10 rfl]
  refine w_ldR rfl rfl rfl ?_
  first | refine w_dupI rfl ?_ | refine w_dupR rfl ?_
  first | refine w_getI rfl rfl rfl rfl rfl ?_ | refine w_getR rfl rfl rfl rfl rfl ?_
  rw [e10]
  refine w_push rfl ?_
  refine w_add rfl ?_
  refine w_putI rfl rfl rfl rfl rfl rfl rfl ?_
  refine w_ldR rfl rfl rfl ?_
  first | refine w_getI rfl rfl rfl rfl rfl ?_ | refine w_getR rfl rfl rfl rfl rfl ?_
  rw [us_eq, mup_eq]
  refine w_retI rfl ?_
  exact ⟨rfl, g1.fr (A := [10]) rfl (Fr.us rfl), by rw [us_ne (by decide), g2]; exact h8, by rw [us_eq, mup_eq], (Fr.mono rfl f4).tr (Fr.us rfl)⟩
theorem m_image {d : Nat} {s : mSt} {D : Nat → Int} (hD : s 147 = D) (hM : MOk D) (hC : COk D)  (ht : ∀ i, 300 ≤ i → s 147 i = s 149 i) : CI (d + 1) 259 [.inr (.inr 146)] (s) (fun r s1 => r = s 146 3 + 1 ∧ s1 149 = D ∧ s1 146 3 = s 146 3 + 1 ∧ s1 146 21 = s 146 21 ∧ Fr [146, 149] s s1) := by
  refine CI.mk rfl ?_
  show WP (d + 1) 259 0 [some (.inr (.inr 146))] [] (encA (s)) _
  have hM0 := hM
  obtain ⟨hM39, hM40, hM41, hM43, hM44, hM36, hM37, hM38, hMc, hMw, hMp, hMt, hMb⟩ := hM
  refine w_ldR rfl rfl rfl ?_
  first | refine w_getI rfl rfl rfl rfl rfl ?_ | refine w_getR rfl rfl rfl rfl rfl ?_
  refine w_ldR rfl rfl rfl ?_
  first | refine w_getI rfl rfl rfl rfl rfl ?_ | refine w_getR rfl rfl rfl rfl rfl ?_
  refine w_call rfl rfl rfl (r_copies_147_149 ht) ?_
  refine w_ldR rfl rfl rfl ?_
  first | refine w_dupI rfl ?_ | refine w_dupR rfl ?_
  first | refine w_getI rfl rfl rfl rfl rfl ?_ | refine w_getR rfl rfl rfl rfl rfl ?_
  rw [ua_ne (by decide)]
  refine w_push rfl ?_
  refine w_add rfl ?_
  refine w_putI rfl rfl rfl rfl rfl rfl rfl ?_
  refine w_ldR rfl rfl rfl ?_
  first | refine w_getI rfl rfl rfl rfl rfl ?_ | refine w_getR rfl rfl rfl rfl rfl ?_
  rw [us_eq, mup_eq]
  refine w_retI rfl ?_
  exact ⟨rfl, by rw [us_ne (by decide), ua_eq, hD], by rw [us_eq, mup_eq], by rw [us_eq, mup_ne (by decide), ua_ne (by decide)], (Fr.ua rfl).tr (Fr.us rfl)⟩
theorem st_image {X : Nat → Int} {N : Int} {d : Nat} {s : mSt} {cnt : Int} (hI : Inv X N s cnt)  : Step X N (d + 150) s cnt 135 259 [] := by
  have hI0 := hI
  obtain ⟨hD, -, -, -, -, hT, -, hX, hU⟩ := hI
  have hD0 := hD
  obtain ⟨⟨hM, hC, hN⟩, hV, h8⟩ := hD
  have hV0 := hV
  have hM0 := hM
  obtain ⟨vc, vpl, vga, vse, vne, veg, vre, vtu, vta, vwa, v36, v37, v39, v40, v42, v41, v43, v44, vl0, vl1, vlm⟩ := hV
  obtain ⟨hM39, hM40, hM41, hM43, hM44, hM36, hM37, hM38, hMc, hMw, hMp, hMt, hMb⟩ := hM
  obtain ⟨r1, s1, k1, hr, g1, g2, g3, f1⟩ := x_image (d := d + 146) hD0 hU.1 hU.2.1
  have e : s1 147 = s 147 := f1.at 147 rfl
  obtain ⟨r2, s2, k2, hr2, e9, e3, e21, f2⟩ := m_image (d := d + 149) (s := s1) e hM0 hC (fun i hi => by rw [f1.at 147 rfl, f1.at 149 rfl, (hT i hi).1, (hT i hi).2.2])
  obtain ⟨a1, a2, a3, a4, a5, a6, a7, a8, a9⟩ := hI0
  have e6 : s1 146 = s 146 := f1.at 146 rfl
  refine Step.mk (by first | exact ⟨(f1.at 1 rfl).trans hX.2.1, (congrFun (f1.at 0 rfl) 1).trans hX.2.2⟩ | exact ⟨hX.2.1, hX.2.2⟩ | exact ⟨by rw [hs1, us_ne (by decide)]; exact hX.2.1, by rw [hs1, us_ne (by decide)]; exact hX.2.2⟩ | exact ⟨by rw [hs1, us_ne (by decide), us_ne (by decide)]; exact hX.2.1, by rw [hs1, us_ne (by decide), us_ne (by decide)]; exact hX.2.2⟩ | exact ⟨by rw [e1, us_ne (by decide), f1.at 1 rfl]; exact hX.2.1, by rw [e1, us_ne (by decide), f1.at 0 rfl]; exact hX.2.2⟩ | exact ⟨by rw [ft.at 1 rfl, hx 1 (by decide) (by decide)]; exact hX.2.1, by rw [ft.at 0 rfl, et, newL_0, mup_ne (by decide)]; exact hX.2.2⟩) k1 k2 (by rw [hr, hr2, e6, a2.1]) ?_
  have hf := (Fr.mono (B := [51, 52, 53, 54, 55, 56, 57, 58, 59, 60, 61, 62, 63, 64, 65, 74, 75, 82, 83, 10, 146, 149]) rfl f1).tr (Fr.mono rfl f2)
  refine ⟨(a1.fr (A := [51, 52, 53, 54, 55, 56, 57, 58, 59, 60, 61, 62, 63, 64, 65, 74, 75, 82, 83, 10]) rfl rfl f1).fr (A := [146, 149]) rfl rfl f2, ?_, a3.fr rfl rfl hf, a4.fr rfl rfl rfl (by rw [e21, e6]) hf, a5.fr rfl hf, ?_, a7.fr rfl (by omega) hf, a8.fr rfl rfl hf, a9.fr rfl rfl rfl rfl hf⟩
  · refine ⟨by rw [f2.at 10 rfl, g3, e3, e6, a2.1], by rw [e3, e6]; have := a2.2.1; omega, by rw [e3, e6]; have := a2.2.2.1; omega, fun _ => ?_⟩
    rw [e9, f2.at 51 rfl]
    exact ⟨⟨hM0, hC, hN⟩, g1.fr (A := [146, 149]) rfl f2, g2⟩
  · exact fun i hi => ⟨by rw [hf.at 147 rfl]; exact (hT i hi).1, by rw [hf.at 148 rfl]; exact (hT i hi).2.1, by rw [e9]; exact (hT i hi).1⟩
theorem x_restore_y {d : Nat} {s : mSt} (hI : IvD s)  {E : Nat → Int} (hv : VN51 s E) (he8 : s 51 1 = E 38) (hME : MOk E) (hCE : COk E) (hi1 : 0 < s 10 8 ∧ s 10 8 ≤ 1000) : CI (d + 4) 136 [.inr (.inr 10)] (s) (fun r s1 => r = E 38 ∧ VN13 s1 E ∧ s1 13 1 = E 38 ∧ Fr [13, 14, 15, 16, 17, 18, 19, 20, 21, 22, 23, 24, 25, 26, 27, 36, 37, 44, 45] s s1) := by
  refine CI.mk rfl ?_
  show WP (d + 4) 136 0 [some (.inr (.inr 10))] [] (encA (s)) _
  have hI0 := hI
  obtain ⟨⟨hM, hC, hN⟩, hV, h8⟩ := hI
  have hV0 := hV
  have hM0 := hM
  obtain ⟨vc, vpl, vga, vse, vne, veg, vre, vtu, vta, vwa, v36, v37, v39, v40, v42, v41, v43, v44, vl0, vl1, vlm⟩ := hV
  obtain ⟨hM39, hM40, hM41, hM43, hM44, hM36, hM37, hM38, hMc, hMw, hMp, hMt, hMb⟩ := hM
  refine w_ldR rfl rfl rfl ?_
  first | refine w_getI rfl rfl rfl rfl rfl ?_ | refine w_getR rfl rfl rfl rfl rfl ?_
  refine w_irNe0 rfl (by omega) (fun b2 => ?_) (fun b2 => ?_)
  · first
    | (exfalso; omega)
    | (refine w_ldR rfl rfl rfl ?_
       first | refine w_getI rfl rfl rfl rfl rfl ?_ | refine w_getR rfl rfl rfl rfl rfl ?_
       refine w_ldR rfl rfl rfl ?_
       first | refine w_getI rfl rfl rfl rfl rfl ?_ | refine w_getR rfl rfl rfl rfl rfl ?_
       refine w_callWN rfl rfl rfl rfl rfl rfl rfl (k_copy13_51 hv hME hCE vl0.1 vl1.1) (fun s11 p11 => ?_)
       obtain ⟨g1, g2, f11⟩ := p11
       refine w_ldR rfl rfl rfl ?_
       first | refine w_getI rfl rfl rfl rfl rfl ?_ | refine w_getR rfl rfl rfl rfl rfl ?_
       first | refine w_getI rfl rfl rfl rfl rfl ?_ | refine w_getR rfl rfl rfl rfl rfl ?_
       rw [g2, he8]
       refine w_retI rfl ?_
       exact ⟨rfl, g1, by rw [g2, he8], f11⟩)
  · first
    | (exfalso; omega)
    | (refine w_ldR rfl rfl rfl ?_
       refine w_push rfl ?_
       refine w_callWI rfl rfl rfl rfl rfl rfl rfl k_error2 (fun v5 s5 p5 => ?_)
       obtain ⟨rfl, rfl⟩ := p5
       refine w_retI rfl ?_
       exact ⟨rfl, g1, by rw [g2, he8], f11⟩)
theorem x_restore_n {d : Nat} {s : mSt} (hI : IvD s)  (hi1 : s 10 8 = 0) : CI (d + 4) 136 [.inr (.inr 10)] (s) (fun r s1 => r = -1000000000 - 2 ∧ s1 = us s 132 2 (s 132 2 + 1)) := by
  refine CI.mk rfl ?_
  show WP (d + 4) 136 0 [some (.inr (.inr 10))] [] (encA (s)) _
  have hI0 := hI
  obtain ⟨⟨hM, hC, hN⟩, hV, h8⟩ := hI
  have hV0 := hV
  have hM0 := hM
  obtain ⟨vc, vpl, vga, vse, vne, veg, vre, vtu, vta, vwa, v36, v37, v39, v40, v42, v41, v43, v44, vl0, vl1, vlm⟩ := hV
  obtain ⟨hM39, hM40, hM41, hM43, hM44, hM36, hM37, hM38, hMc, hMw, hMp, hMt, hMb⟩ := hM
  refine w_ldR rfl rfl rfl ?_
  first | refine w_getI rfl rfl rfl rfl rfl ?_ | refine w_getR rfl rfl rfl rfl rfl ?_
  refine w_irNe0 rfl (by omega) (fun b2 => ?_) (fun b2 => ?_)
  · first
    | (exfalso; omega)
    | (exfalso; omega)
  · first
    | (exfalso; omega)
    | (refine w_ldR rfl rfl rfl ?_
       refine w_push rfl ?_
       refine w_callWI rfl rfl rfl rfl rfl rfl rfl k_error2 (fun v5 s5 p5 => ?_)
       obtain ⟨rfl, rfl⟩ := p5
       refine w_retI rfl ?_
       exact ⟨rfl, rfl⟩)
theorem m_restore_y {d : Nat} {s : mSt} {D : Nat → Int} (hD : s 147 = D) (hM : MOk D) (hC : COk D)  {E : Nat → Int} (hE : s 149 = E) (hi1 : 0 < s 146 3 ∧ s 146 3 ≤ 1000) (ht : ∀ i, 300 ≤ i → s 149 i = s 147 i) : CI (d + 1) 260 [.inr (.inr 146)] (s) (fun r s1 => r = E 38 ∧ s1 147 = E ∧ Fr [147] s s1) := by
  refine CI.mk rfl ?_
  show WP (d + 1) 260 0 [some (.inr (.inr 146))] [] (encA (s)) _
  have hM0 := hM
  obtain ⟨hM39, hM40, hM41, hM43, hM44, hM36, hM37, hM38, hMc, hMw, hMp, hMt, hMb⟩ := hM
  refine w_ldR rfl rfl rfl ?_
  first | refine w_getI rfl rfl rfl rfl rfl ?_ | refine w_getR rfl rfl rfl rfl rfl ?_
  refine w_irNe0 rfl (by omega) (fun b2 => ?_) (fun b2 => ?_)
  · first
    | (exfalso; omega)
    | (refine w_ldR rfl rfl rfl ?_
       first | refine w_getI rfl rfl rfl rfl rfl ?_ | refine w_getR rfl rfl rfl rfl rfl ?_
       refine w_ldR rfl rfl rfl ?_
       first | refine w_getI rfl rfl rfl rfl rfl ?_ | refine w_getR rfl rfl rfl rfl rfl ?_
       refine w_call rfl rfl rfl (r_copies_149_147 ht) ?_
       refine w_ldR rfl rfl rfl ?_
       first | refine w_getI rfl rfl rfl rfl rfl ?_ | refine w_getR rfl rfl rfl rfl rfl ?_
       refine w_push rfl ?_
       refine w_aldk 38 rfl rfl rfl rfl rfl rfl ?_
       rw [ua_eq, hE]
       refine w_retI rfl ?_
       exact ⟨rfl, ua_eq _ _ _, Fr.ua rfl⟩)
  · first
    | (exfalso; omega)
    | (refine w_ldR rfl rfl rfl ?_
       refine w_push rfl ?_
       refine w_callV rfl rfl rfl rfl rfl rfl rfl r_finds2 ?_
       refine w_retI rfl ?_
       exact ⟨rfl, ua_eq _ _ _, Fr.ua rfl⟩)
theorem m_restore_n {d : Nat} {s : mSt} {D : Nat → Int} (hD : s 147 = D) (hM : MOk D) (hC : COk D)  (hi1 : s 146 3 = 0) : CI (d + 1) 260 [.inr (.inr 146)] (s) (fun r s1 => r = -1000000000 - 2 ∧ s1 = us s 150 2 (s 150 2 + 1)) := by
  refine CI.mk rfl ?_
  show WP (d + 1) 260 0 [some (.inr (.inr 146))] [] (encA (s)) _
  have hM0 := hM
  obtain ⟨hM39, hM40, hM41, hM43, hM44, hM36, hM37, hM38, hMc, hMw, hMp, hMt, hMb⟩ := hM
  refine w_ldR rfl rfl rfl ?_
  first | refine w_getI rfl rfl rfl rfl rfl ?_ | refine w_getR rfl rfl rfl rfl rfl ?_
  try simp only [hD]
  refine w_irNe0 rfl (by omega) (fun b2 => ?_) (fun b2 => ?_)
  · first
    | (exfalso; omega)
    | (exfalso; omega)
  · first
    | (exfalso; omega)
    | (refine w_ldR rfl rfl rfl ?_
       refine w_push rfl ?_
       refine w_callV rfl rfl rfl rfl rfl rfl rfl r_finds2 ?_
       try simp only [hD]
       refine w_retI rfl ?_
       exact ⟨rfl, rfl⟩)
theorem st_restore {X : Nat → Int} {N : Int} {d : Nat} {s : mSt} {cnt : Int} (hI : Inv X N s cnt) (hcn : cnt ≤ 1000) : Step X N (d + 150) s cnt 136 260 [] := by
  have hI0 := hI
  obtain ⟨hD, -, -, -, -, hT, -, hX, hU⟩ := hI
  have hD0 := hD
  obtain ⟨⟨hM, hC, hN⟩, hV, h8⟩ := hD
  have hV0 := hV
  have hM0 := hM
  obtain ⟨vc, vpl, vga, vse, vne, veg, vre, vtu, vta, vwa, v36, v37, v39, v40, v42, v41, v43, v44, vl0, vl1, vlm⟩ := hV
  obtain ⟨hM39, hM40, hM41, hM43, hM44, hM36, hM37, hM38, hMc, hMw, hMp, hMt, hMb⟩ := hM
  have hII := hI0.2.1
  by_cases hy : 0 < s 146 3
  · obtain ⟨⟨hME, hCE, hNE⟩, hv, he8⟩ := hII.2.2.2 hy
    obtain ⟨r1, s1, k1, hr, g1, g2, f1⟩ := x_restore_y (d := d + 146) hD0 hv he8 hME hCE (by rw [hII.1]; have := hII.2.2.1; omega)
    have e : s1 147 = s 147 := f1.at 147 rfl
    obtain ⟨r2, s2, k2, hr2, e2, f2⟩ := m_restore_y (d := d + 149) (s := s1) e hM0 hC (f1.at 149 rfl) (by rw [f1.at 146 rfl]; have := hII.2.2.1; omega) (fun i hi => by rw [f1.at 147 rfl, f1.at 149 rfl, (hT i hi).1, (hT i hi).2.2])
    refine Step.mk (by first | exact ⟨(f1.at 1 rfl).trans hX.2.1, (congrFun (f1.at 0 rfl) 1).trans hX.2.2⟩ | exact ⟨hX.2.1, hX.2.2⟩ | exact ⟨by rw [hs1, us_ne (by decide)]; exact hX.2.1, by rw [hs1, us_ne (by decide)]; exact hX.2.2⟩ | exact ⟨by rw [hs1, us_ne (by decide), us_ne (by decide)]; exact hX.2.1, by rw [hs1, us_ne (by decide), us_ne (by decide)]; exact hX.2.2⟩ | exact ⟨by rw [e1, us_ne (by decide), f1.at 1 rfl]; exact hX.2.1, by rw [e1, us_ne (by decide), f1.at 0 rfl]; exact hX.2.2⟩ | exact ⟨by rw [ft.at 1 rfl, hx 1 (by decide) (by decide)]; exact hX.2.1, by rw [ft.at 0 rfl, et, newL_0, mup_ne (by decide)]; exact hX.2.2⟩) k1 k2 (by rw [hr, hr2]) ?_
    have hf := (Fr.mono (B := [13, 14, 15, 16, 17, 18, 19, 20, 21, 22, 23, 24, 25, 26, 27, 36, 37, 44, 45, 147]) rfl f1).tr (Fr.mono rfl f2)
    exact hI0.vil rfl rfl (by omega) hf (IvD.mk e2 hME hCE hNE (g1.fr rfl f2) (by rw [f2.at 13 rfl]; exact g2)) (hT.d (fun i hi => by rw [e2, (hT i hi).1, (hT i hi).2.2]) (hf.at 148 rfl) (hf.at 149 rfl))
  · obtain ⟨r1, s1, k1, hr, hs1⟩ := x_restore_n (d := d + 146) hD0 (by rw [hII.1]; have := hII.2.1; omega)
    have e : s1 147 = s 147 := by rw [hs1]; exact us_ne (by decide)
    obtain ⟨r2, s2, k2, hr2, hs2⟩ := m_restore_n (d := d + 149) (s := s1) e hM0 hC (by rw [hs1, us_ne (by decide)]; have := hII.2.1; omega)
    rw [hs2] at k2
    exact Step.mk (by first | exact ⟨(f1.at 1 rfl).trans hX.2.1, (congrFun (f1.at 0 rfl) 1).trans hX.2.2⟩ | exact ⟨hX.2.1, hX.2.2⟩ | exact ⟨by rw [hs1, us_ne (by decide)]; exact hX.2.1, by rw [hs1, us_ne (by decide)]; exact hX.2.2⟩ | exact ⟨by rw [hs1, us_ne (by decide), us_ne (by decide)]; exact hX.2.1, by rw [hs1, us_ne (by decide), us_ne (by decide)]; exact hX.2.2⟩ | exact ⟨by rw [e1, us_ne (by decide), f1.at 1 rfl]; exact hX.2.1, by rw [e1, us_ne (by decide), f1.at 0 rfl]; exact hX.2.2⟩ | exact ⟨by rw [ft.at 1 rfl, hx 1 (by decide) (by decide)]; exact hX.2.1, by rw [ft.at 0 rfl, et, newL_0, mup_ne (by decide)]; exact hX.2.2⟩) k1 k2 (by rw [hr, hr2]) (hI0.err2 hs1)
