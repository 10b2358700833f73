/-! ===== put, cells, judge, curtain ===== -/
theorem IvS.at {s : mSt} (h : IvS s) {w : Int} (hw : 0 ≤ w ∧ w ≤ 3) : s 131 w.toNat = s 160 w.toNat ∧ (s 160 w.toNat = 0 ∨ s 160 w.toNat = 8 ∨ s 160 w.toNat = 16 ∨ s 160 w.toNat = 32) ∧ (0 ≤ s 161 w.toNat ∧ s 161 w.toNat ≤ 40) := by
  obtain ⟨h0, h1, h2, h3⟩ := h
  rcases (show w.toNat = 0 ∨ w.toNat = 1 ∨ w.toNat = 2 ∨ w.toNat = 3 by omega) with e | e | e | e <;> rw [e]
  · exact ⟨h0.1, h0.2.1, h0.2.2.1⟩
  · exact ⟨h1.1, h1.2.1, h1.2.2.1⟩
  · exact ⟨h2.1, h2.2.1, h2.2.2.1⟩
  · exact ⟨h3.1, h3.2.1, h3.2.2.1⟩
theorem x_put_y0 {d : Nat} {s : mSt} (hI : IvD s) {i v : Int} (hri : -2147483648 ≤ i ∧ i < 2147483648) (hS : IvS s) (hb : ¬ s 160 0 = 0) (hi : 0 ≤ i ∧ i < s 161 0) : CI (d + 2) 131 [.inr (.inr 10), .inl 0, .inl i, .inl v] (s) (fun q s1 => q = 1 ∧ s1 = us s 139 i.toNat (m_ushr (m_shl v (32 - s 160 0)) (32 - s 160 0))) := by
  refine CI.mk rfl ?_
  show WP (d + 2) 131 0 [some (.inr (.inr 10)), some (.inl 0), some (.inl i), some (.inl v), none] [] (encA (s)) _
  have hI0 := hI
  obtain ⟨⟨hM, hC, hN⟩, hV, h8⟩ := hI
  have hV0 := hV
  have hM0 := hM
  obtain ⟨vc, vpl, vga, vse, vne, veg, vre, vtu, vta, vwa, v36, v37, v39, v40, v42, v41, v43, v44, vl0, vl1, vlm⟩ := hV
  obtain ⟨hM39, hM40, hM41, hM43, hM44, hM36, hM37, hM38, hMc, hMw, hMp, hMt, hMb⟩ := hM
  obtain ⟨hS0, hS1, hS2, hS3⟩ := hS
  obtain ⟨e1, e2, e3, e4, e5⟩ := hS0
  refine w_ldI rfl rfl ?_
  refine w_call rfl rfl rfl (k_isSheet (by omega)) ?_
  refine w_bNe0 rfl (fun b2 => ?_) (fun b2 => ?_)
  · first
    | (exfalso; omega)
    | (refine w_ldR rfl rfl rfl ?_
       refine w_ldI rfl rfl ?_
       refine w_callV rfl rfl rfl rfl rfl rfl rfl (k_isMissing (by omega) (by show -2147483648 ≤ s 131 0 ∧ s 131 0 < 2147483648; omega)) ?_
       rw [show s 131 ((0 : Int)).toNat = s 160 0 from e1]
       refine w_bEq0 rfl (fun b10 => ?_) (fun b10 => ?_)
       · first
         | (exfalso; omega)
         | (refine w_ldR rfl rfl rfl ?_
            first | refine w_getI rfl rfl rfl rfl rfl ?_ | refine w_getR rfl rfl rfl rfl rfl ?_
            refine w_ldI rfl rfl ?_
            refine w_rld rfl rfl rfl (by omega) rfl ?_
            show WP _ _ _ _ (.inr (.inr 138) :: _) _ _
            refine w_ldI rfl rfl ?_
            refine w_callV rfl rfl rfl rfl rfl rfl rfl (k_has138 (by omega) (by omega)) ?_
            refine w_bNe0 rfl (fun b21 => ?_) (fun b21 => ?_)
            · first
              | (exfalso; omega)
              | (refine w_push rfl ?_
                 refine w_ldR rfl rfl rfl ?_
                 first | refine w_getI rfl rfl rfl rfl rfl ?_ | refine w_getR rfl rfl rfl rfl rfl ?_
                 refine w_ldI rfl rfl ?_
                 refine w_ald rfl rfl rfl (by omega) rfl ?_
                 rw [show s 131 ((0 : Int)).toNat = s 160 0 from e1]
                 refine w_sub rfl ?_
                 refine w_StI_5_4 rfl rfl ?_
                 refine w_ldR rfl rfl rfl ?_
                 first | refine w_getI rfl rfl rfl rfl rfl ?_ | refine w_getR rfl rfl rfl rfl rfl ?_
                 refine w_ldI rfl rfl ?_
                 refine w_rld rfl rfl rfl (by omega) rfl ?_
                 show WP _ _ _ _ (.inr (.inr 138) :: _) _ _
                 refine w_ldI rfl rfl ?_
                 refine w_ldI rfl rfl ?_
                 refine w_ldI rfl rfl ?_
                 refine w_bin rfl ?_
                 refine w_ldI rfl rfl ?_
                 refine w_bin rfl ?_
                 refine w_callWN rfl rfl rfl rfl rfl rfl rfl (k_repl138 (by omega) (by omega)) (fun s43 p43 => ?_)
                 refine w_push rfl ?_
                 refine w_retI rfl ?_
                 exact ⟨rfl, p43⟩)
            · first
              | (exfalso; omega)
              | (refine w_ldR rfl rfl rfl ?_
                 refine w_push rfl ?_
                 refine w_callWI rfl rfl rfl rfl rfl rfl rfl k_error1 (fun v24 s24 p24 => ?_)
                 obtain ⟨rfl, rfl⟩ := p24
                 refine w_retI rfl ?_
                 exact ⟨rfl, p43⟩))
       · first
         | (exfalso; omega)
         | (refine w_ldR rfl rfl rfl ?_
            refine w_push rfl ?_
            refine w_callWI rfl rfl rfl rfl rfl rfl rfl k_error1 (fun v13 s13 p13 => ?_)
            obtain ⟨rfl, rfl⟩ := p13
            refine w_retI rfl ?_
            exact ⟨rfl, p43⟩))
  · first
    | (exfalso; omega)
    | (refine w_ldR rfl rfl rfl ?_
       refine w_push rfl ?_
       refine w_callWI rfl rfl rfl rfl rfl rfl rfl k_error1 (fun v5 s5 p5 => ?_)
       obtain ⟨rfl, rfl⟩ := p5
       refine w_retI rfl ?_
       exact ⟨rfl, p43⟩)
theorem x_put_i0 {d : Nat} {s : mSt} (hI : IvD s) {i v : Int} (hri : -2147483648 ≤ i ∧ i < 2147483648) (hS : IvS s) (hb : ¬ s 160 0 = 0) (hi : ¬ (0 ≤ i ∧ i < s 161 0)) : CI (d + 2) 131 [.inr (.inr 10), .inl 0, .inl i, .inl v] (s) (fun r s1 => r = -1000000000 - 1 ∧ s1 = us s 132 1 (s 132 1 + 1)) := by
  refine CI.mk rfl ?_
  show WP (d + 2) 131 0 [some (.inr (.inr 10)), some (.inl 0), some (.inl i), some (.inl v), none] [] (encA (s)) _
  have hI0 := hI
  obtain ⟨⟨hM, hC, hN⟩, hV, h8⟩ := hI
  have hV0 := hV
  have hM0 := hM
  obtain ⟨vc, vpl, vga, vse, vne, veg, vre, vtu, vta, vwa, v36, v37, v39, v40, v42, v41, v43, v44, vl0, vl1, vlm⟩ := hV
  obtain ⟨hM39, hM40, hM41, hM43, hM44, hM36, hM37, hM38, hMc, hMw, hMp, hMt, hMb⟩ := hM
  obtain ⟨hS0, hS1, hS2, hS3⟩ := hS
  obtain ⟨e1, e2, e3, e4, e5⟩ := hS0
  refine w_ldI rfl rfl ?_
  refine w_call rfl rfl rfl (k_isSheet (by omega)) ?_
  refine w_bNe0 rfl (fun b2 => ?_) (fun b2 => ?_)
  · first
    | (exfalso; omega)
    | (refine w_ldR rfl rfl rfl ?_
       refine w_ldI rfl rfl ?_
       refine w_callV rfl rfl rfl rfl rfl rfl rfl (k_isMissing (by omega) (by show -2147483648 ≤ s 131 0 ∧ s 131 0 < 2147483648; omega)) ?_
       rw [show s 131 ((0 : Int)).toNat = s 160 0 from e1]
       refine w_bEq0 rfl (fun b10 => ?_) (fun b10 => ?_)
       · first
         | (exfalso; omega)
         | (refine w_ldR rfl rfl rfl ?_
            first | refine w_getI rfl rfl rfl rfl rfl ?_ | refine w_getR rfl rfl rfl rfl rfl ?_
            refine w_ldI rfl rfl ?_
            refine w_rld rfl rfl rfl (by omega) rfl ?_
            show WP _ _ _ _ (.inr (.inr 138) :: _) _ _
            refine w_ldI rfl rfl ?_
            refine w_callV rfl rfl rfl rfl rfl rfl rfl (k_has138 (by omega) (by omega)) ?_
            refine w_bNe0 rfl (fun b21 => ?_) (fun b21 => ?_)
            · first
              | (exfalso; omega)
              | (exfalso; omega)
            · first
              | (exfalso; omega)
              | (refine w_ldR rfl rfl rfl ?_
                 refine w_push rfl ?_
                 refine w_callWI rfl rfl rfl rfl rfl rfl rfl k_error1 (fun v24 s24 p24 => ?_)
                 obtain ⟨rfl, rfl⟩ := p24
                 refine w_retI rfl ?_
                 exact ⟨rfl, rfl⟩))
       · first
         | (exfalso; omega)
         | (refine w_ldR rfl rfl rfl ?_
            refine w_push rfl ?_
            refine w_callWI rfl rfl rfl rfl rfl rfl rfl k_error1 (fun v13 s13 p13 => ?_)
            obtain ⟨rfl, rfl⟩ := p13
            refine w_retI rfl ?_
            exact ⟨rfl, rfl⟩))
  · first
    | (exfalso; omega)
    | (refine w_ldR rfl rfl rfl ?_
       refine w_push rfl ?_
       refine w_callWI rfl rfl rfl rfl rfl rfl rfl k_error1 (fun v5 s5 p5 => ?_)
       obtain ⟨rfl, rfl⟩ := p5
       refine w_retI rfl ?_
       exact ⟨rfl, rfl⟩)
theorem x_put_y1 {d : Nat} {s : mSt} (hI : IvD s) {i v : Int} (hri : -2147483648 ≤ i ∧ i < 2147483648) (hS : IvS s) (hb : ¬ s 160 1 = 0) (hi : 0 ≤ i ∧ i < s 161 1) : CI (d + 2) 131 [.inr (.inr 10), .inl 1, .inl i, .inl v] (s) (fun q s1 => q = 1 ∧ s1 = us s 141 i.toNat (m_ushr (m_shl v (32 - s 160 1)) (32 - s 160 1))) := by
  refine CI.mk rfl ?_
  show WP (d + 2) 131 0 [some (.inr (.inr 10)), some (.inl 1), some (.inl i), some (.inl v), none] [] (encA (s)) _
  have hI0 := hI
  obtain ⟨⟨hM, hC, hN⟩, hV, h8⟩ := hI
  have hV0 := hV
  have hM0 := hM
  obtain ⟨vc, vpl, vga, vse, vne, veg, vre, vtu, vta, vwa, v36, v37, v39, v40, v42, v41, v43, v44, vl0, vl1, vlm⟩ := hV
  obtain ⟨hM39, hM40, hM41, hM43, hM44, hM36, hM37, hM38, hMc, hMw, hMp, hMt, hMb⟩ := hM
  obtain ⟨hS0, hS1, hS2, hS3⟩ := hS
  obtain ⟨e1, e2, e3, e4, e5⟩ := hS1
  refine w_ldI rfl rfl ?_
  refine w_call rfl rfl rfl (k_isSheet (by omega)) ?_
  refine w_bNe0 rfl (fun b2 => ?_) (fun b2 => ?_)
  · first
    | (exfalso; omega)
    | (refine w_ldR rfl rfl rfl ?_
       refine w_ldI rfl rfl ?_
       refine w_callV rfl rfl rfl rfl rfl rfl rfl (k_isMissing (by omega) (by show -2147483648 ≤ s 131 1 ∧ s 131 1 < 2147483648; omega)) ?_
       rw [show s 131 ((1 : Int)).toNat = s 160 1 from e1]
       refine w_bEq0 rfl (fun b10 => ?_) (fun b10 => ?_)
       · first
         | (exfalso; omega)
         | (refine w_ldR rfl rfl rfl ?_
            first | refine w_getI rfl rfl rfl rfl rfl ?_ | refine w_getR rfl rfl rfl rfl rfl ?_
            refine w_ldI rfl rfl ?_
            refine w_rld rfl rfl rfl (by omega) rfl ?_
            show WP _ _ _ _ (.inr (.inr 140) :: _) _ _
            refine w_ldI rfl rfl ?_
            refine w_callV rfl rfl rfl rfl rfl rfl rfl (k_has140 (by omega) (by omega)) ?_
            refine w_bNe0 rfl (fun b21 => ?_) (fun b21 => ?_)
            · first
              | (exfalso; omega)
              | (refine w_push rfl ?_
                 refine w_ldR rfl rfl rfl ?_
                 first | refine w_getI rfl rfl rfl rfl rfl ?_ | refine w_getR rfl rfl rfl rfl rfl ?_
                 refine w_ldI rfl rfl ?_
                 refine w_ald rfl rfl rfl (by omega) rfl ?_
                 rw [show s 131 ((1 : Int)).toNat = s 160 1 from e1]
                 refine w_sub rfl ?_
                 refine w_StI_5_4 rfl rfl ?_
                 refine w_ldR rfl rfl rfl ?_
                 first | refine w_getI rfl rfl rfl rfl rfl ?_ | refine w_getR rfl rfl rfl rfl rfl ?_
                 refine w_ldI rfl rfl ?_
                 refine w_rld rfl rfl rfl (by omega) rfl ?_
                 show WP _ _ _ _ (.inr (.inr 140) :: _) _ _
                 refine w_ldI rfl rfl ?_
                 refine w_ldI rfl rfl ?_
                 refine w_ldI rfl rfl ?_
                 refine w_bin rfl ?_
                 refine w_ldI rfl rfl ?_
                 refine w_bin rfl ?_
                 refine w_callWN rfl rfl rfl rfl rfl rfl rfl (k_repl140 (by omega) (by omega)) (fun s43 p43 => ?_)
                 refine w_push rfl ?_
                 refine w_retI rfl ?_
                 exact ⟨rfl, p43⟩)
            · first
              | (exfalso; omega)
              | (refine w_ldR rfl rfl rfl ?_
                 refine w_push rfl ?_
                 refine w_callWI rfl rfl rfl rfl rfl rfl rfl k_error1 (fun v24 s24 p24 => ?_)
                 obtain ⟨rfl, rfl⟩ := p24
                 refine w_retI rfl ?_
                 exact ⟨rfl, p43⟩))
       · first
         | (exfalso; omega)
         | (refine w_ldR rfl rfl rfl ?_
            refine w_push rfl ?_
            refine w_callWI rfl rfl rfl rfl rfl rfl rfl k_error1 (fun v13 s13 p13 => ?_)
            obtain ⟨rfl, rfl⟩ := p13
            refine w_retI rfl ?_
            exact ⟨rfl, p43⟩))
  · first
    | (exfalso; omega)
    | (refine w_ldR rfl rfl rfl ?_
       refine w_push rfl ?_
       refine w_callWI rfl rfl rfl rfl rfl rfl rfl k_error1 (fun v5 s5 p5 => ?_)
       obtain ⟨rfl, rfl⟩ := p5
       refine w_retI rfl ?_
       exact ⟨rfl, p43⟩)
theorem x_put_i1 {d : Nat} {s : mSt} (hI : IvD s) {i v : Int} (hri : -2147483648 ≤ i ∧ i < 2147483648) (hS : IvS s) (hb : ¬ s 160 1 = 0) (hi : ¬ (0 ≤ i ∧ i < s 161 1)) : CI (d + 2) 131 [.inr (.inr 10), .inl 1, .inl i, .inl v] (s) (fun r s1 => r = -1000000000 - 1 ∧ s1 = us s 132 1 (s 132 1 + 1)) := by
  refine CI.mk rfl ?_
  show WP (d + 2) 131 0 [some (.inr (.inr 10)), some (.inl 1), some (.inl i), some (.inl v), none] [] (encA (s)) _
  have hI0 := hI
  obtain ⟨⟨hM, hC, hN⟩, hV, h8⟩ := hI
  have hV0 := hV
  have hM0 := hM
  obtain ⟨vc, vpl, vga, vse, vne, veg, vre, vtu, vta, vwa, v36, v37, v39, v40, v42, v41, v43, v44, vl0, vl1, vlm⟩ := hV
  obtain ⟨hM39, hM40, hM41, hM43, hM44, hM36, hM37, hM38, hMc, hMw, hMp, hMt, hMb⟩ := hM
  obtain ⟨hS0, hS1, hS2, hS3⟩ := hS
  obtain ⟨e1, e2, e3, e4, e5⟩ := hS1
  refine w_ldI rfl rfl ?_
  refine w_call rfl rfl rfl (k_isSheet (by omega)) ?_
  refine w_bNe0 rfl (fun b2 => ?_) (fun b2 => ?_)
  · first
    | (exfalso; omega)
    | (refine w_ldR rfl rfl rfl ?_
       refine w_ldI rfl rfl ?_
       refine w_callV rfl rfl rfl rfl rfl rfl rfl (k_isMissing (by omega) (by show -2147483648 ≤ s 131 1 ∧ s 131 1 < 2147483648; omega)) ?_
       rw [show s 131 ((1 : Int)).toNat = s 160 1 from e1]
       refine w_bEq0 rfl (fun b10 => ?_) (fun b10 => ?_)
       · first
         | (exfalso; omega)
         | (refine w_ldR rfl rfl rfl ?_
            first | refine w_getI rfl rfl rfl rfl rfl ?_ | refine w_getR rfl rfl rfl rfl rfl ?_
            refine w_ldI rfl rfl ?_
            refine w_rld rfl rfl rfl (by omega) rfl ?_
            show WP _ _ _ _ (.inr (.inr 140) :: _) _ _
            refine w_ldI rfl rfl ?_
            refine w_callV rfl rfl rfl rfl rfl rfl rfl (k_has140 (by omega) (by omega)) ?_
            refine w_bNe0 rfl (fun b21 => ?_) (fun b21 => ?_)
            · first
              | (exfalso; omega)
              | (exfalso; omega)
            · first
              | (exfalso; omega)
              | (refine w_ldR rfl rfl rfl ?_
                 refine w_push rfl ?_
                 refine w_callWI rfl rfl rfl rfl rfl rfl rfl k_error1 (fun v24 s24 p24 => ?_)
                 obtain ⟨rfl, rfl⟩ := p24
                 refine w_retI rfl ?_
                 exact ⟨rfl, rfl⟩))
       · first
         | (exfalso; omega)
         | (refine w_ldR rfl rfl rfl ?_
            refine w_push rfl ?_
            refine w_callWI rfl rfl rfl rfl rfl rfl rfl k_error1 (fun v13 s13 p13 => ?_)
            obtain ⟨rfl, rfl⟩ := p13
            refine w_retI rfl ?_
            exact ⟨rfl, rfl⟩))
  · first
    | (exfalso; omega)
    | (refine w_ldR rfl rfl rfl ?_
       refine w_push rfl ?_
       refine w_callWI rfl rfl rfl rfl rfl rfl rfl k_error1 (fun v5 s5 p5 => ?_)
       obtain ⟨rfl, rfl⟩ := p5
       refine w_retI rfl ?_
       exact ⟨rfl, rfl⟩)
theorem x_put_y2 {d : Nat} {s : mSt} (hI : IvD s) {i v : Int} (hri : -2147483648 ≤ i ∧ i < 2147483648) (hS : IvS s) (hb : ¬ s 160 2 = 0) (hi : 0 ≤ i ∧ i < s 161 2) : CI (d + 2) 131 [.inr (.inr 10), .inl 2, .inl i, .inl v] (s) (fun q s1 => q = 1 ∧ s1 = us s 143 i.toNat (m_ushr (m_shl v (32 - s 160 2)) (32 - s 160 2))) := by
  refine CI.mk rfl ?_
  show WP (d + 2) 131 0 [some (.inr (.inr 10)), some (.inl 2), some (.inl i), some (.inl v), none] [] (encA (s)) _
  have hI0 := hI
  obtain ⟨⟨hM, hC, hN⟩, hV, h8⟩ := hI
  have hV0 := hV
  have hM0 := hM
  obtain ⟨vc, vpl, vga, vse, vne, veg, vre, vtu, vta, vwa, v36, v37, v39, v40, v42, v41, v43, v44, vl0, vl1, vlm⟩ := hV
  obtain ⟨hM39, hM40, hM41, hM43, hM44, hM36, hM37, hM38, hMc, hMw, hMp, hMt, hMb⟩ := hM
  obtain ⟨hS0, hS1, hS2, hS3⟩ := hS
  obtain ⟨e1, e2, e3, e4, e5⟩ := hS2
  refine w_ldI rfl rfl ?_
  refine w_call rfl rfl rfl (k_isSheet (by omega)) ?_
  refine w_bNe0 rfl (fun b2 => ?_) (fun b2 => ?_)
  · first
    | (exfalso; omega)
    | (refine w_ldR rfl rfl rfl ?_
       refine w_ldI rfl rfl ?_
       refine w_callV rfl rfl rfl rfl rfl rfl rfl (k_isMissing (by omega) (by show -2147483648 ≤ s 131 2 ∧ s 131 2 < 2147483648; omega)) ?_
       rw [show s 131 ((2 : Int)).toNat = s 160 2 from e1]
       refine w_bEq0 rfl (fun b10 => ?_) (fun b10 => ?_)
       · first
         | (exfalso; omega)
         | (refine w_ldR rfl rfl rfl ?_
            first | refine w_getI rfl rfl rfl rfl rfl ?_ | refine w_getR rfl rfl rfl rfl rfl ?_
            refine w_ldI rfl rfl ?_
            refine w_rld rfl rfl rfl (by omega) rfl ?_
            show WP _ _ _ _ (.inr (.inr 142) :: _) _ _
            refine w_ldI rfl rfl ?_
            refine w_callV rfl rfl rfl rfl rfl rfl rfl (k_has142 (by omega) (by omega)) ?_
            refine w_bNe0 rfl (fun b21 => ?_) (fun b21 => ?_)
            · first
              | (exfalso; omega)
              | (refine w_push rfl ?_
                 refine w_ldR rfl rfl rfl ?_
                 first | refine w_getI rfl rfl rfl rfl rfl ?_ | refine w_getR rfl rfl rfl rfl rfl ?_
                 refine w_ldI rfl rfl ?_
                 refine w_ald rfl rfl rfl (by omega) rfl ?_
                 rw [show s 131 ((2 : Int)).toNat = s 160 2 from e1]
                 refine w_sub rfl ?_
                 refine w_StI_5_4 rfl rfl ?_
                 refine w_ldR rfl rfl rfl ?_
                 first | refine w_getI rfl rfl rfl rfl rfl ?_ | refine w_getR rfl rfl rfl rfl rfl ?_
                 refine w_ldI rfl rfl ?_
                 refine w_rld rfl rfl rfl (by omega) rfl ?_
                 show WP _ _ _ _ (.inr (.inr 142) :: _) _ _
                 refine w_ldI rfl rfl ?_
                 refine w_ldI rfl rfl ?_
                 refine w_ldI rfl rfl ?_
                 refine w_bin rfl ?_
                 refine w_ldI rfl rfl ?_
                 refine w_bin rfl ?_
                 refine w_callWN rfl rfl rfl rfl rfl rfl rfl (k_repl142 (by omega) (by omega)) (fun s43 p43 => ?_)
                 refine w_push rfl ?_
                 refine w_retI rfl ?_
                 exact ⟨rfl, p43⟩)
            · first
              | (exfalso; omega)
              | (refine w_ldR rfl rfl rfl ?_
                 refine w_push rfl ?_
                 refine w_callWI rfl rfl rfl rfl rfl rfl rfl k_error1 (fun v24 s24 p24 => ?_)
                 obtain ⟨rfl, rfl⟩ := p24
                 refine w_retI rfl ?_
                 exact ⟨rfl, p43⟩))
       · first
         | (exfalso; omega)
         | (refine w_ldR rfl rfl rfl ?_
            refine w_push rfl ?_
            refine w_callWI rfl rfl rfl rfl rfl rfl rfl k_error1 (fun v13 s13 p13 => ?_)
            obtain ⟨rfl, rfl⟩ := p13
            refine w_retI rfl ?_
            exact ⟨rfl, p43⟩))
  · first
    | (exfalso; omega)
    | (refine w_ldR rfl rfl rfl ?_
       refine w_push rfl ?_
       refine w_callWI rfl rfl rfl rfl rfl rfl rfl k_error1 (fun v5 s5 p5 => ?_)
       obtain ⟨rfl, rfl⟩ := p5
       refine w_retI rfl ?_
       exact ⟨rfl, p43⟩)
theorem x_put_i2 {d : Nat} {s : mSt} (hI : IvD s) {i v : Int} (hri : -2147483648 ≤ i ∧ i < 2147483648) (hS : IvS s) (hb : ¬ s 160 2 = 0) (hi : ¬ (0 ≤ i ∧ i < s 161 2)) : CI (d + 2) 131 [.inr (.inr 10), .inl 2, .inl i, .inl v] (s) (fun r s1 => r = -1000000000 - 1 ∧ s1 = us s 132 1 (s 132 1 + 1)) := by
  refine CI.mk rfl ?_
  show WP (d + 2) 131 0 [some (.inr (.inr 10)), some (.inl 2), some (.inl i), some (.inl v), none] [] (encA (s)) _
  have hI0 := hI
  obtain ⟨⟨hM, hC, hN⟩, hV, h8⟩ := hI
  have hV0 := hV
  have hM0 := hM
  obtain ⟨vc, vpl, vga, vse, vne, veg, vre, vtu, vta, vwa, v36, v37, v39, v40, v42, v41, v43, v44, vl0, vl1, vlm⟩ := hV
  obtain ⟨hM39, hM40, hM41, hM43, hM44, hM36, hM37, hM38, hMc, hMw, hMp, hMt, hMb⟩ := hM
  obtain ⟨hS0, hS1, hS2, hS3⟩ := hS
  obtain ⟨e1, e2, e3, e4, e5⟩ := hS2
  refine w_ldI rfl rfl ?_
  refine w_call rfl rfl rfl (k_isSheet (by omega)) ?_
  refine w_bNe0 rfl (fun b2 => ?_) (fun b2 => ?_)
  · first
    | (exfalso; omega)
    | (refine w_ldR rfl rfl rfl ?_
       refine w_ldI rfl rfl ?_
       refine w_callV rfl rfl rfl rfl rfl rfl rfl (k_isMissing (by omega) (by show -2147483648 ≤ s 131 2 ∧ s 131 2 < 2147483648; omega)) ?_
       rw [show s 131 ((2 : Int)).toNat = s 160 2 from e1]
       refine w_bEq0 rfl (fun b10 => ?_) (fun b10 => ?_)
       · first
         | (exfalso; omega)
         | (refine w_ldR rfl rfl rfl ?_
            first | refine w_getI rfl rfl rfl rfl rfl ?_ | refine w_getR rfl rfl rfl rfl rfl ?_
            refine w_ldI rfl rfl ?_
            refine w_rld rfl rfl rfl (by omega) rfl ?_
            show WP _ _ _ _ (.inr (.inr 142) :: _) _ _
            refine w_ldI rfl rfl ?_
            refine w_callV rfl rfl rfl rfl rfl rfl rfl (k_has142 (by omega) (by omega)) ?_
            refine w_bNe0 rfl (fun b21 => ?_) (fun b21 => ?_)
            · first
              | (exfalso; omega)
              | (exfalso; omega)
            · first
              | (exfalso; omega)
              | (refine w_ldR rfl rfl rfl ?_
                 refine w_push rfl ?_
                 refine w_callWI rfl rfl rfl rfl rfl rfl rfl k_error1 (fun v24 s24 p24 => ?_)
                 obtain ⟨rfl, rfl⟩ := p24
                 refine w_retI rfl ?_
                 exact ⟨rfl, rfl⟩))
       · first
         | (exfalso; omega)
         | (refine w_ldR rfl rfl rfl ?_
            refine w_push rfl ?_
            refine w_callWI rfl rfl rfl rfl rfl rfl rfl k_error1 (fun v13 s13 p13 => ?_)
            obtain ⟨rfl, rfl⟩ := p13
            refine w_retI rfl ?_
            exact ⟨rfl, rfl⟩))
  · first
    | (exfalso; omega)
    | (refine w_ldR rfl rfl rfl ?_
       refine w_push rfl ?_
       refine w_callWI rfl rfl rfl rfl rfl rfl rfl k_error1 (fun v5 s5 p5 => ?_)
       obtain ⟨rfl, rfl⟩ := p5
       refine w_retI rfl ?_
       exact ⟨rfl, rfl⟩)
theorem x_put_y3 {d : Nat} {s : mSt} (hI : IvD s) {i v : Int} (hri : -2147483648 ≤ i ∧ i < 2147483648) (hS : IvS s) (hb : ¬ s 160 3 = 0) (hi : 0 ≤ i ∧ i < s 161 3) : CI (d + 2) 131 [.inr (.inr 10), .inl 3, .inl i, .inl v] (s) (fun q s1 => q = 1 ∧ s1 = us s 145 i.toNat (m_ushr (m_shl v (32 - s 160 3)) (32 - s 160 3))) := by
  refine CI.mk rfl ?_
  show WP (d + 2) 131 0 [some (.inr (.inr 10)), some (.inl 3), some (.inl i), some (.inl v), none] [] (encA (s)) _
  have hI0 := hI
  obtain ⟨⟨hM, hC, hN⟩, hV, h8⟩ := hI
  have hV0 := hV
  have hM0 := hM
  obtain ⟨vc, vpl, vga, vse, vne, veg, vre, vtu, vta, vwa, v36, v37, v39, v40, v42, v41, v43, v44, vl0, vl1, vlm⟩ := hV
  obtain ⟨hM39, hM40, hM41, hM43, hM44, hM36, hM37, hM38, hMc, hMw, hMp, hMt, hMb⟩ := hM
  obtain ⟨hS0, hS1, hS2, hS3⟩ := hS
  obtain ⟨e1, e2, e3, e4, e5⟩ := hS3
  refine w_ldI rfl rfl ?_
  refine w_call rfl rfl rfl (k_isSheet (by omega)) ?_
  refine w_bNe0 rfl (fun b2 => ?_) (fun b2 => ?_)
  · first
    | (exfalso; omega)
    | (refine w_ldR rfl rfl rfl ?_
       refine w_ldI rfl rfl ?_
       refine w_callV rfl rfl rfl rfl rfl rfl rfl (k_isMissing (by omega) (by show -2147483648 ≤ s 131 3 ∧ s 131 3 < 2147483648; omega)) ?_
       rw [show s 131 ((3 : Int)).toNat = s 160 3 from e1]
       refine w_bEq0 rfl (fun b10 => ?_) (fun b10 => ?_)
       · first
         | (exfalso; omega)
         | (refine w_ldR rfl rfl rfl ?_
            first | refine w_getI rfl rfl rfl rfl rfl ?_ | refine w_getR rfl rfl rfl rfl rfl ?_
            refine w_ldI rfl rfl ?_
            refine w_rld rfl rfl rfl (by omega) rfl ?_
            show WP _ _ _ _ (.inr (.inr 144) :: _) _ _
            refine w_ldI rfl rfl ?_
            refine w_callV rfl rfl rfl rfl rfl rfl rfl (k_has144 (by omega) (by omega)) ?_
            refine w_bNe0 rfl (fun b21 => ?_) (fun b21 => ?_)
            · first
              | (exfalso; omega)
              | (refine w_push rfl ?_
                 refine w_ldR rfl rfl rfl ?_
                 first | refine w_getI rfl rfl rfl rfl rfl ?_ | refine w_getR rfl rfl rfl rfl rfl ?_
                 refine w_ldI rfl rfl ?_
                 refine w_ald rfl rfl rfl (by omega) rfl ?_
                 rw [show s 131 ((3 : Int)).toNat = s 160 3 from e1]
                 refine w_sub rfl ?_
                 refine w_StI_5_4 rfl rfl ?_
                 refine w_ldR rfl rfl rfl ?_
                 first | refine w_getI rfl rfl rfl rfl rfl ?_ | refine w_getR rfl rfl rfl rfl rfl ?_
                 refine w_ldI rfl rfl ?_
                 refine w_rld rfl rfl rfl (by omega) rfl ?_
                 show WP _ _ _ _ (.inr (.inr 144) :: _) _ _
                 refine w_ldI rfl rfl ?_
                 refine w_ldI rfl rfl ?_
                 refine w_ldI rfl rfl ?_
                 refine w_bin rfl ?_
                 refine w_ldI rfl rfl ?_
                 refine w_bin rfl ?_
                 refine w_callWN rfl rfl rfl rfl rfl rfl rfl (k_repl144 (by omega) (by omega)) (fun s43 p43 => ?_)
                 refine w_push rfl ?_
                 refine w_retI rfl ?_
                 exact ⟨rfl, p43⟩)
            · first
              | (exfalso; omega)
              | (refine w_ldR rfl rfl rfl ?_
                 refine w_push rfl ?_
                 refine w_callWI rfl rfl rfl rfl rfl rfl rfl k_error1 (fun v24 s24 p24 => ?_)
                 obtain ⟨rfl, rfl⟩ := p24
                 refine w_retI rfl ?_
                 exact ⟨rfl, p43⟩))
       · first
         | (exfalso; omega)
         | (refine w_ldR rfl rfl rfl ?_
            refine w_push rfl ?_
            refine w_callWI rfl rfl rfl rfl rfl rfl rfl k_error1 (fun v13 s13 p13 => ?_)
            obtain ⟨rfl, rfl⟩ := p13
            refine w_retI rfl ?_
            exact ⟨rfl, p43⟩))
  · first
    | (exfalso; omega)
    | (refine w_ldR rfl rfl rfl ?_
       refine w_push rfl ?_
       refine w_callWI rfl rfl rfl rfl rfl rfl rfl k_error1 (fun v5 s5 p5 => ?_)
       obtain ⟨rfl, rfl⟩ := p5
       refine w_retI rfl ?_
       exact ⟨rfl, p43⟩)
theorem x_put_i3 {d : Nat} {s : mSt} (hI : IvD s) {i v : Int} (hri : -2147483648 ≤ i ∧ i < 2147483648) (hS : IvS s) (hb : ¬ s 160 3 = 0) (hi : ¬ (0 ≤ i ∧ i < s 161 3)) : CI (d + 2) 131 [.inr (.inr 10), .inl 3, .inl i, .inl v] (s) (fun r s1 => r = -1000000000 - 1 ∧ s1 = us s 132 1 (s 132 1 + 1)) := by
  refine CI.mk rfl ?_
  show WP (d + 2) 131 0 [some (.inr (.inr 10)), some (.inl 3), some (.inl i), some (.inl v), none] [] (encA (s)) _
  have hI0 := hI
  obtain ⟨⟨hM, hC, hN⟩, hV, h8⟩ := hI
  have hV0 := hV
  have hM0 := hM
  obtain ⟨vc, vpl, vga, vse, vne, veg, vre, vtu, vta, vwa, v36, v37, v39, v40, v42, v41, v43, v44, vl0, vl1, vlm⟩ := hV
  obtain ⟨hM39, hM40, hM41, hM43, hM44, hM36, hM37, hM38, hMc, hMw, hMp, hMt, hMb⟩ := hM
  obtain ⟨hS0, hS1, hS2, hS3⟩ := hS
  obtain ⟨e1, e2, e3, e4, e5⟩ := hS3
  refine w_ldI rfl rfl ?_
  refine w_call rfl rfl rfl (k_isSheet (by omega)) ?_
  refine w_bNe0 rfl (fun b2 => ?_) (fun b2 => ?_)
  · first
    | (exfalso; omega)
    | (refine w_ldR rfl rfl rfl ?_
       refine w_ldI rfl rfl ?_
       refine w_callV rfl rfl rfl rfl rfl rfl rfl (k_isMissing (by omega) (by show -2147483648 ≤ s 131 3 ∧ s 131 3 < 2147483648; omega)) ?_
       rw [show s 131 ((3 : Int)).toNat = s 160 3 from e1]
       refine w_bEq0 rfl (fun b10 => ?_) (fun b10 => ?_)
       · first
         | (exfalso; omega)
         | (refine w_ldR rfl rfl rfl ?_
            first | refine w_getI rfl rfl rfl rfl rfl ?_ | refine w_getR rfl rfl rfl rfl rfl ?_
            refine w_ldI rfl rfl ?_
            refine w_rld rfl rfl rfl (by omega) rfl ?_
            show WP _ _ _ _ (.inr (.inr 144) :: _) _ _
            refine w_ldI rfl rfl ?_
            refine w_callV rfl rfl rfl rfl rfl rfl rfl (k_has144 (by omega) (by omega)) ?_
            refine w_bNe0 rfl (fun b21 => ?_) (fun b21 => ?_)
            · first
              | (exfalso; omega)
              | (exfalso; omega)
            · first
              | (exfalso; omega)
              | (refine w_ldR rfl rfl rfl ?_
                 refine w_push rfl ?_
                 refine w_callWI rfl rfl rfl rfl rfl rfl rfl k_error1 (fun v24 s24 p24 => ?_)
                 obtain ⟨rfl, rfl⟩ := p24
                 refine w_retI rfl ?_
                 exact ⟨rfl, rfl⟩))
       · first
         | (exfalso; omega)
         | (refine w_ldR rfl rfl rfl ?_
            refine w_push rfl ?_
            refine w_callWI rfl rfl rfl rfl rfl rfl rfl k_error1 (fun v13 s13 p13 => ?_)
            obtain ⟨rfl, rfl⟩ := p13
            refine w_retI rfl ?_
            exact ⟨rfl, rfl⟩))
  · first
    | (exfalso; omega)
    | (refine w_ldR rfl rfl rfl ?_
       refine w_push rfl ?_
       refine w_callWI rfl rfl rfl rfl rfl rfl rfl k_error1 (fun v5 s5 p5 => ?_)
       obtain ⟨rfl, rfl⟩ := p5
       refine w_retI rfl ?_
       exact ⟨rfl, rfl⟩)
theorem x_put_n {d : Nat} {s : mSt} (hI : IvD s) {w i v : Int} (hrw : -2147483648 ≤ w ∧ w < 2147483648) (hS : IvS s) (hw : ¬ (0 ≤ w ∧ w ≤ 3)) : CI (d + 2) 131 [.inr (.inr 10), .inl w, .inl i, .inl v] (s) (fun r s1 => r = -1000000000 - 1 ∧ s1 = us s 132 1 (s 132 1 + 1)) := by
  refine CI.mk rfl ?_
  show WP (d + 2) 131 0 [some (.inr (.inr 10)), some (.inl w), some (.inl i), some (.inl v), none] [] (encA (s)) _
  have hI0 := hI
  obtain ⟨⟨hM, hC, hN⟩, hV, h8⟩ := hI
  have hV0 := hV
  have hM0 := hM
  obtain ⟨vc, vpl, vga, vse, vne, veg, vre, vtu, vta, vwa, v36, v37, v39, v40, v42, v41, v43, v44, vl0, vl1, vlm⟩ := hV
  obtain ⟨hM39, hM40, hM41, hM43, hM44, hM36, hM37, hM38, hMc, hMw, hMp, hMt, hMb⟩ := hM
  refine w_ldI rfl rfl ?_
  refine w_call rfl rfl rfl (k_isSheet (by omega)) ?_
  refine w_bNe0 rfl (fun b2 => ?_) (fun b2 => ?_)
  · first
    | (exfalso; omega)
    | (exfalso; omega)
  · first
    | (exfalso; omega)
    | (refine w_ldR rfl rfl rfl ?_
       refine w_push rfl ?_
       refine w_callWI rfl rfl rfl rfl rfl rfl rfl k_error1 (fun v5 s5 p5 => ?_)
       obtain ⟨rfl, rfl⟩ := p5
       refine w_retI rfl ?_
       exact ⟨rfl, rfl⟩)
theorem x_put_m {d : Nat} {s : mSt} (hI : IvD s) {w i v : Int} (hrw : -2147483648 ≤ w ∧ w < 2147483648) (hS : IvS s) (hw : 0 ≤ w ∧ w ≤ 3) (hb : s 160 w.toNat = 0) : CI (d + 2) 131 [.inr (.inr 10), .inl w, .inl i, .inl v] (s) (fun r s1 => r = -1000000000 - 2 ∧ s1 = us s 132 2 (s 132 2 + 1)) := by
  refine CI.mk rfl ?_
  show WP (d + 2) 131 0 [some (.inr (.inr 10)), some (.inl w), some (.inl i), some (.inl v), none] [] (encA (s)) _
  have hI0 := hI
  obtain ⟨⟨hM, hC, hN⟩, hV, h8⟩ := hI
  have hV0 := hV
  have hM0 := hM
  obtain ⟨vc, vpl, vga, vse, vne, veg, vre, vtu, vta, vwa, v36, v37, v39, v40, v42, v41, v43, v44, vl0, vl1, vlm⟩ := hV
  obtain ⟨hM39, hM40, hM41, hM43, hM44, hM36, hM37, hM38, hMc, hMw, hMp, hMt, hMb⟩ := hM
  have hsa := hS.at hw
  refine w_ldI rfl rfl ?_
  refine w_call rfl rfl rfl (k_isSheet (by omega)) ?_
  refine w_bNe0 rfl (fun b2 => ?_) (fun b2 => ?_)
  · first
    | (exfalso; omega)
    | (refine w_ldR rfl rfl rfl ?_
       refine w_ldI rfl rfl ?_
       refine w_callV rfl rfl rfl rfl rfl rfl rfl (k_isMissing (by omega) (by have := hS.at (w := w) (by omega); omega)) ?_
       refine w_bEq0 rfl (fun b10 => ?_) (fun b10 => ?_)
       · first
         | (exfalso; omega)
         | (exfalso; omega)
       · first
         | (exfalso; omega)
         | (refine w_ldR rfl rfl rfl ?_
            refine w_push rfl ?_
            refine w_callWI rfl rfl rfl rfl rfl rfl rfl k_error2 (fun v13 s13 p13 => ?_)
            obtain ⟨rfl, rfl⟩ := p13
            refine w_retI rfl ?_
            exact ⟨rfl, rfl⟩))
  · first
    | (exfalso; omega)
    | (refine w_ldR rfl rfl rfl ?_
       refine w_push rfl ?_
       refine w_callWI rfl rfl rfl rfl rfl rfl rfl k_error2 (fun v5 s5 p5 => ?_)
       obtain ⟨rfl, rfl⟩ := p5
       refine w_retI rfl ?_
       exact ⟨rfl, rfl⟩)
theorem m_put_y {d : Nat} {s : mSt} {D : Nat → Int} (hD : s 147 = D) (hM : MOk D) (hC : COk D) {w i v : Int} (hrw : -2147483648 ≤ w ∧ w < 2147483648) (hri : -2147483648 ≤ i ∧ i < 2147483648) (hw : 0 ≤ w ∧ w ≤ 3) (hsz : (s 160 w.toNat = 0 ∨ s 160 w.toNat = 8 ∨ s 160 w.toNat = 16 ∨ s 160 w.toNat = 32) ∧ (0 ≤ s 161 w.toNat ∧ s 161 w.toNat ≤ 40)) (hb : ¬ s 160 w.toNat = 0) (hi : 0 ≤ i ∧ i < s 161 w.toNat) : CI (d + 2) 255 [.inr (.inr 146), .inl w, .inl i, .inl v] (s) (fun q s1 => q = 1 ∧ s1 = us s 162 (40 * w + i).toNat (if s 160 w.toNat = 8 then m_i2b v else if s 160 w.toNat = 16 then m_i2s v else v)) := by
  refine CI.mk rfl ?_
  show WP (d + 2) 255 0 [some (.inr (.inr 146)), some (.inl w), some (.inl i), some (.inl v)] [] (encA (s)) _
  have hM0 := hM
  obtain ⟨hM39, hM40, hM41, hM43, hM44, hM36, hM37, hM38, hMc, hMw, hMp, hMt, hMb⟩ := hM
  refine w_ldI rfl rfl ?_
  refine w_call rfl rfl rfl (c_isSheet (by omega)) ?_
  refine w_bNe0 rfl (fun b2 => ?_) (fun b2 => ?_)
  · first
    | (exfalso; omega)
    | (refine w_ldR rfl rfl rfl ?_
       first | refine w_getI rfl rfl rfl rfl rfl ?_ | refine w_getR rfl rfl rfl rfl rfl ?_
       refine w_ldI rfl rfl ?_
       refine w_ald rfl rfl rfl (by omega) rfl ?_
       refine w_irNe0 rfl (by omega) (fun b11 => ?_) (fun b11 => ?_)
       · first
         | (exfalso; omega)
         | (refine w_ldI rfl rfl ?_
            refine w_i2lr rfl (by omega) ?_
            refine w_push rfl ?_
            refine w_ldR rfl rfl rfl ?_
            first | refine w_getI rfl rfl rfl rfl rfl ?_ | refine w_getR rfl rfl rfl rfl rfl ?_
            refine w_ldI rfl rfl ?_
            refine w_ald rfl rfl rfl (by omega) rfl ?_
            refine w_push rfl ?_
            refine w_sub rfl ?_
            refine w_i2lr rfl (by omega) ?_
            refine w_call rfl rfl rfl (r_in (by omega) (by omega) (by omega)) ?_
            refine w_bNe0 rfl (fun b27 => ?_) (fun b27 => ?_)
            · first
              | (exfalso; omega)
              | (refine w_ldR rfl rfl rfl ?_
                 first | refine w_getI rfl rfl rfl rfl rfl ?_ | refine w_getR rfl rfl rfl rfl rfl ?_
                 refine w_push rfl ?_
                 refine w_ldI rfl rfl ?_
                 refine w_mul rfl ?_
                 refine w_ldI rfl rfl ?_
                 refine w_add rfl ?_
                 refine w_ldR rfl rfl rfl ?_
                 first | refine w_getI rfl rfl rfl rfl rfl ?_ | refine w_getR rfl rfl rfl rfl rfl ?_
                 refine w_ldI rfl rfl ?_
                 refine w_ald rfl rfl rfl (by omega) rfl ?_
                 refine w_push rfl ?_
                 refine w_crNe rfl (by omega) (by omega) (fun b44 => ?_) (fun b44 => ?_)
                 · first
                   | (exfalso; omega)
                   | (refine w_ldR rfl rfl rfl ?_
                      first | refine w_getI rfl rfl rfl rfl rfl ?_ | refine w_getR rfl rfl rfl rfl rfl ?_
                      refine w_ldI rfl rfl ?_
                      refine w_ald rfl rfl rfl (by omega) rfl ?_
                      refine w_push rfl ?_
                      refine w_crNe rfl (by omega) (by omega) (fun b53 => ?_) (fun b53 => ?_)
                      · first
                        | (exfalso; omega)
                        | (refine w_ldI rfl rfl ?_
                           refine w_ast rfl rfl rfl (by omega) rfl ?_
                           refine w_push rfl ?_
                           refine w_retI rfl ?_
                           first
                           | (rw [if_pos (by omega)]; exact ⟨rfl, rfl⟩)
                           | (rw [if_neg (by omega), if_pos (by omega)]; exact ⟨rfl, rfl⟩)
                           | (rw [if_neg (by omega), if_neg (by omega)]; exact ⟨rfl, rfl⟩))
                      · first
                        | (exfalso; omega)
                        | (refine w_ldI rfl rfl ?_
                           refine w_un rfl ?_
                           refine w_go rfl ?_
                           refine w_ast rfl rfl rfl (by omega) rfl ?_
                           refine w_push rfl ?_
                           refine w_retI rfl ?_
                           first
                           | (rw [if_pos (by omega)]; exact ⟨rfl, rfl⟩)
                           | (rw [if_neg (by omega), if_pos (by omega)]; exact ⟨rfl, rfl⟩)
                           | (rw [if_neg (by omega), if_neg (by omega)]; exact ⟨rfl, rfl⟩)))
                 · first
                   | (exfalso; omega)
                   | (refine w_ldI rfl rfl ?_
                      refine w_un rfl ?_
                      refine w_go rfl ?_
                      refine w_ast rfl rfl rfl (by omega) rfl ?_
                      refine w_push rfl ?_
                      refine w_retI rfl ?_
                      first
                      | (rw [if_pos (by omega)]; exact ⟨rfl, rfl⟩)
                      | (rw [if_neg (by omega), if_pos (by omega)]; exact ⟨rfl, rfl⟩)
                      | (rw [if_neg (by omega), if_neg (by omega)]; exact ⟨rfl, rfl⟩)))
            · first
              | (exfalso; omega)
              | (refine w_ldR rfl rfl rfl ?_
                 refine w_push rfl ?_
                 refine w_callV rfl rfl rfl rfl rfl rfl rfl r_finds1 ?_
                 refine w_retI rfl ?_
                 first
                 | (rw [if_pos (by omega)]; exact ⟨rfl, rfl⟩)
                 | (rw [if_neg (by omega), if_pos (by omega)]; exact ⟨rfl, rfl⟩)
                 | (rw [if_neg (by omega), if_neg (by omega)]; exact ⟨rfl, rfl⟩)))
       · first
         | (exfalso; omega)
         | (refine w_ldR rfl rfl rfl ?_
            refine w_push rfl ?_
            refine w_callV rfl rfl rfl rfl rfl rfl rfl r_finds1 ?_
            refine w_retI rfl ?_
            first
            | (rw [if_pos (by omega)]; exact ⟨rfl, rfl⟩)
            | (rw [if_neg (by omega), if_pos (by omega)]; exact ⟨rfl, rfl⟩)
            | (rw [if_neg (by omega), if_neg (by omega)]; exact ⟨rfl, rfl⟩)))
  · first
    | (exfalso; omega)
    | (refine w_ldR rfl rfl rfl ?_
       refine w_push rfl ?_
       refine w_callV rfl rfl rfl rfl rfl rfl rfl r_finds1 ?_
       refine w_retI rfl ?_
       first
       | (rw [if_pos (by omega)]; exact ⟨rfl, rfl⟩)
       | (rw [if_neg (by omega), if_pos (by omega)]; exact ⟨rfl, rfl⟩)
       | (rw [if_neg (by omega), if_neg (by omega)]; exact ⟨rfl, rfl⟩))
theorem m_put_i {d : Nat} {s : mSt} {D : Nat → Int} (hD : s 147 = D) (hM : MOk D) (hC : COk D) {w i v : Int} (hrw : -2147483648 ≤ w ∧ w < 2147483648) (hri : -2147483648 ≤ i ∧ i < 2147483648) (hw : 0 ≤ w ∧ w ≤ 3) (hsz : (s 160 w.toNat = 0 ∨ s 160 w.toNat = 8 ∨ s 160 w.toNat = 16 ∨ s 160 w.toNat = 32) ∧ (0 ≤ s 161 w.toNat ∧ s 161 w.toNat ≤ 40)) (hb : ¬ s 160 w.toNat = 0) (hi : ¬ (0 ≤ i ∧ i < s 161 w.toNat)) : CI (d + 2) 255 [.inr (.inr 146), .inl w, .inl i, .inl v] (s) (fun r s1 => r = -1000000000 - 1 ∧ s1 = us s 150 1 (s 150 1 + 1)) := by
  refine CI.mk rfl ?_
  show WP (d + 2) 255 0 [some (.inr (.inr 146)), some (.inl w), some (.inl i), some (.inl v)] [] (encA (s)) _
  have hM0 := hM
  obtain ⟨hM39, hM40, hM41, hM43, hM44, hM36, hM37, hM38, hMc, hMw, hMp, hMt, hMb⟩ := hM
  refine w_ldI rfl rfl ?_
  refine w_call rfl rfl rfl (c_isSheet (by omega)) ?_
  refine w_bNe0 rfl (fun b2 => ?_) (fun b2 => ?_)
  · first
    | (exfalso; omega)
    | (refine w_ldR rfl rfl rfl ?_
       first | refine w_getI rfl rfl rfl rfl rfl ?_ | refine w_getR rfl rfl rfl rfl rfl ?_
       refine w_ldI rfl rfl ?_
       refine w_ald rfl rfl rfl (by omega) rfl ?_
       refine w_irNe0 rfl (by omega) (fun b11 => ?_) (fun b11 => ?_)
       · first
         | (exfalso; omega)
         | (refine w_ldI rfl rfl ?_
            refine w_i2lr rfl (by omega) ?_
            refine w_push rfl ?_
            refine w_ldR rfl rfl rfl ?_
            first | refine w_getI rfl rfl rfl rfl rfl ?_ | refine w_getR rfl rfl rfl rfl rfl ?_
            refine w_ldI rfl rfl ?_
            refine w_ald rfl rfl rfl (by omega) rfl ?_
            refine w_push rfl ?_
            refine w_sub rfl ?_
            refine w_i2lr rfl (by omega) ?_
            refine w_call rfl rfl rfl (r_in (by omega) (by omega) (by omega)) ?_
            refine w_bNe0 rfl (fun b27 => ?_) (fun b27 => ?_)
            · first
              | (exfalso; omega)
              | (exfalso; omega)
            · first
              | (exfalso; omega)
              | (refine w_ldR rfl rfl rfl ?_
                 refine w_push rfl ?_
                 refine w_callV rfl rfl rfl rfl rfl rfl rfl r_finds1 ?_
                 refine w_retI rfl ?_
                 exact ⟨rfl, rfl⟩))
       · first
         | (exfalso; omega)
         | (refine w_ldR rfl rfl rfl ?_
            refine w_push rfl ?_
            refine w_callV rfl rfl rfl rfl rfl rfl rfl r_finds1 ?_
            refine w_retI rfl ?_
            exact ⟨rfl, rfl⟩))
  · first
    | (exfalso; omega)
    | (refine w_ldR rfl rfl rfl ?_
       refine w_push rfl ?_
       refine w_callV rfl rfl rfl rfl rfl rfl rfl r_finds1 ?_
       refine w_retI rfl ?_
       exact ⟨rfl, rfl⟩)
theorem m_put_m {d : Nat} {s : mSt} {D : Nat → Int} (hD : s 147 = D) (hM : MOk D) (hC : COk D) {w i v : Int} (hrw : -2147483648 ≤ w ∧ w < 2147483648) (hri : -2147483648 ≤ i ∧ i < 2147483648) (hw : 0 ≤ w ∧ w ≤ 3) (hsz : (s 160 w.toNat = 0 ∨ s 160 w.toNat = 8 ∨ s 160 w.toNat = 16 ∨ s 160 w.toNat = 32) ∧ (0 ≤ s 161 w.toNat ∧ s 161 w.toNat ≤ 40)) (hb : s 160 w.toNat = 0) : CI (d + 2) 255 [.inr (.inr 146), .inl w, .inl i, .inl v] (s) (fun r s1 => r = -1000000000 - 2 ∧ s1 = us s 150 2 (s 150 2 + 1)) := by
  refine CI.mk rfl ?_
  show WP (d + 2) 255 0 [some (.inr (.inr 146)), some (.inl w), some (.inl i), some (.inl v)] [] (encA (s)) _
  have hM0 := hM
  obtain ⟨hM39, hM40, hM41, hM43, hM44, hM36, hM37, hM38, hMc, hMw, hMp, hMt, hMb⟩ := hM
  refine w_ldI rfl rfl ?_
  refine w_call rfl rfl rfl (c_isSheet (by omega)) ?_
  refine w_bNe0 rfl (fun b2 => ?_) (fun b2 => ?_)
  · first
    | (exfalso; omega)
    | (refine w_ldR rfl rfl rfl ?_
       first | refine w_getI rfl rfl rfl rfl rfl ?_ | refine w_getR rfl rfl rfl rfl rfl ?_
       refine w_ldI rfl rfl ?_
       refine w_ald rfl rfl rfl (by omega) rfl ?_
       refine w_irNe0 rfl (by omega) (fun b11 => ?_) (fun b11 => ?_)
       · first
         | (exfalso; omega)
         | (exfalso; omega)
       · first
         | (exfalso; omega)
         | (refine w_ldR rfl rfl rfl ?_
            refine w_push rfl ?_
            refine w_callV rfl rfl rfl rfl rfl rfl rfl r_finds2 ?_
            refine w_retI rfl ?_
            exact ⟨rfl, rfl⟩))
  · first
    | (exfalso; omega)
    | (refine w_ldR rfl rfl rfl ?_
       refine w_push rfl ?_
       refine w_callV rfl rfl rfl rfl rfl rfl rfl r_finds2 ?_
       refine w_retI rfl ?_
       exact ⟨rfl, rfl⟩)
theorem m_put_n {d : Nat} {s : mSt} {D : Nat → Int} (hD : s 147 = D) (hM : MOk D) (hC : COk D) {w i v : Int} (hrw : -2147483648 ≤ w ∧ w < 2147483648) (hri : -2147483648 ≤ i ∧ i < 2147483648) (hw : ¬ (0 ≤ w ∧ w ≤ 3)) : CI (d + 2) 255 [.inr (.inr 146), .inl w, .inl i, .inl v] (s) (fun r s1 => r = -1000000000 - 1 ∧ s1 = us s 150 1 (s 150 1 + 1)) := by
  refine CI.mk rfl ?_
  show WP (d + 2) 255 0 [some (.inr (.inr 146)), some (.inl w), some (.inl i), some (.inl v)] [] (encA (s)) _
  have hM0 := hM
  obtain ⟨hM39, hM40, hM41, hM43, hM44, hM36, hM37, hM38, hMc, hMw, hMp, hMt, hMb⟩ := hM
  refine w_ldI rfl rfl ?_
  refine w_call rfl rfl rfl (c_isSheet (by omega)) ?_
  refine w_bNe0 rfl (fun b2 => ?_) (fun b2 => ?_)
  · first
    | (exfalso; omega)
    | (exfalso; omega)
  · first
    | (exfalso; omega)
    | (refine w_ldR rfl rfl rfl ?_
       refine w_push rfl ?_
       refine w_callV rfl rfl rfl rfl rfl rfl rfl r_finds1 ?_
       refine w_retI rfl ?_
       exact ⟨rfl, rfl⟩)
theorem st_put {X : Nat → Int} {N : Int} {d : Nat} {s : mSt} {cnt : Int} (hI : Inv X N s cnt) {w i v : Int} (hrw : -2147483648 ≤ w ∧ w < 2147483648) (hri : -2147483648 ≤ i ∧ i < 2147483648) (hrv : -2147483648 ≤ v ∧ v < 2147483648) : Step X N (d + 150) s cnt 131 255 [.inl w, .inl i, .inl v] := by
  have hI0 := hI
  obtain ⟨hD, -, -, -, -, hT, -, hX, hU⟩ := hI
  have hD0 := hD
  obtain ⟨⟨hM, hC, hN⟩, hV, h8⟩ := hD
  have hV0 := hV
  have hM0 := hM
  obtain ⟨vc, vpl, vga, vse, vne, veg, vre, vtu, vta, vwa, v36, v37, v39, v40, v42, v41, v43, v44, vl0, vl1, vlm⟩ := hV
  obtain ⟨hM39, hM40, hM41, hM43, hM44, hM36, hM37, hM38, hMc, hMw, hMp, hMt, hMb⟩ := hM
  have hS := hI0.2.2.2.2.1
  by_cases hy : 0 ≤ w ∧ w ≤ 3
  · by_cases hb0 : s 160 w.toNat = 0
    · obtain ⟨r1, s1, k1, hr, hs1⟩ := x_put_m (d := d + 148) hD0 (i := i) (v := v) hrw hS hy hb0
      have e : s1 147 = s 147 := by rw [hs1]; exact us_ne (by decide)
      obtain ⟨r2, s2, k2, hr2, hs2⟩ := m_put_m (d := d + 148) (s := s1) e hM0 hC (v := v) hrw hri hy (by rw [hs1, us_ne (by decide), us_ne (by decide)]; exact (hS.at hy).2) (by rw [hs1, us_ne (by decide)]; exact hb0)
      rw [hs2] at k2
      exact Step.mk (by first | exact ⟨(f1.at 1 rfl).trans hX.2.1, (congrFun (f1.at 0 rfl) 1).trans hX.2.2⟩ | exact ⟨hX.2.1, hX.2.2⟩ | exact ⟨by rw [hs1, us_ne (by decide)]; exact hX.2.1, by rw [hs1, us_ne (by decide)]; exact hX.2.2⟩ | exact ⟨by rw [hs1, us_ne (by decide), us_ne (by decide)]; exact hX.2.1, by rw [hs1, us_ne (by decide), us_ne (by decide)]; exact hX.2.2⟩ | exact ⟨by rw [e1, us_ne (by decide), f1.at 1 rfl]; exact hX.2.1, by rw [e1, us_ne (by decide), f1.at 0 rfl]; exact hX.2.2⟩ | exact ⟨by rw [ft.at 1 rfl, hx 1 (by decide) (by decide)]; exact hX.2.1, by rw [ft.at 0 rfl, et, newL_0, mup_ne (by decide)]; exact hX.2.2⟩) k1 k2 (by rw [hr, hr2]) (hI0.err2 hs1)
    · rcases (show w = 0 ∨ w = 1 ∨ w = 2 ∨ w = 3 by omega) with rfl | rfl | rfl | rfl
      · by_cases hb : s 160 0 = 0
        · exact absurd hb hb0
        · by_cases hi : 0 ≤ i ∧ i < s 161 0
          · obtain ⟨r1, s1, k1, hr, hs1⟩ := x_put_y0 (d := d + 148) (v := v) hD0 hri hS hb hi
            have e : s1 147 = s 147 := by rw [hs1, us_ne (by decide)]
            have a6 : s1 160 = s 160 := by rw [hs1, us_ne (by decide)]
            have a7 : s1 161 = s 161 := by rw [hs1, us_ne (by decide)]
            obtain ⟨r2, s2, k2, hr2, hs2⟩ := m_put_y (d := d + 148) (s := s1) (w := 0) (v := v) e hM0 hC hrw hri (by omega) (by rw [a6, a7]; exact (hS.at (w := 0) (by omega)).2) (by rw [a6]; exact hb) (by rw [a7]; exact hi)
            have a131 : s2 131 0 = s 131 0 := by rw [hs2, us_ne (by decide), hs1, us_ne (by decide)]
            have a160 : s2 160 0 = s 160 0 := by rw [hs2, us_ne (by decide), a6]
            have a161 : s2 161 0 = s 161 0 := by rw [hs2, us_ne (by decide), a7]
            refine Step.mk (by first | exact ⟨(f1.at 1 rfl).trans hX.2.1, (congrFun (f1.at 0 rfl) 1).trans hX.2.2⟩ | exact ⟨hX.2.1, hX.2.2⟩ | exact ⟨by rw [hs1, us_ne (by decide)]; exact hX.2.1, by rw [hs1, us_ne (by decide)]; exact hX.2.2⟩ | exact ⟨by rw [hs1, us_ne (by decide), us_ne (by decide)]; exact hX.2.1, by rw [hs1, us_ne (by decide), us_ne (by decide)]; exact hX.2.2⟩ | exact ⟨by rw [e1, us_ne (by decide), f1.at 1 rfl]; exact hX.2.1, by rw [e1, us_ne (by decide), f1.at 0 rfl]; exact hX.2.2⟩ | exact ⟨by rw [ft.at 1 rfl, hx 1 (by decide) (by decide)]; exact hX.2.1, by rw [ft.at 0 rfl, et, newL_0, mup_ne (by decide)]; exact hX.2.2⟩) k1 k2 (by rw [hr, hr2]) (hI0.sht (A := [139, 162]) rfl (by omega) (by rw [hs2, hs1]; exact (Fr.us rfl).tr (Fr.us rfl)) ?_)
            have hsz := hS.at (w := 0) (by omega)
            obtain ⟨hS0, hS1, hS2, hS3⟩ := hS
            have hsi : 0 ≤ i ∧ i < 40 := by have := hS0.2.2.1; omega
            exact ⟨⟨by rw [a131, a160]; exact hS0.1, by rw [a160]; exact hS0.2.1, by rw [a161]; exact hS0.2.2.1, by rw [hs2, us_ne (by decide), hs1, us_ne (by decide), us_ne (by decide)]; exact hS0.2.2.2.1, fun j j0 j1 => by
              rw [a160, hs2, us_ne (show (138 + 1 : Nat) ≠ 162 by decide), us_eq, hs1, us_eq, us_ne (show (160 : Nat) ≠ 138 + 1 by decide), us_ne (show (162 : Nat) ≠ 138 + 1 by decide)]
              by_cases e : j = i
              · subst e
                rw [mup_eq, show (40 * ((0 : Nat) : Int) + j).toNat = (40 * 0 + j).toNat from rfl, mup_eq]
                exact put_ok (by have := hS0.2.1; omega) hrv
              · rw [mup_ne (by omega), mup_ne (by omega)]; exact hS0.2.2.2.2 j j0 j1⟩,
              hS1.cg (by rw [hs2, us_ne (by decide), hs1, us_ne (by decide)]) (by rw [hs2, us_ne (by decide), hs1, us_ne (by decide)]) (by rw [hs2, us_ne (by decide), hs1, us_ne (by decide)]) (by rw [hs2, us_ne (by decide), hs1, us_ne (by decide)]) (by rw [hs2, us_ne (by decide), hs1, us_ne (by decide)]) (fun j j0 j1 => by rw [hs2, us_eq, mup_ne (by omega), hs1, us_ne (by decide)]),
              hS2.cg (by rw [hs2, us_ne (by decide), hs1, us_ne (by decide)]) (by rw [hs2, us_ne (by decide), hs1, us_ne (by decide)]) (by rw [hs2, us_ne (by decide), hs1, us_ne (by decide)]) (by rw [hs2, us_ne (by decide), hs1, us_ne (by decide)]) (by rw [hs2, us_ne (by decide), hs1, us_ne (by decide)]) (fun j j0 j1 => by rw [hs2, us_eq, mup_ne (by omega), hs1, us_ne (by decide)]),
              hS3.cg (by rw [hs2, us_ne (by decide), hs1, us_ne (by decide)]) (by rw [hs2, us_ne (by decide), hs1, us_ne (by decide)]) (by rw [hs2, us_ne (by decide), hs1, us_ne (by decide)]) (by rw [hs2, us_ne (by decide), hs1, us_ne (by decide)]) (by rw [hs2, us_ne (by decide), hs1, us_ne (by decide)]) (fun j j0 j1 => by rw [hs2, us_eq, mup_ne (by omega), hs1, us_ne (by decide)])⟩
          · obtain ⟨r1, s1, k1, hr, hs1⟩ := x_put_i0 (d := d + 148) hD0 (v := v) hri hS hb hi
            have e : s1 147 = s 147 := by rw [hs1]; exact us_ne (by decide)
            obtain ⟨r2, s2, k2, hr2, hs2⟩ := m_put_i (d := d + 148) (s := s1) e hM0 hC (w := 0) (v := v) hrw hri (by omega) (by rw [hs1, us_ne (by decide), us_ne (by decide)]; exact (hS.at (w := 0) (by omega)).2) (by rw [hs1, us_ne (by decide)]; exact hb) (by rw [hs1, us_ne (by decide)]; exact hi)
            rw [hs2] at k2
            exact Step.mk (by first | exact ⟨(f1.at 1 rfl).trans hX.2.1, (congrFun (f1.at 0 rfl) 1).trans hX.2.2⟩ | exact ⟨hX.2.1, hX.2.2⟩ | exact ⟨by rw [hs1, us_ne (by decide)]; exact hX.2.1, by rw [hs1, us_ne (by decide)]; exact hX.2.2⟩ | exact ⟨by rw [hs1, us_ne (by decide), us_ne (by decide)]; exact hX.2.1, by rw [hs1, us_ne (by decide), us_ne (by decide)]; exact hX.2.2⟩ | exact ⟨by rw [e1, us_ne (by decide), f1.at 1 rfl]; exact hX.2.1, by rw [e1, us_ne (by decide), f1.at 0 rfl]; exact hX.2.2⟩ | exact ⟨by rw [ft.at 1 rfl, hx 1 (by decide) (by decide)]; exact hX.2.1, by rw [ft.at 0 rfl, et, newL_0, mup_ne (by decide)]; exact hX.2.2⟩) k1 k2 (by rw [hr, hr2]) (hI0.err2 hs1)
      · by_cases hb : s 160 1 = 0
        · exact absurd hb hb0
        · by_cases hi : 0 ≤ i ∧ i < s 161 1
          · obtain ⟨r1, s1, k1, hr, hs1⟩ := x_put_y1 (d := d + 148) (v := v) hD0 hri hS hb hi
            have e : s1 147 = s 147 := by rw [hs1, us_ne (by decide)]
            have a6 : s1 160 = s 160 := by rw [hs1, us_ne (by decide)]
            have a7 : s1 161 = s 161 := by rw [hs1, us_ne (by decide)]
            obtain ⟨r2, s2, k2, hr2, hs2⟩ := m_put_y (d := d + 148) (s := s1) (w := 1) (v := v) e hM0 hC hrw hri (by omega) (by rw [a6, a7]; exact (hS.at (w := 1) (by omega)).2) (by rw [a6]; exact hb) (by rw [a7]; exact hi)
            have a131 : s2 131 1 = s 131 1 := by rw [hs2, us_ne (by decide), hs1, us_ne (by decide)]
            have a160 : s2 160 1 = s 160 1 := by rw [hs2, us_ne (by decide), a6]
            have a161 : s2 161 1 = s 161 1 := by rw [hs2, us_ne (by decide), a7]
            refine Step.mk (by first | exact ⟨(f1.at 1 rfl).trans hX.2.1, (congrFun (f1.at 0 rfl) 1).trans hX.2.2⟩ | exact ⟨hX.2.1, hX.2.2⟩ | exact ⟨by rw [hs1, us_ne (by decide)]; exact hX.2.1, by rw [hs1, us_ne (by decide)]; exact hX.2.2⟩ | exact ⟨by rw [hs1, us_ne (by decide), us_ne (by decide)]; exact hX.2.1, by rw [hs1, us_ne (by decide), us_ne (by decide)]; exact hX.2.2⟩ | exact ⟨by rw [e1, us_ne (by decide), f1.at 1 rfl]; exact hX.2.1, by rw [e1, us_ne (by decide), f1.at 0 rfl]; exact hX.2.2⟩ | exact ⟨by rw [ft.at 1 rfl, hx 1 (by decide) (by decide)]; exact hX.2.1, by rw [ft.at 0 rfl, et, newL_0, mup_ne (by decide)]; exact hX.2.2⟩) k1 k2 (by rw [hr, hr2]) (hI0.sht (A := [141, 162]) rfl (by omega) (by rw [hs2, hs1]; exact (Fr.us rfl).tr (Fr.us rfl)) ?_)
            have hsz := hS.at (w := 1) (by omega)
            obtain ⟨hS0, hS1, hS2, hS3⟩ := hS
            have hsi : 0 ≤ i ∧ i < 40 := by have := hS1.2.2.1; omega
            exact ⟨hS0.cg (by rw [hs2, us_ne (by decide), hs1, us_ne (by decide)]) (by rw [hs2, us_ne (by decide), hs1, us_ne (by decide)]) (by rw [hs2, us_ne (by decide), hs1, us_ne (by decide)]) (by rw [hs2, us_ne (by decide), hs1, us_ne (by decide)]) (by rw [hs2, us_ne (by decide), hs1, us_ne (by decide)]) (fun j j0 j1 => by rw [hs2, us_eq, mup_ne (by omega), hs1, us_ne (by decide)]),
              ⟨by rw [a131, a160]; exact hS1.1, by rw [a160]; exact hS1.2.1, by rw [a161]; exact hS1.2.2.1, by rw [hs2, us_ne (by decide), hs1, us_ne (by decide), us_ne (by decide)]; exact hS1.2.2.2.1, fun j j0 j1 => by
              rw [a160, hs2, us_ne (show (140 + 1 : Nat) ≠ 162 by decide), us_eq, hs1, us_eq, us_ne (show (160 : Nat) ≠ 140 + 1 by decide), us_ne (show (162 : Nat) ≠ 140 + 1 by decide)]
              by_cases e : j = i
              · subst e
                rw [mup_eq, show (40 * ((1 : Nat) : Int) + j).toNat = (40 * 1 + j).toNat from rfl, mup_eq]
                exact put_ok (by have := hS1.2.1; omega) hrv
              · rw [mup_ne (by omega), mup_ne (by omega)]; exact hS1.2.2.2.2 j j0 j1⟩,
              hS2.cg (by rw [hs2, us_ne (by decide), hs1, us_ne (by decide)]) (by rw [hs2, us_ne (by decide), hs1, us_ne (by decide)]) (by rw [hs2, us_ne (by decide), hs1, us_ne (by decide)]) (by rw [hs2, us_ne (by decide), hs1, us_ne (by decide)]) (by rw [hs2, us_ne (by decide), hs1, us_ne (by decide)]) (fun j j0 j1 => by rw [hs2, us_eq, mup_ne (by omega), hs1, us_ne (by decide)]),
              hS3.cg (by rw [hs2, us_ne (by decide), hs1, us_ne (by decide)]) (by rw [hs2, us_ne (by decide), hs1, us_ne (by decide)]) (by rw [hs2, us_ne (by decide), hs1, us_ne (by decide)]) (by rw [hs2, us_ne (by decide), hs1, us_ne (by decide)]) (by rw [hs2, us_ne (by decide), hs1, us_ne (by decide)]) (fun j j0 j1 => by rw [hs2, us_eq, mup_ne (by omega), hs1, us_ne (by decide)])⟩
          · obtain ⟨r1, s1, k1, hr, hs1⟩ := x_put_i1 (d := d + 148) hD0 (v := v) hri hS hb hi
            have e : s1 147 = s 147 := by rw [hs1]; exact us_ne (by decide)
            obtain ⟨r2, s2, k2, hr2, hs2⟩ := m_put_i (d := d + 148) (s := s1) e hM0 hC (w := 1) (v := v) hrw hri (by omega) (by rw [hs1, us_ne (by decide), us_ne (by decide)]; exact (hS.at (w := 1) (by omega)).2) (by rw [hs1, us_ne (by decide)]; exact hb) (by rw [hs1, us_ne (by decide)]; exact hi)
            rw [hs2] at k2
            exact Step.mk (by first | exact ⟨(f1.at 1 rfl).trans hX.2.1, (congrFun (f1.at 0 rfl) 1).trans hX.2.2⟩ | exact ⟨hX.2.1, hX.2.2⟩ | exact ⟨by rw [hs1, us_ne (by decide)]; exact hX.2.1, by rw [hs1, us_ne (by decide)]; exact hX.2.2⟩ | exact ⟨by rw [hs1, us_ne (by decide), us_ne (by decide)]; exact hX.2.1, by rw [hs1, us_ne (by decide), us_ne (by decide)]; exact hX.2.2⟩ | exact ⟨by rw [e1, us_ne (by decide), f1.at 1 rfl]; exact hX.2.1, by rw [e1, us_ne (by decide), f1.at 0 rfl]; exact hX.2.2⟩ | exact ⟨by rw [ft.at 1 rfl, hx 1 (by decide) (by decide)]; exact hX.2.1, by rw [ft.at 0 rfl, et, newL_0, mup_ne (by decide)]; exact hX.2.2⟩) k1 k2 (by rw [hr, hr2]) (hI0.err2 hs1)
      · by_cases hb : s 160 2 = 0
        · exact absurd hb hb0
        · by_cases hi : 0 ≤ i ∧ i < s 161 2
          · obtain ⟨r1, s1, k1, hr, hs1⟩ := x_put_y2 (d := d + 148) (v := v) hD0 hri hS hb hi
            have e : s1 147 = s 147 := by rw [hs1, us_ne (by decide)]
            have a6 : s1 160 = s 160 := by rw [hs1, us_ne (by decide)]
            have a7 : s1 161 = s 161 := by rw [hs1, us_ne (by decide)]
            obtain ⟨r2, s2, k2, hr2, hs2⟩ := m_put_y (d := d + 148) (s := s1) (w := 2) (v := v) e hM0 hC hrw hri (by omega) (by rw [a6, a7]; exact (hS.at (w := 2) (by omega)).2) (by rw [a6]; exact hb) (by rw [a7]; exact hi)
            have a131 : s2 131 2 = s 131 2 := by rw [hs2, us_ne (by decide), hs1, us_ne (by decide)]
            have a160 : s2 160 2 = s 160 2 := by rw [hs2, us_ne (by decide), a6]
            have a161 : s2 161 2 = s 161 2 := by rw [hs2, us_ne (by decide), a7]
            refine Step.mk (by first | exact ⟨(f1.at 1 rfl).trans hX.2.1, (congrFun (f1.at 0 rfl) 1).trans hX.2.2⟩ | exact ⟨hX.2.1, hX.2.2⟩ | exact ⟨by rw [hs1, us_ne (by decide)]; exact hX.2.1, by rw [hs1, us_ne (by decide)]; exact hX.2.2⟩ | exact ⟨by rw [hs1, us_ne (by decide), us_ne (by decide)]; exact hX.2.1, by rw [hs1, us_ne (by decide), us_ne (by decide)]; exact hX.2.2⟩ | exact ⟨by rw [e1, us_ne (by decide), f1.at 1 rfl]; exact hX.2.1, by rw [e1, us_ne (by decide), f1.at 0 rfl]; exact hX.2.2⟩ | exact ⟨by rw [ft.at 1 rfl, hx 1 (by decide) (by decide)]; exact hX.2.1, by rw [ft.at 0 rfl, et, newL_0, mup_ne (by decide)]; exact hX.2.2⟩) k1 k2 (by rw [hr, hr2]) (hI0.sht (A := [143, 162]) rfl (by omega) (by rw [hs2, hs1]; exact (Fr.us rfl).tr (Fr.us rfl)) ?_)
            have hsz := hS.at (w := 2) (by omega)
            obtain ⟨hS0, hS1, hS2, hS3⟩ := hS
            have hsi : 0 ≤ i ∧ i < 40 := by have := hS2.2.2.1; omega
            exact ⟨hS0.cg (by rw [hs2, us_ne (by decide), hs1, us_ne (by decide)]) (by rw [hs2, us_ne (by decide), hs1, us_ne (by decide)]) (by rw [hs2, us_ne (by decide), hs1, us_ne (by decide)]) (by rw [hs2, us_ne (by decide), hs1, us_ne (by decide)]) (by rw [hs2, us_ne (by decide), hs1, us_ne (by decide)]) (fun j j0 j1 => by rw [hs2, us_eq, mup_ne (by omega), hs1, us_ne (by decide)]),
              hS1.cg (by rw [hs2, us_ne (by decide), hs1, us_ne (by decide)]) (by rw [hs2, us_ne (by decide), hs1, us_ne (by decide)]) (by rw [hs2, us_ne (by decide), hs1, us_ne (by decide)]) (by rw [hs2, us_ne (by decide), hs1, us_ne (by decide)]) (by rw [hs2, us_ne (by decide), hs1, us_ne (by decide)]) (fun j j0 j1 => by rw [hs2, us_eq, mup_ne (by omega), hs1, us_ne (by decide)]),
              ⟨by rw [a131, a160]; exact hS2.1, by rw [a160]; exact hS2.2.1, by rw [a161]; exact hS2.2.2.1, by rw [hs2, us_ne (by decide), hs1, us_ne (by decide), us_ne (by decide)]; exact hS2.2.2.2.1, fun j j0 j1 => by
              rw [a160, hs2, us_ne (show (142 + 1 : Nat) ≠ 162 by decide), us_eq, hs1, us_eq, us_ne (show (160 : Nat) ≠ 142 + 1 by decide), us_ne (show (162 : Nat) ≠ 142 + 1 by decide)]
              by_cases e : j = i
              · subst e
                rw [mup_eq, show (40 * ((2 : Nat) : Int) + j).toNat = (40 * 2 + j).toNat from rfl, mup_eq]
                exact put_ok (by have := hS2.2.1; omega) hrv
              · rw [mup_ne (by omega), mup_ne (by omega)]; exact hS2.2.2.2.2 j j0 j1⟩,
              hS3.cg (by rw [hs2, us_ne (by decide), hs1, us_ne (by decide)]) (by rw [hs2, us_ne (by decide), hs1, us_ne (by decide)]) (by rw [hs2, us_ne (by decide), hs1, us_ne (by decide)]) (by rw [hs2, us_ne (by decide), hs1, us_ne (by decide)]) (by rw [hs2, us_ne (by decide), hs1, us_ne (by decide)]) (fun j j0 j1 => by rw [hs2, us_eq, mup_ne (by omega), hs1, us_ne (by decide)])⟩
          · obtain ⟨r1, s1, k1, hr, hs1⟩ := x_put_i2 (d := d + 148) hD0 (v := v) hri hS hb hi
            have e : s1 147 = s 147 := by rw [hs1]; exact us_ne (by decide)
            obtain ⟨r2, s2, k2, hr2, hs2⟩ := m_put_i (d := d + 148) (s := s1) e hM0 hC (w := 2) (v := v) hrw hri (by omega) (by rw [hs1, us_ne (by decide), us_ne (by decide)]; exact (hS.at (w := 2) (by omega)).2) (by rw [hs1, us_ne (by decide)]; exact hb) (by rw [hs1, us_ne (by decide)]; exact hi)
            rw [hs2] at k2
            exact Step.mk (by first | exact ⟨(f1.at 1 rfl).trans hX.2.1, (congrFun (f1.at 0 rfl) 1).trans hX.2.2⟩ | exact ⟨hX.2.1, hX.2.2⟩ | exact ⟨by rw [hs1, us_ne (by decide)]; exact hX.2.1, by rw [hs1, us_ne (by decide)]; exact hX.2.2⟩ | exact ⟨by rw [hs1, us_ne (by decide), us_ne (by decide)]; exact hX.2.1, by rw [hs1, us_ne (by decide), us_ne (by decide)]; exact hX.2.2⟩ | exact ⟨by rw [e1, us_ne (by decide), f1.at 1 rfl]; exact hX.2.1, by rw [e1, us_ne (by decide), f1.at 0 rfl]; exact hX.2.2⟩ | exact ⟨by rw [ft.at 1 rfl, hx 1 (by decide) (by decide)]; exact hX.2.1, by rw [ft.at 0 rfl, et, newL_0, mup_ne (by decide)]; exact hX.2.2⟩) k1 k2 (by rw [hr, hr2]) (hI0.err2 hs1)
      · by_cases hb : s 160 3 = 0
        · exact absurd hb hb0
        · by_cases hi : 0 ≤ i ∧ i < s 161 3
          · obtain ⟨r1, s1, k1, hr, hs1⟩ := x_put_y3 (d := d + 148) (v := v) hD0 hri hS hb hi
            have e : s1 147 = s 147 := by rw [hs1, us_ne (by decide)]
            have a6 : s1 160 = s 160 := by rw [hs1, us_ne (by decide)]
            have a7 : s1 161 = s 161 := by rw [hs1, us_ne (by decide)]
            obtain ⟨r2, s2, k2, hr2, hs2⟩ := m_put_y (d := d + 148) (s := s1) (w := 3) (v := v) e hM0 hC hrw hri (by omega) (by rw [a6, a7]; exact (hS.at (w := 3) (by omega)).2) (by rw [a6]; exact hb) (by rw [a7]; exact hi)
            have a131 : s2 131 3 = s 131 3 := by rw [hs2, us_ne (by decide), hs1, us_ne (by decide)]
            have a160 : s2 160 3 = s 160 3 := by rw [hs2, us_ne (by decide), a6]
            have a161 : s2 161 3 = s 161 3 := by rw [hs2, us_ne (by decide), a7]
            refine Step.mk (by first | exact ⟨(f1.at 1 rfl).trans hX.2.1, (congrFun (f1.at 0 rfl) 1).trans hX.2.2⟩ | exact ⟨hX.2.1, hX.2.2⟩ | exact ⟨by rw [hs1, us_ne (by decide)]; exact hX.2.1, by rw [hs1, us_ne (by decide)]; exact hX.2.2⟩ | exact ⟨by rw [hs1, us_ne (by decide), us_ne (by decide)]; exact hX.2.1, by rw [hs1, us_ne (by decide), us_ne (by decide)]; exact hX.2.2⟩ | exact ⟨by rw [e1, us_ne (by decide), f1.at 1 rfl]; exact hX.2.1, by rw [e1, us_ne (by decide), f1.at 0 rfl]; exact hX.2.2⟩ | exact ⟨by rw [ft.at 1 rfl, hx 1 (by decide) (by decide)]; exact hX.2.1, by rw [ft.at 0 rfl, et, newL_0, mup_ne (by decide)]; exact hX.2.2⟩) k1 k2 (by rw [hr, hr2]) (hI0.sht (A := [145, 162]) rfl (by omega) (by rw [hs2, hs1]; exact (Fr.us rfl).tr (Fr.us rfl)) ?_)
            have hsz := hS.at (w := 3) (by omega)
            obtain ⟨hS0, hS1, hS2, hS3⟩ := hS
            have hsi : 0 ≤ i ∧ i < 40 := by have := hS3.2.2.1; omega
            exact ⟨hS0.cg (by rw [hs2, us_ne (by decide), hs1, us_ne (by decide)]) (by rw [hs2, us_ne (by decide), hs1, us_ne (by decide)]) (by rw [hs2, us_ne (by decide), hs1, us_ne (by decide)]) (by rw [hs2, us_ne (by decide), hs1, us_ne (by decide)]) (by rw [hs2, us_ne (by decide), hs1, us_ne (by decide)]) (fun j j0 j1 => by rw [hs2, us_eq, mup_ne (by omega), hs1, us_ne (by decide)]),
              hS1.cg (by rw [hs2, us_ne (by decide), hs1, us_ne (by decide)]) (by rw [hs2, us_ne (by decide), hs1, us_ne (by decide)]) (by rw [hs2, us_ne (by decide), hs1, us_ne (by decide)]) (by rw [hs2, us_ne (by decide), hs1, us_ne (by decide)]) (by rw [hs2, us_ne (by decide), hs1, us_ne (by decide)]) (fun j j0 j1 => by rw [hs2, us_eq, mup_ne (by omega), hs1, us_ne (by decide)]),
              hS2.cg (by rw [hs2, us_ne (by decide), hs1, us_ne (by decide)]) (by rw [hs2, us_ne (by decide), hs1, us_ne (by decide)]) (by rw [hs2, us_ne (by decide), hs1, us_ne (by decide)]) (by rw [hs2, us_ne (by decide), hs1, us_ne (by decide)]) (by rw [hs2, us_ne (by decide), hs1, us_ne (by decide)]) (fun j j0 j1 => by rw [hs2, us_eq, mup_ne (by omega), hs1, us_ne (by decide)]),
              ⟨by rw [a131, a160]; exact hS3.1, by rw [a160]; exact hS3.2.1, by rw [a161]; exact hS3.2.2.1, by rw [hs2, us_ne (by decide), hs1, us_ne (by decide), us_ne (by decide)]; exact hS3.2.2.2.1, fun j j0 j1 => by
              rw [a160, hs2, us_ne (show (144 + 1 : Nat) ≠ 162 by decide), us_eq, hs1, us_eq, us_ne (show (160 : Nat) ≠ 144 + 1 by decide), us_ne (show (162 : Nat) ≠ 144 + 1 by decide)]
              by_cases e : j = i
              · subst e
                rw [mup_eq, show (40 * ((3 : Nat) : Int) + j).toNat = (40 * 3 + j).toNat from rfl, mup_eq]
                exact put_ok (by have := hS3.2.1; omega) hrv
              · rw [mup_ne (by omega), mup_ne (by omega)]; exact hS3.2.2.2.2 j j0 j1⟩⟩
          · obtain ⟨r1, s1, k1, hr, hs1⟩ := x_put_i3 (d := d + 148) hD0 (v := v) hri hS hb hi
            have e : s1 147 = s 147 := by rw [hs1]; exact us_ne (by decide)
            obtain ⟨r2, s2, k2, hr2, hs2⟩ := m_put_i (d := d + 148) (s := s1) e hM0 hC (w := 3) (v := v) hrw hri (by omega) (by rw [hs1, us_ne (by decide), us_ne (by decide)]; exact (hS.at (w := 3) (by omega)).2) (by rw [hs1, us_ne (by decide)]; exact hb) (by rw [hs1, us_ne (by decide)]; exact hi)
            rw [hs2] at k2
            exact Step.mk (by first | exact ⟨(f1.at 1 rfl).trans hX.2.1, (congrFun (f1.at 0 rfl) 1).trans hX.2.2⟩ | exact ⟨hX.2.1, hX.2.2⟩ | exact ⟨by rw [hs1, us_ne (by decide)]; exact hX.2.1, by rw [hs1, us_ne (by decide)]; exact hX.2.2⟩ | exact ⟨by rw [hs1, us_ne (by decide), us_ne (by decide)]; exact hX.2.1, by rw [hs1, us_ne (by decide), us_ne (by decide)]; exact hX.2.2⟩ | exact ⟨by rw [e1, us_ne (by decide), f1.at 1 rfl]; exact hX.2.1, by rw [e1, us_ne (by decide), f1.at 0 rfl]; exact hX.2.2⟩ | exact ⟨by rw [ft.at 1 rfl, hx 1 (by decide) (by decide)]; exact hX.2.1, by rw [ft.at 0 rfl, et, newL_0, mup_ne (by decide)]; exact hX.2.2⟩) k1 k2 (by rw [hr, hr2]) (hI0.err2 hs1)
  · obtain ⟨r1, s1, k1, hr, hs1⟩ := x_put_n (d := d + 148) hD0 (i := i) (v := v) hrw hS hy
    have e : s1 147 = s 147 := by rw [hs1]; exact us_ne (by decide)
    obtain ⟨r2, s2, k2, hr2, hs2⟩ := m_put_n (d := d + 148) (s := s1) e hM0 hC (v := v) hrw hri hy
    rw [hs2] at k2
    exact Step.mk (by first | exact ⟨(f1.at 1 rfl).trans hX.2.1, (congrFun (f1.at 0 rfl) 1).trans hX.2.2⟩ | exact ⟨hX.2.1, hX.2.2⟩ | exact ⟨by rw [hs1, us_ne (by decide)]; exact hX.2.1, by rw [hs1, us_ne (by decide)]; exact hX.2.2⟩ | exact ⟨by rw [hs1, us_ne (by decide), us_ne (by decide)]; exact hX.2.1, by rw [hs1, us_ne (by decide), us_ne (by decide)]; exact hX.2.2⟩ | exact ⟨by rw [e1, us_ne (by decide), f1.at 1 rfl]; exact hX.2.1, by rw [e1, us_ne (by decide), f1.at 0 rfl]; exact hX.2.2⟩ | exact ⟨by rw [ft.at 1 rfl, hx 1 (by decide) (by decide)]; exact hX.2.1, by rw [ft.at 0 rfl, et, newL_0, mup_ne (by decide)]; exact hX.2.2⟩) k1 k2 (by rw [hr, hr2]) (hI0.err2 hs1)
def ceN (Y : Nat → Int) (sz : Int) : Nat → Nat → (Nat → Int) → Int × (Nat → Int)
  | 0, k, D => ((k : Int), D)
  | n + 1, k, D => if (k : Int) < sz ∧ 0 ≤ Y k ∧ Y k ≤ 3 then ceN Y sz n (k + 1) (mup D k (Y k)) else ((k : Int), D)
theorem ceN_y {Y : Nat → Int} {sz : Int} {n k : Nat} {D : Nat → Int} (h : (k : Int) < sz ∧ 0 ≤ Y k ∧ Y k ≤ 3) : ceN Y sz (n + 1) k D = ceN Y sz n (k + 1) (mup D k (Y k)) := by
  conv => lhs; unfold ceN
  rw [if_pos h]
theorem ceN_n {Y : Nat → Int} {sz : Int} {n k : Nat} {D : Nat → Int} (h : ¬ ((k : Int) < sz ∧ 0 ≤ Y k ∧ Y k ≤ 3)) : ceN Y sz n k D = ((k : Int), D) := by
  cases n with
  | zero => rfl
  | succ n => unfold ceN; rw [if_neg h]
theorem ceN_ok {Y : Nat → Int} {sz : Int} : ∀ (n k : Nat) (D : Nat → Int), k + n ≤ 36 → MOk D → COk D → MOk (ceN Y sz n k D).2 ∧ COk (ceN Y sz n k D).2 ∧ ∀ i, 36 ≤ i → (ceN Y sz n k D).2 i = D i
  | 0, k, D, _, hM, hC => ⟨hM, hC, fun _ _ => rfl⟩
  | n + 1, k, D, hk, hM, hC => by
    by_cases h : (k : Int) < sz ∧ 0 ≤ Y k ∧ Y k ≤ 3
    · rw [ceN_y h]
      have ih := ceN_ok (Y := Y) (sz := sz) n (k + 1) (mup D k (Y k)) (by omega) (MOk_set hM ⟨by omega, by omega, by omega, by omega, by omega, by omega, by omega, by omega, by omega, fun w hw => ⟨by omega, by omega, by omega, by omega⟩, fun p hp => ⟨by omega, by omega, by omega, by omega⟩, fun j hj => by omega, fun j hj => by omega⟩) (COk_set2 (by omega) hC)
      exact ⟨ih.1, ih.2.1, fun i hi => by rw [ih.2.2 i hi, mup_ne (by omega)]⟩
    · rw [ceN_n h]; exact ⟨hM, hC, fun _ _ => rfl⟩
def juN (Y L : Nat → Int) (sz : Int) : Nat → Nat → Int
  | 0, k => (k : Int)
  | n + 1, k => if (k : Int) < sz ∧ Y k = L k then juN Y L sz n (k + 1) else (k : Int)
theorem juN_y {Y L : Nat → Int} {sz : Int} {n k : Nat} (h : (k : Int) < sz ∧ Y k = L k) : juN Y L sz (n + 1) k = juN Y L sz n (k + 1) := by
  conv => lhs; unfold juN
  rw [if_pos h]
theorem juN_n {Y L : Nat → Int} {sz : Int} {n k : Nat} (h : ¬ ((k : Int) < sz ∧ Y k = L k)) : juN Y L sz n k = (k : Int) := by
  cases n with
  | zero => rfl
  | succ n => unfold juN; rw [if_neg h]
/-- the numbers of sheet w, as the reference has them -/
def shY (s : mSt) (w : Int) : Nat → Int := fun k => s 162 (40 * w + (k : Int)).toNat
theorem l_cells0 {d : Nat} {s : mSt} {P : Int → mSt → Prop} {s0 : mSt} {w : Int} {D : Nat → Int} (n k : Nat) (i : Int) (hi : i = (k : Int)) (hR : ShR s0 138 0) (hf : Fr [14] s0 s) (hV : VN13 s D) (hM : MOk D) (hk : k + n = 36) (hks : (k : Int) ≤ s0 161 0) (hP : ∀ s1, Fr [14] s0 s1 → VN13 s1 (ceN (shY s0 0) (s0 161 0) n k D).2 → P (ceN (shY s0 0) (s0 161 0) n k D).1 s1) : WP (d + 1) 133 27 [some (.inr (.inr 10)), some (.inl w), some (.inr (.inr 138)), some (.inl (min (s0 161 0) 36)), some (.inl i)] [] (encA (s)) (QI P) := by
  subst hi
  have hR0 := hR
  obtain ⟨e1, e2, e3, e4, e5⟩ := hR
  have z0 : s 138 1 = s0 161 0 := by rw [hf.at 138 rfl]; exact e4
  
  refine w_ldI rfl rfl ?_
  refine w_ldI rfl rfl ?_
  refine w_crGe rfl (by omega) (by omega) (fun b29 => ?_) (fun b29 => ?_)
  · first
    | (exfalso; omega)
    | (refine w_ldI rfl rfl ?_
       refine w_retI rfl ?_
       have h3 := hP s hf
       by_cases h0 : n = 0
       · subst h0; exact h3 hV
       · first
         | (rw [ceN_n (by omega)] at h3; exact h3 hV)
         | (rw [ceN_n (by rw [zy]; omega)] at h3; exact h3 hV))
  · first
    | (exfalso; omega)
    | (have hsn := e5 k (by omega) (by omega)
       unfold ShN at hsn
       have zv : ∀ q : Nat, s 139 q = s0 139 q := fun q => by rw [hf.at 139 rfl]
       have zy : shY s0 0 k = s0 162 (40 * ((0 : Nat) : Int) + (k : Int)).toNat := rfl
       refine w_ldR rfl rfl rfl ?_
       refine w_ldI rfl rfl ?_
       refine w_callV rfl rfl rfl rfl rfl rfl rfl (k_at138 (by omega) (by omega)) ?_
       rw [show rowAt s 138 (k : Int) = s0 (138 + 1) (k : Int).toNat by unfold rowAt; rw [if_pos (by omega)]; exact zv _]
       refine w_irLt0 rfl (by omega) (fun b33 => ?_) (fun b33 => ?_)
       · first
         | (exfalso; omega)
         | (refine w_ldI rfl rfl ?_
            refine w_retI rfl ?_
            have h3 := hP s hf
            by_cases h0 : n = 0
            · subst h0; exact h3 hV
            · first
              | (rw [ceN_n (by omega)] at h3; exact h3 hV)
              | (rw [ceN_n (by rw [zy]; omega)] at h3; exact h3 hV))
       · first
         | (exfalso; omega)
         | (refine w_ldR rfl rfl rfl ?_
            refine w_ldI rfl rfl ?_
            refine w_callV rfl rfl rfl rfl rfl rfl rfl (k_at138 (by omega) (by omega)) ?_
            rw [show rowAt s 138 (k : Int) = s0 (138 + 1) (k : Int).toNat by unfold rowAt; rw [if_pos (by omega)]; exact zv _]
            refine w_push rfl ?_
            refine w_crGt rfl (by omega) (by omega) (fun b38 => ?_) (fun b38 => ?_)
            · first
              | (exfalso; omega)
              | (refine w_ldI rfl rfl ?_
                 refine w_retI rfl ?_
                 have h3 := hP s hf
                 by_cases h0 : n = 0
                 · subst h0; exact h3 hV
                 · first
                   | (rw [ceN_n (by omega)] at h3; exact h3 hV)
                   | (rw [ceN_n (by rw [zy]; omega)] at h3; exact h3 hV))
            · first
              | (exfalso; omega)
              | (refine w_ldR rfl rfl rfl ?_
                 first | refine w_getI rfl rfl rfl rfl rfl ?_ | refine w_getR rfl rfl rfl rfl rfl ?_
                 first | refine w_getI rfl rfl rfl rfl rfl ?_ | refine w_getR rfl rfl rfl rfl rfl ?_
                 refine w_ldI rfl rfl ?_
                 refine w_ldR rfl rfl rfl ?_
                 refine w_ldI rfl rfl ?_
                 refine w_callV rfl rfl rfl rfl rfl rfl rfl (k_at138 (by omega) (by omega)) ?_
                 rw [show rowAt s 138 (k : Int) = s0 (138 + 1) (k : Int).toNat by unfold rowAt; rw [if_pos (by omega)]; exact zv _]
                 refine w_ast rfl rfl rfl (by omega) rfl ?_
                 refine w_inc_5_4 rfl rfl ?_
                 refine w_go rfl ?_
                 obtain ⟨n, rfl⟩ : ∃ q, n = q + 1 := ⟨n - 1, by omega⟩
                 have ex : s0 (138 + 1) (k : Int).toNat = shY s0 0 k := by rw [zy]; omega
                 rw [ex]
                 have hV1 := hV.set_vc (p := (k : Int)) (v := shY s0 0 k) (by omega)
                 rw [Int.toNat_natCast] at hV1
                 refine l_cells0 (D := mup D k (shY s0 0 k)) n (k + 1) ((k : Int) + 1) (by omega) hR0 (hf.tr (Fr.us rfl)) hV1 (MOk_set hM ⟨by omega, by omega, by omega, by omega, by omega, by omega, by omega, by omega, by omega, fun w hw => ⟨by omega, by omega, by omega, by omega⟩, fun p hp => ⟨by omega, by omega, by omega, by omega⟩, fun j hj => by omega, fun j hj => by omega⟩) (by omega) (by omega) (fun s1 h1 h2 => ?_)
                 have h3 := hP s1 h1
                 rw [ceN_y (by rw [zy]; omega)] at h3
                 exact h3 h2)))
termination_by n
decreasing_by all_goals omega
theorem x_cells_y0 {d : Nat} {s : mSt} (hI : IvD s)  (hS : IvS s) (hb : ¬ s 160 0 = 0) : CI (d + 1) 133 [.inr (.inr 10), .inl 0] (s) (fun q s1 => q = (ceN (shY s 0) (s 161 0) 36 0 (s 147)).1 ∧ VN13 s1 (ceN (shY s 0) (s 161 0) 36 0 (s 147)).2 ∧ Fr [14] s s1) := by
  refine CI.mk rfl ?_
  show WP (d + 1) 133 0 [some (.inr (.inr 10)), some (.inl 0), none, none, none] [] (encA (s)) _
  have hI0 := hI
  obtain ⟨⟨hM, hC, hN⟩, hV, h8⟩ := hI
  have hV0 := hV
  have hM0 := hM
  obtain ⟨vc, vpl, vga, vse, vne, veg, vre, vtu, vta, vwa, v36, v37, v39, v40, v42, v41, v43, v44, vl0, vl1, vlm⟩ := hV
  obtain ⟨hM39, hM40, hM41, hM43, hM44, hM36, hM37, hM38, hMc, hMw, hMp, hMt, hMb⟩ := hM
  have hSS := hS
  obtain ⟨hS0, hS1, hS2, hS3⟩ := hS
  obtain ⟨e1, e2, e3, e4, e5⟩ := hS0
  refine w_ldI rfl rfl ?_
  refine w_call rfl rfl rfl (k_isSheet (by omega)) ?_
  refine w_bNe0 rfl (fun b2 => ?_) (fun b2 => ?_)
  · first
    | (exfalso; omega)
    | (refine w_ldR rfl rfl rfl ?_
       refine w_ldI rfl rfl ?_
       refine w_callV rfl rfl rfl rfl rfl rfl rfl (k_isMissing (by omega) (by show -2147483648 ≤ s 131 0 ∧ s 131 0 < 2147483648; omega)) ?_
       rw [show s 131 ((0 : Int)).toNat = s 160 0 from e1]
       refine w_bEq0 rfl (fun b10 => ?_) (fun b10 => ?_)
       · first
         | (exfalso; omega)
         | (refine w_ldR rfl rfl rfl ?_
            first | refine w_getI rfl rfl rfl rfl rfl ?_ | refine w_getR rfl rfl rfl rfl rfl ?_
            refine w_ldI rfl rfl ?_
            refine w_rld rfl rfl rfl (by omega) rfl ?_
            show WP _ _ _ _ (.inr (.inr 138) :: _) _ _
            refine w_StR_5_2 rfl rfl rfl ?_
            refine w_ldR rfl rfl rfl ?_
            first | refine w_getI rfl rfl rfl rfl rfl ?_ | refine w_getR rfl rfl rfl rfl rfl ?_
            rw [e4]
            refine w_push rfl ?_
            refine w_m2 rfl rfl ?_
            rw [m_min_id (by omega) (by omega)]
            refine w_StI_5_3 rfl rfl ?_
            refine w_push rfl ?_
            refine w_StI_5_4 rfl rfl ?_
            exact l_cells0 36 0 0 rfl ⟨e1, e2, e3, e4, e5⟩ Fr.rf hV0 hM0 rfl (by omega) (fun s1 h1 h2 => ⟨rfl, h2, h1⟩))
       · first
         | (exfalso; omega)
         | (refine w_ldR rfl rfl rfl ?_
            refine w_push rfl ?_
            refine w_callWI rfl rfl rfl rfl rfl rfl rfl k_error1 (fun v13 s13 p13 => ?_)
            obtain ⟨rfl, rfl⟩ := p13
            refine w_retI rfl ?_
            exact ⟨rfl, rfl⟩))
  · first
    | (exfalso; omega)
    | (refine w_ldR rfl rfl rfl ?_
       refine w_push rfl ?_
       refine w_callWI rfl rfl rfl rfl rfl rfl rfl k_error1 (fun v5 s5 p5 => ?_)
       obtain ⟨rfl, rfl⟩ := p5
       refine w_retI rfl ?_
       exact ⟨rfl, rfl⟩)
theorem l_judge0 {d : Nat} {s : mSt} {P : Int → mSt → Prop} {s0 : mSt} {w q : Int} {L : Nat → Int} (n k : Nat) (i : Int) (hi : i = (k : Int)) (hR : ShR s0 138 0) (hf : Fr [38, 128, 129] s0 s) (hl : ∀ i, i < 36 → s 129 i = L i) (hL : LOk L) (hk : k + n = 36) (hks : (k : Int) ≤ s0 161 0) (hP : P (juN (shY s0 0) L (s0 161 0) n k) s) : WP (d + 4) 134 40 [some (.inr (.inr 10)), some (.inl w), some (.inl q), some (.inr (.inr 138)), some (.inl (min (s0 161 0) 36)), some (.inl i)] [] (encA (s)) (QI P) := by
  subst hi
  have hR0 := hR
  obtain ⟨e1, e2, e3, e4, e5⟩ := hR
  have z0 : s 138 1 = s0 161 0 := by rw [hf.at 138 rfl]; exact e4
  
  refine w_ldI rfl rfl ?_
  refine w_ldI rfl rfl ?_
  refine w_crGe rfl (by omega) (by omega) (fun b42 => ?_) (fun b42 => ?_)
  · first
    | (exfalso; omega)
    | (refine w_ldI rfl rfl ?_
       refine w_retI rfl ?_
       by_cases h0 : n = 0
       · subst h0; exact hP
       · first
         | (rw [juN_n (by omega)] at hP; exact hP)
         | (rw [juN_n (by rw [zy]; omega)] at hP; exact hP))
  · first
    | (exfalso; omega)
    | (have hsn := e5 k (by omega) (by omega)
       unfold ShN at hsn
       have zv : ∀ q : Nat, s 139 q = s0 139 q := fun q => by rw [hf.at 139 rfl]
       have zy : shY s0 0 k = s0 162 (40 * ((0 : Nat) : Int) + (k : Int)).toNat := rfl
       rw [Int.toNat_natCast] at hsn
       have hLk := hL k (by omega)
       refine w_ldR rfl rfl rfl ?_
       refine w_ldI rfl rfl ?_
       refine w_callV rfl rfl rfl rfl rfl rfl rfl (k_at138 (by omega) (by omega)) ?_
       rw [show rowAt s 138 (k : Int) = s0 (138 + 1) (k : Int).toNat by unfold rowAt; rw [if_pos (by omega)]; exact zv _]
       refine w_ldR rfl rfl rfl ?_
       first | refine w_getI rfl rfl rfl rfl rfl ?_ | refine w_getR rfl rfl rfl rfl rfl ?_
       refine w_ldI rfl rfl ?_
       refine w_callV rfl rfl rfl rfl rfl rfl rfl (k_lightIn (by omega)) ?_
       rw [if_pos (by omega), hl _ (by omega), Int.toNat_natCast]
       refine w_crNe rfl (by omega) (by omega) (fun b50 => ?_) (fun b50 => ?_)
       · first
         | (exfalso; omega)
         | (refine w_ldI rfl rfl ?_
            refine w_retI rfl ?_
            by_cases h0 : n = 0
            · subst h0; exact hP
            · first
              | (rw [juN_n (by omega)] at hP; exact hP)
              | (rw [juN_n (by rw [zy]; omega)] at hP; exact hP))
       · first
         | (exfalso; omega)
         | (refine w_inc_6_5 rfl rfl ?_
            refine w_go rfl ?_
            obtain ⟨n, rfl⟩ : ∃ q, n = q + 1 := ⟨n - 1, by omega⟩
            rw [juN_y (by rw [zy]; omega)] at hP
            exact l_judge0 n (k + 1) ((k : Int) + 1) (by omega) hR0 hf hl hL (by omega) (by omega) hP))
termination_by n
decreasing_by all_goals omega
theorem x_judge_y0 {d : Nat} {s : mSt} (hI : IvD s) {q : Int} (hrq : -2147483648 ≤ q ∧ q < 2147483648) (hS : IvS s) (hb : ¬ s 160 0 = 0) (hy : 0 ≤ q ∧ q ≤ s 147 39 - 1) : CI (d + 4) 134 [.inr (.inr 10), .inl 0, .inl q] (s) (fun v s1 => v = juN (shY s 0) (liW (s 147) q) (s 161 0) 36 0 ∧ Fr [38, 128, 129] s s1) := by
  refine CI.mk rfl ?_
  show WP (d + 4) 134 0 [some (.inr (.inr 10)), some (.inl 0), some (.inl q), none, none, none] [] (encA (s)) _
  have hI0 := hI
  obtain ⟨⟨hM, hC, hN⟩, hV, h8⟩ := hI
  have hV0 := hV
  have hM0 := hM
  obtain ⟨vc, vpl, vga, vse, vne, veg, vre, vtu, vta, vwa, v36, v37, v39, v40, v42, v41, v43, v44, vl0, vl1, vlm⟩ := hV
  obtain ⟨hM39, hM40, hM41, hM43, hM44, hM36, hM37, hM38, hMc, hMw, hMp, hMt, hMb⟩ := hM
  have hSS := hS
  obtain ⟨hS0, hS1, hS2, hS3⟩ := hS
  obtain ⟨e1, e2, e3, e4, e5⟩ := hS0
  refine w_ldI rfl rfl ?_
  refine w_call rfl rfl rfl (k_isSheet (by omega)) ?_
  refine w_bEq0 rfl (fun b2 => ?_) (fun b2 => ?_)
  · first
    | (exfalso; omega)
    | (refine w_ldR rfl rfl rfl ?_
       refine w_push rfl ?_
       refine w_callWI rfl rfl rfl rfl rfl rfl rfl k_error1 (fun v9 s9 p9 => ?_)
       obtain ⟨rfl, rfl⟩ := p9
       refine w_retI rfl ?_
       exact ⟨rfl, rfl⟩)
  · first
    | (exfalso; omega)
    | (refine w_ldR rfl rfl rfl ?_
       refine w_ldI rfl rfl ?_
       refine w_callV rfl rfl rfl rfl rfl rfl rfl (k_isWindow (by omega) (by omega)) ?_
       refine w_bNe0 rfl (fun b6 => ?_) (fun b6 => ?_)
       · first
         | (exfalso; omega)
         | (refine w_ldR rfl rfl rfl ?_
            refine w_ldI rfl rfl ?_
            refine w_callV rfl rfl rfl rfl rfl rfl rfl (k_isMissing (by omega) (by show -2147483648 ≤ s 131 0 ∧ s 131 0 < 2147483648; omega)) ?_
            rw [show s 131 ((0 : Int)).toNat = s 160 0 from e1]
            refine w_bEq0 rfl (fun b14 => ?_) (fun b14 => ?_)
            · first
              | (exfalso; omega)
              | (refine w_ldR rfl rfl rfl ?_
                 first | refine w_getI rfl rfl rfl rfl rfl ?_ | refine w_getR rfl rfl rfl rfl rfl ?_
                 refine w_ldR rfl rfl rfl ?_
                 first | refine w_getI rfl rfl rfl rfl rfl ?_ | refine w_getR rfl rfl rfl rfl rfl ?_
                 refine w_ldI rfl rfl ?_
                 refine w_ldR rfl rfl rfl ?_
                 first | refine w_getI rfl rfl rfl rfl rfl ?_ | refine w_getR rfl rfl rfl rfl rfl ?_
                 first | refine w_getI rfl rfl rfl rfl rfl ?_ | refine w_getR rfl rfl rfl rfl rfl ?_
                 refine w_callWN rfl rfl rfl rfl rfl rfl rfl (k_cast13 hV0 hM0 hC (by omega) h8) (fun s27 p27 => ?_)
                 obtain ⟨f27, l27, -⟩ := p27
                 refine w_ldR rfl rfl rfl ?_
                 first | refine w_getI rfl rfl rfl rfl rfl ?_ | refine w_getR rfl rfl rfl rfl rfl ?_
                 refine w_ldI rfl rfl ?_
                 refine w_rld rfl rfl rfl (by omega) rfl ?_
                 show WP _ _ _ _ (.inr (.inr 138) :: _) _ _
                 refine w_StR_6_3 rfl rfl rfl ?_
                 refine w_ldR rfl rfl rfl ?_
                 first | refine w_getI rfl rfl rfl rfl rfl ?_ | refine w_getR rfl rfl rfl rfl rfl ?_
                 rw [f27.at 138 rfl, e4]
                 refine w_push rfl ?_
                 refine w_m2 rfl rfl ?_
                 rw [m_min_id (by omega) (by omega)]
                 refine w_StI_6_4 rfl rfl ?_
                 refine w_push rfl ?_
                 refine w_StI_6_5 rfl rfl ?_
                 exact l_judge0 36 0 0 rfl ⟨e1, e2, e3, e4, e5⟩ f27 l27 (liW_L hM0 (by omega)) rfl (by omega) ⟨rfl, f27⟩)
            · first
              | (exfalso; omega)
              | (refine w_ldR rfl rfl rfl ?_
                 refine w_push rfl ?_
                 refine w_callWI rfl rfl rfl rfl rfl rfl rfl k_error1 (fun v17 s17 p17 => ?_)
                 obtain ⟨rfl, rfl⟩ := p17
                 refine w_retI rfl ?_
                 exact ⟨rfl, rfl⟩))
       · first
         | (exfalso; omega)
         | (refine w_ldR rfl rfl rfl ?_
            refine w_push rfl ?_
            refine w_callWI rfl rfl rfl rfl rfl rfl rfl k_error1 (fun v9 s9 p9 => ?_)
            obtain ⟨rfl, rfl⟩ := p9
            refine w_retI rfl ?_
            exact ⟨rfl, rfl⟩))
theorem l_cells1 {d : Nat} {s : mSt} {P : Int → mSt → Prop} {s0 : mSt} {w : Int} {D : Nat → Int} (n k : Nat) (i : Int) (hi : i = (k : Int)) (hR : ShR s0 140 1) (hf : Fr [14] s0 s) (hV : VN13 s D) (hM : MOk D) (hk : k + n = 36) (hks : (k : Int) ≤ s0 161 1) (hP : ∀ s1, Fr [14] s0 s1 → VN13 s1 (ceN (shY s0 1) (s0 161 1) n k D).2 → P (ceN (shY s0 1) (s0 161 1) n k D).1 s1) : WP (d + 1) 133 27 [some (.inr (.inr 10)), some (.inl w), some (.inr (.inr 140)), some (.inl (min (s0 161 1) 36)), some (.inl i)] [] (encA (s)) (QI P) := by
  subst hi
  have hR0 := hR
  obtain ⟨e1, e2, e3, e4, e5⟩ := hR
  have z0 : s 140 1 = s0 161 1 := by rw [hf.at 140 rfl]; exact e4
  
  refine w_ldI rfl rfl ?_
  refine w_ldI rfl rfl ?_
  refine w_crGe rfl (by omega) (by omega) (fun b29 => ?_) (fun b29 => ?_)
  · first
    | (exfalso; omega)
    | (refine w_ldI rfl rfl ?_
       refine w_retI rfl ?_
       have h3 := hP s hf
       by_cases h0 : n = 0
       · subst h0; exact h3 hV
       · first
         | (rw [ceN_n (by omega)] at h3; exact h3 hV)
         | (rw [ceN_n (by rw [zy]; omega)] at h3; exact h3 hV))
  · first
    | (exfalso; omega)
    | (have hsn := e5 k (by omega) (by omega)
       unfold ShN at hsn
       have zv : ∀ q : Nat, s 141 q = s0 141 q := fun q => by rw [hf.at 141 rfl]
       have zy : shY s0 1 k = s0 162 (40 * ((1 : Nat) : Int) + (k : Int)).toNat := rfl
       refine w_ldR rfl rfl rfl ?_
       refine w_ldI rfl rfl ?_
       refine w_callV rfl rfl rfl rfl rfl rfl rfl (k_at140 (by omega) (by omega)) ?_
       rw [show rowAt s 140 (k : Int) = s0 (140 + 1) (k : Int).toNat by unfold rowAt; rw [if_pos (by omega)]; exact zv _]
       refine w_irLt0 rfl (by omega) (fun b33 => ?_) (fun b33 => ?_)
       · first
         | (exfalso; omega)
         | (refine w_ldI rfl rfl ?_
            refine w_retI rfl ?_
            have h3 := hP s hf
            by_cases h0 : n = 0
            · subst h0; exact h3 hV
            · first
              | (rw [ceN_n (by omega)] at h3; exact h3 hV)
              | (rw [ceN_n (by rw [zy]; omega)] at h3; exact h3 hV))
       · first
         | (exfalso; omega)
         | (refine w_ldR rfl rfl rfl ?_
            refine w_ldI rfl rfl ?_
            refine w_callV rfl rfl rfl rfl rfl rfl rfl (k_at140 (by omega) (by omega)) ?_
            rw [show rowAt s 140 (k : Int) = s0 (140 + 1) (k : Int).toNat by unfold rowAt; rw [if_pos (by omega)]; exact zv _]
            refine w_push rfl ?_
            refine w_crGt rfl (by omega) (by omega) (fun b38 => ?_) (fun b38 => ?_)
            · first
              | (exfalso; omega)
              | (refine w_ldI rfl rfl ?_
                 refine w_retI rfl ?_
                 have h3 := hP s hf
                 by_cases h0 : n = 0
                 · subst h0; exact h3 hV
                 · first
                   | (rw [ceN_n (by omega)] at h3; exact h3 hV)
                   | (rw [ceN_n (by rw [zy]; omega)] at h3; exact h3 hV))
            · first
              | (exfalso; omega)
              | (refine w_ldR rfl rfl rfl ?_
                 first | refine w_getI rfl rfl rfl rfl rfl ?_ | refine w_getR rfl rfl rfl rfl rfl ?_
                 first | refine w_getI rfl rfl rfl rfl rfl ?_ | refine w_getR rfl rfl rfl rfl rfl ?_
                 refine w_ldI rfl rfl ?_
                 refine w_ldR rfl rfl rfl ?_
                 refine w_ldI rfl rfl ?_
                 refine w_callV rfl rfl rfl rfl rfl rfl rfl (k_at140 (by omega) (by omega)) ?_
                 rw [show rowAt s 140 (k : Int) = s0 (140 + 1) (k : Int).toNat by unfold rowAt; rw [if_pos (by omega)]; exact zv _]
                 refine w_ast rfl rfl rfl (by omega) rfl ?_
                 refine w_inc_5_4 rfl rfl ?_
                 refine w_go rfl ?_
                 obtain ⟨n, rfl⟩ : ∃ q, n = q + 1 := ⟨n - 1, by omega⟩
                 have ex : s0 (140 + 1) (k : Int).toNat = shY s0 1 k := by rw [zy]; omega
                 rw [ex]
                 have hV1 := hV.set_vc (p := (k : Int)) (v := shY s0 1 k) (by omega)
                 rw [Int.toNat_natCast] at hV1
                 refine l_cells1 (D := mup D k (shY s0 1 k)) n (k + 1) ((k : Int) + 1) (by omega) hR0 (hf.tr (Fr.us rfl)) hV1 (MOk_set hM ⟨by omega, by omega, by omega, by omega, by omega, by omega, by omega, by omega, by omega, fun w hw => ⟨by omega, by omega, by omega, by omega⟩, fun p hp => ⟨by omega, by omega, by omega, by omega⟩, fun j hj => by omega, fun j hj => by omega⟩) (by omega) (by omega) (fun s1 h1 h2 => ?_)
                 have h3 := hP s1 h1
                 rw [ceN_y (by rw [zy]; omega)] at h3
                 exact h3 h2)))
termination_by n
decreasing_by all_goals omega
theorem x_cells_y1 {d : Nat} {s : mSt} (hI : IvD s)  (hS : IvS s) (hb : ¬ s 160 1 = 0) : CI (d + 1) 133 [.inr (.inr 10), .inl 1] (s) (fun q s1 => q = (ceN (shY s 1) (s 161 1) 36 0 (s 147)).1 ∧ VN13 s1 (ceN (shY s 1) (s 161 1) 36 0 (s 147)).2 ∧ Fr [14] s s1) := by
  refine CI.mk rfl ?_
  show WP (d + 1) 133 0 [some (.inr (.inr 10)), some (.inl 1), none, none, none] [] (encA (s)) _
  have hI0 := hI
  obtain ⟨⟨hM, hC, hN⟩, hV, h8⟩ := hI
  have hV0 := hV
  have hM0 := hM
  obtain ⟨vc, vpl, vga, vse, vne, veg, vre, vtu, vta, vwa, v36, v37, v39, v40, v42, v41, v43, v44, vl0, vl1, vlm⟩ := hV
  obtain ⟨hM39, hM40, hM41, hM43, hM44, hM36, hM37, hM38, hMc, hMw, hMp, hMt, hMb⟩ := hM
  have hSS := hS
  obtain ⟨hS0, hS1, hS2, hS3⟩ := hS
  obtain ⟨e1, e2, e3, e4, e5⟩ := hS1
  refine w_ldI rfl rfl ?_
  refine w_call rfl rfl rfl (k_isSheet (by omega)) ?_
  refine w_bNe0 rfl (fun b2 => ?_) (fun b2 => ?_)
  · first
    | (exfalso; omega)
    | (refine w_ldR rfl rfl rfl ?_
       refine w_ldI rfl rfl ?_
       refine w_callV rfl rfl rfl rfl rfl rfl rfl (k_isMissing (by omega) (by show -2147483648 ≤ s 131 1 ∧ s 131 1 < 2147483648; omega)) ?_
       rw [show s 131 ((1 : Int)).toNat = s 160 1 from e1]
       refine w_bEq0 rfl (fun b10 => ?_) (fun b10 => ?_)
       · first
         | (exfalso; omega)
         | (refine w_ldR rfl rfl rfl ?_
            first | refine w_getI rfl rfl rfl rfl rfl ?_ | refine w_getR rfl rfl rfl rfl rfl ?_
            refine w_ldI rfl rfl ?_
            refine w_rld rfl rfl rfl (by omega) rfl ?_
            show WP _ _ _ _ (.inr (.inr 140) :: _) _ _
            refine w_StR_5_2 rfl rfl rfl ?_
            refine w_ldR rfl rfl rfl ?_
            first | refine w_getI rfl rfl rfl rfl rfl ?_ | refine w_getR rfl rfl rfl rfl rfl ?_
            rw [e4]
            refine w_push rfl ?_
            refine w_m2 rfl rfl ?_
            rw [m_min_id (by omega) (by omega)]
            refine w_StI_5_3 rfl rfl ?_
            refine w_push rfl ?_
            refine w_StI_5_4 rfl rfl ?_
            exact l_cells1 36 0 0 rfl ⟨e1, e2, e3, e4, e5⟩ Fr.rf hV0 hM0 rfl (by omega) (fun s1 h1 h2 => ⟨rfl, h2, h1⟩))
       · first
         | (exfalso; omega)
         | (refine w_ldR rfl rfl rfl ?_
            refine w_push rfl ?_
            refine w_callWI rfl rfl rfl rfl rfl rfl rfl k_error1 (fun v13 s13 p13 => ?_)
            obtain ⟨rfl, rfl⟩ := p13
            refine w_retI rfl ?_
            exact ⟨rfl, rfl⟩))
  · first
    | (exfalso; omega)
    | (refine w_ldR rfl rfl rfl ?_
       refine w_push rfl ?_
       refine w_callWI rfl rfl rfl rfl rfl rfl rfl k_error1 (fun v5 s5 p5 => ?_)
       obtain ⟨rfl, rfl⟩ := p5
       refine w_retI rfl ?_
       exact ⟨rfl, rfl⟩)
theorem l_judge1 {d : Nat} {s : mSt} {P : Int → mSt → Prop} {s0 : mSt} {w q : Int} {L : Nat → Int} (n k : Nat) (i : Int) (hi : i = (k : Int)) (hR : ShR s0 140 1) (hf : Fr [38, 128, 129] s0 s) (hl : ∀ i, i < 36 → s 129 i = L i) (hL : LOk L) (hk : k + n = 36) (hks : (k : Int) ≤ s0 161 1) (hP : P (juN (shY s0 1) L (s0 161 1) n k) s) : WP (d + 4) 134 40 [some (.inr (.inr 10)), some (.inl w), some (.inl q), some (.inr (.inr 140)), some (.inl (min (s0 161 1) 36)), some (.inl i)] [] (encA (s)) (QI P) := by
  subst hi
  have hR0 := hR
  obtain ⟨e1, e2, e3, e4, e5⟩ := hR
  have z0 : s 140 1 = s0 161 1 := by rw [hf.at 140 rfl]; exact e4
  
  refine w_ldI rfl rfl ?_
  refine w_ldI rfl rfl ?_
  refine w_crGe rfl (by omega) (by omega) (fun b42 => ?_) (fun b42 => ?_)
  · first
    | (exfalso; omega)
    | (refine w_ldI rfl rfl ?_
       refine w_retI rfl ?_
       by_cases h0 : n = 0
       · subst h0; exact hP
       · first
         | (rw [juN_n (by omega)] at hP; exact hP)
         | (rw [juN_n (by rw [zy]; omega)] at hP; exact hP))
  · first
    | (exfalso; omega)
    | (have hsn := e5 k (by omega) (by omega)
       unfold ShN at hsn
       have zv : ∀ q : Nat, s 141 q = s0 141 q := fun q => by rw [hf.at 141 rfl]
       have zy : shY s0 1 k = s0 162 (40 * ((1 : Nat) : Int) + (k : Int)).toNat := rfl
       rw [Int.toNat_natCast] at hsn
       have hLk := hL k (by omega)
       refine w_ldR rfl rfl rfl ?_
       refine w_ldI rfl rfl ?_
       refine w_callV rfl rfl rfl rfl rfl rfl rfl (k_at140 (by omega) (by omega)) ?_
       rw [show rowAt s 140 (k : Int) = s0 (140 + 1) (k : Int).toNat by unfold rowAt; rw [if_pos (by omega)]; exact zv _]
       refine w_ldR rfl rfl rfl ?_
       first | refine w_getI rfl rfl rfl rfl rfl ?_ | refine w_getR rfl rfl rfl rfl rfl ?_
       refine w_ldI rfl rfl ?_
       refine w_callV rfl rfl rfl rfl rfl rfl rfl (k_lightIn (by omega)) ?_
       rw [if_pos (by omega), hl _ (by omega), Int.toNat_natCast]
       refine w_crNe rfl (by omega) (by omega) (fun b50 => ?_) (fun b50 => ?_)
       · first
         | (exfalso; omega)
         | (refine w_ldI rfl rfl ?_
            refine w_retI rfl ?_
            by_cases h0 : n = 0
            · subst h0; exact hP
            · first
              | (rw [juN_n (by omega)] at hP; exact hP)
              | (rw [juN_n (by rw [zy]; omega)] at hP; exact hP))
       · first
         | (exfalso; omega)
         | (refine w_inc_6_5 rfl rfl ?_
            refine w_go rfl ?_
            obtain ⟨n, rfl⟩ : ∃ q, n = q + 1 := ⟨n - 1, by omega⟩
            rw [juN_y (by rw [zy]; omega)] at hP
            exact l_judge1 n (k + 1) ((k : Int) + 1) (by omega) hR0 hf hl hL (by omega) (by omega) hP))
termination_by n
decreasing_by all_goals omega
theorem x_judge_y1 {d : Nat} {s : mSt} (hI : IvD s) {q : Int} (hrq : -2147483648 ≤ q ∧ q < 2147483648) (hS : IvS s) (hb : ¬ s 160 1 = 0) (hy : 0 ≤ q ∧ q ≤ s 147 39 - 1) : CI (d + 4) 134 [.inr (.inr 10), .inl 1, .inl q] (s) (fun v s1 => v = juN (shY s 1) (liW (s 147) q) (s 161 1) 36 0 ∧ Fr [38, 128, 129] s s1) := by
  refine CI.mk rfl ?_
  show WP (d + 4) 134 0 [some (.inr (.inr 10)), some (.inl 1), some (.inl q), none, none, none] [] (encA (s)) _
  have hI0 := hI
  obtain ⟨⟨hM, hC, hN⟩, hV, h8⟩ := hI
  have hV0 := hV
  have hM0 := hM
  obtain ⟨vc, vpl, vga, vse, vne, veg, vre, vtu, vta, vwa, v36, v37, v39, v40, v42, v41, v43, v44, vl0, vl1, vlm⟩ := hV
  obtain ⟨hM39, hM40, hM41, hM43, hM44, hM36, hM37, hM38, hMc, hMw, hMp, hMt, hMb⟩ := hM
  have hSS := hS
  obtain ⟨hS0, hS1, hS2, hS3⟩ := hS
  obtain ⟨e1, e2, e3, e4, e5⟩ := hS1
  refine w_ldI rfl rfl ?_
  refine w_call rfl rfl rfl (k_isSheet (by omega)) ?_
  refine w_bEq0 rfl (fun b2 => ?_) (fun b2 => ?_)
  · first
    | (exfalso; omega)
    | (refine w_ldR rfl rfl rfl ?_
       refine w_push rfl ?_
       refine w_callWI rfl rfl rfl rfl rfl rfl rfl k_error1 (fun v9 s9 p9 => ?_)
       obtain ⟨rfl, rfl⟩ := p9
       refine w_retI rfl ?_
       exact ⟨rfl, rfl⟩)
  · first
    | (exfalso; omega)
    | (refine w_ldR rfl rfl rfl ?_
       refine w_ldI rfl rfl ?_
       refine w_callV rfl rfl rfl rfl rfl rfl rfl (k_isWindow (by omega) (by omega)) ?_
       refine w_bNe0 rfl (fun b6 => ?_) (fun b6 => ?_)
       · first
         | (exfalso; omega)
         | (refine w_ldR rfl rfl rfl ?_
            refine w_ldI rfl rfl ?_
            refine w_callV rfl rfl rfl rfl rfl rfl rfl (k_isMissing (by omega) (by show -2147483648 ≤ s 131 1 ∧ s 131 1 < 2147483648; omega)) ?_
            rw [show s 131 ((1 : Int)).toNat = s 160 1 from e1]
            refine w_bEq0 rfl (fun b14 => ?_) (fun b14 => ?_)
            · first
              | (exfalso; omega)
              | (refine w_ldR rfl rfl rfl ?_
                 first | refine w_getI rfl rfl rfl rfl rfl ?_ | refine w_getR rfl rfl rfl rfl rfl ?_
                 refine w_ldR rfl rfl rfl ?_
                 first | refine w_getI rfl rfl rfl rfl rfl ?_ | refine w_getR rfl rfl rfl rfl rfl ?_
                 refine w_ldI rfl rfl ?_
                 refine w_ldR rfl rfl rfl ?_
                 first | refine w_getI rfl rfl rfl rfl rfl ?_ | refine w_getR rfl rfl rfl rfl rfl ?_
                 first | refine w_getI rfl rfl rfl rfl rfl ?_ | refine w_getR rfl rfl rfl rfl rfl ?_
                 refine w_callWN rfl rfl rfl rfl rfl rfl rfl (k_cast13 hV0 hM0 hC (by omega) h8) (fun s27 p27 => ?_)
                 obtain ⟨f27, l27, -⟩ := p27
                 refine w_ldR rfl rfl rfl ?_
                 first | refine w_getI rfl rfl rfl rfl rfl ?_ | refine w_getR rfl rfl rfl rfl rfl ?_
                 refine w_ldI rfl rfl ?_
                 refine w_rld rfl rfl rfl (by omega) rfl ?_
                 show WP _ _ _ _ (.inr (.inr 140) :: _) _ _
                 refine w_StR_6_3 rfl rfl rfl ?_
                 refine w_ldR rfl rfl rfl ?_
                 first | refine w_getI rfl rfl rfl rfl rfl ?_ | refine w_getR rfl rfl rfl rfl rfl ?_
                 rw [f27.at 140 rfl, e4]
                 refine w_push rfl ?_
                 refine w_m2 rfl rfl ?_
                 rw [m_min_id (by omega) (by omega)]
                 refine w_StI_6_4 rfl rfl ?_
                 refine w_push rfl ?_
                 refine w_StI_6_5 rfl rfl ?_
                 exact l_judge1 36 0 0 rfl ⟨e1, e2, e3, e4, e5⟩ f27 l27 (liW_L hM0 (by omega)) rfl (by omega) ⟨rfl, f27⟩)
            · first
              | (exfalso; omega)
              | (refine w_ldR rfl rfl rfl ?_
                 refine w_push rfl ?_
                 refine w_callWI rfl rfl rfl rfl rfl rfl rfl k_error1 (fun v17 s17 p17 => ?_)
                 obtain ⟨rfl, rfl⟩ := p17
                 refine w_retI rfl ?_
                 exact ⟨rfl, rfl⟩))
       · first
         | (exfalso; omega)
         | (refine w_ldR rfl rfl rfl ?_
            refine w_push rfl ?_
            refine w_callWI rfl rfl rfl rfl rfl rfl rfl k_error1 (fun v9 s9 p9 => ?_)
            obtain ⟨rfl, rfl⟩ := p9
            refine w_retI rfl ?_
            exact ⟨rfl, rfl⟩))
theorem l_cells2 {d : Nat} {s : mSt} {P : Int → mSt → Prop} {s0 : mSt} {w : Int} {D : Nat → Int} (n k : Nat) (i : Int) (hi : i = (k : Int)) (hR : ShR s0 142 2) (hf : Fr [14] s0 s) (hV : VN13 s D) (hM : MOk D) (hk : k + n = 36) (hks : (k : Int) ≤ s0 161 2) (hP : ∀ s1, Fr [14] s0 s1 → VN13 s1 (ceN (shY s0 2) (s0 161 2) n k D).2 → P (ceN (shY s0 2) (s0 161 2) n k D).1 s1) : WP (d + 1) 133 27 [some (.inr (.inr 10)), some (.inl w), some (.inr (.inr 142)), some (.inl (min (s0 161 2) 36)), some (.inl i)] [] (encA (s)) (QI P) := by
  subst hi
  have hR0 := hR
  obtain ⟨e1, e2, e3, e4, e5⟩ := hR
  have z0 : s 142 1 = s0 161 2 := by rw [hf.at 142 rfl]; exact e4
  
  refine w_ldI rfl rfl ?_
  refine w_ldI rfl rfl ?_
  refine w_crGe rfl (by omega) (by omega) (fun b29 => ?_) (fun b29 => ?_)
  · first
    | (exfalso; omega)
    | (refine w_ldI rfl rfl ?_
       refine w_retI rfl ?_
       have h3 := hP s hf
       by_cases h0 : n = 0
       · subst h0; exact h3 hV
       · first
         | (rw [ceN_n (by omega)] at h3; exact h3 hV)
         | (rw [ceN_n (by rw [zy]; omega)] at h3; exact h3 hV))
  · first
    | (exfalso; omega)
    | (have hsn := e5 k (by omega) (by omega)
       unfold ShN at hsn
       have zv : ∀ q : Nat, s 143 q = s0 143 q := fun q => by rw [hf.at 143 rfl]
       have zy : shY s0 2 k = s0 162 (40 * ((2 : Nat) : Int) + (k : Int)).toNat := rfl
       refine w_ldR rfl rfl rfl ?_
       refine w_ldI rfl rfl ?_
       refine w_callV rfl rfl rfl rfl rfl rfl rfl (k_at142 (by omega) (by omega)) ?_
       rw [show rowAt s 142 (k : Int) = s0 (142 + 1) (k : Int).toNat by unfold rowAt; rw [if_pos (by omega)]; exact zv _]
       refine w_irLt0 rfl (by omega) (fun b33 => ?_) (fun b33 => ?_)
       · first
         | (exfalso; omega)
         | (refine w_ldI rfl rfl ?_
            refine w_retI rfl ?_
            have h3 := hP s hf
            by_cases h0 : n = 0
            · subst h0; exact h3 hV
            · first
              | (rw [ceN_n (by omega)] at h3; exact h3 hV)
              | (rw [ceN_n (by rw [zy]; omega)] at h3; exact h3 hV))
       · first
         | (exfalso; omega)
         | (refine w_ldR rfl rfl rfl ?_
            refine w_ldI rfl rfl ?_
            refine w_callV rfl rfl rfl rfl rfl rfl rfl (k_at142 (by omega) (by omega)) ?_
            rw [show rowAt s 142 (k : Int) = s0 (142 + 1) (k : Int).toNat by unfold rowAt; rw [if_pos (by omega)]; exact zv _]
            refine w_push rfl ?_
            refine w_crGt rfl (by omega) (by omega) (fun b38 => ?_) (fun b38 => ?_)
            · first
              | (exfalso; omega)
              | (refine w_ldI rfl rfl ?_
                 refine w_retI rfl ?_
                 have h3 := hP s hf
                 by_cases h0 : n = 0
                 · subst h0; exact h3 hV
                 · first
                   | (rw [ceN_n (by omega)] at h3; exact h3 hV)
                   | (rw [ceN_n (by rw [zy]; omega)] at h3; exact h3 hV))
            · first
              | (exfalso; omega)
              | (refine w_ldR rfl rfl rfl ?_
                 first | refine w_getI rfl rfl rfl rfl rfl ?_ | refine w_getR rfl rfl rfl rfl rfl ?_
                 first | refine w_getI rfl rfl rfl rfl rfl ?_ | refine w_getR rfl rfl rfl rfl rfl ?_
                 refine w_ldI rfl rfl ?_
                 refine w_ldR rfl rfl rfl ?_
                 refine w_ldI rfl rfl ?_
                 refine w_callV rfl rfl rfl rfl rfl rfl rfl (k_at142 (by omega) (by omega)) ?_
                 rw [show rowAt s 142 (k : Int) = s0 (142 + 1) (k : Int).toNat by unfold rowAt; rw [if_pos (by omega)]; exact zv _]
                 refine w_ast rfl rfl rfl (by omega) rfl ?_
                 refine w_inc_5_4 rfl rfl ?_
                 refine w_go rfl ?_
                 obtain ⟨n, rfl⟩ : ∃ q, n = q + 1 := ⟨n - 1, by omega⟩
                 have ex : s0 (142 + 1) (k : Int).toNat = shY s0 2 k := by rw [zy]; omega
                 rw [ex]
                 have hV1 := hV.set_vc (p := (k : Int)) (v := shY s0 2 k) (by omega)
                 rw [Int.toNat_natCast] at hV1
                 refine l_cells2 (D := mup D k (shY s0 2 k)) n (k + 1) ((k : Int) + 1) (by omega) hR0 (hf.tr (Fr.us rfl)) hV1 (MOk_set hM ⟨by omega, by omega, by omega, by omega, by omega, by omega, by omega, by omega, by omega, fun w hw => ⟨by omega, by omega, by omega, by omega⟩, fun p hp => ⟨by omega, by omega, by omega, by omega⟩, fun j hj => by omega, fun j hj => by omega⟩) (by omega) (by omega) (fun s1 h1 h2 => ?_)
                 have h3 := hP s1 h1
                 rw [ceN_y (by rw [zy]; omega)] at h3
                 exact h3 h2)))
termination_by n
decreasing_by all_goals omega
theorem x_cells_y2 {d : Nat} {s : mSt} (hI : IvD s)  (hS : IvS s) (hb : ¬ s 160 2 = 0) : CI (d + 1) 133 [.inr (.inr 10), .inl 2] (s) (fun q s1 => q = (ceN (shY s 2) (s 161 2) 36 0 (s 147)).1 ∧ VN13 s1 (ceN (shY s 2) (s 161 2) 36 0 (s 147)).2 ∧ Fr [14] s s1) := by
  refine CI.mk rfl ?_
  show WP (d + 1) 133 0 [some (.inr (.inr 10)), some (.inl 2), none, none, none] [] (encA (s)) _
  have hI0 := hI
  obtain ⟨⟨hM, hC, hN⟩, hV, h8⟩ := hI
  have hV0 := hV
  have hM0 := hM
  obtain ⟨vc, vpl, vga, vse, vne, veg, vre, vtu, vta, vwa, v36, v37, v39, v40, v42, v41, v43, v44, vl0, vl1, vlm⟩ := hV
  obtain ⟨hM39, hM40, hM41, hM43, hM44, hM36, hM37, hM38, hMc, hMw, hMp, hMt, hMb⟩ := hM
  have hSS := hS
  obtain ⟨hS0, hS1, hS2, hS3⟩ := hS
  obtain ⟨e1, e2, e3, e4, e5⟩ := hS2
  refine w_ldI rfl rfl ?_
  refine w_call rfl rfl rfl (k_isSheet (by omega)) ?_
  refine w_bNe0 rfl (fun b2 => ?_) (fun b2 => ?_)
  · first
    | (exfalso; omega)
    | (refine w_ldR rfl rfl rfl ?_
       refine w_ldI rfl rfl ?_
       refine w_callV rfl rfl rfl rfl rfl rfl rfl (k_isMissing (by omega) (by show -2147483648 ≤ s 131 2 ∧ s 131 2 < 2147483648; omega)) ?_
       rw [show s 131 ((2 : Int)).toNat = s 160 2 from e1]
       refine w_bEq0 rfl (fun b10 => ?_) (fun b10 => ?_)
       · first
         | (exfalso; omega)
         | (refine w_ldR rfl rfl rfl ?_
            first | refine w_getI rfl rfl rfl rfl rfl ?_ | refine w_getR rfl rfl rfl rfl rfl ?_
            refine w_ldI rfl rfl ?_
            refine w_rld rfl rfl rfl (by omega) rfl ?_
            show WP _ _ _ _ (.inr (.inr 142) :: _) _ _
            refine w_StR_5_2 rfl rfl rfl ?_
            refine w_ldR rfl rfl rfl ?_
            first | refine w_getI rfl rfl rfl rfl rfl ?_ | refine w_getR rfl rfl rfl rfl rfl ?_
            rw [e4]
            refine w_push rfl ?_
            refine w_m2 rfl rfl ?_
            rw [m_min_id (by omega) (by omega)]
            refine w_StI_5_3 rfl rfl ?_
            refine w_push rfl ?_
            refine w_StI_5_4 rfl rfl ?_
            exact l_cells2 36 0 0 rfl ⟨e1, e2, e3, e4, e5⟩ Fr.rf hV0 hM0 rfl (by omega) (fun s1 h1 h2 => ⟨rfl, h2, h1⟩))
       · first
         | (exfalso; omega)
         | (refine w_ldR rfl rfl rfl ?_
            refine w_push rfl ?_
            refine w_callWI rfl rfl rfl rfl rfl rfl rfl k_error1 (fun v13 s13 p13 => ?_)
            obtain ⟨rfl, rfl⟩ := p13
            refine w_retI rfl ?_
            exact ⟨rfl, rfl⟩))
  · first
    | (exfalso; omega)
    | (refine w_ldR rfl rfl rfl ?_
       refine w_push rfl ?_
       refine w_callWI rfl rfl rfl rfl rfl rfl rfl k_error1 (fun v5 s5 p5 => ?_)
       obtain ⟨rfl, rfl⟩ := p5
       refine w_retI rfl ?_
       exact ⟨rfl, rfl⟩)
theorem l_judge2 {d : Nat} {s : mSt} {P : Int → mSt → Prop} {s0 : mSt} {w q : Int} {L : Nat → Int} (n k : Nat) (i : Int) (hi : i = (k : Int)) (hR : ShR s0 142 2) (hf : Fr [38, 128, 129] s0 s) (hl : ∀ i, i < 36 → s 129 i = L i) (hL : LOk L) (hk : k + n = 36) (hks : (k : Int) ≤ s0 161 2) (hP : P (juN (shY s0 2) L (s0 161 2) n k) s) : WP (d + 4) 134 40 [some (.inr (.inr 10)), some (.inl w), some (.inl q), some (.inr (.inr 142)), some (.inl (min (s0 161 2) 36)), some (.inl i)] [] (encA (s)) (QI P) := by
  subst hi
  have hR0 := hR
  obtain ⟨e1, e2, e3, e4, e5⟩ := hR
  have z0 : s 142 1 = s0 161 2 := by rw [hf.at 142 rfl]; exact e4
  
  refine w_ldI rfl rfl ?_
  refine w_ldI rfl rfl ?_
  refine w_crGe rfl (by omega) (by omega) (fun b42 => ?_) (fun b42 => ?_)
  · first
    | (exfalso; omega)
    | (refine w_ldI rfl rfl ?_
       refine w_retI rfl ?_
       by_cases h0 : n = 0
       · subst h0; exact hP
       · first
         | (rw [juN_n (by omega)] at hP; exact hP)
         | (rw [juN_n (by rw [zy]; omega)] at hP; exact hP))
  · first
    | (exfalso; omega)
    | (have hsn := e5 k (by omega) (by omega)
       unfold ShN at hsn
       have zv : ∀ q : Nat, s 143 q = s0 143 q := fun q => by rw [hf.at 143 rfl]
       have zy : shY s0 2 k = s0 162 (40 * ((2 : Nat) : Int) + (k : Int)).toNat := rfl
       rw [Int.toNat_natCast] at hsn
       have hLk := hL k (by omega)
       refine w_ldR rfl rfl rfl ?_
       refine w_ldI rfl rfl ?_
       refine w_callV rfl rfl rfl rfl rfl rfl rfl (k_at142 (by omega) (by omega)) ?_
       rw [show rowAt s 142 (k : Int) = s0 (142 + 1) (k : Int).toNat by unfold rowAt; rw [if_pos (by omega)]; exact zv _]
       refine w_ldR rfl rfl rfl ?_
       first | refine w_getI rfl rfl rfl rfl rfl ?_ | refine w_getR rfl rfl rfl rfl rfl ?_
       refine w_ldI rfl rfl ?_
       refine w_callV rfl rfl rfl rfl rfl rfl rfl (k_lightIn (by omega)) ?_
       rw [if_pos (by omega), hl _ (by omega), Int.toNat_natCast]
       refine w_crNe rfl (by omega) (by omega) (fun b50 => ?_) (fun b50 => ?_)
       · first
         | (exfalso; omega)
         | (refine w_ldI rfl rfl ?_
            refine w_retI rfl ?_
            by_cases h0 : n = 0
            · subst h0; exact hP
            · first
              | (rw [juN_n (by omega)] at hP; exact hP)
              | (rw [juN_n (by rw [zy]; omega)] at hP; exact hP))
       · first
         | (exfalso; omega)
         | (refine w_inc_6_5 rfl rfl ?_
            refine w_go rfl ?_
            obtain ⟨n, rfl⟩ : ∃ q, n = q + 1 := ⟨n - 1, by omega⟩
            rw [juN_y (by rw [zy]; omega)] at hP
            exact l_judge2 n (k + 1) ((k : Int) + 1) (by omega) hR0 hf hl hL (by omega) (by omega) hP))
termination_by n
decreasing_by all_goals omega
theorem x_judge_y2 {d : Nat} {s : mSt} (hI : IvD s) {q : Int} (hrq : -2147483648 ≤ q ∧ q < 2147483648) (hS : IvS s) (hb : ¬ s 160 2 = 0) (hy : 0 ≤ q ∧ q ≤ s 147 39 - 1) : CI (d + 4) 134 [.inr (.inr 10), .inl 2, .inl q] (s) (fun v s1 => v = juN (shY s 2) (liW (s 147) q) (s 161 2) 36 0 ∧ Fr [38, 128, 129] s s1) := by
  refine CI.mk rfl ?_
  show WP (d + 4) 134 0 [some (.inr (.inr 10)), some (.inl 2), some (.inl q), none, none, none] [] (encA (s)) _
  have hI0 := hI
  obtain ⟨⟨hM, hC, hN⟩, hV, h8⟩ := hI
  have hV0 := hV
  have hM0 := hM
  obtain ⟨vc, vpl, vga, vse, vne, veg, vre, vtu, vta, vwa, v36, v37, v39, v40, v42, v41, v43, v44, vl0, vl1, vlm⟩ := hV
  obtain ⟨hM39, hM40, hM41, hM43, hM44, hM36, hM37, hM38, hMc, hMw, hMp, hMt, hMb⟩ := hM
  have hSS := hS
  obtain ⟨hS0, hS1, hS2, hS3⟩ := hS
  obtain ⟨e1, e2, e3, e4, e5⟩ := hS2
  refine w_ldI rfl rfl ?_
  refine w_call rfl rfl rfl (k_isSheet (by omega)) ?_
  refine w_bEq0 rfl (fun b2 => ?_) (fun b2 => ?_)
  · first
    | (exfalso; omega)
    | (refine w_ldR rfl rfl rfl ?_
       refine w_push rfl ?_
       refine w_callWI rfl rfl rfl rfl rfl rfl rfl k_error1 (fun v9 s9 p9 => ?_)
       obtain ⟨rfl, rfl⟩ := p9
       refine w_retI rfl ?_
       exact ⟨rfl, rfl⟩)
  · first
    | (exfalso; omega)
    | (refine w_ldR rfl rfl rfl ?_
       refine w_ldI rfl rfl ?_
       refine w_callV rfl rfl rfl rfl rfl rfl rfl (k_isWindow (by omega) (by omega)) ?_
       refine w_bNe0 rfl (fun b6 => ?_) (fun b6 => ?_)
       · first
         | (exfalso; omega)
         | (refine w_ldR rfl rfl rfl ?_
            refine w_ldI rfl rfl ?_
            refine w_callV rfl rfl rfl rfl rfl rfl rfl (k_isMissing (by omega) (by show -2147483648 ≤ s 131 2 ∧ s 131 2 < 2147483648; omega)) ?_
            rw [show s 131 ((2 : Int)).toNat = s 160 2 from e1]
            refine w_bEq0 rfl (fun b14 => ?_) (fun b14 => ?_)
            · first
              | (exfalso; omega)
              | (refine w_ldR rfl rfl rfl ?_
                 first | refine w_getI rfl rfl rfl rfl rfl ?_ | refine w_getR rfl rfl rfl rfl rfl ?_
                 refine w_ldR rfl rfl rfl ?_
                 first | refine w_getI rfl rfl rfl rfl rfl ?_ | refine w_getR rfl rfl rfl rfl rfl ?_
                 refine w_ldI rfl rfl ?_
                 refine w_ldR rfl rfl rfl ?_
                 first | refine w_getI rfl rfl rfl rfl rfl ?_ | refine w_getR rfl rfl rfl rfl rfl ?_
                 first | refine w_getI rfl rfl rfl rfl rfl ?_ | refine w_getR rfl rfl rfl rfl rfl ?_
                 refine w_callWN rfl rfl rfl rfl rfl rfl rfl (k_cast13 hV0 hM0 hC (by omega) h8) (fun s27 p27 => ?_)
                 obtain ⟨f27, l27, -⟩ := p27
                 refine w_ldR rfl rfl rfl ?_
                 first | refine w_getI rfl rfl rfl rfl rfl ?_ | refine w_getR rfl rfl rfl rfl rfl ?_
                 refine w_ldI rfl rfl ?_
                 refine w_rld rfl rfl rfl (by omega) rfl ?_
                 show WP _ _ _ _ (.inr (.inr 142) :: _) _ _
                 refine w_StR_6_3 rfl rfl rfl ?_
                 refine w_ldR rfl rfl rfl ?_
                 first | refine w_getI rfl rfl rfl rfl rfl ?_ | refine w_getR rfl rfl rfl rfl rfl ?_
                 rw [f27.at 142 rfl, e4]
                 refine w_push rfl ?_
                 refine w_m2 rfl rfl ?_
                 rw [m_min_id (by omega) (by omega)]
                 refine w_StI_6_4 rfl rfl ?_
                 refine w_push rfl ?_
                 refine w_StI_6_5 rfl rfl ?_
                 exact l_judge2 36 0 0 rfl ⟨e1, e2, e3, e4, e5⟩ f27 l27 (liW_L hM0 (by omega)) rfl (by omega) ⟨rfl, f27⟩)
            · first
              | (exfalso; omega)
              | (refine w_ldR rfl rfl rfl ?_
                 refine w_push rfl ?_
                 refine w_callWI rfl rfl rfl rfl rfl rfl rfl k_error1 (fun v17 s17 p17 => ?_)
                 obtain ⟨rfl, rfl⟩ := p17
                 refine w_retI rfl ?_
                 exact ⟨rfl, rfl⟩))
       · first
         | (exfalso; omega)
         | (refine w_ldR rfl rfl rfl ?_
            refine w_push rfl ?_
            refine w_callWI rfl rfl rfl rfl rfl rfl rfl k_error1 (fun v9 s9 p9 => ?_)
            obtain ⟨rfl, rfl⟩ := p9
            refine w_retI rfl ?_
            exact ⟨rfl, rfl⟩))
theorem l_cells3 {d : Nat} {s : mSt} {P : Int → mSt → Prop} {s0 : mSt} {w : Int} {D : Nat → Int} (n k : Nat) (i : Int) (hi : i = (k : Int)) (hR : ShR s0 144 3) (hf : Fr [14] s0 s) (hV : VN13 s D) (hM : MOk D) (hk : k + n = 36) (hks : (k : Int) ≤ s0 161 3) (hP : ∀ s1, Fr [14] s0 s1 → VN13 s1 (ceN (shY s0 3) (s0 161 3) n k D).2 → P (ceN (shY s0 3) (s0 161 3) n k D).1 s1) : WP (d + 1) 133 27 [some (.inr (.inr 10)), some (.inl w), some (.inr (.inr 144)), some (.inl (min (s0 161 3) 36)), some (.inl i)] [] (encA (s)) (QI P) := by
  subst hi
  have hR0 := hR
  obtain ⟨e1, e2, e3, e4, e5⟩ := hR
  have z0 : s 144 1 = s0 161 3 := by rw [hf.at 144 rfl]; exact e4
  
  refine w_ldI rfl rfl ?_
  refine w_ldI rfl rfl ?_
  refine w_crGe rfl (by omega) (by omega) (fun b29 => ?_) (fun b29 => ?_)
  · first
    | (exfalso; omega)
    | (refine w_ldI rfl rfl ?_
       refine w_retI rfl ?_
       have h3 := hP s hf
       by_cases h0 : n = 0
       · subst h0; exact h3 hV
       · first
         | (rw [ceN_n (by omega)] at h3; exact h3 hV)
         | (rw [ceN_n (by rw [zy]; omega)] at h3; exact h3 hV))
  · first
    | (exfalso; omega)
    | (have hsn := e5 k (by omega) (by omega)
       unfold ShN at hsn
       have zv : ∀ q : Nat, s 145 q = s0 145 q := fun q => by rw [hf.at 145 rfl]
       have zy : shY s0 3 k = s0 162 (40 * ((3 : Nat) : Int) + (k : Int)).toNat := rfl
       refine w_ldR rfl rfl rfl ?_
       refine w_ldI rfl rfl ?_
       refine w_callV rfl rfl rfl rfl rfl rfl rfl (k_at144 (by omega) (by omega)) ?_
       rw [show rowAt s 144 (k : Int) = s0 (144 + 1) (k : Int).toNat by unfold rowAt; rw [if_pos (by omega)]; exact zv _]
       refine w_irLt0 rfl (by omega) (fun b33 => ?_) (fun b33 => ?_)
       · first
         | (exfalso; omega)
         | (refine w_ldI rfl rfl ?_
            refine w_retI rfl ?_
            have h3 := hP s hf
            by_cases h0 : n = 0
            · subst h0; exact h3 hV
            · first
              | (rw [ceN_n (by omega)] at h3; exact h3 hV)
              | (rw [ceN_n (by rw [zy]; omega)] at h3; exact h3 hV))
       · first
         | (exfalso; omega)
         | (refine w_ldR rfl rfl rfl ?_
            refine w_ldI rfl rfl ?_
            refine w_callV rfl rfl rfl rfl rfl rfl rfl (k_at144 (by omega) (by omega)) ?_
            rw [show rowAt s 144 (k : Int) = s0 (144 + 1) (k : Int).toNat by unfold rowAt; rw [if_pos (by omega)]; exact zv _]
            refine w_push rfl ?_
            refine w_crGt rfl (by omega) (by omega) (fun b38 => ?_) (fun b38 => ?_)
            · first
              | (exfalso; omega)
              | (refine w_ldI rfl rfl ?_
                 refine w_retI rfl ?_
                 have h3 := hP s hf
                 by_cases h0 : n = 0
                 · subst h0; exact h3 hV
                 · first
                   | (rw [ceN_n (by omega)] at h3; exact h3 hV)
                   | (rw [ceN_n (by rw [zy]; omega)] at h3; exact h3 hV))
            · first
              | (exfalso; omega)
              | (refine w_ldR rfl rfl rfl ?_
                 first | refine w_getI rfl rfl rfl rfl rfl ?_ | refine w_getR rfl rfl rfl rfl rfl ?_
                 first | refine w_getI rfl rfl rfl rfl rfl ?_ | refine w_getR rfl rfl rfl rfl rfl ?_
                 refine w_ldI rfl rfl ?_
                 refine w_ldR rfl rfl rfl ?_
                 refine w_ldI rfl rfl ?_
                 refine w_callV rfl rfl rfl rfl rfl rfl rfl (k_at144 (by omega) (by omega)) ?_
                 rw [show rowAt s 144 (k : Int) = s0 (144 + 1) (k : Int).toNat by unfold rowAt; rw [if_pos (by omega)]; exact zv _]
                 refine w_ast rfl rfl rfl (by omega) rfl ?_
                 refine w_inc_5_4 rfl rfl ?_
                 refine w_go rfl ?_
                 obtain ⟨n, rfl⟩ : ∃ q, n = q + 1 := ⟨n - 1, by omega⟩
                 have ex : s0 (144 + 1) (k : Int).toNat = shY s0 3 k := by rw [zy]; omega
                 rw [ex]
                 have hV1 := hV.set_vc (p := (k : Int)) (v := shY s0 3 k) (by omega)
                 rw [Int.toNat_natCast] at hV1
                 refine l_cells3 (D := mup D k (shY s0 3 k)) n (k + 1) ((k : Int) + 1) (by omega) hR0 (hf.tr (Fr.us rfl)) hV1 (MOk_set hM ⟨by omega, by omega, by omega, by omega, by omega, by omega, by omega, by omega, by omega, fun w hw => ⟨by omega, by omega, by omega, by omega⟩, fun p hp => ⟨by omega, by omega, by omega, by omega⟩, fun j hj => by omega, fun j hj => by omega⟩) (by omega) (by omega) (fun s1 h1 h2 => ?_)
                 have h3 := hP s1 h1
                 rw [ceN_y (by rw [zy]; omega)] at h3
                 exact h3 h2)))
termination_by n
decreasing_by all_goals omega
theorem x_cells_y3 {d : Nat} {s : mSt} (hI : IvD s)  (hS : IvS s) (hb : ¬ s 160 3 = 0) : CI (d + 1) 133 [.inr (.inr 10), .inl 3] (s) (fun q s1 => q = (ceN (shY s 3) (s 161 3) 36 0 (s 147)).1 ∧ VN13 s1 (ceN (shY s 3) (s 161 3) 36 0 (s 147)).2 ∧ Fr [14] s s1) := by
  refine CI.mk rfl ?_
  show WP (d + 1) 133 0 [some (.inr (.inr 10)), some (.inl 3), none, none, none] [] (encA (s)) _
  have hI0 := hI
  obtain ⟨⟨hM, hC, hN⟩, hV, h8⟩ := hI
  have hV0 := hV
  have hM0 := hM
  obtain ⟨vc, vpl, vga, vse, vne, veg, vre, vtu, vta, vwa, v36, v37, v39, v40, v42, v41, v43, v44, vl0, vl1, vlm⟩ := hV
  obtain ⟨hM39, hM40, hM41, hM43, hM44, hM36, hM37, hM38, hMc, hMw, hMp, hMt, hMb⟩ := hM
  have hSS := hS
  obtain ⟨hS0, hS1, hS2, hS3⟩ := hS
  obtain ⟨e1, e2, e3, e4, e5⟩ := hS3
  refine w_ldI rfl rfl ?_
  refine w_call rfl rfl rfl (k_isSheet (by omega)) ?_
  refine w_bNe0 rfl (fun b2 => ?_) (fun b2 => ?_)
  · first
    | (exfalso; omega)
    | (refine w_ldR rfl rfl rfl ?_
       refine w_ldI rfl rfl ?_
       refine w_callV rfl rfl rfl rfl rfl rfl rfl (k_isMissing (by omega) (by show -2147483648 ≤ s 131 3 ∧ s 131 3 < 2147483648; omega)) ?_
       rw [show s 131 ((3 : Int)).toNat = s 160 3 from e1]
       refine w_bEq0 rfl (fun b10 => ?_) (fun b10 => ?_)
       · first
         | (exfalso; omega)
         | (refine w_ldR rfl rfl rfl ?_
            first | refine w_getI rfl rfl rfl rfl rfl ?_ | refine w_getR rfl rfl rfl rfl rfl ?_
            refine w_ldI rfl rfl ?_
            refine w_rld rfl rfl rfl (by omega) rfl ?_
            show WP _ _ _ _ (.inr (.inr 144) :: _) _ _
            refine w_StR_5_2 rfl rfl rfl ?_
            refine w_ldR rfl rfl rfl ?_
            first | refine w_getI rfl rfl rfl rfl rfl ?_ | refine w_getR rfl rfl rfl rfl rfl ?_
            rw [e4]
            refine w_push rfl ?_
            refine w_m2 rfl rfl ?_
            rw [m_min_id (by omega) (by omega)]
            refine w_StI_5_3 rfl rfl ?_
            refine w_push rfl ?_
            refine w_StI_5_4 rfl rfl ?_
            exact l_cells3 36 0 0 rfl ⟨e1, e2, e3, e4, e5⟩ Fr.rf hV0 hM0 rfl (by omega) (fun s1 h1 h2 => ⟨rfl, h2, h1⟩))
       · first
         | (exfalso; omega)
         | (refine w_ldR rfl rfl rfl ?_
            refine w_push rfl ?_
            refine w_callWI rfl rfl rfl rfl rfl rfl rfl k_error1 (fun v13 s13 p13 => ?_)
            obtain ⟨rfl, rfl⟩ := p13
            refine w_retI rfl ?_
            exact ⟨rfl, rfl⟩))
  · first
    | (exfalso; omega)
    | (refine w_ldR rfl rfl rfl ?_
       refine w_push rfl ?_
       refine w_callWI rfl rfl rfl rfl rfl rfl rfl k_error1 (fun v5 s5 p5 => ?_)
       obtain ⟨rfl, rfl⟩ := p5
       refine w_retI rfl ?_
       exact ⟨rfl, rfl⟩)
theorem l_judge3 {d : Nat} {s : mSt} {P : Int → mSt → Prop} {s0 : mSt} {w q : Int} {L : Nat → Int} (n k : Nat) (i : Int) (hi : i = (k : Int)) (hR : ShR s0 144 3) (hf : Fr [38, 128, 129] s0 s) (hl : ∀ i, i < 36 → s 129 i = L i) (hL : LOk L) (hk : k + n = 36) (hks : (k : Int) ≤ s0 161 3) (hP : P (juN (shY s0 3) L (s0 161 3) n k) s) : WP (d + 4) 134 40 [some (.inr (.inr 10)), some (.inl w), some (.inl q), some (.inr (.inr 144)), some (.inl (min (s0 161 3) 36)), some (.inl i)] [] (encA (s)) (QI P) := by
  subst hi
  have hR0 := hR
  obtain ⟨e1, e2, e3, e4, e5⟩ := hR
  have z0 : s 144 1 = s0 161 3 := by rw [hf.at 144 rfl]; exact e4
  
  refine w_ldI rfl rfl ?_
  refine w_ldI rfl rfl ?_
  refine w_crGe rfl (by omega) (by omega) (fun b42 => ?_) (fun b42 => ?_)
  · first
    | (exfalso; omega)
    | (refine w_ldI rfl rfl ?_
       refine w_retI rfl ?_
       by_cases h0 : n = 0
       · subst h0; exact hP
       · first
         | (rw [juN_n (by omega)] at hP; exact hP)
         | (rw [juN_n (by rw [zy]; omega)] at hP; exact hP))
  · first
    | (exfalso; omega)
    | (have hsn := e5 k (by omega) (by omega)
       unfold ShN at hsn
       have zv : ∀ q : Nat, s 145 q = s0 145 q := fun q => by rw [hf.at 145 rfl]
       have zy : shY s0 3 k = s0 162 (40 * ((3 : Nat) : Int) + (k : Int)).toNat := rfl
       rw [Int.toNat_natCast] at hsn
       have hLk := hL k (by omega)
       refine w_ldR rfl rfl rfl ?_
       refine w_ldI rfl rfl ?_
       refine w_callV rfl rfl rfl rfl rfl rfl rfl (k_at144 (by omega) (by omega)) ?_
       rw [show rowAt s 144 (k : Int) = s0 (144 + 1) (k : Int).toNat by unfold rowAt; rw [if_pos (by omega)]; exact zv _]
       refine w_ldR rfl rfl rfl ?_
       first | refine w_getI rfl rfl rfl rfl rfl ?_ | refine w_getR rfl rfl rfl rfl rfl ?_
       refine w_ldI rfl rfl ?_
       refine w_callV rfl rfl rfl rfl rfl rfl rfl (k_lightIn (by omega)) ?_
       rw [if_pos (by omega), hl _ (by omega), Int.toNat_natCast]
       refine w_crNe rfl (by omega) (by omega) (fun b50 => ?_) (fun b50 => ?_)
       · first
         | (exfalso; omega)
         | (refine w_ldI rfl rfl ?_
            refine w_retI rfl ?_
            by_cases h0 : n = 0
            · subst h0; exact hP
            · first
              | (rw [juN_n (by omega)] at hP; exact hP)
              | (rw [juN_n (by rw [zy]; omega)] at hP; exact hP))
       · first
         | (exfalso; omega)
         | (refine w_inc_6_5 rfl rfl ?_
            refine w_go rfl ?_
            obtain ⟨n, rfl⟩ : ∃ q, n = q + 1 := ⟨n - 1, by omega⟩
            rw [juN_y (by rw [zy]; omega)] at hP
            exact l_judge3 n (k + 1) ((k : Int) + 1) (by omega) hR0 hf hl hL (by omega) (by omega) hP))
termination_by n
decreasing_by all_goals omega
theorem x_judge_y3 {d : Nat} {s : mSt} (hI : IvD s) {q : Int} (hrq : -2147483648 ≤ q ∧ q < 2147483648) (hS : IvS s) (hb : ¬ s 160 3 = 0) (hy : 0 ≤ q ∧ q ≤ s 147 39 - 1) : CI (d + 4) 134 [.inr (.inr 10), .inl 3, .inl q] (s) (fun v s1 => v = juN (shY s 3) (liW (s 147) q) (s 161 3) 36 0 ∧ Fr [38, 128, 129] s s1) := by
  refine CI.mk rfl ?_
  show WP (d + 4) 134 0 [some (.inr (.inr 10)), some (.inl 3), some (.inl q), none, none, none] [] (encA (s)) _
  have hI0 := hI
  obtain ⟨⟨hM, hC, hN⟩, hV, h8⟩ := hI
  have hV0 := hV
  have hM0 := hM
  obtain ⟨vc, vpl, vga, vse, vne, veg, vre, vtu, vta, vwa, v36, v37, v39, v40, v42, v41, v43, v44, vl0, vl1, vlm⟩ := hV
  obtain ⟨hM39, hM40, hM41, hM43, hM44, hM36, hM37, hM38, hMc, hMw, hMp, hMt, hMb⟩ := hM
  have hSS := hS
  obtain ⟨hS0, hS1, hS2, hS3⟩ := hS
  obtain ⟨e1, e2, e3, e4, e5⟩ := hS3
  refine w_ldI rfl rfl ?_
  refine w_call rfl rfl rfl (k_isSheet (by omega)) ?_
  refine w_bEq0 rfl (fun b2 => ?_) (fun b2 => ?_)
  · first
    | (exfalso; omega)
    | (refine w_ldR rfl rfl rfl ?_
       refine w_push rfl ?_
       refine w_callWI rfl rfl rfl rfl rfl rfl rfl k_error1 (fun v9 s9 p9 => ?_)
       obtain ⟨rfl, rfl⟩ := p9
       refine w_retI rfl ?_
       exact ⟨rfl, rfl⟩)
  · first
    | (exfalso; omega)
    | (refine w_ldR rfl rfl rfl ?_
       refine w_ldI rfl rfl ?_
       refine w_callV rfl rfl rfl rfl rfl rfl rfl (k_isWindow (by omega) (by omega)) ?_
       refine w_bNe0 rfl (fun b6 => ?_) (fun b6 => ?_)
       · first
         | (exfalso; omega)
         | (refine w_ldR rfl rfl rfl ?_
            refine w_ldI rfl rfl ?_
            refine w_callV rfl rfl rfl rfl rfl rfl rfl (k_isMissing (by omega) (by show -2147483648 ≤ s 131 3 ∧ s 131 3 < 2147483648; omega)) ?_
            rw [show s 131 ((3 : Int)).toNat = s 160 3 from e1]
            refine w_bEq0 rfl (fun b14 => ?_) (fun b14 => ?_)
            · first
              | (exfalso; omega)
              | (refine w_ldR rfl rfl rfl ?_
                 first | refine w_getI rfl rfl rfl rfl rfl ?_ | refine w_getR rfl rfl rfl rfl rfl ?_
                 refine w_ldR rfl rfl rfl ?_
                 first | refine w_getI rfl rfl rfl rfl rfl ?_ | refine w_getR rfl rfl rfl rfl rfl ?_
                 refine w_ldI rfl rfl ?_
                 refine w_ldR rfl rfl rfl ?_
                 first | refine w_getI rfl rfl rfl rfl rfl ?_ | refine w_getR rfl rfl rfl rfl rfl ?_
                 first | refine w_getI rfl rfl rfl rfl rfl ?_ | refine w_getR rfl rfl rfl rfl rfl ?_
                 refine w_callWN rfl rfl rfl rfl rfl rfl rfl (k_cast13 hV0 hM0 hC (by omega) h8) (fun s27 p27 => ?_)
                 obtain ⟨f27, l27, -⟩ := p27
                 refine w_ldR rfl rfl rfl ?_
                 first | refine w_getI rfl rfl rfl rfl rfl ?_ | refine w_getR rfl rfl rfl rfl rfl ?_
                 refine w_ldI rfl rfl ?_
                 refine w_rld rfl rfl rfl (by omega) rfl ?_
                 show WP _ _ _ _ (.inr (.inr 144) :: _) _ _
                 refine w_StR_6_3 rfl rfl rfl ?_
                 refine w_ldR rfl rfl rfl ?_
                 first | refine w_getI rfl rfl rfl rfl rfl ?_ | refine w_getR rfl rfl rfl rfl rfl ?_
                 rw [f27.at 144 rfl, e4]
                 refine w_push rfl ?_
                 refine w_m2 rfl rfl ?_
                 rw [m_min_id (by omega) (by omega)]
                 refine w_StI_6_4 rfl rfl ?_
                 refine w_push rfl ?_
                 refine w_StI_6_5 rfl rfl ?_
                 exact l_judge3 36 0 0 rfl ⟨e1, e2, e3, e4, e5⟩ f27 l27 (liW_L hM0 (by omega)) rfl (by omega) ⟨rfl, f27⟩)
            · first
              | (exfalso; omega)
              | (refine w_ldR rfl rfl rfl ?_
                 refine w_push rfl ?_
                 refine w_callWI rfl rfl rfl rfl rfl rfl rfl k_error1 (fun v17 s17 p17 => ?_)
                 obtain ⟨rfl, rfl⟩ := p17
                 refine w_retI rfl ?_
                 exact ⟨rfl, rfl⟩))
       · first
         | (exfalso; omega)
         | (refine w_ldR rfl rfl rfl ?_
            refine w_push rfl ?_
            refine w_callWI rfl rfl rfl rfl rfl rfl rfl k_error1 (fun v9 s9 p9 => ?_)
            obtain ⟨rfl, rfl⟩ := p9
            refine w_retI rfl ?_
            exact ⟨rfl, rfl⟩))
theorem x_cells_n {d : Nat} {s : mSt} (hI : IvD s) {w : Int} (hrw : -2147483648 ≤ w ∧ w < 2147483648) (hS : IvS s) (hw : ¬ (0 ≤ w ∧ w ≤ 3)) : CI (d + 1) 133 [.inr (.inr 10), .inl w] (s) (fun r s1 => r = -1000000000 - 1 ∧ s1 = us s 132 1 (s 132 1 + 1)) := by
  refine CI.mk rfl ?_
  show WP (d + 1) 133 0 [some (.inr (.inr 10)), some (.inl w), none, none, none] [] (encA (s)) _
  have hI0 := hI
  obtain ⟨⟨hM, hC, hN⟩, hV, h8⟩ := hI
  have hV0 := hV
  have hM0 := hM
  obtain ⟨vc, vpl, vga, vse, vne, veg, vre, vtu, vta, vwa, v36, v37, v39, v40, v42, v41, v43, v44, vl0, vl1, vlm⟩ := hV
  obtain ⟨hM39, hM40, hM41, hM43, hM44, hM36, hM37, hM38, hMc, hMw, hMp, hMt, hMb⟩ := hM
  refine w_ldI rfl rfl ?_
  refine w_call rfl rfl rfl (k_isSheet (by omega)) ?_
  refine w_bNe0 rfl (fun b2 => ?_) (fun b2 => ?_)
  · first
    | (exfalso; omega)
    | (exfalso; omega)
  · first
    | (exfalso; omega)
    | (refine w_ldR rfl rfl rfl ?_
       refine w_push rfl ?_
       refine w_callWI rfl rfl rfl rfl rfl rfl rfl k_error1 (fun v5 s5 p5 => ?_)
       obtain ⟨rfl, rfl⟩ := p5
       refine w_retI rfl ?_
       exact ⟨rfl, rfl⟩)
theorem x_cells_m {d : Nat} {s : mSt} (hI : IvD s) {w : Int} (hrw : -2147483648 ≤ w ∧ w < 2147483648) (hS : IvS s) (hw : 0 ≤ w ∧ w ≤ 3) (hb : s 160 w.toNat = 0) : CI (d + 1) 133 [.inr (.inr 10), .inl w] (s) (fun r s1 => r = -1000000000 - 2 ∧ s1 = us s 132 2 (s 132 2 + 1)) := by
  refine CI.mk rfl ?_
  show WP (d + 1) 133 0 [some (.inr (.inr 10)), some (.inl w), none, none, none] [] (encA (s)) _
  have hI0 := hI
  obtain ⟨⟨hM, hC, hN⟩, hV, h8⟩ := hI
  have hV0 := hV
  have hM0 := hM
  obtain ⟨vc, vpl, vga, vse, vne, veg, vre, vtu, vta, vwa, v36, v37, v39, v40, v42, v41, v43, v44, vl0, vl1, vlm⟩ := hV
  obtain ⟨hM39, hM40, hM41, hM43, hM44, hM36, hM37, hM38, hMc, hMw, hMp, hMt, hMb⟩ := hM
  have hsa := hS.at hw
  refine w_ldI rfl rfl ?_
  refine w_call rfl rfl rfl (k_isSheet (by omega)) ?_
  refine w_bNe0 rfl (fun b2 => ?_) (fun b2 => ?_)
  · first
    | (exfalso; omega)
    | (refine w_ldR rfl rfl rfl ?_
       refine w_ldI rfl rfl ?_
       refine w_callV rfl rfl rfl rfl rfl rfl rfl (k_isMissing (by omega) (by have := hS.at (w := w) (by omega); omega)) ?_
       refine w_bEq0 rfl (fun b10 => ?_) (fun b10 => ?_)
       · first
         | (exfalso; omega)
         | (exfalso; omega)
       · first
         | (exfalso; omega)
         | (refine w_ldR rfl rfl rfl ?_
            refine w_push rfl ?_
            refine w_callWI rfl rfl rfl rfl rfl rfl rfl k_error2 (fun v13 s13 p13 => ?_)
            obtain ⟨rfl, rfl⟩ := p13
            refine w_retI rfl ?_
            exact ⟨rfl, rfl⟩))
  · first
    | (exfalso; omega)
    | (refine w_ldR rfl rfl rfl ?_
       refine w_push rfl ?_
       refine w_callWI rfl rfl rfl rfl rfl rfl rfl k_error2 (fun v5 s5 p5 => ?_)
       obtain ⟨rfl, rfl⟩ := p5
       refine w_retI rfl ?_
       exact ⟨rfl, rfl⟩)
theorem l_mcells {d : Nat} {s : mSt} {P : Int → mSt → Prop} {s0 : mSt} {w : Int} {D : Nat → Int} (n k : Nat) (i : Int) (hi : i = (k : Int)) (hw : 0 ≤ w ∧ w ≤ 3) (hyr : ∀ k : Nat, k < 40 → -2147483648 ≤ shY s0 w k ∧ shY s0 w k < 2147483648) (hsz : 0 ≤ s0 161 w.toNat ∧ s0 161 w.toNat ≤ 40) (hf : Fr [147] s0 s) (hD : s 147 = D) (hk : k + n = 36) (hP : ∀ s1, Fr [147] s0 s1 → s1 147 = (ceN (shY s0 w) (s0 161 w.toNat) n k D).2 → P (ceN (shY s0 w) (s0 161 w.toNat) n k D).1 s1) : WP (d + 2) 257 18 [some (.inr (.inr 146)), some (.inl w), some (.inl i)] [] (encA (s)) (QI P) := by
  subst hi
  have zv : ∀ q : Nat, s 162 q = s0 162 q := fun q => by rw [hf.at 162 rfl]
  have z0 : s 161 w.toNat = s0 161 w.toNat := by rw [hf.at 161 rfl]
  have zy : shY s0 w k = s0 162 (40 * w + (k : Int)).toNat := rfl
  refine w_ldI rfl rfl ?_
  refine w_ldR rfl rfl rfl ?_
  first | refine w_getI rfl rfl rfl rfl rfl ?_ | refine w_getR rfl rfl rfl rfl rfl ?_
  refine w_ldI rfl rfl ?_
  refine w_ald rfl rfl rfl (by omega) rfl ?_
  rw [z0]
  refine w_crGe rfl (by omega) (by omega) (fun b23 => ?_) (fun b23 => ?_)
  · first
    | (exfalso; omega)
    | (refine w_ldI rfl rfl ?_
       refine w_retI rfl ?_
       have h3 := hP s hf
       by_cases h0 : n = 0
       · subst h0; exact h3 hD
       · rw [ceN_n (by omega)] at h3
         exact h3 hD)
  · first
    | (exfalso; omega)
    | (refine w_ldI rfl rfl ?_
       refine w_push rfl ?_
       refine w_crGe rfl (by omega) (by omega) (fun b26 => ?_) (fun b26 => ?_)
       · first
         | (exfalso; omega)
         | (refine w_ldI rfl rfl ?_
            refine w_retI rfl ?_
            have h3 := hP s hf
            by_cases h0 : n = 0
            · subst h0; exact h3 hD
            · rw [ceN_n (by omega)] at h3
              exact h3 hD)
       · first
         | (exfalso; omega)
         | (have hyk := hyr k (by omega)
            refine w_ldR rfl rfl rfl ?_
            first | refine w_getI rfl rfl rfl rfl rfl ?_ | refine w_getR rfl rfl rfl rfl rfl ?_
            refine w_push rfl ?_
            refine w_ldI rfl rfl ?_
            refine w_mul rfl ?_
            refine w_ldI rfl rfl ?_
            refine w_add rfl ?_
            refine w_ald rfl rfl rfl (by omega) rfl ?_
            rw [zv, ← zy]
            refine w_i2lr rfl (by omega) ?_
            refine w_push rfl ?_
            refine w_push rfl ?_
            refine w_call rfl rfl rfl (r_in (by omega) (by omega) (by omega)) ?_
            refine w_bEq0 rfl (fun b39 => ?_) (fun b39 => ?_)
            · first
              | (exfalso; omega)
              | (refine w_ldI rfl rfl ?_
                 refine w_retI rfl ?_
                 have h3 := hP s hf
                 by_cases h0 : n = 0
                 · subst h0; exact h3 hD
                 · rw [ceN_n (by omega)] at h3
                   exact h3 hD)
            · first
              | (exfalso; omega)
              | (refine w_ldR rfl rfl rfl ?_
                 first | refine w_getI rfl rfl rfl rfl rfl ?_ | refine w_getR rfl rfl rfl rfl rfl ?_
                 refine w_push rfl ?_
                 refine w_ldI rfl rfl ?_
                 refine w_add rfl ?_
                 refine w_ldR rfl rfl rfl ?_
                 first | refine w_getI rfl rfl rfl rfl rfl ?_ | refine w_getR rfl rfl rfl rfl rfl ?_
                 refine w_push rfl ?_
                 refine w_ldI rfl rfl ?_
                 refine w_mul rfl ?_
                 refine w_ldI rfl rfl ?_
                 refine w_add rfl ?_
                 refine w_ald rfl rfl rfl (by omega) rfl ?_
                 rw [zv, ← zy]
                 refine w_ast rfl rfl rfl (by omega) rfl ?_
                 refine w_inc_3_2 rfl rfl ?_
                 refine w_go rfl ?_
                 obtain ⟨n, rfl⟩ : ∃ q, n = q + 1 := ⟨n - 1, by omega⟩
                 refine l_mcells (D := mup D k (shY s0 w k)) n (k + 1) ((k : Int) + 1) (by omega) hw hyr hsz (hf.tr (Fr.us rfl)) (by rw [us_eq, hD, show (0 + (k : Int)).toNat = k by omega]) (by omega) (fun s1 h1 h2 => ?_)
                 have h3 := hP s1 h1
                 rw [ceN_y (by omega)] at h3
                 exact h3 h2)))
termination_by n
decreasing_by all_goals omega
theorem m_cells_y {d : Nat} {s : mSt} {D : Nat → Int} (hD : s 147 = D) (hM : MOk D) (hC : COk D) {w : Int} (hrw : -2147483648 ≤ w ∧ w < 2147483648) (hw : 0 ≤ w ∧ w ≤ 3) (hsz : (s 160 w.toNat = 0 ∨ s 160 w.toNat = 8 ∨ s 160 w.toNat = 16 ∨ s 160 w.toNat = 32) ∧ (0 ≤ s 161 w.toNat ∧ s 161 w.toNat ≤ 40)) (hyr : ∀ k : Nat, k < 40 → -2147483648 ≤ shY s w k ∧ shY s w k < 2147483648) (hb : ¬ s 160 w.toNat = 0) : CI (d + 2) 257 [.inr (.inr 146), .inl w] (s) (fun q s1 => q = (ceN (shY s w) (s 161 w.toNat) 36 0 D).1 ∧ s1 147 = (ceN (shY s w) (s 161 w.toNat) 36 0 D).2 ∧ Fr [147] s s1) := by
  refine CI.mk rfl ?_
  show WP (d + 2) 257 0 [some (.inr (.inr 146)), some (.inl w), none] [] (encA (s)) _
  have hM0 := hM
  obtain ⟨hM39, hM40, hM41, hM43, hM44, hM36, hM37, hM38, hMc, hMw, hMp, hMt, hMb⟩ := hM
  refine w_ldI rfl rfl ?_
  refine w_call rfl rfl rfl (c_isSheet (by omega)) ?_
  refine w_bNe0 rfl (fun b2 => ?_) (fun b2 => ?_)
  · first
    | (exfalso; omega)
    | (refine w_ldR rfl rfl rfl ?_
       first | refine w_getI rfl rfl rfl rfl rfl ?_ | refine w_getR rfl rfl rfl rfl rfl ?_
       refine w_ldI rfl rfl ?_
       refine w_ald rfl rfl rfl (by omega) rfl ?_
       refine w_irNe0 rfl (by omega) (fun b11 => ?_) (fun b11 => ?_)
       · first
         | (exfalso; omega)
         | (refine w_push rfl ?_
            refine w_StI_3_2 rfl rfl ?_
            exact l_mcells 36 0 0 rfl hw hyr hsz.2 Fr.rf hD rfl (fun s1 h1 h2 => ⟨rfl, h2, h1⟩))
       · first
         | (exfalso; omega)
         | (refine w_ldR rfl rfl rfl ?_
            refine w_push rfl ?_
            refine w_callV rfl rfl rfl rfl rfl rfl rfl r_finds1 ?_
            refine w_retI rfl ?_
            exact ⟨rfl, rfl⟩))
  · first
    | (exfalso; omega)
    | (refine w_ldR rfl rfl rfl ?_
       refine w_push rfl ?_
       refine w_callV rfl rfl rfl rfl rfl rfl rfl r_finds1 ?_
       refine w_retI rfl ?_
       exact ⟨rfl, rfl⟩)
theorem m_cells_m {d : Nat} {s : mSt} {D : Nat → Int} (hD : s 147 = D) (hM : MOk D) (hC : COk D) {w : Int} (hrw : -2147483648 ≤ w ∧ w < 2147483648) (hw : 0 ≤ w ∧ w ≤ 3) (hsz : (s 160 w.toNat = 0 ∨ s 160 w.toNat = 8 ∨ s 160 w.toNat = 16 ∨ s 160 w.toNat = 32) ∧ (0 ≤ s 161 w.toNat ∧ s 161 w.toNat ≤ 40)) (hb : s 160 w.toNat = 0) : CI (d + 2) 257 [.inr (.inr 146), .inl w] (s) (fun r s1 => r = -1000000000 - 2 ∧ s1 = us s 150 2 (s 150 2 + 1)) := by
  refine CI.mk rfl ?_
  show WP (d + 2) 257 0 [some (.inr (.inr 146)), some (.inl w), none] [] (encA (s)) _
  have hM0 := hM
  obtain ⟨hM39, hM40, hM41, hM43, hM44, hM36, hM37, hM38, hMc, hMw, hMp, hMt, hMb⟩ := hM
  refine w_ldI rfl rfl ?_
  refine w_call rfl rfl rfl (c_isSheet (by omega)) ?_
  refine w_bNe0 rfl (fun b2 => ?_) (fun b2 => ?_)
  · first
    | (exfalso; omega)
    | (refine w_ldR rfl rfl rfl ?_
       first | refine w_getI rfl rfl rfl rfl rfl ?_ | refine w_getR rfl rfl rfl rfl rfl ?_
       refine w_ldI rfl rfl ?_
       refine w_ald rfl rfl rfl (by omega) rfl ?_
       refine w_irNe0 rfl (by omega) (fun b11 => ?_) (fun b11 => ?_)
       · first
         | (exfalso; omega)
         | (exfalso; omega)
       · first
         | (exfalso; omega)
         | (refine w_ldR rfl rfl rfl ?_
            refine w_push rfl ?_
            refine w_callV rfl rfl rfl rfl rfl rfl rfl r_finds2 ?_
            refine w_retI rfl ?_
            exact ⟨rfl, rfl⟩))
  · first
    | (exfalso; omega)
    | (refine w_ldR rfl rfl rfl ?_
       refine w_push rfl ?_
       refine w_callV rfl rfl rfl rfl rfl rfl rfl r_finds2 ?_
       refine w_retI rfl ?_
       exact ⟨rfl, rfl⟩)
theorem m_cells_n {d : Nat} {s : mSt} {D : Nat → Int} (hD : s 147 = D) (hM : MOk D) (hC : COk D) {w : Int} (hrw : -2147483648 ≤ w ∧ w < 2147483648) (hw : ¬ (0 ≤ w ∧ w ≤ 3)) : CI (d + 2) 257 [.inr (.inr 146), .inl w] (s) (fun r s1 => r = -1000000000 - 1 ∧ s1 = us s 150 1 (s 150 1 + 1)) := by
  refine CI.mk rfl ?_
  show WP (d + 2) 257 0 [some (.inr (.inr 146)), some (.inl w), none] [] (encA (s)) _
  have hM0 := hM
  obtain ⟨hM39, hM40, hM41, hM43, hM44, hM36, hM37, hM38, hMc, hMw, hMp, hMt, hMb⟩ := hM
  refine w_ldI rfl rfl ?_
  refine w_call rfl rfl rfl (c_isSheet (by omega)) ?_
  refine w_bNe0 rfl (fun b2 => ?_) (fun b2 => ?_)
  · first
    | (exfalso; omega)
    | (exfalso; omega)
  · first
    | (exfalso; omega)
    | (refine w_ldR rfl rfl rfl ?_
       refine w_push rfl ?_
       refine w_callV rfl rfl rfl rfl rfl rfl rfl r_finds1 ?_
       refine w_retI rfl ?_
       exact ⟨rfl, rfl⟩)
theorem IvS.yr {s : mSt} (h : IvS s) {w : Int} (hw : 0 ≤ w ∧ w ≤ 3) : ∀ k : Nat, k < 40 → -2147483648 ≤ shY s w k ∧ shY s w k < 2147483648 := by
  have key : ∀ (r q : Nat), ShR s r q → w = (q : Int) → ∀ k : Nat, k < 40 → -2147483648 ≤ shY s w k ∧ shY s w k < 2147483648 := by
    intro r q hr hq k hk
    subst hq
    have := hr.2.2.2.2 k (by omega) (by omega)
    unfold ShN at this
    unfold shY
    omega
  obtain ⟨h0, h1, h2, h3⟩ := h
  rcases (show w = 0 ∨ w = 1 ∨ w = 2 ∨ w = 3 by omega) with e | e | e | e
  · exact key _ _ h0 e
  · exact key _ _ h1 e
  · exact key _ _ h2 e
  · exact key _ _ h3 e
theorem st_cells {X : Nat → Int} {N : Int} {d : Nat} {s : mSt} {cnt : Int} (hI : Inv X N s cnt) {w : Int} (hrw : -2147483648 ≤ w ∧ w < 2147483648) : Step X N (d + 150) s cnt 133 257 [.inl w] := by
  have hI0 := hI
  obtain ⟨hD, -, -, -, -, hT, -, hX, hU⟩ := hI
  have hD0 := hD
  obtain ⟨⟨hM, hC, hN⟩, hV, h8⟩ := hD
  have hV0 := hV
  have hM0 := hM
  obtain ⟨vc, vpl, vga, vse, vne, veg, vre, vtu, vta, vwa, v36, v37, v39, v40, v42, v41, v43, v44, vl0, vl1, vlm⟩ := hV
  obtain ⟨hM39, hM40, hM41, hM43, hM44, hM36, hM37, hM38, hMc, hMw, hMp, hMt, hMb⟩ := hM
  have hS := hI0.2.2.2.2.1
  by_cases hy : 0 ≤ w ∧ w ≤ 3
  · by_cases hb : s 160 w.toNat = 0
    · obtain ⟨r1, s1, k1, hr, hs1⟩ := x_cells_m (d := d + 149) hD0 hrw hS hy hb
      have e : s1 147 = s 147 := by rw [hs1]; exact us_ne (by decide)
      obtain ⟨r2, s2, k2, hr2, hs2⟩ := m_cells_m (d := d + 148) (s := s1) e hM0 hC hrw hy (by rw [hs1, us_ne (by decide), us_ne (by decide)]; exact (hS.at hy).2) (by rw [hs1, us_ne (by decide)]; exact hb)
      rw [hs2] at k2
      exact Step.mk (by first | exact ⟨(f1.at 1 rfl).trans hX.2.1, (congrFun (f1.at 0 rfl) 1).trans hX.2.2⟩ | exact ⟨hX.2.1, hX.2.2⟩ | exact ⟨by rw [hs1, us_ne (by decide)]; exact hX.2.1, by rw [hs1, us_ne (by decide)]; exact hX.2.2⟩ | exact ⟨by rw [hs1, us_ne (by decide), us_ne (by decide)]; exact hX.2.1, by rw [hs1, us_ne (by decide), us_ne (by decide)]; exact hX.2.2⟩ | exact ⟨by rw [e1, us_ne (by decide), f1.at 1 rfl]; exact hX.2.1, by rw [e1, us_ne (by decide), f1.at 0 rfl]; exact hX.2.2⟩ | exact ⟨by rw [ft.at 1 rfl, hx 1 (by decide) (by decide)]; exact hX.2.1, by rw [ft.at 0 rfl, et, newL_0, mup_ne (by decide)]; exact hX.2.2⟩) k1 k2 (by rw [hr, hr2]) (hI0.err2 hs1)
    · rcases (show w = 0 ∨ w = 1 ∨ w = 2 ∨ w = 3 by omega) with rfl | rfl | rfl | rfl
      · obtain ⟨r1, s1, k1, hr, hV1, f1⟩ := x_cells_y0 (d := d + 149) hD0 hS hb
        have e : s1 147 = s 147 := f1.at 147 rfl
        have a2 : s1 162 = s 162 := f1.at 162 rfl
        have a6 : s1 160 = s 160 := f1.at 160 rfl
        have a7 : s1 161 = s 161 := f1.at 161 rfl
        have aY : shY s1 0 = shY s 0 := by unfold shY; rw [a2]
        obtain ⟨r2, s2, k2, hr2, e2, f2⟩ := m_cells_y (d := d + 148) (s := s1) (w := 0) e hM0 hC hrw (by omega) (by rw [a6, a7]; exact (hS.at (w := 0) (by omega)).2) (by rw [aY]; exact hS.yr (by omega)) (by rw [a6]; exact hb)
        rw [aY, a7] at hr2 e2
        refine Step.mk (by first | exact ⟨(f1.at 1 rfl).trans hX.2.1, (congrFun (f1.at 0 rfl) 1).trans hX.2.2⟩ | exact ⟨hX.2.1, hX.2.2⟩ | exact ⟨by rw [hs1, us_ne (by decide)]; exact hX.2.1, by rw [hs1, us_ne (by decide)]; exact hX.2.2⟩ | exact ⟨by rw [hs1, us_ne (by decide), us_ne (by decide)]; exact hX.2.1, by rw [hs1, us_ne (by decide), us_ne (by decide)]; exact hX.2.2⟩ | exact ⟨by rw [e1, us_ne (by decide), f1.at 1 rfl]; exact hX.2.1, by rw [e1, us_ne (by decide), f1.at 0 rfl]; exact hX.2.2⟩ | exact ⟨by rw [ft.at 1 rfl, hx 1 (by decide) (by decide)]; exact hX.2.1, by rw [ft.at 0 rfl, et, newL_0, mup_ne (by decide)]; exact hX.2.2⟩) k1 k2 (by rw [hr, hr2]; rfl) ?_
        have hf : Fr [14, 147] s s2 := (Fr.mono rfl f1).tr (Fr.mono rfl f2)
        have hg := ceN_ok (Y := shY s 0) (sz := s 161 0) 36 0 (s 147) (by omega) hM0 hC
        exact hI0.vil rfl rfl (by omega) hf (IvD.mk e2 hg.1 hg.2.1 (by have := hg.2.2 38 (by omega); show (ceN (shY s 0) (s 161 0) 36 0 (s 147)).2 38 ≤ 9999; omega) (hV1.fr rfl f2) (by rw [hf.at 13 rfl]; have := hg.2.2 38 (by omega); show _ = (ceN (shY s 0) (s 161 0) 36 0 (s 147)).2 38; omega)) (hT.d (fun i hi => by rw [e2]; exact hg.2.2 i (by omega)) (hf.at 148 rfl) (hf.at 149 rfl))
      · obtain ⟨r1, s1, k1, hr, hV1, f1⟩ := x_cells_y1 (d := d + 149) hD0 hS hb
        have e : s1 147 = s 147 := f1.at 147 rfl
        have a2 : s1 162 = s 162 := f1.at 162 rfl
        have a6 : s1 160 = s 160 := f1.at 160 rfl
        have a7 : s1 161 = s 161 := f1.at 161 rfl
        have aY : shY s1 1 = shY s 1 := by unfold shY; rw [a2]
        obtain ⟨r2, s2, k2, hr2, e2, f2⟩ := m_cells_y (d := d + 148) (s := s1) (w := 1) e hM0 hC hrw (by omega) (by rw [a6, a7]; exact (hS.at (w := 1) (by omega)).2) (by rw [aY]; exact hS.yr (by omega)) (by rw [a6]; exact hb)
        rw [aY, a7] at hr2 e2
        refine Step.mk (by first | exact ⟨(f1.at 1 rfl).trans hX.2.1, (congrFun (f1.at 0 rfl) 1).trans hX.2.2⟩ | exact ⟨hX.2.1, hX.2.2⟩ | exact ⟨by rw [hs1, us_ne (by decide)]; exact hX.2.1, by rw [hs1, us_ne (by decide)]; exact hX.2.2⟩ | exact ⟨by rw [hs1, us_ne (by decide), us_ne (by decide)]; exact hX.2.1, by rw [hs1, us_ne (by decide), us_ne (by decide)]; exact hX.2.2⟩ | exact ⟨by rw [e1, us_ne (by decide), f1.at 1 rfl]; exact hX.2.1, by rw [e1, us_ne (by decide), f1.at 0 rfl]; exact hX.2.2⟩ | exact ⟨by rw [ft.at 1 rfl, hx 1 (by decide) (by decide)]; exact hX.2.1, by rw [ft.at 0 rfl, et, newL_0, mup_ne (by decide)]; exact hX.2.2⟩) k1 k2 (by rw [hr, hr2]; rfl) ?_
        have hf : Fr [14, 147] s s2 := (Fr.mono rfl f1).tr (Fr.mono rfl f2)
        have hg := ceN_ok (Y := shY s 1) (sz := s 161 1) 36 0 (s 147) (by omega) hM0 hC
        exact hI0.vil rfl rfl (by omega) hf (IvD.mk e2 hg.1 hg.2.1 (by have := hg.2.2 38 (by omega); show (ceN (shY s 1) (s 161 1) 36 0 (s 147)).2 38 ≤ 9999; omega) (hV1.fr rfl f2) (by rw [hf.at 13 rfl]; have := hg.2.2 38 (by omega); show _ = (ceN (shY s 1) (s 161 1) 36 0 (s 147)).2 38; omega)) (hT.d (fun i hi => by rw [e2]; exact hg.2.2 i (by omega)) (hf.at 148 rfl) (hf.at 149 rfl))
      · obtain ⟨r1, s1, k1, hr, hV1, f1⟩ := x_cells_y2 (d := d + 149) hD0 hS hb
        have e : s1 147 = s 147 := f1.at 147 rfl
        have a2 : s1 162 = s 162 := f1.at 162 rfl
        have a6 : s1 160 = s 160 := f1.at 160 rfl
        have a7 : s1 161 = s 161 := f1.at 161 rfl
        have aY : shY s1 2 = shY s 2 := by unfold shY; rw [a2]
        obtain ⟨r2, s2, k2, hr2, e2, f2⟩ := m_cells_y (d := d + 148) (s := s1) (w := 2) e hM0 hC hrw (by omega) (by rw [a6, a7]; exact (hS.at (w := 2) (by omega)).2) (by rw [aY]; exact hS.yr (by omega)) (by rw [a6]; exact hb)
        rw [aY, a7] at hr2 e2
        refine Step.mk (by first | exact ⟨(f1.at 1 rfl).trans hX.2.1, (congrFun (f1.at 0 rfl) 1).trans hX.2.2⟩ | exact ⟨hX.2.1, hX.2.2⟩ | exact ⟨by rw [hs1, us_ne (by decide)]; exact hX.2.1, by rw [hs1, us_ne (by decide)]; exact hX.2.2⟩ | exact ⟨by rw [hs1, us_ne (by decide), us_ne (by decide)]; exact hX.2.1, by rw [hs1, us_ne (by decide), us_ne (by decide)]; exact hX.2.2⟩ | exact ⟨by rw [e1, us_ne (by decide), f1.at 1 rfl]; exact hX.2.1, by rw [e1, us_ne (by decide), f1.at 0 rfl]; exact hX.2.2⟩ | exact ⟨by rw [ft.at 1 rfl, hx 1 (by decide) (by decide)]; exact hX.2.1, by rw [ft.at 0 rfl, et, newL_0, mup_ne (by decide)]; exact hX.2.2⟩) k1 k2 (by rw [hr, hr2]; rfl) ?_
        have hf : Fr [14, 147] s s2 := (Fr.mono rfl f1).tr (Fr.mono rfl f2)
        have hg := ceN_ok (Y := shY s 2) (sz := s 161 2) 36 0 (s 147) (by omega) hM0 hC
        exact hI0.vil rfl rfl (by omega) hf (IvD.mk e2 hg.1 hg.2.1 (by have := hg.2.2 38 (by omega); show (ceN (shY s 2) (s 161 2) 36 0 (s 147)).2 38 ≤ 9999; omega) (hV1.fr rfl f2) (by rw [hf.at 13 rfl]; have := hg.2.2 38 (by omega); show _ = (ceN (shY s 2) (s 161 2) 36 0 (s 147)).2 38; omega)) (hT.d (fun i hi => by rw [e2]; exact hg.2.2 i (by omega)) (hf.at 148 rfl) (hf.at 149 rfl))
      · obtain ⟨r1, s1, k1, hr, hV1, f1⟩ := x_cells_y3 (d := d + 149) hD0 hS hb
        have e : s1 147 = s 147 := f1.at 147 rfl
        have a2 : s1 162 = s 162 := f1.at 162 rfl
        have a6 : s1 160 = s 160 := f1.at 160 rfl
        have a7 : s1 161 = s 161 := f1.at 161 rfl
        have aY : shY s1 3 = shY s 3 := by unfold shY; rw [a2]
        obtain ⟨r2, s2, k2, hr2, e2, f2⟩ := m_cells_y (d := d + 148) (s := s1) (w := 3) e hM0 hC hrw (by omega) (by rw [a6, a7]; exact (hS.at (w := 3) (by omega)).2) (by rw [aY]; exact hS.yr (by omega)) (by rw [a6]; exact hb)
        rw [aY, a7] at hr2 e2
        refine Step.mk (by first | exact ⟨(f1.at 1 rfl).trans hX.2.1, (congrFun (f1.at 0 rfl) 1).trans hX.2.2⟩ | exact ⟨hX.2.1, hX.2.2⟩ | exact ⟨by rw [hs1, us_ne (by decide)]; exact hX.2.1, by rw [hs1, us_ne (by decide)]; exact hX.2.2⟩ | exact ⟨by rw [hs1, us_ne (by decide), us_ne (by decide)]; exact hX.2.1, by rw [hs1, us_ne (by decide), us_ne (by decide)]; exact hX.2.2⟩ | exact ⟨by rw [e1, us_ne (by decide), f1.at 1 rfl]; exact hX.2.1, by rw [e1, us_ne (by decide), f1.at 0 rfl]; exact hX.2.2⟩ | exact ⟨by rw [ft.at 1 rfl, hx 1 (by decide) (by decide)]; exact hX.2.1, by rw [ft.at 0 rfl, et, newL_0, mup_ne (by decide)]; exact hX.2.2⟩) k1 k2 (by rw [hr, hr2]; rfl) ?_
        have hf : Fr [14, 147] s s2 := (Fr.mono rfl f1).tr (Fr.mono rfl f2)
        have hg := ceN_ok (Y := shY s 3) (sz := s 161 3) 36 0 (s 147) (by omega) hM0 hC
        exact hI0.vil rfl rfl (by omega) hf (IvD.mk e2 hg.1 hg.2.1 (by have := hg.2.2 38 (by omega); show (ceN (shY s 3) (s 161 3) 36 0 (s 147)).2 38 ≤ 9999; omega) (hV1.fr rfl f2) (by rw [hf.at 13 rfl]; have := hg.2.2 38 (by omega); show _ = (ceN (shY s 3) (s 161 3) 36 0 (s 147)).2 38; omega)) (hT.d (fun i hi => by rw [e2]; exact hg.2.2 i (by omega)) (hf.at 148 rfl) (hf.at 149 rfl))
  · obtain ⟨r1, s1, k1, hr, hs1⟩ := x_cells_n (d := d + 149) hD0 hrw hS hy
    have e : s1 147 = s 147 := by rw [hs1]; exact us_ne (by decide)
    obtain ⟨r2, s2, k2, hr2, hs2⟩ := m_cells_n (d := d + 148) (s := s1) e hM0 hC hrw hy
    rw [hs2] at k2
    exact Step.mk (by first | exact ⟨(f1.at 1 rfl).trans hX.2.1, (congrFun (f1.at 0 rfl) 1).trans hX.2.2⟩ | exact ⟨hX.2.1, hX.2.2⟩ | exact ⟨by rw [hs1, us_ne (by decide)]; exact hX.2.1, by rw [hs1, us_ne (by decide)]; exact hX.2.2⟩ | exact ⟨by rw [hs1, us_ne (by decide), us_ne (by decide)]; exact hX.2.1, by rw [hs1, us_ne (by decide), us_ne (by decide)]; exact hX.2.2⟩ | exact ⟨by rw [e1, us_ne (by decide), f1.at 1 rfl]; exact hX.2.1, by rw [e1, us_ne (by decide), f1.at 0 rfl]; exact hX.2.2⟩ | exact ⟨by rw [ft.at 1 rfl, hx 1 (by decide) (by decide)]; exact hX.2.1, by rw [ft.at 0 rfl, et, newL_0, mup_ne (by decide)]; exact hX.2.2⟩) k1 k2 (by rw [hr, hr2]) (hI0.err2 hs1)
theorem x_judge_n {d : Nat} {s : mSt} (hI : IvD s) {w q : Int} (hrw : -2147483648 ≤ w ∧ w < 2147483648) (hrq : -2147483648 ≤ q ∧ q < 2147483648) (hS : IvS s) (hw : ¬ ((0 ≤ w ∧ w ≤ 3) ∧ 0 ≤ q ∧ q ≤ s 147 39 - 1)) : CI (d + 4) 134 [.inr (.inr 10), .inl w, .inl q] (s) (fun r s1 => r = -1000000000 - 1 ∧ s1 = us s 132 1 (s 132 1 + 1)) := by
  refine CI.mk rfl ?_
  show WP (d + 4) 134 0 [some (.inr (.inr 10)), some (.inl w), some (.inl q), none, none, none] [] (encA (s)) _
  have hI0 := hI
  obtain ⟨⟨hM, hC, hN⟩, hV, h8⟩ := hI
  have hV0 := hV
  have hM0 := hM
  obtain ⟨vc, vpl, vga, vse, vne, veg, vre, vtu, vta, vwa, v36, v37, v39, v40, v42, v41, v43, v44, vl0, vl1, vlm⟩ := hV
  obtain ⟨hM39, hM40, hM41, hM43, hM44, hM36, hM37, hM38, hMc, hMw, hMp, hMt, hMb⟩ := hM
  refine w_ldI rfl rfl ?_
  refine w_call rfl rfl rfl (k_isSheet (by omega)) ?_
  refine w_bEq0 rfl (fun b2 => ?_) (fun b2 => ?_)
  · first
    | (exfalso; omega)
    | (refine w_ldR rfl rfl rfl ?_
       refine w_push rfl ?_
       refine w_callWI rfl rfl rfl rfl rfl rfl rfl k_error1 (fun v9 s9 p9 => ?_)
       obtain ⟨rfl, rfl⟩ := p9
       refine w_retI rfl ?_
       exact ⟨rfl, rfl⟩)
  · first
    | (exfalso; omega)
    | (refine w_ldR rfl rfl rfl ?_
       refine w_ldI rfl rfl ?_
       refine w_callV rfl rfl rfl rfl rfl rfl rfl (k_isWindow (by omega) (by omega)) ?_
       refine w_bNe0 rfl (fun b6 => ?_) (fun b6 => ?_)
       · first
         | (exfalso; omega)
         | (exfalso; omega)
       · first
         | (exfalso; omega)
         | (refine w_ldR rfl rfl rfl ?_
            refine w_push rfl ?_
            refine w_callWI rfl rfl rfl rfl rfl rfl rfl k_error1 (fun v9 s9 p9 => ?_)
            obtain ⟨rfl, rfl⟩ := p9
            refine w_retI rfl ?_
            exact ⟨rfl, rfl⟩))
theorem x_judge_m {d : Nat} {s : mSt} (hI : IvD s) {w q : Int} (hrw : -2147483648 ≤ w ∧ w < 2147483648) (hrq : -2147483648 ≤ q ∧ q < 2147483648) (hS : IvS s) (hw : (0 ≤ w ∧ w ≤ 3) ∧ 0 ≤ q ∧ q ≤ s 147 39 - 1) (hb : s 160 w.toNat = 0) : CI (d + 4) 134 [.inr (.inr 10), .inl w, .inl q] (s) (fun r s1 => r = -1000000000 - 2 ∧ s1 = us s 132 2 (s 132 2 + 1)) := by
  refine CI.mk rfl ?_
  show WP (d + 4) 134 0 [some (.inr (.inr 10)), some (.inl w), some (.inl q), none, none, none] [] (encA (s)) _
  have hI0 := hI
  obtain ⟨⟨hM, hC, hN⟩, hV, h8⟩ := hI
  have hV0 := hV
  have hM0 := hM
  obtain ⟨vc, vpl, vga, vse, vne, veg, vre, vtu, vta, vwa, v36, v37, v39, v40, v42, v41, v43, v44, vl0, vl1, vlm⟩ := hV
  obtain ⟨hM39, hM40, hM41, hM43, hM44, hM36, hM37, hM38, hMc, hMw, hMp, hMt, hMb⟩ := hM
  have hsa := hS.at hw.1
  refine w_ldI rfl rfl ?_
  refine w_call rfl rfl rfl (k_isSheet (by omega)) ?_
  refine w_bEq0 rfl (fun b2 => ?_) (fun b2 => ?_)
  · first
    | (exfalso; omega)
    | (exfalso; omega)
  · first
    | (exfalso; omega)
    | (refine w_ldR rfl rfl rfl ?_
       refine w_ldI rfl rfl ?_
       refine w_callV rfl rfl rfl rfl rfl rfl rfl (k_isWindow (by omega) (by omega)) ?_
       refine w_bNe0 rfl (fun b6 => ?_) (fun b6 => ?_)
       · first
         | (exfalso; omega)
         | (refine w_ldR rfl rfl rfl ?_
            refine w_ldI rfl rfl ?_
            refine w_callV rfl rfl rfl rfl rfl rfl rfl (k_isMissing (by omega) (by have := hS.at (w := w) (by omega); omega)) ?_
            refine w_bEq0 rfl (fun b14 => ?_) (fun b14 => ?_)
            · first
              | (exfalso; omega)
              | (exfalso; omega)
            · first
              | (exfalso; omega)
              | (refine w_ldR rfl rfl rfl ?_
                 refine w_push rfl ?_
                 refine w_callWI rfl rfl rfl rfl rfl rfl rfl k_error2 (fun v17 s17 p17 => ?_)
                 obtain ⟨rfl, rfl⟩ := p17
                 refine w_retI rfl ?_
                 exact ⟨rfl, rfl⟩))
       · first
         | (exfalso; omega)
         | (exfalso; omega))
theorem l_mjudge {d : Nat} {s : mSt} {P : Int → mSt → Prop} {s0 : mSt} {w q : Int} {L : Nat → Int} (n k : Nat) (i : Int) (hi : i = (k : Int)) (hw : 0 ≤ w ∧ w ≤ 3) (hyr : ∀ k : Nat, k < 40 → -2147483648 ≤ shY s0 w k ∧ shY s0 w k < 2147483648) (hsz : 0 ≤ s0 161 w.toNat ∧ s0 161 w.toNat ≤ 40) (hf : Fr [151, 153, 154] s0 s) (hl : ∀ i, i < 36 → s 154 i = L i) (hL : LOk L) (hk : k + n = 36) (hP : P (juN (shY s0 w) L (s0 161 w.toNat) n k) s) : WP (d + 5) 258 25 [some (.inr (.inr 146)), some (.inl w), some (.inl q), some (.inl i)] [] (encA (s)) (QI P) := by
  subst hi
  have zv : ∀ q : Nat, s 162 q = s0 162 q := fun q => by rw [hf.at 162 rfl]
  have z0 : s 161 w.toNat = s0 161 w.toNat := by rw [hf.at 161 rfl]
  have zy : shY s0 w k = s0 162 (40 * w + (k : Int)).toNat := rfl
  refine w_ldI rfl rfl ?_
  refine w_ldR rfl rfl rfl ?_
  first | refine w_getI rfl rfl rfl rfl rfl ?_ | refine w_getR rfl rfl rfl rfl rfl ?_
  refine w_ldI rfl rfl ?_
  refine w_ald rfl rfl rfl (by omega) rfl ?_
  rw [z0]
  refine w_crGe rfl (by omega) (by omega) (fun b30 => ?_) (fun b30 => ?_)
  · first
    | (exfalso; omega)
    | (refine w_ldI rfl rfl ?_
       refine w_retI rfl ?_
       by_cases h0 : n = 0
       · subst h0; exact hP
       · rw [juN_n (by omega)] at hP
         exact hP)
  · first
    | (exfalso; omega)
    | (refine w_ldI rfl rfl ?_
       refine w_push rfl ?_
       refine w_crGe rfl (by omega) (by omega) (fun b33 => ?_) (fun b33 => ?_)
       · first
         | (exfalso; omega)
         | (refine w_ldI rfl rfl ?_
            refine w_retI rfl ?_
            by_cases h0 : n = 0
            · subst h0; exact hP
            · rw [juN_n (by omega)] at hP
              exact hP)
       · first
         | (exfalso; omega)
         | (have hyk := hyr k (by omega)
            have hLk := hL k (by omega)
            refine w_ldR rfl rfl rfl ?_
            first | refine w_getI rfl rfl rfl rfl rfl ?_ | refine w_getR rfl rfl rfl rfl rfl ?_
            refine w_push rfl ?_
            refine w_ldI rfl rfl ?_
            refine w_mul rfl ?_
            refine w_ldI rfl rfl ?_
            refine w_add rfl ?_
            refine w_ald rfl rfl rfl (by omega) rfl ?_
            rw [zv, ← zy]
            refine w_ldR rfl rfl rfl ?_
            first | refine w_getI rfl rfl rfl rfl rfl ?_ | refine w_getR rfl rfl rfl rfl rfl ?_
            refine w_ldI rfl rfl ?_
            refine w_ald rfl rfl rfl (by omega) rfl ?_
            rw [hl _ (by omega), Int.toNat_natCast]
            refine w_crNe rfl (by omega) (by omega) (fun b46 => ?_) (fun b46 => ?_)
            · first
              | (exfalso; omega)
              | (refine w_ldI rfl rfl ?_
                 refine w_retI rfl ?_
                 by_cases h0 : n = 0
                 · subst h0; exact hP
                 · rw [juN_n (by omega)] at hP
                   exact hP)
            · first
              | (exfalso; omega)
              | (refine w_inc_4_3 rfl rfl ?_
                 refine w_go rfl ?_
                 obtain ⟨n, rfl⟩ : ∃ q, n = q + 1 := ⟨n - 1, by omega⟩
                 rw [juN_y (by omega)] at hP
                 exact l_mjudge n (k + 1) ((k : Int) + 1) (by omega) hw hyr hsz hf hl hL (by omega) hP)))
termination_by n
decreasing_by all_goals omega
theorem m_judge_y {d : Nat} {s : mSt} {D : Nat → Int} (hD : s 147 = D) (hM : MOk D) (hC : COk D) {w q : Int} (hrw : -2147483648 ≤ w ∧ w < 2147483648) (hrq : -2147483648 ≤ q ∧ q < 2147483648) (hw : (0 ≤ w ∧ w ≤ 3) ∧ 0 ≤ q ∧ q ≤ D 39 - 1) (hsz : (s 160 w.toNat = 0 ∨ s 160 w.toNat = 8 ∨ s 160 w.toNat = 16 ∨ s 160 w.toNat = 32) ∧ (0 ≤ s 161 w.toNat ∧ s 161 w.toNat ≤ 40)) (hyr : ∀ k : Nat, k < 40 → -2147483648 ≤ shY s w k ∧ shY s w k < 2147483648) (hb : ¬ s 160 w.toNat = 0) : CI (d + 5) 258 [.inr (.inr 146), .inl w, .inl q] (s) (fun v s1 => v = juN (shY s w) (liW D q) (s 161 w.toNat) 36 0 ∧ Fr [151, 153, 154] s s1) := by
  refine CI.mk rfl ?_
  show WP (d + 5) 258 0 [some (.inr (.inr 146)), some (.inl w), some (.inl q), none] [] (encA (s)) _
  have hM0 := hM
  obtain ⟨hM39, hM40, hM41, hM43, hM44, hM36, hM37, hM38, hMc, hMw, hMp, hMt, hMb⟩ := hM
  refine w_ldI rfl rfl ?_
  refine w_call rfl rfl rfl (c_isSheet (by omega)) ?_
  refine w_bEq0 rfl (fun b2 => ?_) (fun b2 => ?_)
  · first
    | (exfalso; omega)
    | (refine w_ldR rfl rfl rfl ?_
       refine w_push rfl ?_
       refine w_callV rfl rfl rfl rfl rfl rfl rfl r_finds1 ?_
       refine w_retI rfl ?_
       exact ⟨rfl, rfl⟩)
  · first
    | (exfalso; omega)
    | (refine w_ldR rfl rfl rfl ?_
       refine w_ldI rfl rfl ?_
       refine w_callV rfl rfl rfl rfl rfl rfl rfl (r_isWindow (by omega) (by rw [hD]; omega)) ?_
       rw [hD]
       refine w_bNe0 rfl (fun b6 => ?_) (fun b6 => ?_)
       · first
         | (exfalso; omega)
         | (refine w_ldR rfl rfl rfl ?_
            first | refine w_getI rfl rfl rfl rfl rfl ?_ | refine w_getR rfl rfl rfl rfl rfl ?_
            refine w_ldI rfl rfl ?_
            refine w_ald rfl rfl rfl (by omega) rfl ?_
            refine w_irNe0 rfl (by omega) (fun b15 => ?_) (fun b15 => ?_)
            · first
              | (exfalso; omega)
              | (refine w_ldR rfl rfl rfl ?_
                 refine w_ldI rfl rfl ?_
                 refine w_callWN rfl rfl rfl rfl rfl rfl rfl (c_shine hD hM0 hC (by omega)) (fun s22 p22 => ?_)
                 refine w_push rfl ?_
                 refine w_StI_4_3 rfl rfl ?_
                 have hyr2 : ∀ k : Nat, k < 40 → -2147483648 ≤ shY s w k ∧ shY s w k < 2147483648 := hyr
                 exact l_mjudge (s0 := s) 36 0 0 rfl hw.1 hyr2 hsz.2 p22.1 p22.2 (liW_L hM0 (by omega)) rfl ⟨rfl, p22.1⟩)
            · first
              | (exfalso; omega)
              | (refine w_ldR rfl rfl rfl ?_
                 refine w_push rfl ?_
                 refine w_callV rfl rfl rfl rfl rfl rfl rfl r_finds1 ?_
                 refine w_retI rfl ?_
                 exact ⟨rfl, rfl⟩))
       · first
         | (exfalso; omega)
         | (refine w_ldR rfl rfl rfl ?_
            refine w_push rfl ?_
            refine w_callV rfl rfl rfl rfl rfl rfl rfl r_finds1 ?_
            refine w_retI rfl ?_
            exact ⟨rfl, rfl⟩))
theorem m_judge_m {d : Nat} {s : mSt} {D : Nat → Int} (hD : s 147 = D) (hM : MOk D) (hC : COk D) {w q : Int} (hrw : -2147483648 ≤ w ∧ w < 2147483648) (hrq : -2147483648 ≤ q ∧ q < 2147483648) (hw : (0 ≤ w ∧ w ≤ 3) ∧ 0 ≤ q ∧ q ≤ D 39 - 1) (hsz : (s 160 w.toNat = 0 ∨ s 160 w.toNat = 8 ∨ s 160 w.toNat = 16 ∨ s 160 w.toNat = 32) ∧ (0 ≤ s 161 w.toNat ∧ s 161 w.toNat ≤ 40)) (hb : s 160 w.toNat = 0) : CI (d + 5) 258 [.inr (.inr 146), .inl w, .inl q] (s) (fun r s1 => r = -1000000000 - 2 ∧ s1 = us s 150 2 (s 150 2 + 1)) := by
  refine CI.mk rfl ?_
  show WP (d + 5) 258 0 [some (.inr (.inr 146)), some (.inl w), some (.inl q), none] [] (encA (s)) _
  have hM0 := hM
  obtain ⟨hM39, hM40, hM41, hM43, hM44, hM36, hM37, hM38, hMc, hMw, hMp, hMt, hMb⟩ := hM
  refine w_ldI rfl rfl ?_
  refine w_call rfl rfl rfl (c_isSheet (by omega)) ?_
  try simp only [hD]
  refine w_bEq0 rfl (fun b2 => ?_) (fun b2 => ?_)
  · first
    | (exfalso; omega)
    | (exfalso; omega)
  · first
    | (exfalso; omega)
    | (refine w_ldR rfl rfl rfl ?_
       refine w_ldI rfl rfl ?_
       refine w_callV rfl rfl rfl rfl rfl rfl rfl (r_isWindow (by omega) (by rw [hD]; omega)) ?_
       rw [hD]
       try simp only [hD]
       refine w_bNe0 rfl (fun b6 => ?_) (fun b6 => ?_)
       · first
         | (exfalso; omega)
         | (refine w_ldR rfl rfl rfl ?_
            first | refine w_getI rfl rfl rfl rfl rfl ?_ | refine w_getR rfl rfl rfl rfl rfl ?_
            try simp only [hD]
            refine w_ldI rfl rfl ?_
            refine w_ald rfl rfl rfl (by omega) rfl ?_
            try simp only [hD]
            refine w_irNe0 rfl (by omega) (fun b15 => ?_) (fun b15 => ?_)
            · first
              | (exfalso; omega)
              | (exfalso; omega)
            · first
              | (exfalso; omega)
              | (refine w_ldR rfl rfl rfl ?_
                 refine w_push rfl ?_
                 refine w_callV rfl rfl rfl rfl rfl rfl rfl r_finds2 ?_
                 try simp only [hD]
                 refine w_retI rfl ?_
                 exact ⟨rfl, rfl⟩))
       · first
         | (exfalso; omega)
         | (exfalso; omega))
theorem m_judge_n {d : Nat} {s : mSt} {D : Nat → Int} (hD : s 147 = D) (hM : MOk D) (hC : COk D) {w q : Int} (hrw : -2147483648 ≤ w ∧ w < 2147483648) (hrq : -2147483648 ≤ q ∧ q < 2147483648) (hw : ¬ ((0 ≤ w ∧ w ≤ 3) ∧ 0 ≤ q ∧ q ≤ D 39 - 1)) : CI (d + 5) 258 [.inr (.inr 146), .inl w, .inl q] (s) (fun r s1 => r = -1000000000 - 1 ∧ s1 = us s 150 1 (s 150 1 + 1)) := by
  refine CI.mk rfl ?_
  show WP (d + 5) 258 0 [some (.inr (.inr 146)), some (.inl w), some (.inl q), none] [] (encA (s)) _
  have hM0 := hM
  obtain ⟨hM39, hM40, hM41, hM43, hM44, hM36, hM37, hM38, hMc, hMw, hMp, hMt, hMb⟩ := hM
  refine w_ldI rfl rfl ?_
  refine w_call rfl rfl rfl (c_isSheet (by omega)) ?_
  try simp only [hD]
  refine w_bEq0 rfl (fun b2 => ?_) (fun b2 => ?_)
  · first
    | (exfalso; omega)
    | (refine w_ldR rfl rfl rfl ?_
       refine w_push rfl ?_
       refine w_callV rfl rfl rfl rfl rfl rfl rfl r_finds1 ?_
       try simp only [hD]
       refine w_retI rfl ?_
       exact ⟨rfl, rfl⟩)
  · first
    | (exfalso; omega)
    | (refine w_ldR rfl rfl rfl ?_
       refine w_ldI rfl rfl ?_
       refine w_callV rfl rfl rfl rfl rfl rfl rfl (r_isWindow (by omega) (by rw [hD]; omega)) ?_
       rw [hD]
       try simp only [hD]
       refine w_bNe0 rfl (fun b6 => ?_) (fun b6 => ?_)
       · first
         | (exfalso; omega)
         | (exfalso; omega)
       · first
         | (exfalso; omega)
         | (refine w_ldR rfl rfl rfl ?_
            refine w_push rfl ?_
            refine w_callV rfl rfl rfl rfl rfl rfl rfl r_finds1 ?_
            try simp only [hD]
            refine w_retI rfl ?_
            exact ⟨rfl, rfl⟩))
theorem st_judge {X : Nat → Int} {N : Int} {d : Nat} {s : mSt} {cnt : Int} (hI : Inv X N s cnt) {w q : Int} (hrw : -2147483648 ≤ w ∧ w < 2147483648) (hrq : -2147483648 ≤ q ∧ q < 2147483648) : Step X N (d + 150) s cnt 134 258 [.inl w, .inl q] := by
  have hI0 := hI
  obtain ⟨hD, -, -, -, -, hT, -, hX, hU⟩ := hI
  have hD0 := hD
  obtain ⟨⟨hM, hC, hN⟩, hV, h8⟩ := hD
  have hV0 := hV
  have hM0 := hM
  obtain ⟨vc, vpl, vga, vse, vne, veg, vre, vtu, vta, vwa, v36, v37, v39, v40, v42, v41, v43, v44, vl0, vl1, vlm⟩ := hV
  obtain ⟨hM39, hM40, hM41, hM43, hM44, hM36, hM37, hM38, hMc, hMw, hMp, hMt, hMb⟩ := hM
  have hS := hI0.2.2.2.2.1
  by_cases hy : (0 ≤ w ∧ w ≤ 3) ∧ 0 ≤ q ∧ q ≤ s 147 39 - 1
  · by_cases hb : s 160 w.toNat = 0
    · obtain ⟨r1, s1, k1, hr, hs1⟩ := x_judge_m (d := d + 146) hD0 hrw hrq hS hy hb
      have e : s1 147 = s 147 := by rw [hs1]; exact us_ne (by decide)
      obtain ⟨r2, s2, k2, hr2, hs2⟩ := m_judge_m (d := d + 145) (s := s1) e hM0 hC hrw hrq hy (by rw [hs1, us_ne (by decide), us_ne (by decide)]; exact (hS.at hy.1).2) (by rw [hs1, us_ne (by decide)]; exact hb)
      rw [hs2] at k2
      exact Step.mk (by first | exact ⟨(f1.at 1 rfl).trans hX.2.1, (congrFun (f1.at 0 rfl) 1).trans hX.2.2⟩ | exact ⟨hX.2.1, hX.2.2⟩ | exact ⟨by rw [hs1, us_ne (by decide)]; exact hX.2.1, by rw [hs1, us_ne (by decide)]; exact hX.2.2⟩ | exact ⟨by rw [hs1, us_ne (by decide), us_ne (by decide)]; exact hX.2.1, by rw [hs1, us_ne (by decide), us_ne (by decide)]; exact hX.2.2⟩ | exact ⟨by rw [e1, us_ne (by decide), f1.at 1 rfl]; exact hX.2.1, by rw [e1, us_ne (by decide), f1.at 0 rfl]; exact hX.2.2⟩ | exact ⟨by rw [ft.at 1 rfl, hx 1 (by decide) (by decide)]; exact hX.2.1, by rw [ft.at 0 rfl, et, newL_0, mup_ne (by decide)]; exact hX.2.2⟩) k1 k2 (by rw [hr, hr2]) (hI0.err2 hs1)
    · rcases (show w = 0 ∨ w = 1 ∨ w = 2 ∨ w = 3 by omega) with rfl | rfl | rfl | rfl
      · obtain ⟨r1, s1, k1, hr, f1⟩ := x_judge_y0 (d := d + 146) hD0 hrq hS hb hy.2
        have e : s1 147 = s 147 := f1.at 147 rfl
        have a2 : s1 162 = s 162 := f1.at 162 rfl
        have a6 : s1 160 = s 160 := f1.at 160 rfl
        have a7 : s1 161 = s 161 := f1.at 161 rfl
        have aY : shY s1 0 = shY s 0 := by unfold shY; rw [a2]
        obtain ⟨r2, s2, k2, hr2, f2⟩ := m_judge_y (d := d + 145) (s := s1) (w := 0) e hM0 hC hrw hrq hy (by rw [a6, a7]; exact (hS.at (w := 0) (by omega)).2) (by rw [aY]; exact hS.yr (by omega)) (by rw [a6]; exact hb)
        rw [aY, a7] at hr2
        exact Step.mk (by first | exact ⟨(f1.at 1 rfl).trans hX.2.1, (congrFun (f1.at 0 rfl) 1).trans hX.2.2⟩ | exact ⟨hX.2.1, hX.2.2⟩ | exact ⟨by rw [hs1, us_ne (by decide)]; exact hX.2.1, by rw [hs1, us_ne (by decide)]; exact hX.2.2⟩ | exact ⟨by rw [hs1, us_ne (by decide), us_ne (by decide)]; exact hX.2.1, by rw [hs1, us_ne (by decide), us_ne (by decide)]; exact hX.2.2⟩ | exact ⟨by rw [e1, us_ne (by decide), f1.at 1 rfl]; exact hX.2.1, by rw [e1, us_ne (by decide), f1.at 0 rfl]; exact hX.2.2⟩ | exact ⟨by rw [ft.at 1 rfl, hx 1 (by decide) (by decide)]; exact hX.2.1, by rw [ft.at 0 rfl, et, newL_0, mup_ne (by decide)]; exact hX.2.2⟩) k1 k2 (by rw [hr, hr2]; rfl) (hI0.scr (by omega) ((Fr.mono rfl f1).tr (Fr.mono rfl f2)))
      · obtain ⟨r1, s1, k1, hr, f1⟩ := x_judge_y1 (d := d + 146) hD0 hrq hS hb hy.2
        have e : s1 147 = s 147 := f1.at 147 rfl
        have a2 : s1 162 = s 162 := f1.at 162 rfl
        have a6 : s1 160 = s 160 := f1.at 160 rfl
        have a7 : s1 161 = s 161 := f1.at 161 rfl
        have aY : shY s1 1 = shY s 1 := by unfold shY; rw [a2]
        obtain ⟨r2, s2, k2, hr2, f2⟩ := m_judge_y (d := d + 145) (s := s1) (w := 1) e hM0 hC hrw hrq hy (by rw [a6, a7]; exact (hS.at (w := 1) (by omega)).2) (by rw [aY]; exact hS.yr (by omega)) (by rw [a6]; exact hb)
        rw [aY, a7] at hr2
        exact Step.mk (by first | exact ⟨(f1.at 1 rfl).trans hX.2.1, (congrFun (f1.at 0 rfl) 1).trans hX.2.2⟩ | exact ⟨hX.2.1, hX.2.2⟩ | exact ⟨by rw [hs1, us_ne (by decide)]; exact hX.2.1, by rw [hs1, us_ne (by decide)]; exact hX.2.2⟩ | exact ⟨by rw [hs1, us_ne (by decide), us_ne (by decide)]; exact hX.2.1, by rw [hs1, us_ne (by decide), us_ne (by decide)]; exact hX.2.2⟩ | exact ⟨by rw [e1, us_ne (by decide), f1.at 1 rfl]; exact hX.2.1, by rw [e1, us_ne (by decide), f1.at 0 rfl]; exact hX.2.2⟩ | exact ⟨by rw [ft.at 1 rfl, hx 1 (by decide) (by decide)]; exact hX.2.1, by rw [ft.at 0 rfl, et, newL_0, mup_ne (by decide)]; exact hX.2.2⟩) k1 k2 (by rw [hr, hr2]; rfl) (hI0.scr (by omega) ((Fr.mono rfl f1).tr (Fr.mono rfl f2)))
      · obtain ⟨r1, s1, k1, hr, f1⟩ := x_judge_y2 (d := d + 146) hD0 hrq hS hb hy.2
        have e : s1 147 = s 147 := f1.at 147 rfl
        have a2 : s1 162 = s 162 := f1.at 162 rfl
        have a6 : s1 160 = s 160 := f1.at 160 rfl
        have a7 : s1 161 = s 161 := f1.at 161 rfl
        have aY : shY s1 2 = shY s 2 := by unfold shY; rw [a2]
        obtain ⟨r2, s2, k2, hr2, f2⟩ := m_judge_y (d := d + 145) (s := s1) (w := 2) e hM0 hC hrw hrq hy (by rw [a6, a7]; exact (hS.at (w := 2) (by omega)).2) (by rw [aY]; exact hS.yr (by omega)) (by rw [a6]; exact hb)
        rw [aY, a7] at hr2
        exact Step.mk (by first | exact ⟨(f1.at 1 rfl).trans hX.2.1, (congrFun (f1.at 0 rfl) 1).trans hX.2.2⟩ | exact ⟨hX.2.1, hX.2.2⟩ | exact ⟨by rw [hs1, us_ne (by decide)]; exact hX.2.1, by rw [hs1, us_ne (by decide)]; exact hX.2.2⟩ | exact ⟨by rw [hs1, us_ne (by decide), us_ne (by decide)]; exact hX.2.1, by rw [hs1, us_ne (by decide), us_ne (by decide)]; exact hX.2.2⟩ | exact ⟨by rw [e1, us_ne (by decide), f1.at 1 rfl]; exact hX.2.1, by rw [e1, us_ne (by decide), f1.at 0 rfl]; exact hX.2.2⟩ | exact ⟨by rw [ft.at 1 rfl, hx 1 (by decide) (by decide)]; exact hX.2.1, by rw [ft.at 0 rfl, et, newL_0, mup_ne (by decide)]; exact hX.2.2⟩) k1 k2 (by rw [hr, hr2]; rfl) (hI0.scr (by omega) ((Fr.mono rfl f1).tr (Fr.mono rfl f2)))
      · obtain ⟨r1, s1, k1, hr, f1⟩ := x_judge_y3 (d := d + 146) hD0 hrq hS hb hy.2
        have e : s1 147 = s 147 := f1.at 147 rfl
        have a2 : s1 162 = s 162 := f1.at 162 rfl
        have a6 : s1 160 = s 160 := f1.at 160 rfl
        have a7 : s1 161 = s 161 := f1.at 161 rfl
        have aY : shY s1 3 = shY s 3 := by unfold shY; rw [a2]
        obtain ⟨r2, s2, k2, hr2, f2⟩ := m_judge_y (d := d + 145) (s := s1) (w := 3) e hM0 hC hrw hrq hy (by rw [a6, a7]; exact (hS.at (w := 3) (by omega)).2) (by rw [aY]; exact hS.yr (by omega)) (by rw [a6]; exact hb)
        rw [aY, a7] at hr2
        exact Step.mk (by first | exact ⟨(f1.at 1 rfl).trans hX.2.1, (congrFun (f1.at 0 rfl) 1).trans hX.2.2⟩ | exact ⟨hX.2.1, hX.2.2⟩ | exact ⟨by rw [hs1, us_ne (by decide)]; exact hX.2.1, by rw [hs1, us_ne (by decide)]; exact hX.2.2⟩ | exact ⟨by rw [hs1, us_ne (by decide), us_ne (by decide)]; exact hX.2.1, by rw [hs1, us_ne (by decide), us_ne (by decide)]; exact hX.2.2⟩ | exact ⟨by rw [e1, us_ne (by decide), f1.at 1 rfl]; exact hX.2.1, by rw [e1, us_ne (by decide), f1.at 0 rfl]; exact hX.2.2⟩ | exact ⟨by rw [ft.at 1 rfl, hx 1 (by decide) (by decide)]; exact hX.2.1, by rw [ft.at 0 rfl, et, newL_0, mup_ne (by decide)]; exact hX.2.2⟩) k1 k2 (by rw [hr, hr2]; rfl) (hI0.scr (by omega) ((Fr.mono rfl f1).tr (Fr.mono rfl f2)))
  · obtain ⟨r1, s1, k1, hr, hs1⟩ := x_judge_n (d := d + 146) hD0 hrw hrq hS hy
    have e : s1 147 = s 147 := by rw [hs1]; exact us_ne (by decide)
    obtain ⟨r2, s2, k2, hr2, hs2⟩ := m_judge_n (d := d + 145) (s := s1) e hM0 hC hrw hrq hy
    rw [hs2] at k2
    exact Step.mk (by first | exact ⟨(f1.at 1 rfl).trans hX.2.1, (congrFun (f1.at 0 rfl) 1).trans hX.2.2⟩ | exact ⟨hX.2.1, hX.2.2⟩ | exact ⟨by rw [hs1, us_ne (by decide)]; exact hX.2.1, by rw [hs1, us_ne (by decide)]; exact hX.2.2⟩ | exact ⟨by rw [hs1, us_ne (by decide), us_ne (by decide)]; exact hX.2.1, by rw [hs1, us_ne (by decide), us_ne (by decide)]; exact hX.2.2⟩ | exact ⟨by rw [e1, us_ne (by decide), f1.at 1 rfl]; exact hX.2.1, by rw [e1, us_ne (by decide), f1.at 0 rfl]; exact hX.2.2⟩ | exact ⟨by rw [ft.at 1 rfl, hx 1 (by decide) (by decide)]; exact hX.2.1, by rw [ft.at 0 rfl, et, newL_0, mup_ne (by decide)]; exact hX.2.2⟩) k1 k2 (by rw [hr, hr2]) (hI0.err2 hs1)
