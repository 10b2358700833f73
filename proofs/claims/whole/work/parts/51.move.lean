/-! ===== move ===== -/
theorem x_move_n {d : Nat} {s : mSt} (hI : IvD s) {w i o j n : Int} (hrw : -2147483648 ≤ w ∧ w < 2147483648) (hri : -2147483648 ≤ i ∧ i < 2147483648) (hro : -2147483648 ≤ o ∧ o < 2147483648) (hrj : -2147483648 ≤ j ∧ j < 2147483648) (hrn : -2147483648 ≤ n ∧ n < 2147483648) (hS : IvS s) (hw : ¬ ((0 ≤ w ∧ w ≤ 3) ∧ 0 ≤ o ∧ o ≤ 3)) : CI (d + 2) 132 [.inr (.inr 10), .inl w, .inl i, .inl o, .inl j, .inl n] (s) (fun r s1 => r = -1000000000 - 1 ∧ s1 = us s 132 1 (s 132 1 + 1)) := by
  refine CI.mk rfl ?_
  show WP (d + 2) 132 0 [some (.inr (.inr 10)), some (.inl w), some (.inl i), some (.inl o), some (.inl j), some (.inl n)] [] (encA (s)) _
  have hI0 := hI
  obtain ⟨⟨hM, hC, hN⟩, hV, h8⟩ := hI
  have hV0 := hV
  have hM0 := hM
  obtain ⟨vc, vpl, vga, vse, vne, veg, vre, vtu, vta, vwa, v36, v37, v39, v40, v42, v41, v43, v44, vl0, vl1, vlm⟩ := hV
  obtain ⟨hM39, hM40, hM41, hM43, hM44, hM36, hM37, hM38, hMc, hMw, hMp, hMt, hMb⟩ := hM
  refine w_ldI rfl rfl ?_
  refine w_call rfl rfl rfl (k_isSheet (by omega)) ?_
  refine w_bEq0 rfl (fun b2 => ?_) (fun b2 => ?_)
  · first
    | (exfalso; omega)
    | (refine w_ldR rfl rfl rfl ?_
       refine w_push rfl ?_
       refine w_callWI rfl rfl rfl rfl rfl rfl rfl k_error1 (fun v8 s8 p8 => ?_)
       obtain ⟨rfl, rfl⟩ := p8
       refine w_retI rfl ?_
       exact ⟨rfl, rfl⟩)
  · first
    | (exfalso; omega)
    | (refine w_ldI rfl rfl ?_
       refine w_call rfl rfl rfl (k_isSheet (by omega)) ?_
       refine w_bNe0 rfl (fun b5 => ?_) (fun b5 => ?_)
       · first
         | (exfalso; omega)
         | (exfalso; omega)
       · first
         | (exfalso; omega)
         | (refine w_ldR rfl rfl rfl ?_
            refine w_push rfl ?_
            refine w_callWI rfl rfl rfl rfl rfl rfl rfl k_error1 (fun v8 s8 p8 => ?_)
            obtain ⟨rfl, rfl⟩ := p8
            refine w_retI rfl ?_
            exact ⟨rfl, rfl⟩))
theorem x_move_m {d : Nat} {s : mSt} (hI : IvD s) {w i o j n : Int} (hrw : -2147483648 ≤ w ∧ w < 2147483648) (hri : -2147483648 ≤ i ∧ i < 2147483648) (hro : -2147483648 ≤ o ∧ o < 2147483648) (hrj : -2147483648 ≤ j ∧ j < 2147483648) (hrn : -2147483648 ≤ n ∧ n < 2147483648) (hS : IvS s) (hw : 0 ≤ w ∧ w ≤ 3) (ho : 0 ≤ o ∧ o ≤ 3) (hb : s 160 w.toNat = 0 ∨ s 160 o.toNat = 0) : CI (d + 2) 132 [.inr (.inr 10), .inl w, .inl i, .inl o, .inl j, .inl n] (s) (fun r s1 => r = -1000000000 - 2 ∧ s1 = us s 132 2 (s 132 2 + 1)) := by
  refine CI.mk rfl ?_
  show WP (d + 2) 132 0 [some (.inr (.inr 10)), some (.inl w), some (.inl i), some (.inl o), some (.inl j), some (.inl n)] [] (encA (s)) _
  have hI0 := hI
  obtain ⟨⟨hM, hC, hN⟩, hV, h8⟩ := hI
  have hV0 := hV
  have hM0 := hM
  obtain ⟨vc, vpl, vga, vse, vne, veg, vre, vtu, vta, vwa, v36, v37, v39, v40, v42, v41, v43, v44, vl0, vl1, vlm⟩ := hV
  obtain ⟨hM39, hM40, hM41, hM43, hM44, hM36, hM37, hM38, hMc, hMw, hMp, hMt, hMb⟩ := hM
  have hsa := hS.at (w := w) (by omega)
  have hsb := hS.at (w := o) (by omega)
  refine w_ldI rfl rfl ?_
  refine w_call rfl rfl rfl (k_isSheet (by omega)) ?_
  refine w_bEq0 rfl (fun b2 => ?_) (fun b2 => ?_)
  · first
    | (exfalso; omega)
    | (exfalso; omega)
  · first
    | (exfalso; omega)
    | (refine w_ldI rfl rfl ?_
       refine w_call rfl rfl rfl (k_isSheet (by omega)) ?_
       refine w_bNe0 rfl (fun b5 => ?_) (fun b5 => ?_)
       · first
         | (exfalso; omega)
         | (refine w_ldR rfl rfl rfl ?_
            refine w_ldI rfl rfl ?_
            refine w_callV rfl rfl rfl rfl rfl rfl rfl (k_isMissing (by omega) (by have h1 := hS.at (w := w) (by omega); have h2 := hS.at (w := o) (by omega); omega)) ?_
            refine w_bNe0 rfl (fun b13 => ?_) (fun b13 => ?_)
            · first
              | (exfalso; omega)
              | (refine w_ldR rfl rfl rfl ?_
                 refine w_push rfl ?_
                 refine w_callWI rfl rfl rfl rfl rfl rfl rfl k_error2 (fun v20 s20 p20 => ?_)
                 obtain ⟨rfl, rfl⟩ := p20
                 refine w_retI rfl ?_
                 exact ⟨rfl, rfl⟩)
            · first
              | (exfalso; omega)
              | (refine w_ldR rfl rfl rfl ?_
                 refine w_ldI rfl rfl ?_
                 refine w_callV rfl rfl rfl rfl rfl rfl rfl (k_isMissing (by omega) (by have h1 := hS.at (w := w) (by omega); have h2 := hS.at (w := o) (by omega); omega)) ?_
                 refine w_bEq0 rfl (fun b17 => ?_) (fun b17 => ?_)
                 · first
                   | (exfalso; omega)
                   | (exfalso; omega)
                 · first
                   | (exfalso; omega)
                   | (refine w_ldR rfl rfl rfl ?_
                      refine w_push rfl ?_
                      refine w_callWI rfl rfl rfl rfl rfl rfl rfl k_error2 (fun v20 s20 p20 => ?_)
                      obtain ⟨rfl, rfl⟩ := p20
                      refine w_retI rfl ?_
                      exact ⟨rfl, rfl⟩)))
       · first
         | (exfalso; omega)
         | (exfalso; omega))
theorem x_move_k {d : Nat} {s : mSt} (hI : IvD s) {w i o j n : Int} (hrw : -2147483648 ≤ w ∧ w < 2147483648) (hri : -2147483648 ≤ i ∧ i < 2147483648) (hro : -2147483648 ≤ o ∧ o < 2147483648) (hrj : -2147483648 ≤ j ∧ j < 2147483648) (hrn : -2147483648 ≤ n ∧ n < 2147483648) (hS : IvS s) (hw : 0 ≤ w ∧ w ≤ 3) (ho : 0 ≤ o ∧ o ≤ 3) (hb : ¬ (s 160 w.toNat = 0 ∨ s 160 o.toNat = 0)) (hk : ¬ s 160 w.toNat = s 160 o.toNat) : CI (d + 2) 132 [.inr (.inr 10), .inl w, .inl i, .inl o, .inl j, .inl n] (s) (fun r s1 => r = -1000000000 - 5 ∧ s1 = us s 132 5 (s 132 5 + 1)) := by
  refine CI.mk rfl ?_
  show WP (d + 2) 132 0 [some (.inr (.inr 10)), some (.inl w), some (.inl i), some (.inl o), some (.inl j), some (.inl n)] [] (encA (s)) _
  have hI0 := hI
  obtain ⟨⟨hM, hC, hN⟩, hV, h8⟩ := hI
  have hV0 := hV
  have hM0 := hM
  obtain ⟨vc, vpl, vga, vse, vne, veg, vre, vtu, vta, vwa, v36, v37, v39, v40, v42, v41, v43, v44, vl0, vl1, vlm⟩ := hV
  obtain ⟨hM39, hM40, hM41, hM43, hM44, hM36, hM37, hM38, hMc, hMw, hMp, hMt, hMb⟩ := hM
  have hsa := hS.at (w := w) (by omega)
  have hsb := hS.at (w := o) (by omega)
  refine w_ldI rfl rfl ?_
  refine w_call rfl rfl rfl (k_isSheet (by omega)) ?_
  refine w_bEq0 rfl (fun b2 => ?_) (fun b2 => ?_)
  · first
    | (exfalso; omega)
    | (exfalso; omega)
  · first
    | (exfalso; omega)
    | (refine w_ldI rfl rfl ?_
       refine w_call rfl rfl rfl (k_isSheet (by omega)) ?_
       refine w_bNe0 rfl (fun b5 => ?_) (fun b5 => ?_)
       · first
         | (exfalso; omega)
         | (refine w_ldR rfl rfl rfl ?_
            refine w_ldI rfl rfl ?_
            refine w_callV rfl rfl rfl rfl rfl rfl rfl (k_isMissing (by omega) (by have h1 := hS.at (w := w) (by omega); have h2 := hS.at (w := o) (by omega); omega)) ?_
            refine w_bNe0 rfl (fun b13 => ?_) (fun b13 => ?_)
            · first
              | (exfalso; omega)
              | (exfalso; omega)
            · first
              | (exfalso; omega)
              | (refine w_ldR rfl rfl rfl ?_
                 refine w_ldI rfl rfl ?_
                 refine w_callV rfl rfl rfl rfl rfl rfl rfl (k_isMissing (by omega) (by have h1 := hS.at (w := w) (by omega); have h2 := hS.at (w := o) (by omega); omega)) ?_
                 refine w_bEq0 rfl (fun b17 => ?_) (fun b17 => ?_)
                 · first
                   | (exfalso; omega)
                   | (refine w_ldR rfl rfl rfl ?_
                      first | refine w_getI rfl rfl rfl rfl rfl ?_ | refine w_getR rfl rfl rfl rfl rfl ?_
                      refine w_ldI rfl rfl ?_
                      refine w_ald rfl rfl rfl (by omega) rfl ?_
                      refine w_ldR rfl rfl rfl ?_
                      first | refine w_getI rfl rfl rfl rfl rfl ?_ | refine w_getR rfl rfl rfl rfl rfl ?_
                      refine w_ldI rfl rfl ?_
                      refine w_ald rfl rfl rfl (by omega) rfl ?_
                      refine w_crEq rfl (by omega) (by omega) (fun b30 => ?_) (fun b30 => ?_)
                      · first
                        | (exfalso; omega)
                        | (exfalso; omega)
                      · first
                        | (exfalso; omega)
                        | (refine w_ldR rfl rfl rfl ?_
                           refine w_push rfl ?_
                           refine w_callWI rfl rfl rfl rfl rfl rfl rfl k_error5 (fun v33 s33 p33 => ?_)
                           obtain ⟨rfl, rfl⟩ := p33
                           refine w_retI rfl ?_
                           exact ⟨rfl, rfl⟩))
                 · first
                   | (exfalso; omega)
                   | (exfalso; omega)))
       · first
         | (exfalso; omega)
         | (exfalso; omega))
theorem k_span138 {d : Nat} {s : mSt} {i n : Int} (hi : -2147483648 ≤ i ∧ i < 2147483648) (hn : -2147483648 ≤ n ∧ n < 2147483648) (hs : 0 ≤ s 138 1 ∧ s 138 1 ≤ 40) : Call (d + 0) 63 [.inr (.inr 138), .inl i, .inl n] (encA (s)) (some (.inl (bI (0 ≤ i ∧ 0 ≤ n ∧ n ≤ s 138 1 - i)))) (encA (s)) := by
  refine CI.ex (CI.mk rfl ?_)
  show WP (d + 0) 63 0 [some (.inr (.inr 138)), some (.inl i), some (.inl n)] [] (encA (s)) _
  refine w_ldI rfl rfl ?_
  refine w_irLt0 rfl (by omega) (fun b1 => ?_) (fun b1 => ?_)
  · first
    | (exfalso; omega)
    | (refine w_push rfl ?_
       refine w_retB rfl (by first | exact bI_01 _ | decide | omega) ?_
       refine ⟨?_, rfl⟩
       unfold bI
       first | rw [if_pos (by omega)] | rw [if_neg (by omega)])
  · first
    | (exfalso; omega)
    | (refine w_ldI rfl rfl ?_
       refine w_irLt0 rfl (by omega) (fun b3 => ?_) (fun b3 => ?_)
       · first
         | (exfalso; omega)
         | (refine w_push rfl ?_
            refine w_retB rfl (by first | exact bI_01 _ | decide | omega) ?_
            refine ⟨?_, rfl⟩
            unfold bI
            first | rw [if_pos (by omega)] | rw [if_neg (by omega)])
       · first
         | (exfalso; omega)
         | (refine w_ldI rfl rfl ?_
            refine w_ldR rfl rfl rfl ?_
            first | refine w_getI rfl rfl rfl rfl rfl ?_ | refine w_getR rfl rfl rfl rfl rfl ?_
            refine w_crGt rfl (by omega) (by omega) (fun b7 => ?_) (fun b7 => ?_)
            · first
              | (exfalso; omega)
              | (refine w_push rfl ?_
                 refine w_retB rfl (by first | exact bI_01 _ | decide | omega) ?_
                 refine ⟨?_, rfl⟩
                 unfold bI
                 first | rw [if_pos (by omega)] | rw [if_neg (by omega)])
            · first
              | (exfalso; omega)
              | (refine w_ldI rfl rfl ?_
                 refine w_ldR rfl rfl rfl ?_
                 first | refine w_getI rfl rfl rfl rfl rfl ?_ | refine w_getR rfl rfl rfl rfl rfl ?_
                 refine w_ldI rfl rfl ?_
                 refine w_sub rfl ?_
                 refine w_crGt rfl (by omega) (by omega) (fun b13 => ?_) (fun b13 => ?_)
                 · first
                   | (exfalso; omega)
                   | (refine w_push rfl ?_
                      refine w_retB rfl (by first | exact bI_01 _ | decide | omega) ?_
                      refine ⟨?_, rfl⟩
                      unfold bI
                      first | rw [if_pos (by omega)] | rw [if_neg (by omega)])
                 · first
                   | (exfalso; omega)
                   | (refine w_push rfl ?_
                      refine w_go rfl ?_
                      refine w_retB rfl (by first | exact bI_01 _ | decide | omega) ?_
                      refine ⟨?_, rfl⟩
                      unfold bI
                      first | rw [if_pos (by omega)] | rw [if_neg (by omega)]))))
theorem k_span140 {d : Nat} {s : mSt} {i n : Int} (hi : -2147483648 ≤ i ∧ i < 2147483648) (hn : -2147483648 ≤ n ∧ n < 2147483648) (hs : 0 ≤ s 140 1 ∧ s 140 1 ≤ 40) : Call (d + 0) 63 [.inr (.inr 140), .inl i, .inl n] (encA (s)) (some (.inl (bI (0 ≤ i ∧ 0 ≤ n ∧ n ≤ s 140 1 - i)))) (encA (s)) := by
  refine CI.ex (CI.mk rfl ?_)
  show WP (d + 0) 63 0 [some (.inr (.inr 140)), some (.inl i), some (.inl n)] [] (encA (s)) _
  refine w_ldI rfl rfl ?_
  refine w_irLt0 rfl (by omega) (fun b1 => ?_) (fun b1 => ?_)
  · first
    | (exfalso; omega)
    | (refine w_push rfl ?_
       refine w_retB rfl (by first | exact bI_01 _ | decide | omega) ?_
       refine ⟨?_, rfl⟩
       unfold bI
       first | rw [if_pos (by omega)] | rw [if_neg (by omega)])
  · first
    | (exfalso; omega)
    | (refine w_ldI rfl rfl ?_
       refine w_irLt0 rfl (by omega) (fun b3 => ?_) (fun b3 => ?_)
       · first
         | (exfalso; omega)
         | (refine w_push rfl ?_
            refine w_retB rfl (by first | exact bI_01 _ | decide | omega) ?_
            refine ⟨?_, rfl⟩
            unfold bI
            first | rw [if_pos (by omega)] | rw [if_neg (by omega)])
       · first
         | (exfalso; omega)
         | (refine w_ldI rfl rfl ?_
            refine w_ldR rfl rfl rfl ?_
            first | refine w_getI rfl rfl rfl rfl rfl ?_ | refine w_getR rfl rfl rfl rfl rfl ?_
            refine w_crGt rfl (by omega) (by omega) (fun b7 => ?_) (fun b7 => ?_)
            · first
              | (exfalso; omega)
              | (refine w_push rfl ?_
                 refine w_retB rfl (by first | exact bI_01 _ | decide | omega) ?_
                 refine ⟨?_, rfl⟩
                 unfold bI
                 first | rw [if_pos (by omega)] | rw [if_neg (by omega)])
            · first
              | (exfalso; omega)
              | (refine w_ldI rfl rfl ?_
                 refine w_ldR rfl rfl rfl ?_
                 first | refine w_getI rfl rfl rfl rfl rfl ?_ | refine w_getR rfl rfl rfl rfl rfl ?_
                 refine w_ldI rfl rfl ?_
                 refine w_sub rfl ?_
                 refine w_crGt rfl (by omega) (by omega) (fun b13 => ?_) (fun b13 => ?_)
                 · first
                   | (exfalso; omega)
                   | (refine w_push rfl ?_
                      refine w_retB rfl (by first | exact bI_01 _ | decide | omega) ?_
                      refine ⟨?_, rfl⟩
                      unfold bI
                      first | rw [if_pos (by omega)] | rw [if_neg (by omega)])
                 · first
                   | (exfalso; omega)
                   | (refine w_push rfl ?_
                      refine w_go rfl ?_
                      refine w_retB rfl (by first | exact bI_01 _ | decide | omega) ?_
                      refine ⟨?_, rfl⟩
                      unfold bI
                      first | rw [if_pos (by omega)] | rw [if_neg (by omega)]))))
theorem k_span142 {d : Nat} {s : mSt} {i n : Int} (hi : -2147483648 ≤ i ∧ i < 2147483648) (hn : -2147483648 ≤ n ∧ n < 2147483648) (hs : 0 ≤ s 142 1 ∧ s 142 1 ≤ 40) : Call (d + 0) 63 [.inr (.inr 142), .inl i, .inl n] (encA (s)) (some (.inl (bI (0 ≤ i ∧ 0 ≤ n ∧ n ≤ s 142 1 - i)))) (encA (s)) := by
  refine CI.ex (CI.mk rfl ?_)
  show WP (d + 0) 63 0 [some (.inr (.inr 142)), some (.inl i), some (.inl n)] [] (encA (s)) _
  refine w_ldI rfl rfl ?_
  refine w_irLt0 rfl (by omega) (fun b1 => ?_) (fun b1 => ?_)
  · first
    | (exfalso; omega)
    | (refine w_push rfl ?_
       refine w_retB rfl (by first | exact bI_01 _ | decide | omega) ?_
       refine ⟨?_, rfl⟩
       unfold bI
       first | rw [if_pos (by omega)] | rw [if_neg (by omega)])
  · first
    | (exfalso; omega)
    | (refine w_ldI rfl rfl ?_
       refine w_irLt0 rfl (by omega) (fun b3 => ?_) (fun b3 => ?_)
       · first
         | (exfalso; omega)
         | (refine w_push rfl ?_
            refine w_retB rfl (by first | exact bI_01 _ | decide | omega) ?_
            refine ⟨?_, rfl⟩
            unfold bI
            first | rw [if_pos (by omega)] | rw [if_neg (by omega)])
       · first
         | (exfalso; omega)
         | (refine w_ldI rfl rfl ?_
            refine w_ldR rfl rfl rfl ?_
            first | refine w_getI rfl rfl rfl rfl rfl ?_ | refine w_getR rfl rfl rfl rfl rfl ?_
            refine w_crGt rfl (by omega) (by omega) (fun b7 => ?_) (fun b7 => ?_)
            · first
              | (exfalso; omega)
              | (refine w_push rfl ?_
                 refine w_retB rfl (by first | exact bI_01 _ | decide | omega) ?_
                 refine ⟨?_, rfl⟩
                 unfold bI
                 first | rw [if_pos (by omega)] | rw [if_neg (by omega)])
            · first
              | (exfalso; omega)
              | (refine w_ldI rfl rfl ?_
                 refine w_ldR rfl rfl rfl ?_
                 first | refine w_getI rfl rfl rfl rfl rfl ?_ | refine w_getR rfl rfl rfl rfl rfl ?_
                 refine w_ldI rfl rfl ?_
                 refine w_sub rfl ?_
                 refine w_crGt rfl (by omega) (by omega) (fun b13 => ?_) (fun b13 => ?_)
                 · first
                   | (exfalso; omega)
                   | (refine w_push rfl ?_
                      refine w_retB rfl (by first | exact bI_01 _ | decide | omega) ?_
                      refine ⟨?_, rfl⟩
                      unfold bI
                      first | rw [if_pos (by omega)] | rw [if_neg (by omega)])
                 · first
                   | (exfalso; omega)
                   | (refine w_push rfl ?_
                      refine w_go rfl ?_
                      refine w_retB rfl (by first | exact bI_01 _ | decide | omega) ?_
                      refine ⟨?_, rfl⟩
                      unfold bI
                      first | rw [if_pos (by omega)] | rw [if_neg (by omega)]))))
theorem k_span144 {d : Nat} {s : mSt} {i n : Int} (hi : -2147483648 ≤ i ∧ i < 2147483648) (hn : -2147483648 ≤ n ∧ n < 2147483648) (hs : 0 ≤ s 144 1 ∧ s 144 1 ≤ 40) : Call (d + 0) 63 [.inr (.inr 144), .inl i, .inl n] (encA (s)) (some (.inl (bI (0 ≤ i ∧ 0 ≤ n ∧ n ≤ s 144 1 - i)))) (encA (s)) := by
  refine CI.ex (CI.mk rfl ?_)
  show WP (d + 0) 63 0 [some (.inr (.inr 144)), some (.inl i), some (.inl n)] [] (encA (s)) _
  refine w_ldI rfl rfl ?_
  refine w_irLt0 rfl (by omega) (fun b1 => ?_) (fun b1 => ?_)
  · first
    | (exfalso; omega)
    | (refine w_push rfl ?_
       refine w_retB rfl (by first | exact bI_01 _ | decide | omega) ?_
       refine ⟨?_, rfl⟩
       unfold bI
       first | rw [if_pos (by omega)] | rw [if_neg (by omega)])
  · first
    | (exfalso; omega)
    | (refine w_ldI rfl rfl ?_
       refine w_irLt0 rfl (by omega) (fun b3 => ?_) (fun b3 => ?_)
       · first
         | (exfalso; omega)
         | (refine w_push rfl ?_
            refine w_retB rfl (by first | exact bI_01 _ | decide | omega) ?_
            refine ⟨?_, rfl⟩
            unfold bI
            first | rw [if_pos (by omega)] | rw [if_neg (by omega)])
       · first
         | (exfalso; omega)
         | (refine w_ldI rfl rfl ?_
            refine w_ldR rfl rfl rfl ?_
            first | refine w_getI rfl rfl rfl rfl rfl ?_ | refine w_getR rfl rfl rfl rfl rfl ?_
            refine w_crGt rfl (by omega) (by omega) (fun b7 => ?_) (fun b7 => ?_)
            · first
              | (exfalso; omega)
              | (refine w_push rfl ?_
                 refine w_retB rfl (by first | exact bI_01 _ | decide | omega) ?_
                 refine ⟨?_, rfl⟩
                 unfold bI
                 first | rw [if_pos (by omega)] | rw [if_neg (by omega)])
            · first
              | (exfalso; omega)
              | (refine w_ldI rfl rfl ?_
                 refine w_ldR rfl rfl rfl ?_
                 first | refine w_getI rfl rfl rfl rfl rfl ?_ | refine w_getR rfl rfl rfl rfl rfl ?_
                 refine w_ldI rfl rfl ?_
                 refine w_sub rfl ?_
                 refine w_crGt rfl (by omega) (by omega) (fun b13 => ?_) (fun b13 => ?_)
                 · first
                   | (exfalso; omega)
                   | (refine w_push rfl ?_
                      refine w_retB rfl (by first | exact bI_01 _ | decide | omega) ?_
                      refine ⟨?_, rfl⟩
                      unfold bI
                      first | rw [if_pos (by omega)] | rw [if_neg (by omega)])
                 · first
                   | (exfalso; omega)
                   | (refine w_push rfl ?_
                      refine w_go rfl ?_
                      refine w_retB rfl (by first | exact bI_01 _ | decide | omega) ?_
                      refine ⟨?_, rfl⟩
                      unfold bI
                      first | rw [if_pos (by omega)] | rw [if_neg (by omega)]))))
theorem k_take138_138 {d : Nat} {s : mSt} {i j n : Int} (hs : 0 ≤ s 138 1 ∧ s 138 1 ≤ 40) (hs2 : 0 ≤ s 138 1 ∧ s 138 1 ≤ 40) (h : 0 ≤ n ∧ 0 ≤ i ∧ 0 ≤ j ∧ n ≤ s 138 1 - i ∧ n ≤ s 138 1 - j) : CV (d + 1) 71 [.inr (.inr 138), .inl j, .inr (.inr 138), .inl i, .inl n] (s) (fun s1 => s1 = ua s 139 (mcpy (s 139) (s 139) i.toNat j.toNat n.toNat)) := by
  refine CV.mk rfl ?_
  show WP (d + 1) 71 0 [some (.inr (.inr 138)), some (.inl j), some (.inr (.inr 138)), some (.inl i), some (.inl n)] [] (encA (s)) _
  refine w_ldR rfl rfl rfl ?_
  refine w_ldI rfl rfl ?_
  refine w_ldI rfl rfl ?_
  refine w_callV rfl rfl rfl rfl rfl rfl rfl (k_span138 (by omega) (by omega) hs2) ?_
  refine w_bEq0 rfl (fun b4 => ?_) (fun b4 => ?_)
  · first
    | (exfalso; omega)
    | (refine w_retV rfl ?_
       first
       | rfl
       | (exfalso; omega))
  · first
    | (exfalso; omega)
    | (refine w_ldR rfl rfl rfl ?_
       refine w_ldI rfl rfl ?_
       refine w_ldI rfl rfl ?_
       refine w_callV rfl rfl rfl rfl rfl rfl rfl (k_span138 (by omega) (by omega) hs) ?_
       refine w_bEq0 rfl (fun b9 => ?_) (fun b9 => ?_)
       · first
         | (exfalso; omega)
         | (refine w_retV rfl ?_
            first
            | rfl
            | (exfalso; omega))
       · first
         | (exfalso; omega)
         | (refine w_ldR rfl rfl rfl ?_
            first | refine w_getI rfl rfl rfl rfl rfl ?_ | refine w_getR rfl rfl rfl rfl rfl ?_
            refine w_ldI rfl rfl ?_
            refine w_ldR rfl rfl rfl ?_
            first | refine w_getI rfl rfl rfl rfl rfl ?_ | refine w_getR rfl rfl rfl rfl rfl ?_
            refine w_ldI rfl rfl ?_
            refine w_ldI rfl rfl ?_
            refine w_cpy rfl rfl rfl rfl rfl (by omega) (by omega) (by omega) (by omega) (by omega) rfl rfl rfl ?_
            refine w_retV rfl ?_
            first
            | rfl
            | (exfalso; omega)))
theorem x_move_y0_0 {d : Nat} {s : mSt} (hI : IvD s) {i j n : Int} (hri : -2147483648 ≤ i ∧ i < 2147483648) (hrj : -2147483648 ≤ j ∧ j < 2147483648) (hrn : -2147483648 ≤ n ∧ n < 2147483648) (hS : IvS s) (hb : ¬ s 160 0 = 0 ∧ ¬ s 160 0 = 0 ∧ s 160 0 = s 160 0) (h : 0 ≤ n ∧ 0 ≤ i ∧ 0 ≤ j ∧ n ≤ s 161 0 - i ∧ n ≤ s 161 0 - j) : CI (d + 2) 132 [.inr (.inr 10), .inl 0, .inl i, .inl 0, .inl j, .inl n] (s) (fun q s1 => q = n ∧ s1 = ua s 139 (mcpy (s 139) (s 139) i.toNat j.toNat n.toNat)) := by
  refine CI.mk rfl ?_
  show WP (d + 2) 132 0 [some (.inr (.inr 10)), some (.inl 0), some (.inl i), some (.inl 0), some (.inl j), some (.inl n)] [] (encA (s)) _
  have hI0 := hI
  obtain ⟨⟨hM, hC, hN⟩, hV, h8⟩ := hI
  have hV0 := hV
  have hM0 := hM
  obtain ⟨vc, vpl, vga, vse, vne, veg, vre, vtu, vta, vwa, v36, v37, v39, v40, v42, v41, v43, v44, vl0, vl1, vlm⟩ := hV
  obtain ⟨hM39, hM40, hM41, hM43, hM44, hM36, hM37, hM38, hMc, hMw, hMp, hMt, hMb⟩ := hM
  have hS9 := hS
  obtain ⟨hS0, hS1, hS2, hS3⟩ := hS
  have hA := hS0
  have hB := hS0
  obtain ⟨a1, a2, a3, a4, -⟩ := hA
  obtain ⟨b1, b2, b3, b4, -⟩ := hB
  refine w_ldI rfl rfl ?_
  refine w_call rfl rfl rfl (k_isSheet (by omega)) ?_
  refine w_bEq0 rfl (fun b2 => ?_) (fun b2 => ?_)
  · first
    | (exfalso; omega)
    | (exfalso; omega)
  · first
    | (exfalso; omega)
    | (refine w_ldI rfl rfl ?_
       refine w_call rfl rfl rfl (k_isSheet (by omega)) ?_
       refine w_bNe0 rfl (fun b5 => ?_) (fun b5 => ?_)
       · first
         | (exfalso; omega)
         | (refine w_ldR rfl rfl rfl ?_
            refine w_ldI rfl rfl ?_
            refine w_callV rfl rfl rfl rfl rfl rfl rfl (k_isMissing (by omega) (by show -2147483648 ≤ s 131 0 ∧ s 131 0 < 2147483648; omega)) ?_
            rw [show s 131 ((0 : Int)).toNat = s 160 0 from a1]
            refine w_bNe0 rfl (fun b13 => ?_) (fun b13 => ?_)
            · first
              | (exfalso; omega)
              | (exfalso; omega)
            · first
              | (exfalso; omega)
              | (refine w_ldR rfl rfl rfl ?_
                 refine w_ldI rfl rfl ?_
                 refine w_callV rfl rfl rfl rfl rfl rfl rfl (k_isMissing (by omega) (by show -2147483648 ≤ s 131 0 ∧ s 131 0 < 2147483648; omega)) ?_
                 rw [show s 131 ((0 : Int)).toNat = s 160 0 from b1]
                 refine w_bEq0 rfl (fun b17 => ?_) (fun b17 => ?_)
                 · first
                   | (exfalso; omega)
                   | (refine w_ldR rfl rfl rfl ?_
                      first | refine w_getI rfl rfl rfl rfl rfl ?_ | refine w_getR rfl rfl rfl rfl rfl ?_
                      refine w_ldI rfl rfl ?_
                      refine w_ald rfl rfl rfl (by omega) rfl ?_
                      rw [show s 131 ((0 : Int)).toNat = s 160 0 from a1]
                      refine w_ldR rfl rfl rfl ?_
                      first | refine w_getI rfl rfl rfl rfl rfl ?_ | refine w_getR rfl rfl rfl rfl rfl ?_
                      refine w_ldI rfl rfl ?_
                      refine w_ald rfl rfl rfl (by omega) rfl ?_
                      rw [show s 131 ((0 : Int)).toNat = s 160 0 from b1]
                      refine w_crEq rfl (by omega) (by omega) (fun b30 => ?_) (fun b30 => ?_)
                      · first
                        | (exfalso; omega)
                        | (refine w_ldR rfl rfl rfl ?_
                           first | refine w_getI rfl rfl rfl rfl rfl ?_ | refine w_getR rfl rfl rfl rfl rfl ?_
                           refine w_ldI rfl rfl ?_
                           refine w_rld rfl rfl rfl (by omega) rfl ?_
                           show WP _ _ _ _ (.inr (.inr 138) :: _) _ _
                           refine w_ldI rfl rfl ?_
                           refine w_ldI rfl rfl ?_
                           refine w_callV rfl rfl rfl rfl rfl rfl rfl (k_span138 (by omega) (by omega) (by omega)) ?_
                           refine w_bEq0 rfl (fun b42 => ?_) (fun b42 => ?_)
                           · first
                             | (exfalso; omega)
                             | (exfalso; omega)
                           · first
                             | (exfalso; omega)
                             | (refine w_ldR rfl rfl rfl ?_
                                first | refine w_getI rfl rfl rfl rfl rfl ?_ | refine w_getR rfl rfl rfl rfl rfl ?_
                                refine w_ldI rfl rfl ?_
                                refine w_rld rfl rfl rfl (by omega) rfl ?_
                                show WP _ _ _ _ (.inr (.inr 138) :: _) _ _
                                refine w_ldI rfl rfl ?_
                                refine w_ldI rfl rfl ?_
                                refine w_callV rfl rfl rfl rfl rfl rfl rfl (k_span138 (by omega) (by omega) (by omega)) ?_
                                refine w_bNe0 rfl (fun b50 => ?_) (fun b50 => ?_)
                                · first
                                  | (exfalso; omega)
                                  | (refine w_ldR rfl rfl rfl ?_
                                     first | refine w_getI rfl rfl rfl rfl rfl ?_ | refine w_getR rfl rfl rfl rfl rfl ?_
                                     refine w_ldI rfl rfl ?_
                                     refine w_rld rfl rfl rfl (by omega) rfl ?_
                                     show WP _ _ _ _ (.inr (.inr 138) :: _) _ _
                                     refine w_ldI rfl rfl ?_
                                     refine w_ldR rfl rfl rfl ?_
                                     first | refine w_getI rfl rfl rfl rfl rfl ?_ | refine w_getR rfl rfl rfl rfl rfl ?_
                                     refine w_ldI rfl rfl ?_
                                     refine w_rld rfl rfl rfl (by omega) rfl ?_
                                     show WP _ _ _ _ (.inr (.inr 138) :: _) _ _
                                     refine w_ldI rfl rfl ?_
                                     refine w_ldI rfl rfl ?_
                                     refine w_callWN rfl rfl rfl rfl rfl rfl rfl (k_take138_138 (by omega) (by omega) (by omega)) (fun s66 p66 => ?_)
                                     refine w_ldI rfl rfl ?_
                                     refine w_retI rfl ?_
                                     exact ⟨rfl, p66⟩)
                                · first
                                  | (exfalso; omega)
                                  | (exfalso; omega)))
                      · first
                        | (exfalso; omega)
                        | (exfalso; omega))
                 · first
                   | (exfalso; omega)
                   | (exfalso; omega)))
       · first
         | (exfalso; omega)
         | (exfalso; omega))
theorem x_move_s0_0 {d : Nat} {s : mSt} (hI : IvD s) {i j n : Int} (hri : -2147483648 ≤ i ∧ i < 2147483648) (hrj : -2147483648 ≤ j ∧ j < 2147483648) (hrn : -2147483648 ≤ n ∧ n < 2147483648) (hS : IvS s) (hb : ¬ s 160 0 = 0 ∧ ¬ s 160 0 = 0 ∧ s 160 0 = s 160 0) (h : ¬ (0 ≤ n ∧ 0 ≤ i ∧ 0 ≤ j ∧ n ≤ s 161 0 - i ∧ n ≤ s 161 0 - j)) : CI (d + 2) 132 [.inr (.inr 10), .inl 0, .inl i, .inl 0, .inl j, .inl n] (s) (fun r s1 => r = -1000000000 - 1 ∧ s1 = us s 132 1 (s 132 1 + 1)) := by
  refine CI.mk rfl ?_
  show WP (d + 2) 132 0 [some (.inr (.inr 10)), some (.inl 0), some (.inl i), some (.inl 0), some (.inl j), some (.inl n)] [] (encA (s)) _
  have hI0 := hI
  obtain ⟨⟨hM, hC, hN⟩, hV, h8⟩ := hI
  have hV0 := hV
  have hM0 := hM
  obtain ⟨vc, vpl, vga, vse, vne, veg, vre, vtu, vta, vwa, v36, v37, v39, v40, v42, v41, v43, v44, vl0, vl1, vlm⟩ := hV
  obtain ⟨hM39, hM40, hM41, hM43, hM44, hM36, hM37, hM38, hMc, hMw, hMp, hMt, hMb⟩ := hM
  have hS9 := hS
  obtain ⟨hS0, hS1, hS2, hS3⟩ := hS
  have hA := hS0
  have hB := hS0
  obtain ⟨a1, a2, a3, a4, -⟩ := hA
  obtain ⟨b1, b2, b3, b4, -⟩ := hB
  refine w_ldI rfl rfl ?_
  refine w_call rfl rfl rfl (k_isSheet (by omega)) ?_
  refine w_bEq0 rfl (fun b2 => ?_) (fun b2 => ?_)
  · first
    | (exfalso; omega)
    | (exfalso; omega)
  · first
    | (exfalso; omega)
    | (refine w_ldI rfl rfl ?_
       refine w_call rfl rfl rfl (k_isSheet (by omega)) ?_
       refine w_bNe0 rfl (fun b5 => ?_) (fun b5 => ?_)
       · first
         | (exfalso; omega)
         | (refine w_ldR rfl rfl rfl ?_
            refine w_ldI rfl rfl ?_
            refine w_callV rfl rfl rfl rfl rfl rfl rfl (k_isMissing (by omega) (by show -2147483648 ≤ s 131 0 ∧ s 131 0 < 2147483648; omega)) ?_
            rw [show s 131 ((0 : Int)).toNat = s 160 0 from a1]
            refine w_bNe0 rfl (fun b13 => ?_) (fun b13 => ?_)
            · first
              | (exfalso; omega)
              | (exfalso; omega)
            · first
              | (exfalso; omega)
              | (refine w_ldR rfl rfl rfl ?_
                 refine w_ldI rfl rfl ?_
                 refine w_callV rfl rfl rfl rfl rfl rfl rfl (k_isMissing (by omega) (by show -2147483648 ≤ s 131 0 ∧ s 131 0 < 2147483648; omega)) ?_
                 rw [show s 131 ((0 : Int)).toNat = s 160 0 from b1]
                 refine w_bEq0 rfl (fun b17 => ?_) (fun b17 => ?_)
                 · first
                   | (exfalso; omega)
                   | (refine w_ldR rfl rfl rfl ?_
                      first | refine w_getI rfl rfl rfl rfl rfl ?_ | refine w_getR rfl rfl rfl rfl rfl ?_
                      refine w_ldI rfl rfl ?_
                      refine w_ald rfl rfl rfl (by omega) rfl ?_
                      rw [show s 131 ((0 : Int)).toNat = s 160 0 from a1]
                      refine w_ldR rfl rfl rfl ?_
                      first | refine w_getI rfl rfl rfl rfl rfl ?_ | refine w_getR rfl rfl rfl rfl rfl ?_
                      refine w_ldI rfl rfl ?_
                      refine w_ald rfl rfl rfl (by omega) rfl ?_
                      rw [show s 131 ((0 : Int)).toNat = s 160 0 from b1]
                      refine w_crEq rfl (by omega) (by omega) (fun b30 => ?_) (fun b30 => ?_)
                      · first
                        | (exfalso; omega)
                        | (refine w_ldR rfl rfl rfl ?_
                           first | refine w_getI rfl rfl rfl rfl rfl ?_ | refine w_getR rfl rfl rfl rfl rfl ?_
                           refine w_ldI rfl rfl ?_
                           refine w_rld rfl rfl rfl (by omega) rfl ?_
                           show WP _ _ _ _ (.inr (.inr 138) :: _) _ _
                           refine w_ldI rfl rfl ?_
                           refine w_ldI rfl rfl ?_
                           refine w_callV rfl rfl rfl rfl rfl rfl rfl (k_span138 (by omega) (by omega) (by omega)) ?_
                           refine w_bEq0 rfl (fun b42 => ?_) (fun b42 => ?_)
                           · first
                             | (exfalso; omega)
                             | (refine w_ldR rfl rfl rfl ?_
                                refine w_push rfl ?_
                                refine w_callWI rfl rfl rfl rfl rfl rfl rfl k_error1 (fun v53 s53 p53 => ?_)
                                obtain ⟨rfl, rfl⟩ := p53
                                refine w_retI rfl ?_
                                exact ⟨rfl, rfl⟩)
                           · first
                             | (exfalso; omega)
                             | (refine w_ldR rfl rfl rfl ?_
                                first | refine w_getI rfl rfl rfl rfl rfl ?_ | refine w_getR rfl rfl rfl rfl rfl ?_
                                refine w_ldI rfl rfl ?_
                                refine w_rld rfl rfl rfl (by omega) rfl ?_
                                show WP _ _ _ _ (.inr (.inr 138) :: _) _ _
                                refine w_ldI rfl rfl ?_
                                refine w_ldI rfl rfl ?_
                                refine w_callV rfl rfl rfl rfl rfl rfl rfl (k_span138 (by omega) (by omega) (by omega)) ?_
                                refine w_bNe0 rfl (fun b50 => ?_) (fun b50 => ?_)
                                · first
                                  | (exfalso; omega)
                                  | (exfalso; omega)
                                · first
                                  | (exfalso; omega)
                                  | (refine w_ldR rfl rfl rfl ?_
                                     refine w_push rfl ?_
                                     refine w_callWI rfl rfl rfl rfl rfl rfl rfl k_error1 (fun v53 s53 p53 => ?_)
                                     obtain ⟨rfl, rfl⟩ := p53
                                     refine w_retI rfl ?_
                                     exact ⟨rfl, rfl⟩)))
                      · first
                        | (exfalso; omega)
                        | (exfalso; omega))
                 · first
                   | (exfalso; omega)
                   | (exfalso; omega)))
       · first
         | (exfalso; omega)
         | (exfalso; omega))
theorem k_take140_138 {d : Nat} {s : mSt} {i j n : Int} (hs : 0 ≤ s 138 1 ∧ s 138 1 ≤ 40) (hs2 : 0 ≤ s 140 1 ∧ s 140 1 ≤ 40) (h : 0 ≤ n ∧ 0 ≤ i ∧ 0 ≤ j ∧ n ≤ s 138 1 - i ∧ n ≤ s 140 1 - j) : CV (d + 1) 71 [.inr (.inr 140), .inl j, .inr (.inr 138), .inl i, .inl n] (s) (fun s1 => s1 = ua s 141 (mcpy (s 139) (s 141) i.toNat j.toNat n.toNat)) := by
  refine CV.mk rfl ?_
  show WP (d + 1) 71 0 [some (.inr (.inr 140)), some (.inl j), some (.inr (.inr 138)), some (.inl i), some (.inl n)] [] (encA (s)) _
  refine w_ldR rfl rfl rfl ?_
  refine w_ldI rfl rfl ?_
  refine w_ldI rfl rfl ?_
  refine w_callV rfl rfl rfl rfl rfl rfl rfl (k_span140 (by omega) (by omega) hs2) ?_
  refine w_bEq0 rfl (fun b4 => ?_) (fun b4 => ?_)
  · first
    | (exfalso; omega)
    | (refine w_retV rfl ?_
       first
       | rfl
       | (exfalso; omega))
  · first
    | (exfalso; omega)
    | (refine w_ldR rfl rfl rfl ?_
       refine w_ldI rfl rfl ?_
       refine w_ldI rfl rfl ?_
       refine w_callV rfl rfl rfl rfl rfl rfl rfl (k_span138 (by omega) (by omega) hs) ?_
       refine w_bEq0 rfl (fun b9 => ?_) (fun b9 => ?_)
       · first
         | (exfalso; omega)
         | (refine w_retV rfl ?_
            first
            | rfl
            | (exfalso; omega))
       · first
         | (exfalso; omega)
         | (refine w_ldR rfl rfl rfl ?_
            first | refine w_getI rfl rfl rfl rfl rfl ?_ | refine w_getR rfl rfl rfl rfl rfl ?_
            refine w_ldI rfl rfl ?_
            refine w_ldR rfl rfl rfl ?_
            first | refine w_getI rfl rfl rfl rfl rfl ?_ | refine w_getR rfl rfl rfl rfl rfl ?_
            refine w_ldI rfl rfl ?_
            refine w_ldI rfl rfl ?_
            refine w_cpy rfl rfl rfl rfl rfl (by omega) (by omega) (by omega) (by omega) (by omega) rfl rfl rfl ?_
            refine w_retV rfl ?_
            first
            | rfl
            | (exfalso; omega)))
theorem x_move_y0_1 {d : Nat} {s : mSt} (hI : IvD s) {i j n : Int} (hri : -2147483648 ≤ i ∧ i < 2147483648) (hrj : -2147483648 ≤ j ∧ j < 2147483648) (hrn : -2147483648 ≤ n ∧ n < 2147483648) (hS : IvS s) (hb : ¬ s 160 0 = 0 ∧ ¬ s 160 1 = 0 ∧ s 160 0 = s 160 1) (h : 0 ≤ n ∧ 0 ≤ i ∧ 0 ≤ j ∧ n ≤ s 161 0 - i ∧ n ≤ s 161 1 - j) : CI (d + 2) 132 [.inr (.inr 10), .inl 0, .inl i, .inl 1, .inl j, .inl n] (s) (fun q s1 => q = n ∧ s1 = ua s 141 (mcpy (s 139) (s 141) i.toNat j.toNat n.toNat)) := by
  refine CI.mk rfl ?_
  show WP (d + 2) 132 0 [some (.inr (.inr 10)), some (.inl 0), some (.inl i), some (.inl 1), some (.inl j), some (.inl n)] [] (encA (s)) _
  have hI0 := hI
  obtain ⟨⟨hM, hC, hN⟩, hV, h8⟩ := hI
  have hV0 := hV
  have hM0 := hM
  obtain ⟨vc, vpl, vga, vse, vne, veg, vre, vtu, vta, vwa, v36, v37, v39, v40, v42, v41, v43, v44, vl0, vl1, vlm⟩ := hV
  obtain ⟨hM39, hM40, hM41, hM43, hM44, hM36, hM37, hM38, hMc, hMw, hMp, hMt, hMb⟩ := hM
  have hS9 := hS
  obtain ⟨hS0, hS1, hS2, hS3⟩ := hS
  have hA := hS0
  have hB := hS1
  obtain ⟨a1, a2, a3, a4, -⟩ := hA
  obtain ⟨b1, b2, b3, b4, -⟩ := hB
  refine w_ldI rfl rfl ?_
  refine w_call rfl rfl rfl (k_isSheet (by omega)) ?_
  refine w_bEq0 rfl (fun b2 => ?_) (fun b2 => ?_)
  · first
    | (exfalso; omega)
    | (exfalso; omega)
  · first
    | (exfalso; omega)
    | (refine w_ldI rfl rfl ?_
       refine w_call rfl rfl rfl (k_isSheet (by omega)) ?_
       refine w_bNe0 rfl (fun b5 => ?_) (fun b5 => ?_)
       · first
         | (exfalso; omega)
         | (refine w_ldR rfl rfl rfl ?_
            refine w_ldI rfl rfl ?_
            refine w_callV rfl rfl rfl rfl rfl rfl rfl (k_isMissing (by omega) (by show -2147483648 ≤ s 131 0 ∧ s 131 0 < 2147483648; omega)) ?_
            rw [show s 131 ((0 : Int)).toNat = s 160 0 from a1]
            refine w_bNe0 rfl (fun b13 => ?_) (fun b13 => ?_)
            · first
              | (exfalso; omega)
              | (exfalso; omega)
            · first
              | (exfalso; omega)
              | (refine w_ldR rfl rfl rfl ?_
                 refine w_ldI rfl rfl ?_
                 refine w_callV rfl rfl rfl rfl rfl rfl rfl (k_isMissing (by omega) (by show -2147483648 ≤ s 131 1 ∧ s 131 1 < 2147483648; omega)) ?_
                 rw [show s 131 ((1 : Int)).toNat = s 160 1 from b1]
                 refine w_bEq0 rfl (fun b17 => ?_) (fun b17 => ?_)
                 · first
                   | (exfalso; omega)
                   | (refine w_ldR rfl rfl rfl ?_
                      first | refine w_getI rfl rfl rfl rfl rfl ?_ | refine w_getR rfl rfl rfl rfl rfl ?_
                      refine w_ldI rfl rfl ?_
                      refine w_ald rfl rfl rfl (by omega) rfl ?_
                      rw [show s 131 ((0 : Int)).toNat = s 160 0 from a1]
                      refine w_ldR rfl rfl rfl ?_
                      first | refine w_getI rfl rfl rfl rfl rfl ?_ | refine w_getR rfl rfl rfl rfl rfl ?_
                      refine w_ldI rfl rfl ?_
                      refine w_ald rfl rfl rfl (by omega) rfl ?_
                      rw [show s 131 ((1 : Int)).toNat = s 160 1 from b1]
                      refine w_crEq rfl (by omega) (by omega) (fun b30 => ?_) (fun b30 => ?_)
                      · first
                        | (exfalso; omega)
                        | (refine w_ldR rfl rfl rfl ?_
                           first | refine w_getI rfl rfl rfl rfl rfl ?_ | refine w_getR rfl rfl rfl rfl rfl ?_
                           refine w_ldI rfl rfl ?_
                           refine w_rld rfl rfl rfl (by omega) rfl ?_
                           show WP _ _ _ _ (.inr (.inr 138) :: _) _ _
                           refine w_ldI rfl rfl ?_
                           refine w_ldI rfl rfl ?_
                           refine w_callV rfl rfl rfl rfl rfl rfl rfl (k_span138 (by omega) (by omega) (by omega)) ?_
                           refine w_bEq0 rfl (fun b42 => ?_) (fun b42 => ?_)
                           · first
                             | (exfalso; omega)
                             | (exfalso; omega)
                           · first
                             | (exfalso; omega)
                             | (refine w_ldR rfl rfl rfl ?_
                                first | refine w_getI rfl rfl rfl rfl rfl ?_ | refine w_getR rfl rfl rfl rfl rfl ?_
                                refine w_ldI rfl rfl ?_
                                refine w_rld rfl rfl rfl (by omega) rfl ?_
                                show WP _ _ _ _ (.inr (.inr 140) :: _) _ _
                                refine w_ldI rfl rfl ?_
                                refine w_ldI rfl rfl ?_
                                refine w_callV rfl rfl rfl rfl rfl rfl rfl (k_span140 (by omega) (by omega) (by omega)) ?_
                                refine w_bNe0 rfl (fun b50 => ?_) (fun b50 => ?_)
                                · first
                                  | (exfalso; omega)
                                  | (refine w_ldR rfl rfl rfl ?_
                                     first | refine w_getI rfl rfl rfl rfl rfl ?_ | refine w_getR rfl rfl rfl rfl rfl ?_
                                     refine w_ldI rfl rfl ?_
                                     refine w_rld rfl rfl rfl (by omega) rfl ?_
                                     show WP _ _ _ _ (.inr (.inr 140) :: _) _ _
                                     refine w_ldI rfl rfl ?_
                                     refine w_ldR rfl rfl rfl ?_
                                     first | refine w_getI rfl rfl rfl rfl rfl ?_ | refine w_getR rfl rfl rfl rfl rfl ?_
                                     refine w_ldI rfl rfl ?_
                                     refine w_rld rfl rfl rfl (by omega) rfl ?_
                                     show WP _ _ _ _ (.inr (.inr 138) :: _) _ _
                                     refine w_ldI rfl rfl ?_
                                     refine w_ldI rfl rfl ?_
                                     refine w_callWN rfl rfl rfl rfl rfl rfl rfl (k_take140_138 (by omega) (by omega) (by omega)) (fun s66 p66 => ?_)
                                     refine w_ldI rfl rfl ?_
                                     refine w_retI rfl ?_
                                     exact ⟨rfl, p66⟩)
                                · first
                                  | (exfalso; omega)
                                  | (exfalso; omega)))
                      · first
                        | (exfalso; omega)
                        | (exfalso; omega))
                 · first
                   | (exfalso; omega)
                   | (exfalso; omega)))
       · first
         | (exfalso; omega)
         | (exfalso; omega))
theorem x_move_s0_1 {d : Nat} {s : mSt} (hI : IvD s) {i j n : Int} (hri : -2147483648 ≤ i ∧ i < 2147483648) (hrj : -2147483648 ≤ j ∧ j < 2147483648) (hrn : -2147483648 ≤ n ∧ n < 2147483648) (hS : IvS s) (hb : ¬ s 160 0 = 0 ∧ ¬ s 160 1 = 0 ∧ s 160 0 = s 160 1) (h : ¬ (0 ≤ n ∧ 0 ≤ i ∧ 0 ≤ j ∧ n ≤ s 161 0 - i ∧ n ≤ s 161 1 - j)) : CI (d + 2) 132 [.inr (.inr 10), .inl 0, .inl i, .inl 1, .inl j, .inl n] (s) (fun r s1 => r = -1000000000 - 1 ∧ s1 = us s 132 1 (s 132 1 + 1)) := by
  refine CI.mk rfl ?_
  show WP (d + 2) 132 0 [some (.inr (.inr 10)), some (.inl 0), some (.inl i), some (.inl 1), some (.inl j), some (.inl n)] [] (encA (s)) _
  have hI0 := hI
  obtain ⟨⟨hM, hC, hN⟩, hV, h8⟩ := hI
  have hV0 := hV
  have hM0 := hM
  obtain ⟨vc, vpl, vga, vse, vne, veg, vre, vtu, vta, vwa, v36, v37, v39, v40, v42, v41, v43, v44, vl0, vl1, vlm⟩ := hV
  obtain ⟨hM39, hM40, hM41, hM43, hM44, hM36, hM37, hM38, hMc, hMw, hMp, hMt, hMb⟩ := hM
  have hS9 := hS
  obtain ⟨hS0, hS1, hS2, hS3⟩ := hS
  have hA := hS0
  have hB := hS1
  obtain ⟨a1, a2, a3, a4, -⟩ := hA
  obtain ⟨b1, b2, b3, b4, -⟩ := hB
  refine w_ldI rfl rfl ?_
  refine w_call rfl rfl rfl (k_isSheet (by omega)) ?_
  refine w_bEq0 rfl (fun b2 => ?_) (fun b2 => ?_)
  · first
    | (exfalso; omega)
    | (exfalso; omega)
  · first
    | (exfalso; omega)
    | (refine w_ldI rfl rfl ?_
       refine w_call rfl rfl rfl (k_isSheet (by omega)) ?_
       refine w_bNe0 rfl (fun b5 => ?_) (fun b5 => ?_)
       · first
         | (exfalso; omega)
         | (refine w_ldR rfl rfl rfl ?_
            refine w_ldI rfl rfl ?_
            refine w_callV rfl rfl rfl rfl rfl rfl rfl (k_isMissing (by omega) (by show -2147483648 ≤ s 131 0 ∧ s 131 0 < 2147483648; omega)) ?_
            rw [show s 131 ((0 : Int)).toNat = s 160 0 from a1]
            refine w_bNe0 rfl (fun b13 => ?_) (fun b13 => ?_)
            · first
              | (exfalso; omega)
              | (exfalso; omega)
            · first
              | (exfalso; omega)
              | (refine w_ldR rfl rfl rfl ?_
                 refine w_ldI rfl rfl ?_
                 refine w_callV rfl rfl rfl rfl rfl rfl rfl (k_isMissing (by omega) (by show -2147483648 ≤ s 131 1 ∧ s 131 1 < 2147483648; omega)) ?_
                 rw [show s 131 ((1 : Int)).toNat = s 160 1 from b1]
                 refine w_bEq0 rfl (fun b17 => ?_) (fun b17 => ?_)
                 · first
                   | (exfalso; omega)
                   | (refine w_ldR rfl rfl rfl ?_
                      first | refine w_getI rfl rfl rfl rfl rfl ?_ | refine w_getR rfl rfl rfl rfl rfl ?_
                      refine w_ldI rfl rfl ?_
                      refine w_ald rfl rfl rfl (by omega) rfl ?_
                      rw [show s 131 ((0 : Int)).toNat = s 160 0 from a1]
                      refine w_ldR rfl rfl rfl ?_
                      first | refine w_getI rfl rfl rfl rfl rfl ?_ | refine w_getR rfl rfl rfl rfl rfl ?_
                      refine w_ldI rfl rfl ?_
                      refine w_ald rfl rfl rfl (by omega) rfl ?_
                      rw [show s 131 ((1 : Int)).toNat = s 160 1 from b1]
                      refine w_crEq rfl (by omega) (by omega) (fun b30 => ?_) (fun b30 => ?_)
                      · first
                        | (exfalso; omega)
                        | (refine w_ldR rfl rfl rfl ?_
                           first | refine w_getI rfl rfl rfl rfl rfl ?_ | refine w_getR rfl rfl rfl rfl rfl ?_
                           refine w_ldI rfl rfl ?_
                           refine w_rld rfl rfl rfl (by omega) rfl ?_
                           show WP _ _ _ _ (.inr (.inr 138) :: _) _ _
                           refine w_ldI rfl rfl ?_
                           refine w_ldI rfl rfl ?_
                           refine w_callV rfl rfl rfl rfl rfl rfl rfl (k_span138 (by omega) (by omega) (by omega)) ?_
                           refine w_bEq0 rfl (fun b42 => ?_) (fun b42 => ?_)
                           · first
                             | (exfalso; omega)
                             | (refine w_ldR rfl rfl rfl ?_
                                refine w_push rfl ?_
                                refine w_callWI rfl rfl rfl rfl rfl rfl rfl k_error1 (fun v53 s53 p53 => ?_)
                                obtain ⟨rfl, rfl⟩ := p53
                                refine w_retI rfl ?_
                                exact ⟨rfl, rfl⟩)
                           · first
                             | (exfalso; omega)
                             | (refine w_ldR rfl rfl rfl ?_
                                first | refine w_getI rfl rfl rfl rfl rfl ?_ | refine w_getR rfl rfl rfl rfl rfl ?_
                                refine w_ldI rfl rfl ?_
                                refine w_rld rfl rfl rfl (by omega) rfl ?_
                                show WP _ _ _ _ (.inr (.inr 140) :: _) _ _
                                refine w_ldI rfl rfl ?_
                                refine w_ldI rfl rfl ?_
                                refine w_callV rfl rfl rfl rfl rfl rfl rfl (k_span140 (by omega) (by omega) (by omega)) ?_
                                refine w_bNe0 rfl (fun b50 => ?_) (fun b50 => ?_)
                                · first
                                  | (exfalso; omega)
                                  | (exfalso; omega)
                                · first
                                  | (exfalso; omega)
                                  | (refine w_ldR rfl rfl rfl ?_
                                     refine w_push rfl ?_
                                     refine w_callWI rfl rfl rfl rfl rfl rfl rfl k_error1 (fun v53 s53 p53 => ?_)
                                     obtain ⟨rfl, rfl⟩ := p53
                                     refine w_retI rfl ?_
                                     exact ⟨rfl, rfl⟩)))
                      · first
                        | (exfalso; omega)
                        | (exfalso; omega))
                 · first
                   | (exfalso; omega)
                   | (exfalso; omega)))
       · first
         | (exfalso; omega)
         | (exfalso; omega))
theorem k_take142_138 {d : Nat} {s : mSt} {i j n : Int} (hs : 0 ≤ s 138 1 ∧ s 138 1 ≤ 40) (hs2 : 0 ≤ s 142 1 ∧ s 142 1 ≤ 40) (h : 0 ≤ n ∧ 0 ≤ i ∧ 0 ≤ j ∧ n ≤ s 138 1 - i ∧ n ≤ s 142 1 - j) : CV (d + 1) 71 [.inr (.inr 142), .inl j, .inr (.inr 138), .inl i, .inl n] (s) (fun s1 => s1 = ua s 143 (mcpy (s 139) (s 143) i.toNat j.toNat n.toNat)) := by
  refine CV.mk rfl ?_
  show WP (d + 1) 71 0 [some (.inr (.inr 142)), some (.inl j), some (.inr (.inr 138)), some (.inl i), some (.inl n)] [] (encA (s)) _
  refine w_ldR rfl rfl rfl ?_
  refine w_ldI rfl rfl ?_
  refine w_ldI rfl rfl ?_
  refine w_callV rfl rfl rfl rfl rfl rfl rfl (k_span142 (by omega) (by omega) hs2) ?_
  refine w_bEq0 rfl (fun b4 => ?_) (fun b4 => ?_)
  · first
    | (exfalso; omega)
    | (refine w_retV rfl ?_
       first
       | rfl
       | (exfalso; omega))
  · first
    | (exfalso; omega)
    | (refine w_ldR rfl rfl rfl ?_
       refine w_ldI rfl rfl ?_
       refine w_ldI rfl rfl ?_
       refine w_callV rfl rfl rfl rfl rfl rfl rfl (k_span138 (by omega) (by omega) hs) ?_
       refine w_bEq0 rfl (fun b9 => ?_) (fun b9 => ?_)
       · first
         | (exfalso; omega)
         | (refine w_retV rfl ?_
            first
            | rfl
            | (exfalso; omega))
       · first
         | (exfalso; omega)
         | (refine w_ldR rfl rfl rfl ?_
            first | refine w_getI rfl rfl rfl rfl rfl ?_ | refine w_getR rfl rfl rfl rfl rfl ?_
            refine w_ldI rfl rfl ?_
            refine w_ldR rfl rfl rfl ?_
            first | refine w_getI rfl rfl rfl rfl rfl ?_ | refine w_getR rfl rfl rfl rfl rfl ?_
            refine w_ldI rfl rfl ?_
            refine w_ldI rfl rfl ?_
            refine w_cpy rfl rfl rfl rfl rfl (by omega) (by omega) (by omega) (by omega) (by omega) rfl rfl rfl ?_
            refine w_retV rfl ?_
            first
            | rfl
            | (exfalso; omega)))
theorem x_move_y0_2 {d : Nat} {s : mSt} (hI : IvD s) {i j n : Int} (hri : -2147483648 ≤ i ∧ i < 2147483648) (hrj : -2147483648 ≤ j ∧ j < 2147483648) (hrn : -2147483648 ≤ n ∧ n < 2147483648) (hS : IvS s) (hb : ¬ s 160 0 = 0 ∧ ¬ s 160 2 = 0 ∧ s 160 0 = s 160 2) (h : 0 ≤ n ∧ 0 ≤ i ∧ 0 ≤ j ∧ n ≤ s 161 0 - i ∧ n ≤ s 161 2 - j) : CI (d + 2) 132 [.inr (.inr 10), .inl 0, .inl i, .inl 2, .inl j, .inl n] (s) (fun q s1 => q = n ∧ s1 = ua s 143 (mcpy (s 139) (s 143) i.toNat j.toNat n.toNat)) := by
  refine CI.mk rfl ?_
  show WP (d + 2) 132 0 [some (.inr (.inr 10)), some (.inl 0), some (.inl i), some (.inl 2), some (.inl j), some (.inl n)] [] (encA (s)) _
  have hI0 := hI
  obtain ⟨⟨hM, hC, hN⟩, hV, h8⟩ := hI
  have hV0 := hV
  have hM0 := hM
  obtain ⟨vc, vpl, vga, vse, vne, veg, vre, vtu, vta, vwa, v36, v37, v39, v40, v42, v41, v43, v44, vl0, vl1, vlm⟩ := hV
  obtain ⟨hM39, hM40, hM41, hM43, hM44, hM36, hM37, hM38, hMc, hMw, hMp, hMt, hMb⟩ := hM
  have hS9 := hS
  obtain ⟨hS0, hS1, hS2, hS3⟩ := hS
  have hA := hS0
  have hB := hS2
  obtain ⟨a1, a2, a3, a4, -⟩ := hA
  obtain ⟨b1, b2, b3, b4, -⟩ := hB
  refine w_ldI rfl rfl ?_
  refine w_call rfl rfl rfl (k_isSheet (by omega)) ?_
  refine w_bEq0 rfl (fun b2 => ?_) (fun b2 => ?_)
  · first
    | (exfalso; omega)
    | (exfalso; omega)
  · first
    | (exfalso; omega)
    | (refine w_ldI rfl rfl ?_
       refine w_call rfl rfl rfl (k_isSheet (by omega)) ?_
       refine w_bNe0 rfl (fun b5 => ?_) (fun b5 => ?_)
       · first
         | (exfalso; omega)
         | (refine w_ldR rfl rfl rfl ?_
            refine w_ldI rfl rfl ?_
            refine w_callV rfl rfl rfl rfl rfl rfl rfl (k_isMissing (by omega) (by show -2147483648 ≤ s 131 0 ∧ s 131 0 < 2147483648; omega)) ?_
            rw [show s 131 ((0 : Int)).toNat = s 160 0 from a1]
            refine w_bNe0 rfl (fun b13 => ?_) (fun b13 => ?_)
            · first
              | (exfalso; omega)
              | (exfalso; omega)
            · first
              | (exfalso; omega)
              | (refine w_ldR rfl rfl rfl ?_
                 refine w_ldI rfl rfl ?_
                 refine w_callV rfl rfl rfl rfl rfl rfl rfl (k_isMissing (by omega) (by show -2147483648 ≤ s 131 2 ∧ s 131 2 < 2147483648; omega)) ?_
                 rw [show s 131 ((2 : Int)).toNat = s 160 2 from b1]
                 refine w_bEq0 rfl (fun b17 => ?_) (fun b17 => ?_)
                 · first
                   | (exfalso; omega)
                   | (refine w_ldR rfl rfl rfl ?_
                      first | refine w_getI rfl rfl rfl rfl rfl ?_ | refine w_getR rfl rfl rfl rfl rfl ?_
                      refine w_ldI rfl rfl ?_
                      refine w_ald rfl rfl rfl (by omega) rfl ?_
                      rw [show s 131 ((0 : Int)).toNat = s 160 0 from a1]
                      refine w_ldR rfl rfl rfl ?_
                      first | refine w_getI rfl rfl rfl rfl rfl ?_ | refine w_getR rfl rfl rfl rfl rfl ?_
                      refine w_ldI rfl rfl ?_
                      refine w_ald rfl rfl rfl (by omega) rfl ?_
                      rw [show s 131 ((2 : Int)).toNat = s 160 2 from b1]
                      refine w_crEq rfl (by omega) (by omega) (fun b30 => ?_) (fun b30 => ?_)
                      · first
                        | (exfalso; omega)
                        | (refine w_ldR rfl rfl rfl ?_
                           first | refine w_getI rfl rfl rfl rfl rfl ?_ | refine w_getR rfl rfl rfl rfl rfl ?_
                           refine w_ldI rfl rfl ?_
                           refine w_rld rfl rfl rfl (by omega) rfl ?_
                           show WP _ _ _ _ (.inr (.inr 138) :: _) _ _
                           refine w_ldI rfl rfl ?_
                           refine w_ldI rfl rfl ?_
                           refine w_callV rfl rfl rfl rfl rfl rfl rfl (k_span138 (by omega) (by omega) (by omega)) ?_
                           refine w_bEq0 rfl (fun b42 => ?_) (fun b42 => ?_)
                           · first
                             | (exfalso; omega)
                             | (exfalso; omega)
                           · first
                             | (exfalso; omega)
                             | (refine w_ldR rfl rfl rfl ?_
                                first | refine w_getI rfl rfl rfl rfl rfl ?_ | refine w_getR rfl rfl rfl rfl rfl ?_
                                refine w_ldI rfl rfl ?_
                                refine w_rld rfl rfl rfl (by omega) rfl ?_
                                show WP _ _ _ _ (.inr (.inr 142) :: _) _ _
                                refine w_ldI rfl rfl ?_
                                refine w_ldI rfl rfl ?_
                                refine w_callV rfl rfl rfl rfl rfl rfl rfl (k_span142 (by omega) (by omega) (by omega)) ?_
                                refine w_bNe0 rfl (fun b50 => ?_) (fun b50 => ?_)
                                · first
                                  | (exfalso; omega)
                                  | (refine w_ldR rfl rfl rfl ?_
                                     first | refine w_getI rfl rfl rfl rfl rfl ?_ | refine w_getR rfl rfl rfl rfl rfl ?_
                                     refine w_ldI rfl rfl ?_
                                     refine w_rld rfl rfl rfl (by omega) rfl ?_
                                     show WP _ _ _ _ (.inr (.inr 142) :: _) _ _
                                     refine w_ldI rfl rfl ?_
                                     refine w_ldR rfl rfl rfl ?_
                                     first | refine w_getI rfl rfl rfl rfl rfl ?_ | refine w_getR rfl rfl rfl rfl rfl ?_
                                     refine w_ldI rfl rfl ?_
                                     refine w_rld rfl rfl rfl (by omega) rfl ?_
                                     show WP _ _ _ _ (.inr (.inr 138) :: _) _ _
                                     refine w_ldI rfl rfl ?_
                                     refine w_ldI rfl rfl ?_
                                     refine w_callWN rfl rfl rfl rfl rfl rfl rfl (k_take142_138 (by omega) (by omega) (by omega)) (fun s66 p66 => ?_)
                                     refine w_ldI rfl rfl ?_
                                     refine w_retI rfl ?_
                                     exact ⟨rfl, p66⟩)
                                · first
                                  | (exfalso; omega)
                                  | (exfalso; omega)))
                      · first
                        | (exfalso; omega)
                        | (exfalso; omega))
                 · first
                   | (exfalso; omega)
                   | (exfalso; omega)))
       · first
         | (exfalso; omega)
         | (exfalso; omega))
theorem x_move_s0_2 {d : Nat} {s : mSt} (hI : IvD s) {i j n : Int} (hri : -2147483648 ≤ i ∧ i < 2147483648) (hrj : -2147483648 ≤ j ∧ j < 2147483648) (hrn : -2147483648 ≤ n ∧ n < 2147483648) (hS : IvS s) (hb : ¬ s 160 0 = 0 ∧ ¬ s 160 2 = 0 ∧ s 160 0 = s 160 2) (h : ¬ (0 ≤ n ∧ 0 ≤ i ∧ 0 ≤ j ∧ n ≤ s 161 0 - i ∧ n ≤ s 161 2 - j)) : CI (d + 2) 132 [.inr (.inr 10), .inl 0, .inl i, .inl 2, .inl j, .inl n] (s) (fun r s1 => r = -1000000000 - 1 ∧ s1 = us s 132 1 (s 132 1 + 1)) := by
  refine CI.mk rfl ?_
  show WP (d + 2) 132 0 [some (.inr (.inr 10)), some (.inl 0), some (.inl i), some (.inl 2), some (.inl j), some (.inl n)] [] (encA (s)) _
  have hI0 := hI
  obtain ⟨⟨hM, hC, hN⟩, hV, h8⟩ := hI
  have hV0 := hV
  have hM0 := hM
  obtain ⟨vc, vpl, vga, vse, vne, veg, vre, vtu, vta, vwa, v36, v37, v39, v40, v42, v41, v43, v44, vl0, vl1, vlm⟩ := hV
  obtain ⟨hM39, hM40, hM41, hM43, hM44, hM36, hM37, hM38, hMc, hMw, hMp, hMt, hMb⟩ := hM
  have hS9 := hS
  obtain ⟨hS0, hS1, hS2, hS3⟩ := hS
  have hA := hS0
  have hB := hS2
  obtain ⟨a1, a2, a3, a4, -⟩ := hA
  obtain ⟨b1, b2, b3, b4, -⟩ := hB
  refine w_ldI rfl rfl ?_
  refine w_call rfl rfl rfl (k_isSheet (by omega)) ?_
  refine w_bEq0 rfl (fun b2 => ?_) (fun b2 => ?_)
  · first
    | (exfalso; omega)
    | (exfalso; omega)
  · first
    | (exfalso; omega)
    | (refine w_ldI rfl rfl ?_
       refine w_call rfl rfl rfl (k_isSheet (by omega)) ?_
       refine w_bNe0 rfl (fun b5 => ?_) (fun b5 => ?_)
       · first
         | (exfalso; omega)
         | (refine w_ldR rfl rfl rfl ?_
            refine w_ldI rfl rfl ?_
            refine w_callV rfl rfl rfl rfl rfl rfl rfl (k_isMissing (by omega) (by show -2147483648 ≤ s 131 0 ∧ s 131 0 < 2147483648; omega)) ?_
            rw [show s 131 ((0 : Int)).toNat = s 160 0 from a1]
            refine w_bNe0 rfl (fun b13 => ?_) (fun b13 => ?_)
            · first
              | (exfalso; omega)
              | (exfalso; omega)
            · first
              | (exfalso; omega)
              | (refine w_ldR rfl rfl rfl ?_
                 refine w_ldI rfl rfl ?_
                 refine w_callV rfl rfl rfl rfl rfl rfl rfl (k_isMissing (by omega) (by show -2147483648 ≤ s 131 2 ∧ s 131 2 < 2147483648; omega)) ?_
                 rw [show s 131 ((2 : Int)).toNat = s 160 2 from b1]
                 refine w_bEq0 rfl (fun b17 => ?_) (fun b17 => ?_)
                 · first
                   | (exfalso; omega)
                   | (refine w_ldR rfl rfl rfl ?_
                      first | refine w_getI rfl rfl rfl rfl rfl ?_ | refine w_getR rfl rfl rfl rfl rfl ?_
                      refine w_ldI rfl rfl ?_
                      refine w_ald rfl rfl rfl (by omega) rfl ?_
                      rw [show s 131 ((0 : Int)).toNat = s 160 0 from a1]
                      refine w_ldR rfl rfl rfl ?_
                      first | refine w_getI rfl rfl rfl rfl rfl ?_ | refine w_getR rfl rfl rfl rfl rfl ?_
                      refine w_ldI rfl rfl ?_
                      refine w_ald rfl rfl rfl (by omega) rfl ?_
                      rw [show s 131 ((2 : Int)).toNat = s 160 2 from b1]
                      refine w_crEq rfl (by omega) (by omega) (fun b30 => ?_) (fun b30 => ?_)
                      · first
                        | (exfalso; omega)
                        | (refine w_ldR rfl rfl rfl ?_
                           first | refine w_getI rfl rfl rfl rfl rfl ?_ | refine w_getR rfl rfl rfl rfl rfl ?_
                           refine w_ldI rfl rfl ?_
                           refine w_rld rfl rfl rfl (by omega) rfl ?_
                           show WP _ _ _ _ (.inr (.inr 138) :: _) _ _
                           refine w_ldI rfl rfl ?_
                           refine w_ldI rfl rfl ?_
                           refine w_callV rfl rfl rfl rfl rfl rfl rfl (k_span138 (by omega) (by omega) (by omega)) ?_
                           refine w_bEq0 rfl (fun b42 => ?_) (fun b42 => ?_)
                           · first
                             | (exfalso; omega)
                             | (refine w_ldR rfl rfl rfl ?_
                                refine w_push rfl ?_
                                refine w_callWI rfl rfl rfl rfl rfl rfl rfl k_error1 (fun v53 s53 p53 => ?_)
                                obtain ⟨rfl, rfl⟩ := p53
                                refine w_retI rfl ?_
                                exact ⟨rfl, rfl⟩)
                           · first
                             | (exfalso; omega)
                             | (refine w_ldR rfl rfl rfl ?_
                                first | refine w_getI rfl rfl rfl rfl rfl ?_ | refine w_getR rfl rfl rfl rfl rfl ?_
                                refine w_ldI rfl rfl ?_
                                refine w_rld rfl rfl rfl (by omega) rfl ?_
                                show WP _ _ _ _ (.inr (.inr 142) :: _) _ _
                                refine w_ldI rfl rfl ?_
                                refine w_ldI rfl rfl ?_
                                refine w_callV rfl rfl rfl rfl rfl rfl rfl (k_span142 (by omega) (by omega) (by omega)) ?_
                                refine w_bNe0 rfl (fun b50 => ?_) (fun b50 => ?_)
                                · first
                                  | (exfalso; omega)
                                  | (exfalso; omega)
                                · first
                                  | (exfalso; omega)
                                  | (refine w_ldR rfl rfl rfl ?_
                                     refine w_push rfl ?_
                                     refine w_callWI rfl rfl rfl rfl rfl rfl rfl k_error1 (fun v53 s53 p53 => ?_)
                                     obtain ⟨rfl, rfl⟩ := p53
                                     refine w_retI rfl ?_
                                     exact ⟨rfl, rfl⟩)))
                      · first
                        | (exfalso; omega)
                        | (exfalso; omega))
                 · first
                   | (exfalso; omega)
                   | (exfalso; omega)))
       · first
         | (exfalso; omega)
         | (exfalso; omega))
theorem k_take144_138 {d : Nat} {s : mSt} {i j n : Int} (hs : 0 ≤ s 138 1 ∧ s 138 1 ≤ 40) (hs2 : 0 ≤ s 144 1 ∧ s 144 1 ≤ 40) (h : 0 ≤ n ∧ 0 ≤ i ∧ 0 ≤ j ∧ n ≤ s 138 1 - i ∧ n ≤ s 144 1 - j) : CV (d + 1) 71 [.inr (.inr 144), .inl j, .inr (.inr 138), .inl i, .inl n] (s) (fun s1 => s1 = ua s 145 (mcpy (s 139) (s 145) i.toNat j.toNat n.toNat)) := by
  refine CV.mk rfl ?_
  show WP (d + 1) 71 0 [some (.inr (.inr 144)), some (.inl j), some (.inr (.inr 138)), some (.inl i), some (.inl n)] [] (encA (s)) _
  refine w_ldR rfl rfl rfl ?_
  refine w_ldI rfl rfl ?_
  refine w_ldI rfl rfl ?_
  refine w_callV rfl rfl rfl rfl rfl rfl rfl (k_span144 (by omega) (by omega) hs2) ?_
  refine w_bEq0 rfl (fun b4 => ?_) (fun b4 => ?_)
  · first
    | (exfalso; omega)
    | (refine w_retV rfl ?_
       first
       | rfl
       | (exfalso; omega))
  · first
    | (exfalso; omega)
    | (refine w_ldR rfl rfl rfl ?_
       refine w_ldI rfl rfl ?_
       refine w_ldI rfl rfl ?_
       refine w_callV rfl rfl rfl rfl rfl rfl rfl (k_span138 (by omega) (by omega) hs) ?_
       refine w_bEq0 rfl (fun b9 => ?_) (fun b9 => ?_)
       · first
         | (exfalso; omega)
         | (refine w_retV rfl ?_
            first
            | rfl
            | (exfalso; omega))
       · first
         | (exfalso; omega)
         | (refine w_ldR rfl rfl rfl ?_
            first | refine w_getI rfl rfl rfl rfl rfl ?_ | refine w_getR rfl rfl rfl rfl rfl ?_
            refine w_ldI rfl rfl ?_
            refine w_ldR rfl rfl rfl ?_
            first | refine w_getI rfl rfl rfl rfl rfl ?_ | refine w_getR rfl rfl rfl rfl rfl ?_
            refine w_ldI rfl rfl ?_
            refine w_ldI rfl rfl ?_
            refine w_cpy rfl rfl rfl rfl rfl (by omega) (by omega) (by omega) (by omega) (by omega) rfl rfl rfl ?_
            refine w_retV rfl ?_
            first
            | rfl
            | (exfalso; omega)))
theorem x_move_y0_3 {d : Nat} {s : mSt} (hI : IvD s) {i j n : Int} (hri : -2147483648 ≤ i ∧ i < 2147483648) (hrj : -2147483648 ≤ j ∧ j < 2147483648) (hrn : -2147483648 ≤ n ∧ n < 2147483648) (hS : IvS s) (hb : ¬ s 160 0 = 0 ∧ ¬ s 160 3 = 0 ∧ s 160 0 = s 160 3) (h : 0 ≤ n ∧ 0 ≤ i ∧ 0 ≤ j ∧ n ≤ s 161 0 - i ∧ n ≤ s 161 3 - j) : CI (d + 2) 132 [.inr (.inr 10), .inl 0, .inl i, .inl 3, .inl j, .inl n] (s) (fun q s1 => q = n ∧ s1 = ua s 145 (mcpy (s 139) (s 145) i.toNat j.toNat n.toNat)) := by
  refine CI.mk rfl ?_
  show WP (d + 2) 132 0 [some (.inr (.inr 10)), some (.inl 0), some (.inl i), some (.inl 3), some (.inl j), some (.inl n)] [] (encA (s)) _
  have hI0 := hI
  obtain ⟨⟨hM, hC, hN⟩, hV, h8⟩ := hI
  have hV0 := hV
  have hM0 := hM
  obtain ⟨vc, vpl, vga, vse, vne, veg, vre, vtu, vta, vwa, v36, v37, v39, v40, v42, v41, v43, v44, vl0, vl1, vlm⟩ := hV
  obtain ⟨hM39, hM40, hM41, hM43, hM44, hM36, hM37, hM38, hMc, hMw, hMp, hMt, hMb⟩ := hM
  have hS9 := hS
  obtain ⟨hS0, hS1, hS2, hS3⟩ := hS
  have hA := hS0
  have hB := hS3
  obtain ⟨a1, a2, a3, a4, -⟩ := hA
  obtain ⟨b1, b2, b3, b4, -⟩ := hB
  refine w_ldI rfl rfl ?_
  refine w_call rfl rfl rfl (k_isSheet (by omega)) ?_
  refine w_bEq0 rfl (fun b2 => ?_) (fun b2 => ?_)
  · first
    | (exfalso; omega)
    | (exfalso; omega)
  · first
    | (exfalso; omega)
    | (refine w_ldI rfl rfl ?_
       refine w_call rfl rfl rfl (k_isSheet (by omega)) ?_
       refine w_bNe0 rfl (fun b5 => ?_) (fun b5 => ?_)
       · first
         | (exfalso; omega)
         | (refine w_ldR rfl rfl rfl ?_
            refine w_ldI rfl rfl ?_
            refine w_callV rfl rfl rfl rfl rfl rfl rfl (k_isMissing (by omega) (by show -2147483648 ≤ s 131 0 ∧ s 131 0 < 2147483648; omega)) ?_
            rw [show s 131 ((0 : Int)).toNat = s 160 0 from a1]
            refine w_bNe0 rfl (fun b13 => ?_) (fun b13 => ?_)
            · first
              | (exfalso; omega)
              | (exfalso; omega)
            · first
              | (exfalso; omega)
              | (refine w_ldR rfl rfl rfl ?_
                 refine w_ldI rfl rfl ?_
                 refine w_callV rfl rfl rfl rfl rfl rfl rfl (k_isMissing (by omega) (by show -2147483648 ≤ s 131 3 ∧ s 131 3 < 2147483648; omega)) ?_
                 rw [show s 131 ((3 : Int)).toNat = s 160 3 from b1]
                 refine w_bEq0 rfl (fun b17 => ?_) (fun b17 => ?_)
                 · first
                   | (exfalso; omega)
                   | (refine w_ldR rfl rfl rfl ?_
                      first | refine w_getI rfl rfl rfl rfl rfl ?_ | refine w_getR rfl rfl rfl rfl rfl ?_
                      refine w_ldI rfl rfl ?_
                      refine w_ald rfl rfl rfl (by omega) rfl ?_
                      rw [show s 131 ((0 : Int)).toNat = s 160 0 from a1]
                      refine w_ldR rfl rfl rfl ?_
                      first | refine w_getI rfl rfl rfl rfl rfl ?_ | refine w_getR rfl rfl rfl rfl rfl ?_
                      refine w_ldI rfl rfl ?_
                      refine w_ald rfl rfl rfl (by omega) rfl ?_
                      rw [show s 131 ((3 : Int)).toNat = s 160 3 from b1]
                      refine w_crEq rfl (by omega) (by omega) (fun b30 => ?_) (fun b30 => ?_)
                      · first
                        | (exfalso; omega)
                        | (refine w_ldR rfl rfl rfl ?_
                           first | refine w_getI rfl rfl rfl rfl rfl ?_ | refine w_getR rfl rfl rfl rfl rfl ?_
                           refine w_ldI rfl rfl ?_
                           refine w_rld rfl rfl rfl (by omega) rfl ?_
                           show WP _ _ _ _ (.inr (.inr 138) :: _) _ _
                           refine w_ldI rfl rfl ?_
                           refine w_ldI rfl rfl ?_
                           refine w_callV rfl rfl rfl rfl rfl rfl rfl (k_span138 (by omega) (by omega) (by omega)) ?_
                           refine w_bEq0 rfl (fun b42 => ?_) (fun b42 => ?_)
                           · first
                             | (exfalso; omega)
                             | (exfalso; omega)
                           · first
                             | (exfalso; omega)
                             | (refine w_ldR rfl rfl rfl ?_
                                first | refine w_getI rfl rfl rfl rfl rfl ?_ | refine w_getR rfl rfl rfl rfl rfl ?_
                                refine w_ldI rfl rfl ?_
                                refine w_rld rfl rfl rfl (by omega) rfl ?_
                                show WP _ _ _ _ (.inr (.inr 144) :: _) _ _
                                refine w_ldI rfl rfl ?_
                                refine w_ldI rfl rfl ?_
                                refine w_callV rfl rfl rfl rfl rfl rfl rfl (k_span144 (by omega) (by omega) (by omega)) ?_
                                refine w_bNe0 rfl (fun b50 => ?_) (fun b50 => ?_)
                                · first
                                  | (exfalso; omega)
                                  | (refine w_ldR rfl rfl rfl ?_
                                     first | refine w_getI rfl rfl rfl rfl rfl ?_ | refine w_getR rfl rfl rfl rfl rfl ?_
                                     refine w_ldI rfl rfl ?_
                                     refine w_rld rfl rfl rfl (by omega) rfl ?_
                                     show WP _ _ _ _ (.inr (.inr 144) :: _) _ _
                                     refine w_ldI rfl rfl ?_
                                     refine w_ldR rfl rfl rfl ?_
                                     first | refine w_getI rfl rfl rfl rfl rfl ?_ | refine w_getR rfl rfl rfl rfl rfl ?_
                                     refine w_ldI rfl rfl ?_
                                     refine w_rld rfl rfl rfl (by omega) rfl ?_
                                     show WP _ _ _ _ (.inr (.inr 138) :: _) _ _
                                     refine w_ldI rfl rfl ?_
                                     refine w_ldI rfl rfl ?_
                                     refine w_callWN rfl rfl rfl rfl rfl rfl rfl (k_take144_138 (by omega) (by omega) (by omega)) (fun s66 p66 => ?_)
                                     refine w_ldI rfl rfl ?_
                                     refine w_retI rfl ?_
                                     exact ⟨rfl, p66⟩)
                                · first
                                  | (exfalso; omega)
                                  | (exfalso; omega)))
                      · first
                        | (exfalso; omega)
                        | (exfalso; omega))
                 · first
                   | (exfalso; omega)
                   | (exfalso; omega)))
       · first
         | (exfalso; omega)
         | (exfalso; omega))
theorem x_move_s0_3 {d : Nat} {s : mSt} (hI : IvD s) {i j n : Int} (hri : -2147483648 ≤ i ∧ i < 2147483648) (hrj : -2147483648 ≤ j ∧ j < 2147483648) (hrn : -2147483648 ≤ n ∧ n < 2147483648) (hS : IvS s) (hb : ¬ s 160 0 = 0 ∧ ¬ s 160 3 = 0 ∧ s 160 0 = s 160 3) (h : ¬ (0 ≤ n ∧ 0 ≤ i ∧ 0 ≤ j ∧ n ≤ s 161 0 - i ∧ n ≤ s 161 3 - j)) : CI (d + 2) 132 [.inr (.inr 10), .inl 0, .inl i, .inl 3, .inl j, .inl n] (s) (fun r s1 => r = -1000000000 - 1 ∧ s1 = us s 132 1 (s 132 1 + 1)) := by
  refine CI.mk rfl ?_
  show WP (d + 2) 132 0 [some (.inr (.inr 10)), some (.inl 0), some (.inl i), some (.inl 3), some (.inl j), some (.inl n)] [] (encA (s)) _
  have hI0 := hI
  obtain ⟨⟨hM, hC, hN⟩, hV, h8⟩ := hI
  have hV0 := hV
  have hM0 := hM
  obtain ⟨vc, vpl, vga, vse, vne, veg, vre, vtu, vta, vwa, v36, v37, v39, v40, v42, v41, v43, v44, vl0, vl1, vlm⟩ := hV
  obtain ⟨hM39, hM40, hM41, hM43, hM44, hM36, hM37, hM38, hMc, hMw, hMp, hMt, hMb⟩ := hM
  have hS9 := hS
  obtain ⟨hS0, hS1, hS2, hS3⟩ := hS
  have hA := hS0
  have hB := hS3
  obtain ⟨a1, a2, a3, a4, -⟩ := hA
  obtain ⟨b1, b2, b3, b4, -⟩ := hB
  refine w_ldI rfl rfl ?_
  refine w_call rfl rfl rfl (k_isSheet (by omega)) ?_
  refine w_bEq0 rfl (fun b2 => ?_) (fun b2 => ?_)
  · first
    | (exfalso; omega)
    | (exfalso; omega)
  · first
    | (exfalso; omega)
    | (refine w_ldI rfl rfl ?_
       refine w_call rfl rfl rfl (k_isSheet (by omega)) ?_
       refine w_bNe0 rfl (fun b5 => ?_) (fun b5 => ?_)
       · first
         | (exfalso; omega)
         | (refine w_ldR rfl rfl rfl ?_
            refine w_ldI rfl rfl ?_
            refine w_callV rfl rfl rfl rfl rfl rfl rfl (k_isMissing (by omega) (by show -2147483648 ≤ s 131 0 ∧ s 131 0 < 2147483648; omega)) ?_
            rw [show s 131 ((0 : Int)).toNat = s 160 0 from a1]
            refine w_bNe0 rfl (fun b13 => ?_) (fun b13 => ?_)
            · first
              | (exfalso; omega)
              | (exfalso; omega)
            · first
              | (exfalso; omega)
              | (refine w_ldR rfl rfl rfl ?_
                 refine w_ldI rfl rfl ?_
                 refine w_callV rfl rfl rfl rfl rfl rfl rfl (k_isMissing (by omega) (by show -2147483648 ≤ s 131 3 ∧ s 131 3 < 2147483648; omega)) ?_
                 rw [show s 131 ((3 : Int)).toNat = s 160 3 from b1]
                 refine w_bEq0 rfl (fun b17 => ?_) (fun b17 => ?_)
                 · first
                   | (exfalso; omega)
                   | (refine w_ldR rfl rfl rfl ?_
                      first | refine w_getI rfl rfl rfl rfl rfl ?_ | refine w_getR rfl rfl rfl rfl rfl ?_
                      refine w_ldI rfl rfl ?_
                      refine w_ald rfl rfl rfl (by omega) rfl ?_
                      rw [show s 131 ((0 : Int)).toNat = s 160 0 from a1]
                      refine w_ldR rfl rfl rfl ?_
                      first | refine w_getI rfl rfl rfl rfl rfl ?_ | refine w_getR rfl rfl rfl rfl rfl ?_
                      refine w_ldI rfl rfl ?_
                      refine w_ald rfl rfl rfl (by omega) rfl ?_
                      rw [show s 131 ((3 : Int)).toNat = s 160 3 from b1]
                      refine w_crEq rfl (by omega) (by omega) (fun b30 => ?_) (fun b30 => ?_)
                      · first
                        | (exfalso; omega)
                        | (refine w_ldR rfl rfl rfl ?_
                           first | refine w_getI rfl rfl rfl rfl rfl ?_ | refine w_getR rfl rfl rfl rfl rfl ?_
                           refine w_ldI rfl rfl ?_
                           refine w_rld rfl rfl rfl (by omega) rfl ?_
                           show WP _ _ _ _ (.inr (.inr 138) :: _) _ _
                           refine w_ldI rfl rfl ?_
                           refine w_ldI rfl rfl ?_
                           refine w_callV rfl rfl rfl rfl rfl rfl rfl (k_span138 (by omega) (by omega) (by omega)) ?_
                           refine w_bEq0 rfl (fun b42 => ?_) (fun b42 => ?_)
                           · first
                             | (exfalso; omega)
                             | (refine w_ldR rfl rfl rfl ?_
                                refine w_push rfl ?_
                                refine w_callWI rfl rfl rfl rfl rfl rfl rfl k_error1 (fun v53 s53 p53 => ?_)
                                obtain ⟨rfl, rfl⟩ := p53
                                refine w_retI rfl ?_
                                exact ⟨rfl, rfl⟩)
                           · first
                             | (exfalso; omega)
                             | (refine w_ldR rfl rfl rfl ?_
                                first | refine w_getI rfl rfl rfl rfl rfl ?_ | refine w_getR rfl rfl rfl rfl rfl ?_
                                refine w_ldI rfl rfl ?_
                                refine w_rld rfl rfl rfl (by omega) rfl ?_
                                show WP _ _ _ _ (.inr (.inr 144) :: _) _ _
                                refine w_ldI rfl rfl ?_
                                refine w_ldI rfl rfl ?_
                                refine w_callV rfl rfl rfl rfl rfl rfl rfl (k_span144 (by omega) (by omega) (by omega)) ?_
                                refine w_bNe0 rfl (fun b50 => ?_) (fun b50 => ?_)
                                · first
                                  | (exfalso; omega)
                                  | (exfalso; omega)
                                · first
                                  | (exfalso; omega)
                                  | (refine w_ldR rfl rfl rfl ?_
                                     refine w_push rfl ?_
                                     refine w_callWI rfl rfl rfl rfl rfl rfl rfl k_error1 (fun v53 s53 p53 => ?_)
                                     obtain ⟨rfl, rfl⟩ := p53
                                     refine w_retI rfl ?_
                                     exact ⟨rfl, rfl⟩)))
                      · first
                        | (exfalso; omega)
                        | (exfalso; omega))
                 · first
                   | (exfalso; omega)
                   | (exfalso; omega)))
       · first
         | (exfalso; omega)
         | (exfalso; omega))
theorem k_take138_140 {d : Nat} {s : mSt} {i j n : Int} (hs : 0 ≤ s 140 1 ∧ s 140 1 ≤ 40) (hs2 : 0 ≤ s 138 1 ∧ s 138 1 ≤ 40) (h : 0 ≤ n ∧ 0 ≤ i ∧ 0 ≤ j ∧ n ≤ s 140 1 - i ∧ n ≤ s 138 1 - j) : CV (d + 1) 71 [.inr (.inr 138), .inl j, .inr (.inr 140), .inl i, .inl n] (s) (fun s1 => s1 = ua s 139 (mcpy (s 141) (s 139) i.toNat j.toNat n.toNat)) := by
  refine CV.mk rfl ?_
  show WP (d + 1) 71 0 [some (.inr (.inr 138)), some (.inl j), some (.inr (.inr 140)), some (.inl i), some (.inl n)] [] (encA (s)) _
  refine w_ldR rfl rfl rfl ?_
  refine w_ldI rfl rfl ?_
  refine w_ldI rfl rfl ?_
  refine w_callV rfl rfl rfl rfl rfl rfl rfl (k_span138 (by omega) (by omega) hs2) ?_
  refine w_bEq0 rfl (fun b4 => ?_) (fun b4 => ?_)
  · first
    | (exfalso; omega)
    | (refine w_retV rfl ?_
       first
       | rfl
       | (exfalso; omega))
  · first
    | (exfalso; omega)
    | (refine w_ldR rfl rfl rfl ?_
       refine w_ldI rfl rfl ?_
       refine w_ldI rfl rfl ?_
       refine w_callV rfl rfl rfl rfl rfl rfl rfl (k_span140 (by omega) (by omega) hs) ?_
       refine w_bEq0 rfl (fun b9 => ?_) (fun b9 => ?_)
       · first
         | (exfalso; omega)
         | (refine w_retV rfl ?_
            first
            | rfl
            | (exfalso; omega))
       · first
         | (exfalso; omega)
         | (refine w_ldR rfl rfl rfl ?_
            first | refine w_getI rfl rfl rfl rfl rfl ?_ | refine w_getR rfl rfl rfl rfl rfl ?_
            refine w_ldI rfl rfl ?_
            refine w_ldR rfl rfl rfl ?_
            first | refine w_getI rfl rfl rfl rfl rfl ?_ | refine w_getR rfl rfl rfl rfl rfl ?_
            refine w_ldI rfl rfl ?_
            refine w_ldI rfl rfl ?_
            refine w_cpy rfl rfl rfl rfl rfl (by omega) (by omega) (by omega) (by omega) (by omega) rfl rfl rfl ?_
            refine w_retV rfl ?_
            first
            | rfl
            | (exfalso; omega)))
theorem x_move_y1_0 {d : Nat} {s : mSt} (hI : IvD s) {i j n : Int} (hri : -2147483648 ≤ i ∧ i < 2147483648) (hrj : -2147483648 ≤ j ∧ j < 2147483648) (hrn : -2147483648 ≤ n ∧ n < 2147483648) (hS : IvS s) (hb : ¬ s 160 1 = 0 ∧ ¬ s 160 0 = 0 ∧ s 160 1 = s 160 0) (h : 0 ≤ n ∧ 0 ≤ i ∧ 0 ≤ j ∧ n ≤ s 161 1 - i ∧ n ≤ s 161 0 - j) : CI (d + 2) 132 [.inr (.inr 10), .inl 1, .inl i, .inl 0, .inl j, .inl n] (s) (fun q s1 => q = n ∧ s1 = ua s 139 (mcpy (s 141) (s 139) i.toNat j.toNat n.toNat)) := by
  refine CI.mk rfl ?_
  show WP (d + 2) 132 0 [some (.inr (.inr 10)), some (.inl 1), some (.inl i), some (.inl 0), some (.inl j), some (.inl n)] [] (encA (s)) _
  have hI0 := hI
  obtain ⟨⟨hM, hC, hN⟩, hV, h8⟩ := hI
  have hV0 := hV
  have hM0 := hM
  obtain ⟨vc, vpl, vga, vse, vne, veg, vre, vtu, vta, vwa, v36, v37, v39, v40, v42, v41, v43, v44, vl0, vl1, vlm⟩ := hV
  obtain ⟨hM39, hM40, hM41, hM43, hM44, hM36, hM37, hM38, hMc, hMw, hMp, hMt, hMb⟩ := hM
  have hS9 := hS
  obtain ⟨hS0, hS1, hS2, hS3⟩ := hS
  have hA := hS1
  have hB := hS0
  obtain ⟨a1, a2, a3, a4, -⟩ := hA
  obtain ⟨b1, b2, b3, b4, -⟩ := hB
  refine w_ldI rfl rfl ?_
  refine w_call rfl rfl rfl (k_isSheet (by omega)) ?_
  refine w_bEq0 rfl (fun b2 => ?_) (fun b2 => ?_)
  · first
    | (exfalso; omega)
    | (exfalso; omega)
  · first
    | (exfalso; omega)
    | (refine w_ldI rfl rfl ?_
       refine w_call rfl rfl rfl (k_isSheet (by omega)) ?_
       refine w_bNe0 rfl (fun b5 => ?_) (fun b5 => ?_)
       · first
         | (exfalso; omega)
         | (refine w_ldR rfl rfl rfl ?_
            refine w_ldI rfl rfl ?_
            refine w_callV rfl rfl rfl rfl rfl rfl rfl (k_isMissing (by omega) (by show -2147483648 ≤ s 131 1 ∧ s 131 1 < 2147483648; omega)) ?_
            rw [show s 131 ((1 : Int)).toNat = s 160 1 from a1]
            refine w_bNe0 rfl (fun b13 => ?_) (fun b13 => ?_)
            · first
              | (exfalso; omega)
              | (exfalso; omega)
            · first
              | (exfalso; omega)
              | (refine w_ldR rfl rfl rfl ?_
                 refine w_ldI rfl rfl ?_
                 refine w_callV rfl rfl rfl rfl rfl rfl rfl (k_isMissing (by omega) (by show -2147483648 ≤ s 131 0 ∧ s 131 0 < 2147483648; omega)) ?_
                 rw [show s 131 ((0 : Int)).toNat = s 160 0 from b1]
                 refine w_bEq0 rfl (fun b17 => ?_) (fun b17 => ?_)
                 · first
                   | (exfalso; omega)
                   | (refine w_ldR rfl rfl rfl ?_
                      first | refine w_getI rfl rfl rfl rfl rfl ?_ | refine w_getR rfl rfl rfl rfl rfl ?_
                      refine w_ldI rfl rfl ?_
                      refine w_ald rfl rfl rfl (by omega) rfl ?_
                      rw [show s 131 ((1 : Int)).toNat = s 160 1 from a1]
                      refine w_ldR rfl rfl rfl ?_
                      first | refine w_getI rfl rfl rfl rfl rfl ?_ | refine w_getR rfl rfl rfl rfl rfl ?_
                      refine w_ldI rfl rfl ?_
                      refine w_ald rfl rfl rfl (by omega) rfl ?_
                      rw [show s 131 ((0 : Int)).toNat = s 160 0 from b1]
                      refine w_crEq rfl (by omega) (by omega) (fun b30 => ?_) (fun b30 => ?_)
                      · first
                        | (exfalso; omega)
                        | (refine w_ldR rfl rfl rfl ?_
                           first | refine w_getI rfl rfl rfl rfl rfl ?_ | refine w_getR rfl rfl rfl rfl rfl ?_
                           refine w_ldI rfl rfl ?_
                           refine w_rld rfl rfl rfl (by omega) rfl ?_
                           show WP _ _ _ _ (.inr (.inr 140) :: _) _ _
                           refine w_ldI rfl rfl ?_
                           refine w_ldI rfl rfl ?_
                           refine w_callV rfl rfl rfl rfl rfl rfl rfl (k_span140 (by omega) (by omega) (by omega)) ?_
                           refine w_bEq0 rfl (fun b42 => ?_) (fun b42 => ?_)
                           · first
                             | (exfalso; omega)
                             | (exfalso; omega)
                           · first
                             | (exfalso; omega)
                             | (refine w_ldR rfl rfl rfl ?_
                                first | refine w_getI rfl rfl rfl rfl rfl ?_ | refine w_getR rfl rfl rfl rfl rfl ?_
                                refine w_ldI rfl rfl ?_
                                refine w_rld rfl rfl rfl (by omega) rfl ?_
                                show WP _ _ _ _ (.inr (.inr 138) :: _) _ _
                                refine w_ldI rfl rfl ?_
                                refine w_ldI rfl rfl ?_
                                refine w_callV rfl rfl rfl rfl rfl rfl rfl (k_span138 (by omega) (by omega) (by omega)) ?_
                                refine w_bNe0 rfl (fun b50 => ?_) (fun b50 => ?_)
                                · first
                                  | (exfalso; omega)
                                  | (refine w_ldR rfl rfl rfl ?_
                                     first | refine w_getI rfl rfl rfl rfl rfl ?_ | refine w_getR rfl rfl rfl rfl rfl ?_
                                     refine w_ldI rfl rfl ?_
                                     refine w_rld rfl rfl rfl (by omega) rfl ?_
                                     show WP _ _ _ _ (.inr (.inr 138) :: _) _ _
                                     refine w_ldI rfl rfl ?_
                                     refine w_ldR rfl rfl rfl ?_
                                     first | refine w_getI rfl rfl rfl rfl rfl ?_ | refine w_getR rfl rfl rfl rfl rfl ?_
                                     refine w_ldI rfl rfl ?_
                                     refine w_rld rfl rfl rfl (by omega) rfl ?_
                                     show WP _ _ _ _ (.inr (.inr 140) :: _) _ _
                                     refine w_ldI rfl rfl ?_
                                     refine w_ldI rfl rfl ?_
                                     refine w_callWN rfl rfl rfl rfl rfl rfl rfl (k_take138_140 (by omega) (by omega) (by omega)) (fun s66 p66 => ?_)
                                     refine w_ldI rfl rfl ?_
                                     refine w_retI rfl ?_
                                     exact ⟨rfl, p66⟩)
                                · first
                                  | (exfalso; omega)
                                  | (exfalso; omega)))
                      · first
                        | (exfalso; omega)
                        | (exfalso; omega))
                 · first
                   | (exfalso; omega)
                   | (exfalso; omega)))
       · first
         | (exfalso; omega)
         | (exfalso; omega))
theorem x_move_s1_0 {d : Nat} {s : mSt} (hI : IvD s) {i j n : Int} (hri : -2147483648 ≤ i ∧ i < 2147483648) (hrj : -2147483648 ≤ j ∧ j < 2147483648) (hrn : -2147483648 ≤ n ∧ n < 2147483648) (hS : IvS s) (hb : ¬ s 160 1 = 0 ∧ ¬ s 160 0 = 0 ∧ s 160 1 = s 160 0) (h : ¬ (0 ≤ n ∧ 0 ≤ i ∧ 0 ≤ j ∧ n ≤ s 161 1 - i ∧ n ≤ s 161 0 - j)) : CI (d + 2) 132 [.inr (.inr 10), .inl 1, .inl i, .inl 0, .inl j, .inl n] (s) (fun r s1 => r = -1000000000 - 1 ∧ s1 = us s 132 1 (s 132 1 + 1)) := by
  refine CI.mk rfl ?_
  show WP (d + 2) 132 0 [some (.inr (.inr 10)), some (.inl 1), some (.inl i), some (.inl 0), some (.inl j), some (.inl n)] [] (encA (s)) _
  have hI0 := hI
  obtain ⟨⟨hM, hC, hN⟩, hV, h8⟩ := hI
  have hV0 := hV
  have hM0 := hM
  obtain ⟨vc, vpl, vga, vse, vne, veg, vre, vtu, vta, vwa, v36, v37, v39, v40, v42, v41, v43, v44, vl0, vl1, vlm⟩ := hV
  obtain ⟨hM39, hM40, hM41, hM43, hM44, hM36, hM37, hM38, hMc, hMw, hMp, hMt, hMb⟩ := hM
  have hS9 := hS
  obtain ⟨hS0, hS1, hS2, hS3⟩ := hS
  have hA := hS1
  have hB := hS0
  obtain ⟨a1, a2, a3, a4, -⟩ := hA
  obtain ⟨b1, b2, b3, b4, -⟩ := hB
  refine w_ldI rfl rfl ?_
  refine w_call rfl rfl rfl (k_isSheet (by omega)) ?_
  refine w_bEq0 rfl (fun b2 => ?_) (fun b2 => ?_)
  · first
    | (exfalso; omega)
    | (exfalso; omega)
  · first
    | (exfalso; omega)
    | (refine w_ldI rfl rfl ?_
       refine w_call rfl rfl rfl (k_isSheet (by omega)) ?_
       refine w_bNe0 rfl (fun b5 => ?_) (fun b5 => ?_)
       · first
         | (exfalso; omega)
         | (refine w_ldR rfl rfl rfl ?_
            refine w_ldI rfl rfl ?_
            refine w_callV rfl rfl rfl rfl rfl rfl rfl (k_isMissing (by omega) (by show -2147483648 ≤ s 131 1 ∧ s 131 1 < 2147483648; omega)) ?_
            rw [show s 131 ((1 : Int)).toNat = s 160 1 from a1]
            refine w_bNe0 rfl (fun b13 => ?_) (fun b13 => ?_)
            · first
              | (exfalso; omega)
              | (exfalso; omega)
            · first
              | (exfalso; omega)
              | (refine w_ldR rfl rfl rfl ?_
                 refine w_ldI rfl rfl ?_
                 refine w_callV rfl rfl rfl rfl rfl rfl rfl (k_isMissing (by omega) (by show -2147483648 ≤ s 131 0 ∧ s 131 0 < 2147483648; omega)) ?_
                 rw [show s 131 ((0 : Int)).toNat = s 160 0 from b1]
                 refine w_bEq0 rfl (fun b17 => ?_) (fun b17 => ?_)
                 · first
                   | (exfalso; omega)
                   | (refine w_ldR rfl rfl rfl ?_
                      first | refine w_getI rfl rfl rfl rfl rfl ?_ | refine w_getR rfl rfl rfl rfl rfl ?_
                      refine w_ldI rfl rfl ?_
                      refine w_ald rfl rfl rfl (by omega) rfl ?_
                      rw [show s 131 ((1 : Int)).toNat = s 160 1 from a1]
                      refine w_ldR rfl rfl rfl ?_
                      first | refine w_getI rfl rfl rfl rfl rfl ?_ | refine w_getR rfl rfl rfl rfl rfl ?_
                      refine w_ldI rfl rfl ?_
                      refine w_ald rfl rfl rfl (by omega) rfl ?_
                      rw [show s 131 ((0 : Int)).toNat = s 160 0 from b1]
                      refine w_crEq rfl (by omega) (by omega) (fun b30 => ?_) (fun b30 => ?_)
                      · first
                        | (exfalso; omega)
                        | (refine w_ldR rfl rfl rfl ?_
                           first | refine w_getI rfl rfl rfl rfl rfl ?_ | refine w_getR rfl rfl rfl rfl rfl ?_
                           refine w_ldI rfl rfl ?_
                           refine w_rld rfl rfl rfl (by omega) rfl ?_
                           show WP _ _ _ _ (.inr (.inr 140) :: _) _ _
                           refine w_ldI rfl rfl ?_
                           refine w_ldI rfl rfl ?_
                           refine w_callV rfl rfl rfl rfl rfl rfl rfl (k_span140 (by omega) (by omega) (by omega)) ?_
                           refine w_bEq0 rfl (fun b42 => ?_) (fun b42 => ?_)
                           · first
                             | (exfalso; omega)
                             | (refine w_ldR rfl rfl rfl ?_
                                refine w_push rfl ?_
                                refine w_callWI rfl rfl rfl rfl rfl rfl rfl k_error1 (fun v53 s53 p53 => ?_)
                                obtain ⟨rfl, rfl⟩ := p53
                                refine w_retI rfl ?_
                                exact ⟨rfl, rfl⟩)
                           · first
                             | (exfalso; omega)
                             | (refine w_ldR rfl rfl rfl ?_
                                first | refine w_getI rfl rfl rfl rfl rfl ?_ | refine w_getR rfl rfl rfl rfl rfl ?_
                                refine w_ldI rfl rfl ?_
                                refine w_rld rfl rfl rfl (by omega) rfl ?_
                                show WP _ _ _ _ (.inr (.inr 138) :: _) _ _
                                refine w_ldI rfl rfl ?_
                                refine w_ldI rfl rfl ?_
                                refine w_callV rfl rfl rfl rfl rfl rfl rfl (k_span138 (by omega) (by omega) (by omega)) ?_
                                refine w_bNe0 rfl (fun b50 => ?_) (fun b50 => ?_)
                                · first
                                  | (exfalso; omega)
                                  | (exfalso; omega)
                                · first
                                  | (exfalso; omega)
                                  | (refine w_ldR rfl rfl rfl ?_
                                     refine w_push rfl ?_
                                     refine w_callWI rfl rfl rfl rfl rfl rfl rfl k_error1 (fun v53 s53 p53 => ?_)
                                     obtain ⟨rfl, rfl⟩ := p53
                                     refine w_retI rfl ?_
                                     exact ⟨rfl, rfl⟩)))
                      · first
                        | (exfalso; omega)
                        | (exfalso; omega))
                 · first
                   | (exfalso; omega)
                   | (exfalso; omega)))
       · first
         | (exfalso; omega)
         | (exfalso; omega))
theorem k_take140_140 {d : Nat} {s : mSt} {i j n : Int} (hs : 0 ≤ s 140 1 ∧ s 140 1 ≤ 40) (hs2 : 0 ≤ s 140 1 ∧ s 140 1 ≤ 40) (h : 0 ≤ n ∧ 0 ≤ i ∧ 0 ≤ j ∧ n ≤ s 140 1 - i ∧ n ≤ s 140 1 - j) : CV (d + 1) 71 [.inr (.inr 140), .inl j, .inr (.inr 140), .inl i, .inl n] (s) (fun s1 => s1 = ua s 141 (mcpy (s 141) (s 141) i.toNat j.toNat n.toNat)) := by
  refine CV.mk rfl ?_
  show WP (d + 1) 71 0 [some (.inr (.inr 140)), some (.inl j), some (.inr (.inr 140)), some (.inl i), some (.inl n)] [] (encA (s)) _
  refine w_ldR rfl rfl rfl ?_
  refine w_ldI rfl rfl ?_
  refine w_ldI rfl rfl ?_
  refine w_callV rfl rfl rfl rfl rfl rfl rfl (k_span140 (by omega) (by omega) hs2) ?_
  refine w_bEq0 rfl (fun b4 => ?_) (fun b4 => ?_)
  · first
    | (exfalso; omega)
    | (refine w_retV rfl ?_
       first
       | rfl
       | (exfalso; omega))
  · first
    | (exfalso; omega)
    | (refine w_ldR rfl rfl rfl ?_
       refine w_ldI rfl rfl ?_
       refine w_ldI rfl rfl ?_
       refine w_callV rfl rfl rfl rfl rfl rfl rfl (k_span140 (by omega) (by omega) hs) ?_
       refine w_bEq0 rfl (fun b9 => ?_) (fun b9 => ?_)
       · first
         | (exfalso; omega)
         | (refine w_retV rfl ?_
            first
            | rfl
            | (exfalso; omega))
       · first
         | (exfalso; omega)
         | (refine w_ldR rfl rfl rfl ?_
            first | refine w_getI rfl rfl rfl rfl rfl ?_ | refine w_getR rfl rfl rfl rfl rfl ?_
            refine w_ldI rfl rfl ?_
            refine w_ldR rfl rfl rfl ?_
            first | refine w_getI rfl rfl rfl rfl rfl ?_ | refine w_getR rfl rfl rfl rfl rfl ?_
            refine w_ldI rfl rfl ?_
            refine w_ldI rfl rfl ?_
            refine w_cpy rfl rfl rfl rfl rfl (by omega) (by omega) (by omega) (by omega) (by omega) rfl rfl rfl ?_
            refine w_retV rfl ?_
            first
            | rfl
            | (exfalso; omega)))
theorem x_move_y1_1 {d : Nat} {s : mSt} (hI : IvD s) {i j n : Int} (hri : -2147483648 ≤ i ∧ i < 2147483648) (hrj : -2147483648 ≤ j ∧ j < 2147483648) (hrn : -2147483648 ≤ n ∧ n < 2147483648) (hS : IvS s) (hb : ¬ s 160 1 = 0 ∧ ¬ s 160 1 = 0 ∧ s 160 1 = s 160 1) (h : 0 ≤ n ∧ 0 ≤ i ∧ 0 ≤ j ∧ n ≤ s 161 1 - i ∧ n ≤ s 161 1 - j) : CI (d + 2) 132 [.inr (.inr 10), .inl 1, .inl i, .inl 1, .inl j, .inl n] (s) (fun q s1 => q = n ∧ s1 = ua s 141 (mcpy (s 141) (s 141) i.toNat j.toNat n.toNat)) := by
  refine CI.mk rfl ?_
  show WP (d + 2) 132 0 [some (.inr (.inr 10)), some (.inl 1), some (.inl i), some (.inl 1), some (.inl j), some (.inl n)] [] (encA (s)) _
  have hI0 := hI
  obtain ⟨⟨hM, hC, hN⟩, hV, h8⟩ := hI
  have hV0 := hV
  have hM0 := hM
  obtain ⟨vc, vpl, vga, vse, vne, veg, vre, vtu, vta, vwa, v36, v37, v39, v40, v42, v41, v43, v44, vl0, vl1, vlm⟩ := hV
  obtain ⟨hM39, hM40, hM41, hM43, hM44, hM36, hM37, hM38, hMc, hMw, hMp, hMt, hMb⟩ := hM
  have hS9 := hS
  obtain ⟨hS0, hS1, hS2, hS3⟩ := hS
  have hA := hS1
  have hB := hS1
  obtain ⟨a1, a2, a3, a4, -⟩ := hA
  obtain ⟨b1, b2, b3, b4, -⟩ := hB
  refine w_ldI rfl rfl ?_
  refine w_call rfl rfl rfl (k_isSheet (by omega)) ?_
  refine w_bEq0 rfl (fun b2 => ?_) (fun b2 => ?_)
  · first
    | (exfalso; omega)
    | (exfalso; omega)
  · first
    | (exfalso; omega)
    | (refine w_ldI rfl rfl ?_
       refine w_call rfl rfl rfl (k_isSheet (by omega)) ?_
       refine w_bNe0 rfl (fun b5 => ?_) (fun b5 => ?_)
       · first
         | (exfalso; omega)
         | (refine w_ldR rfl rfl rfl ?_
            refine w_ldI rfl rfl ?_
            refine w_callV rfl rfl rfl rfl rfl rfl rfl (k_isMissing (by omega) (by show -2147483648 ≤ s 131 1 ∧ s 131 1 < 2147483648; omega)) ?_
            rw [show s 131 ((1 : Int)).toNat = s 160 1 from a1]
            refine w_bNe0 rfl (fun b13 => ?_) (fun b13 => ?_)
            · first
              | (exfalso; omega)
              | (exfalso; omega)
            · first
              | (exfalso; omega)
              | (refine w_ldR rfl rfl rfl ?_
                 refine w_ldI rfl rfl ?_
                 refine w_callV rfl rfl rfl rfl rfl rfl rfl (k_isMissing (by omega) (by show -2147483648 ≤ s 131 1 ∧ s 131 1 < 2147483648; omega)) ?_
                 rw [show s 131 ((1 : Int)).toNat = s 160 1 from b1]
                 refine w_bEq0 rfl (fun b17 => ?_) (fun b17 => ?_)
                 · first
                   | (exfalso; omega)
                   | (refine w_ldR rfl rfl rfl ?_
                      first | refine w_getI rfl rfl rfl rfl rfl ?_ | refine w_getR rfl rfl rfl rfl rfl ?_
                      refine w_ldI rfl rfl ?_
                      refine w_ald rfl rfl rfl (by omega) rfl ?_
                      rw [show s 131 ((1 : Int)).toNat = s 160 1 from a1]
                      refine w_ldR rfl rfl rfl ?_
                      first | refine w_getI rfl rfl rfl rfl rfl ?_ | refine w_getR rfl rfl rfl rfl rfl ?_
                      refine w_ldI rfl rfl ?_
                      refine w_ald rfl rfl rfl (by omega) rfl ?_
                      rw [show s 131 ((1 : Int)).toNat = s 160 1 from b1]
                      refine w_crEq rfl (by omega) (by omega) (fun b30 => ?_) (fun b30 => ?_)
                      · first
                        | (exfalso; omega)
                        | (refine w_ldR rfl rfl rfl ?_
                           first | refine w_getI rfl rfl rfl rfl rfl ?_ | refine w_getR rfl rfl rfl rfl rfl ?_
                           refine w_ldI rfl rfl ?_
                           refine w_rld rfl rfl rfl (by omega) rfl ?_
                           show WP _ _ _ _ (.inr (.inr 140) :: _) _ _
                           refine w_ldI rfl rfl ?_
                           refine w_ldI rfl rfl ?_
                           refine w_callV rfl rfl rfl rfl rfl rfl rfl (k_span140 (by omega) (by omega) (by omega)) ?_
                           refine w_bEq0 rfl (fun b42 => ?_) (fun b42 => ?_)
                           · first
                             | (exfalso; omega)
                             | (exfalso; omega)
                           · first
                             | (exfalso; omega)
                             | (refine w_ldR rfl rfl rfl ?_
                                first | refine w_getI rfl rfl rfl rfl rfl ?_ | refine w_getR rfl rfl rfl rfl rfl ?_
                                refine w_ldI rfl rfl ?_
                                refine w_rld rfl rfl rfl (by omega) rfl ?_
                                show WP _ _ _ _ (.inr (.inr 140) :: _) _ _
                                refine w_ldI rfl rfl ?_
                                refine w_ldI rfl rfl ?_
                                refine w_callV rfl rfl rfl rfl rfl rfl rfl (k_span140 (by omega) (by omega) (by omega)) ?_
                                refine w_bNe0 rfl (fun b50 => ?_) (fun b50 => ?_)
                                · first
                                  | (exfalso; omega)
                                  | (refine w_ldR rfl rfl rfl ?_
                                     first | refine w_getI rfl rfl rfl rfl rfl ?_ | refine w_getR rfl rfl rfl rfl rfl ?_
                                     refine w_ldI rfl rfl ?_
                                     refine w_rld rfl rfl rfl (by omega) rfl ?_
                                     show WP _ _ _ _ (.inr (.inr 140) :: _) _ _
                                     refine w_ldI rfl rfl ?_
                                     refine w_ldR rfl rfl rfl ?_
                                     first | refine w_getI rfl rfl rfl rfl rfl ?_ | refine w_getR rfl rfl rfl rfl rfl ?_
                                     refine w_ldI rfl rfl ?_
                                     refine w_rld rfl rfl rfl (by omega) rfl ?_
                                     show WP _ _ _ _ (.inr (.inr 140) :: _) _ _
                                     refine w_ldI rfl rfl ?_
                                     refine w_ldI rfl rfl ?_
                                     refine w_callWN rfl rfl rfl rfl rfl rfl rfl (k_take140_140 (by omega) (by omega) (by omega)) (fun s66 p66 => ?_)
                                     refine w_ldI rfl rfl ?_
                                     refine w_retI rfl ?_
                                     exact ⟨rfl, p66⟩)
                                · first
                                  | (exfalso; omega)
                                  | (exfalso; omega)))
                      · first
                        | (exfalso; omega)
                        | (exfalso; omega))
                 · first
                   | (exfalso; omega)
                   | (exfalso; omega)))
       · first
         | (exfalso; omega)
         | (exfalso; omega))
theorem x_move_s1_1 {d : Nat} {s : mSt} (hI : IvD s) {i j n : Int} (hri : -2147483648 ≤ i ∧ i < 2147483648) (hrj : -2147483648 ≤ j ∧ j < 2147483648) (hrn : -2147483648 ≤ n ∧ n < 2147483648) (hS : IvS s) (hb : ¬ s 160 1 = 0 ∧ ¬ s 160 1 = 0 ∧ s 160 1 = s 160 1) (h : ¬ (0 ≤ n ∧ 0 ≤ i ∧ 0 ≤ j ∧ n ≤ s 161 1 - i ∧ n ≤ s 161 1 - j)) : CI (d + 2) 132 [.inr (.inr 10), .inl 1, .inl i, .inl 1, .inl j, .inl n] (s) (fun r s1 => r = -1000000000 - 1 ∧ s1 = us s 132 1 (s 132 1 + 1)) := by
  refine CI.mk rfl ?_
  show WP (d + 2) 132 0 [some (.inr (.inr 10)), some (.inl 1), some (.inl i), some (.inl 1), some (.inl j), some (.inl n)] [] (encA (s)) _
  have hI0 := hI
  obtain ⟨⟨hM, hC, hN⟩, hV, h8⟩ := hI
  have hV0 := hV
  have hM0 := hM
  obtain ⟨vc, vpl, vga, vse, vne, veg, vre, vtu, vta, vwa, v36, v37, v39, v40, v42, v41, v43, v44, vl0, vl1, vlm⟩ := hV
  obtain ⟨hM39, hM40, hM41, hM43, hM44, hM36, hM37, hM38, hMc, hMw, hMp, hMt, hMb⟩ := hM
  have hS9 := hS
  obtain ⟨hS0, hS1, hS2, hS3⟩ := hS
  have hA := hS1
  have hB := hS1
  obtain ⟨a1, a2, a3, a4, -⟩ := hA
  obtain ⟨b1, b2, b3, b4, -⟩ := hB
  refine w_ldI rfl rfl ?_
  refine w_call rfl rfl rfl (k_isSheet (by omega)) ?_
  refine w_bEq0 rfl (fun b2 => ?_) (fun b2 => ?_)
  · first
    | (exfalso; omega)
    | (exfalso; omega)
  · first
    | (exfalso; omega)
    | (refine w_ldI rfl rfl ?_
       refine w_call rfl rfl rfl (k_isSheet (by omega)) ?_
       refine w_bNe0 rfl (fun b5 => ?_) (fun b5 => ?_)
       · first
         | (exfalso; omega)
         | (refine w_ldR rfl rfl rfl ?_
            refine w_ldI rfl rfl ?_
            refine w_callV rfl rfl rfl rfl rfl rfl rfl (k_isMissing (by omega) (by show -2147483648 ≤ s 131 1 ∧ s 131 1 < 2147483648; omega)) ?_
            rw [show s 131 ((1 : Int)).toNat = s 160 1 from a1]
            refine w_bNe0 rfl (fun b13 => ?_) (fun b13 => ?_)
            · first
              | (exfalso; omega)
              | (exfalso; omega)
            · first
              | (exfalso; omega)
              | (refine w_ldR rfl rfl rfl ?_
                 refine w_ldI rfl rfl ?_
                 refine w_callV rfl rfl rfl rfl rfl rfl rfl (k_isMissing (by omega) (by show -2147483648 ≤ s 131 1 ∧ s 131 1 < 2147483648; omega)) ?_
                 rw [show s 131 ((1 : Int)).toNat = s 160 1 from b1]
                 refine w_bEq0 rfl (fun b17 => ?_) (fun b17 => ?_)
                 · first
                   | (exfalso; omega)
                   | (refine w_ldR rfl rfl rfl ?_
                      first | refine w_getI rfl rfl rfl rfl rfl ?_ | refine w_getR rfl rfl rfl rfl rfl ?_
                      refine w_ldI rfl rfl ?_
                      refine w_ald rfl rfl rfl (by omega) rfl ?_
                      rw [show s 131 ((1 : Int)).toNat = s 160 1 from a1]
                      refine w_ldR rfl rfl rfl ?_
                      first | refine w_getI rfl rfl rfl rfl rfl ?_ | refine w_getR rfl rfl rfl rfl rfl ?_
                      refine w_ldI rfl rfl ?_
                      refine w_ald rfl rfl rfl (by omega) rfl ?_
                      rw [show s 131 ((1 : Int)).toNat = s 160 1 from b1]
                      refine w_crEq rfl (by omega) (by omega) (fun b30 => ?_) (fun b30 => ?_)
                      · first
                        | (exfalso; omega)
                        | (refine w_ldR rfl rfl rfl ?_
                           first | refine w_getI rfl rfl rfl rfl rfl ?_ | refine w_getR rfl rfl rfl rfl rfl ?_
                           refine w_ldI rfl rfl ?_
                           refine w_rld rfl rfl rfl (by omega) rfl ?_
                           show WP _ _ _ _ (.inr (.inr 140) :: _) _ _
                           refine w_ldI rfl rfl ?_
                           refine w_ldI rfl rfl ?_
                           refine w_callV rfl rfl rfl rfl rfl rfl rfl (k_span140 (by omega) (by omega) (by omega)) ?_
                           refine w_bEq0 rfl (fun b42 => ?_) (fun b42 => ?_)
                           · first
                             | (exfalso; omega)
                             | (refine w_ldR rfl rfl rfl ?_
                                refine w_push rfl ?_
                                refine w_callWI rfl rfl rfl rfl rfl rfl rfl k_error1 (fun v53 s53 p53 => ?_)
                                obtain ⟨rfl, rfl⟩ := p53
                                refine w_retI rfl ?_
                                exact ⟨rfl, rfl⟩)
                           · first
                             | (exfalso; omega)
                             | (refine w_ldR rfl rfl rfl ?_
                                first | refine w_getI rfl rfl rfl rfl rfl ?_ | refine w_getR rfl rfl rfl rfl rfl ?_
                                refine w_ldI rfl rfl ?_
                                refine w_rld rfl rfl rfl (by omega) rfl ?_
                                show WP _ _ _ _ (.inr (.inr 140) :: _) _ _
                                refine w_ldI rfl rfl ?_
                                refine w_ldI rfl rfl ?_
                                refine w_callV rfl rfl rfl rfl rfl rfl rfl (k_span140 (by omega) (by omega) (by omega)) ?_
                                refine w_bNe0 rfl (fun b50 => ?_) (fun b50 => ?_)
                                · first
                                  | (exfalso; omega)
                                  | (exfalso; omega)
                                · first
                                  | (exfalso; omega)
                                  | (refine w_ldR rfl rfl rfl ?_
                                     refine w_push rfl ?_
                                     refine w_callWI rfl rfl rfl rfl rfl rfl rfl k_error1 (fun v53 s53 p53 => ?_)
                                     obtain ⟨rfl, rfl⟩ := p53
                                     refine w_retI rfl ?_
                                     exact ⟨rfl, rfl⟩)))
                      · first
                        | (exfalso; omega)
                        | (exfalso; omega))
                 · first
                   | (exfalso; omega)
                   | (exfalso; omega)))
       · first
         | (exfalso; omega)
         | (exfalso; omega))
theorem k_take142_140 {d : Nat} {s : mSt} {i j n : Int} (hs : 0 ≤ s 140 1 ∧ s 140 1 ≤ 40) (hs2 : 0 ≤ s 142 1 ∧ s 142 1 ≤ 40) (h : 0 ≤ n ∧ 0 ≤ i ∧ 0 ≤ j ∧ n ≤ s 140 1 - i ∧ n ≤ s 142 1 - j) : CV (d + 1) 71 [.inr (.inr 142), .inl j, .inr (.inr 140), .inl i, .inl n] (s) (fun s1 => s1 = ua s 143 (mcpy (s 141) (s 143) i.toNat j.toNat n.toNat)) := by
  refine CV.mk rfl ?_
  show WP (d + 1) 71 0 [some (.inr (.inr 142)), some (.inl j), some (.inr (.inr 140)), some (.inl i), some (.inl n)] [] (encA (s)) _
  refine w_ldR rfl rfl rfl ?_
  refine w_ldI rfl rfl ?_
  refine w_ldI rfl rfl ?_
  refine w_callV rfl rfl rfl rfl rfl rfl rfl (k_span142 (by omega) (by omega) hs2) ?_
  refine w_bEq0 rfl (fun b4 => ?_) (fun b4 => ?_)
  · first
    | (exfalso; omega)
    | (refine w_retV rfl ?_
       first
       | rfl
       | (exfalso; omega))
  · first
    | (exfalso; omega)
    | (refine w_ldR rfl rfl rfl ?_
       refine w_ldI rfl rfl ?_
       refine w_ldI rfl rfl ?_
       refine w_callV rfl rfl rfl rfl rfl rfl rfl (k_span140 (by omega) (by omega) hs) ?_
       refine w_bEq0 rfl (fun b9 => ?_) (fun b9 => ?_)
       · first
         | (exfalso; omega)
         | (refine w_retV rfl ?_
            first
            | rfl
            | (exfalso; omega))
       · first
         | (exfalso; omega)
         | (refine w_ldR rfl rfl rfl ?_
            first | refine w_getI rfl rfl rfl rfl rfl ?_ | refine w_getR rfl rfl rfl rfl rfl ?_
            refine w_ldI rfl rfl ?_
            refine w_ldR rfl rfl rfl ?_
            first | refine w_getI rfl rfl rfl rfl rfl ?_ | refine w_getR rfl rfl rfl rfl rfl ?_
            refine w_ldI rfl rfl ?_
            refine w_ldI rfl rfl ?_
            refine w_cpy rfl rfl rfl rfl rfl (by omega) (by omega) (by omega) (by omega) (by omega) rfl rfl rfl ?_
            refine w_retV rfl ?_
            first
            | rfl
            | (exfalso; omega)))
theorem x_move_y1_2 {d : Nat} {s : mSt} (hI : IvD s) {i j n : Int} (hri : -2147483648 ≤ i ∧ i < 2147483648) (hrj : -2147483648 ≤ j ∧ j < 2147483648) (hrn : -2147483648 ≤ n ∧ n < 2147483648) (hS : IvS s) (hb : ¬ s 160 1 = 0 ∧ ¬ s 160 2 = 0 ∧ s 160 1 = s 160 2) (h : 0 ≤ n ∧ 0 ≤ i ∧ 0 ≤ j ∧ n ≤ s 161 1 - i ∧ n ≤ s 161 2 - j) : CI (d + 2) 132 [.inr (.inr 10), .inl 1, .inl i, .inl 2, .inl j, .inl n] (s) (fun q s1 => q = n ∧ s1 = ua s 143 (mcpy (s 141) (s 143) i.toNat j.toNat n.toNat)) := by
  refine CI.mk rfl ?_
  show WP (d + 2) 132 0 [some (.inr (.inr 10)), some (.inl 1), some (.inl i), some (.inl 2), some (.inl j), some (.inl n)] [] (encA (s)) _
  have hI0 := hI
  obtain ⟨⟨hM, hC, hN⟩, hV, h8⟩ := hI
  have hV0 := hV
  have hM0 := hM
  obtain ⟨vc, vpl, vga, vse, vne, veg, vre, vtu, vta, vwa, v36, v37, v39, v40, v42, v41, v43, v44, vl0, vl1, vlm⟩ := hV
  obtain ⟨hM39, hM40, hM41, hM43, hM44, hM36, hM37, hM38, hMc, hMw, hMp, hMt, hMb⟩ := hM
  have hS9 := hS
  obtain ⟨hS0, hS1, hS2, hS3⟩ := hS
  have hA := hS1
  have hB := hS2
  obtain ⟨a1, a2, a3, a4, -⟩ := hA
  obtain ⟨b1, b2, b3, b4, -⟩ := hB
  refine w_ldI rfl rfl ?_
  refine w_call rfl rfl rfl (k_isSheet (by omega)) ?_
  refine w_bEq0 rfl (fun b2 => ?_) (fun b2 => ?_)
  · first
    | (exfalso; omega)
    | (exfalso; omega)
  · first
    | (exfalso; omega)
    | (refine w_ldI rfl rfl ?_
       refine w_call rfl rfl rfl (k_isSheet (by omega)) ?_
       refine w_bNe0 rfl (fun b5 => ?_) (fun b5 => ?_)
       · first
         | (exfalso; omega)
         | (refine w_ldR rfl rfl rfl ?_
            refine w_ldI rfl rfl ?_
            refine w_callV rfl rfl rfl rfl rfl rfl rfl (k_isMissing (by omega) (by show -2147483648 ≤ s 131 1 ∧ s 131 1 < 2147483648; omega)) ?_
            rw [show s 131 ((1 : Int)).toNat = s 160 1 from a1]
            refine w_bNe0 rfl (fun b13 => ?_) (fun b13 => ?_)
            · first
              | (exfalso; omega)
              | (exfalso; omega)
            · first
              | (exfalso; omega)
              | (refine w_ldR rfl rfl rfl ?_
                 refine w_ldI rfl rfl ?_
                 refine w_callV rfl rfl rfl rfl rfl rfl rfl (k_isMissing (by omega) (by show -2147483648 ≤ s 131 2 ∧ s 131 2 < 2147483648; omega)) ?_
                 rw [show s 131 ((2 : Int)).toNat = s 160 2 from b1]
                 refine w_bEq0 rfl (fun b17 => ?_) (fun b17 => ?_)
                 · first
                   | (exfalso; omega)
                   | (refine w_ldR rfl rfl rfl ?_
                      first | refine w_getI rfl rfl rfl rfl rfl ?_ | refine w_getR rfl rfl rfl rfl rfl ?_
                      refine w_ldI rfl rfl ?_
                      refine w_ald rfl rfl rfl (by omega) rfl ?_
                      rw [show s 131 ((1 : Int)).toNat = s 160 1 from a1]
                      refine w_ldR rfl rfl rfl ?_
                      first | refine w_getI rfl rfl rfl rfl rfl ?_ | refine w_getR rfl rfl rfl rfl rfl ?_
                      refine w_ldI rfl rfl ?_
                      refine w_ald rfl rfl rfl (by omega) rfl ?_
                      rw [show s 131 ((2 : Int)).toNat = s 160 2 from b1]
                      refine w_crEq rfl (by omega) (by omega) (fun b30 => ?_) (fun b30 => ?_)
                      · first
                        | (exfalso; omega)
                        | (refine w_ldR rfl rfl rfl ?_
                           first | refine w_getI rfl rfl rfl rfl rfl ?_ | refine w_getR rfl rfl rfl rfl rfl ?_
                           refine w_ldI rfl rfl ?_
                           refine w_rld rfl rfl rfl (by omega) rfl ?_
                           show WP _ _ _ _ (.inr (.inr 140) :: _) _ _
                           refine w_ldI rfl rfl ?_
                           refine w_ldI rfl rfl ?_
                           refine w_callV rfl rfl rfl rfl rfl rfl rfl (k_span140 (by omega) (by omega) (by omega)) ?_
                           refine w_bEq0 rfl (fun b42 => ?_) (fun b42 => ?_)
                           · first
                             | (exfalso; omega)
                             | (exfalso; omega)
                           · first
                             | (exfalso; omega)
                             | (refine w_ldR rfl rfl rfl ?_
                                first | refine w_getI rfl rfl rfl rfl rfl ?_ | refine w_getR rfl rfl rfl rfl rfl ?_
                                refine w_ldI rfl rfl ?_
                                refine w_rld rfl rfl rfl (by omega) rfl ?_
                                show WP _ _ _ _ (.inr (.inr 142) :: _) _ _
                                refine w_ldI rfl rfl ?_
                                refine w_ldI rfl rfl ?_
                                refine w_callV rfl rfl rfl rfl rfl rfl rfl (k_span142 (by omega) (by omega) (by omega)) ?_
                                refine w_bNe0 rfl (fun b50 => ?_) (fun b50 => ?_)
                                · first
                                  | (exfalso; omega)
                                  | (refine w_ldR rfl rfl rfl ?_
                                     first | refine w_getI rfl rfl rfl rfl rfl ?_ | refine w_getR rfl rfl rfl rfl rfl ?_
                                     refine w_ldI rfl rfl ?_
                                     refine w_rld rfl rfl rfl (by omega) rfl ?_
                                     show WP _ _ _ _ (.inr (.inr 142) :: _) _ _
                                     refine w_ldI rfl rfl ?_
                                     refine w_ldR rfl rfl rfl ?_
                                     first | refine w_getI rfl rfl rfl rfl rfl ?_ | refine w_getR rfl rfl rfl rfl rfl ?_
                                     refine w_ldI rfl rfl ?_
                                     refine w_rld rfl rfl rfl (by omega) rfl ?_
                                     show WP _ _ _ _ (.inr (.inr 140) :: _) _ _
                                     refine w_ldI rfl rfl ?_
                                     refine w_ldI rfl rfl ?_
                                     refine w_callWN rfl rfl rfl rfl rfl rfl rfl (k_take142_140 (by omega) (by omega) (by omega)) (fun s66 p66 => ?_)
                                     refine w_ldI rfl rfl ?_
                                     refine w_retI rfl ?_
                                     exact ⟨rfl, p66⟩)
                                · first
                                  | (exfalso; omega)
                                  | (exfalso; omega)))
                      · first
                        | (exfalso; omega)
                        | (exfalso; omega))
                 · first
                   | (exfalso; omega)
                   | (exfalso; omega)))
       · first
         | (exfalso; omega)
         | (exfalso; omega))
theorem x_move_s1_2 {d : Nat} {s : mSt} (hI : IvD s) {i j n : Int} (hri : -2147483648 ≤ i ∧ i < 2147483648) (hrj : -2147483648 ≤ j ∧ j < 2147483648) (hrn : -2147483648 ≤ n ∧ n < 2147483648) (hS : IvS s) (hb : ¬ s 160 1 = 0 ∧ ¬ s 160 2 = 0 ∧ s 160 1 = s 160 2) (h : ¬ (0 ≤ n ∧ 0 ≤ i ∧ 0 ≤ j ∧ n ≤ s 161 1 - i ∧ n ≤ s 161 2 - j)) : CI (d + 2) 132 [.inr (.inr 10), .inl 1, .inl i, .inl 2, .inl j, .inl n] (s) (fun r s1 => r = -1000000000 - 1 ∧ s1 = us s 132 1 (s 132 1 + 1)) := by
  refine CI.mk rfl ?_
  show WP (d + 2) 132 0 [some (.inr (.inr 10)), some (.inl 1), some (.inl i), some (.inl 2), some (.inl j), some (.inl n)] [] (encA (s)) _
  have hI0 := hI
  obtain ⟨⟨hM, hC, hN⟩, hV, h8⟩ := hI
  have hV0 := hV
  have hM0 := hM
  obtain ⟨vc, vpl, vga, vse, vne, veg, vre, vtu, vta, vwa, v36, v37, v39, v40, v42, v41, v43, v44, vl0, vl1, vlm⟩ := hV
  obtain ⟨hM39, hM40, hM41, hM43, hM44, hM36, hM37, hM38, hMc, hMw, hMp, hMt, hMb⟩ := hM
  have hS9 := hS
  obtain ⟨hS0, hS1, hS2, hS3⟩ := hS
  have hA := hS1
  have hB := hS2
  obtain ⟨a1, a2, a3, a4, -⟩ := hA
  obtain ⟨b1, b2, b3, b4, -⟩ := hB
  refine w_ldI rfl rfl ?_
  refine w_call rfl rfl rfl (k_isSheet (by omega)) ?_
  refine w_bEq0 rfl (fun b2 => ?_) (fun b2 => ?_)
  · first
    | (exfalso; omega)
    | (exfalso; omega)
  · first
    | (exfalso; omega)
    | (refine w_ldI rfl rfl ?_
       refine w_call rfl rfl rfl (k_isSheet (by omega)) ?_
       refine w_bNe0 rfl (fun b5 => ?_) (fun b5 => ?_)
       · first
         | (exfalso; omega)
         | (refine w_ldR rfl rfl rfl ?_
            refine w_ldI rfl rfl ?_
            refine w_callV rfl rfl rfl rfl rfl rfl rfl (k_isMissing (by omega) (by show -2147483648 ≤ s 131 1 ∧ s 131 1 < 2147483648; omega)) ?_
            rw [show s 131 ((1 : Int)).toNat = s 160 1 from a1]
            refine w_bNe0 rfl (fun b13 => ?_) (fun b13 => ?_)
            · first
              | (exfalso; omega)
              | (exfalso; omega)
            · first
              | (exfalso; omega)
              | (refine w_ldR rfl rfl rfl ?_
                 refine w_ldI rfl rfl ?_
                 refine w_callV rfl rfl rfl rfl rfl rfl rfl (k_isMissing (by omega) (by show -2147483648 ≤ s 131 2 ∧ s 131 2 < 2147483648; omega)) ?_
                 rw [show s 131 ((2 : Int)).toNat = s 160 2 from b1]
                 refine w_bEq0 rfl (fun b17 => ?_) (fun b17 => ?_)
                 · first
                   | (exfalso; omega)
                   | (refine w_ldR rfl rfl rfl ?_
                      first | refine w_getI rfl rfl rfl rfl rfl ?_ | refine w_getR rfl rfl rfl rfl rfl ?_
                      refine w_ldI rfl rfl ?_
                      refine w_ald rfl rfl rfl (by omega) rfl ?_
                      rw [show s 131 ((1 : Int)).toNat = s 160 1 from a1]
                      refine w_ldR rfl rfl rfl ?_
                      first | refine w_getI rfl rfl rfl rfl rfl ?_ | refine w_getR rfl rfl rfl rfl rfl ?_
                      refine w_ldI rfl rfl ?_
                      refine w_ald rfl rfl rfl (by omega) rfl ?_
                      rw [show s 131 ((2 : Int)).toNat = s 160 2 from b1]
                      refine w_crEq rfl (by omega) (by omega) (fun b30 => ?_) (fun b30 => ?_)
                      · first
                        | (exfalso; omega)
                        | (refine w_ldR rfl rfl rfl ?_
                           first | refine w_getI rfl rfl rfl rfl rfl ?_ | refine w_getR rfl rfl rfl rfl rfl ?_
                           refine w_ldI rfl rfl ?_
                           refine w_rld rfl rfl rfl (by omega) rfl ?_
                           show WP _ _ _ _ (.inr (.inr 140) :: _) _ _
                           refine w_ldI rfl rfl ?_
                           refine w_ldI rfl rfl ?_
                           refine w_callV rfl rfl rfl rfl rfl rfl rfl (k_span140 (by omega) (by omega) (by omega)) ?_
                           refine w_bEq0 rfl (fun b42 => ?_) (fun b42 => ?_)
                           · first
                             | (exfalso; omega)
                             | (refine w_ldR rfl rfl rfl ?_
                                refine w_push rfl ?_
                                refine w_callWI rfl rfl rfl rfl rfl rfl rfl k_error1 (fun v53 s53 p53 => ?_)
                                obtain ⟨rfl, rfl⟩ := p53
                                refine w_retI rfl ?_
                                exact ⟨rfl, rfl⟩)
                           · first
                             | (exfalso; omega)
                             | (refine w_ldR rfl rfl rfl ?_
                                first | refine w_getI rfl rfl rfl rfl rfl ?_ | refine w_getR rfl rfl rfl rfl rfl ?_
                                refine w_ldI rfl rfl ?_
                                refine w_rld rfl rfl rfl (by omega) rfl ?_
                                show WP _ _ _ _ (.inr (.inr 142) :: _) _ _
                                refine w_ldI rfl rfl ?_
                                refine w_ldI rfl rfl ?_
                                refine w_callV rfl rfl rfl rfl rfl rfl rfl (k_span142 (by omega) (by omega) (by omega)) ?_
                                refine w_bNe0 rfl (fun b50 => ?_) (fun b50 => ?_)
                                · first
                                  | (exfalso; omega)
                                  | (exfalso; omega)
                                · first
                                  | (exfalso; omega)
                                  | (refine w_ldR rfl rfl rfl ?_
                                     refine w_push rfl ?_
                                     refine w_callWI rfl rfl rfl rfl rfl rfl rfl k_error1 (fun v53 s53 p53 => ?_)
                                     obtain ⟨rfl, rfl⟩ := p53
                                     refine w_retI rfl ?_
                                     exact ⟨rfl, rfl⟩)))
                      · first
                        | (exfalso; omega)
                        | (exfalso; omega))
                 · first
                   | (exfalso; omega)
                   | (exfalso; omega)))
       · first
         | (exfalso; omega)
         | (exfalso; omega))
theorem k_take144_140 {d : Nat} {s : mSt} {i j n : Int} (hs : 0 ≤ s 140 1 ∧ s 140 1 ≤ 40) (hs2 : 0 ≤ s 144 1 ∧ s 144 1 ≤ 40) (h : 0 ≤ n ∧ 0 ≤ i ∧ 0 ≤ j ∧ n ≤ s 140 1 - i ∧ n ≤ s 144 1 - j) : CV (d + 1) 71 [.inr (.inr 144), .inl j, .inr (.inr 140), .inl i, .inl n] (s) (fun s1 => s1 = ua s 145 (mcpy (s 141) (s 145) i.toNat j.toNat n.toNat)) := by
  refine CV.mk rfl ?_
  show WP (d + 1) 71 0 [some (.inr (.inr 144)), some (.inl j), some (.inr (.inr 140)), some (.inl i), some (.inl n)] [] (encA (s)) _
  refine w_ldR rfl rfl rfl ?_
  refine w_ldI rfl rfl ?_
  refine w_ldI rfl rfl ?_
  refine w_callV rfl rfl rfl rfl rfl rfl rfl (k_span144 (by omega) (by omega) hs2) ?_
  refine w_bEq0 rfl (fun b4 => ?_) (fun b4 => ?_)
  · first
    | (exfalso; omega)
    | (refine w_retV rfl ?_
       first
       | rfl
       | (exfalso; omega))
  · first
    | (exfalso; omega)
    | (refine w_ldR rfl rfl rfl ?_
       refine w_ldI rfl rfl ?_
       refine w_ldI rfl rfl ?_
       refine w_callV rfl rfl rfl rfl rfl rfl rfl (k_span140 (by omega) (by omega) hs) ?_
       refine w_bEq0 rfl (fun b9 => ?_) (fun b9 => ?_)
       · first
         | (exfalso; omega)
         | (refine w_retV rfl ?_
            first
            | rfl
            | (exfalso; omega))
       · first
         | (exfalso; omega)
         | (refine w_ldR rfl rfl rfl ?_
            first | refine w_getI rfl rfl rfl rfl rfl ?_ | refine w_getR rfl rfl rfl rfl rfl ?_
            refine w_ldI rfl rfl ?_
            refine w_ldR rfl rfl rfl ?_
            first | refine w_getI rfl rfl rfl rfl rfl ?_ | refine w_getR rfl rfl rfl rfl rfl ?_
            refine w_ldI rfl rfl ?_
            refine w_ldI rfl rfl ?_
            refine w_cpy rfl rfl rfl rfl rfl (by omega) (by omega) (by omega) (by omega) (by omega) rfl rfl rfl ?_
            refine w_retV rfl ?_
            first
            | rfl
            | (exfalso; omega)))
theorem x_move_y1_3 {d : Nat} {s : mSt} (hI : IvD s) {i j n : Int} (hri : -2147483648 ≤ i ∧ i < 2147483648) (hrj : -2147483648 ≤ j ∧ j < 2147483648) (hrn : -2147483648 ≤ n ∧ n < 2147483648) (hS : IvS s) (hb : ¬ s 160 1 = 0 ∧ ¬ s 160 3 = 0 ∧ s 160 1 = s 160 3) (h : 0 ≤ n ∧ 0 ≤ i ∧ 0 ≤ j ∧ n ≤ s 161 1 - i ∧ n ≤ s 161 3 - j) : CI (d + 2) 132 [.inr (.inr 10), .inl 1, .inl i, .inl 3, .inl j, .inl n] (s) (fun q s1 => q = n ∧ s1 = ua s 145 (mcpy (s 141) (s 145) i.toNat j.toNat n.toNat)) := by
  refine CI.mk rfl ?_
  show WP (d + 2) 132 0 [some (.inr (.inr 10)), some (.inl 1), some (.inl i), some (.inl 3), some (.inl j), some (.inl n)] [] (encA (s)) _
  have hI0 := hI
  obtain ⟨⟨hM, hC, hN⟩, hV, h8⟩ := hI
  have hV0 := hV
  have hM0 := hM
  obtain ⟨vc, vpl, vga, vse, vne, veg, vre, vtu, vta, vwa, v36, v37, v39, v40, v42, v41, v43, v44, vl0, vl1, vlm⟩ := hV
  obtain ⟨hM39, hM40, hM41, hM43, hM44, hM36, hM37, hM38, hMc, hMw, hMp, hMt, hMb⟩ := hM
  have hS9 := hS
  obtain ⟨hS0, hS1, hS2, hS3⟩ := hS
  have hA := hS1
  have hB := hS3
  obtain ⟨a1, a2, a3, a4, -⟩ := hA
  obtain ⟨b1, b2, b3, b4, -⟩ := hB
  refine w_ldI rfl rfl ?_
  refine w_call rfl rfl rfl (k_isSheet (by omega)) ?_
  refine w_bEq0 rfl (fun b2 => ?_) (fun b2 => ?_)
  · first
    | (exfalso; omega)
    | (exfalso; omega)
  · first
    | (exfalso; omega)
    | (refine w_ldI rfl rfl ?_
       refine w_call rfl rfl rfl (k_isSheet (by omega)) ?_
       refine w_bNe0 rfl (fun b5 => ?_) (fun b5 => ?_)
       · first
         | (exfalso; omega)
         | (refine w_ldR rfl rfl rfl ?_
            refine w_ldI rfl rfl ?_
            refine w_callV rfl rfl rfl rfl rfl rfl rfl (k_isMissing (by omega) (by show -2147483648 ≤ s 131 1 ∧ s 131 1 < 2147483648; omega)) ?_
            rw [show s 131 ((1 : Int)).toNat = s 160 1 from a1]
            refine w_bNe0 rfl (fun b13 => ?_) (fun b13 => ?_)
            · first
              | (exfalso; omega)
              | (exfalso; omega)
            · first
              | (exfalso; omega)
              | (refine w_ldR rfl rfl rfl ?_
                 refine w_ldI rfl rfl ?_
                 refine w_callV rfl rfl rfl rfl rfl rfl rfl (k_isMissing (by omega) (by show -2147483648 ≤ s 131 3 ∧ s 131 3 < 2147483648; omega)) ?_
                 rw [show s 131 ((3 : Int)).toNat = s 160 3 from b1]
                 refine w_bEq0 rfl (fun b17 => ?_) (fun b17 => ?_)
                 · first
                   | (exfalso; omega)
                   | (refine w_ldR rfl rfl rfl ?_
                      first | refine w_getI rfl rfl rfl rfl rfl ?_ | refine w_getR rfl rfl rfl rfl rfl ?_
                      refine w_ldI rfl rfl ?_
                      refine w_ald rfl rfl rfl (by omega) rfl ?_
                      rw [show s 131 ((1 : Int)).toNat = s 160 1 from a1]
                      refine w_ldR rfl rfl rfl ?_
                      first | refine w_getI rfl rfl rfl rfl rfl ?_ | refine w_getR rfl rfl rfl rfl rfl ?_
                      refine w_ldI rfl rfl ?_
                      refine w_ald rfl rfl rfl (by omega) rfl ?_
                      rw [show s 131 ((3 : Int)).toNat = s 160 3 from b1]
                      refine w_crEq rfl (by omega) (by omega) (fun b30 => ?_) (fun b30 => ?_)
                      · first
                        | (exfalso; omega)
                        | (refine w_ldR rfl rfl rfl ?_
                           first | refine w_getI rfl rfl rfl rfl rfl ?_ | refine w_getR rfl rfl rfl rfl rfl ?_
                           refine w_ldI rfl rfl ?_
                           refine w_rld rfl rfl rfl (by omega) rfl ?_
                           show WP _ _ _ _ (.inr (.inr 140) :: _) _ _
                           refine w_ldI rfl rfl ?_
                           refine w_ldI rfl rfl ?_
                           refine w_callV rfl rfl rfl rfl rfl rfl rfl (k_span140 (by omega) (by omega) (by omega)) ?_
                           refine w_bEq0 rfl (fun b42 => ?_) (fun b42 => ?_)
                           · first
                             | (exfalso; omega)
                             | (exfalso; omega)
                           · first
                             | (exfalso; omega)
                             | (refine w_ldR rfl rfl rfl ?_
                                first | refine w_getI rfl rfl rfl rfl rfl ?_ | refine w_getR rfl rfl rfl rfl rfl ?_
                                refine w_ldI rfl rfl ?_
                                refine w_rld rfl rfl rfl (by omega) rfl ?_
                                show WP _ _ _ _ (.inr (.inr 144) :: _) _ _
                                refine w_ldI rfl rfl ?_
                                refine w_ldI rfl rfl ?_
                                refine w_callV rfl rfl rfl rfl rfl rfl rfl (k_span144 (by omega) (by omega) (by omega)) ?_
                                refine w_bNe0 rfl (fun b50 => ?_) (fun b50 => ?_)
                                · first
                                  | (exfalso; omega)
                                  | (refine w_ldR rfl rfl rfl ?_
                                     first | refine w_getI rfl rfl rfl rfl rfl ?_ | refine w_getR rfl rfl rfl rfl rfl ?_
                                     refine w_ldI rfl rfl ?_
                                     refine w_rld rfl rfl rfl (by omega) rfl ?_
                                     show WP _ _ _ _ (.inr (.inr 144) :: _) _ _
                                     refine w_ldI rfl rfl ?_
                                     refine w_ldR rfl rfl rfl ?_
                                     first | refine w_getI rfl rfl rfl rfl rfl ?_ | refine w_getR rfl rfl rfl rfl rfl ?_
                                     refine w_ldI rfl rfl ?_
                                     refine w_rld rfl rfl rfl (by omega) rfl ?_
                                     show WP _ _ _ _ (.inr (.inr 140) :: _) _ _
                                     refine w_ldI rfl rfl ?_
                                     refine w_ldI rfl rfl ?_
                                     refine w_callWN rfl rfl rfl rfl rfl rfl rfl (k_take144_140 (by omega) (by omega) (by omega)) (fun s66 p66 => ?_)
                                     refine w_ldI rfl rfl ?_
                                     refine w_retI rfl ?_
                                     exact ⟨rfl, p66⟩)
                                · first
                                  | (exfalso; omega)
                                  | (exfalso; omega)))
                      · first
                        | (exfalso; omega)
                        | (exfalso; omega))
                 · first
                   | (exfalso; omega)
                   | (exfalso; omega)))
       · first
         | (exfalso; omega)
         | (exfalso; omega))
theorem x_move_s1_3 {d : Nat} {s : mSt} (hI : IvD s) {i j n : Int} (hri : -2147483648 ≤ i ∧ i < 2147483648) (hrj : -2147483648 ≤ j ∧ j < 2147483648) (hrn : -2147483648 ≤ n ∧ n < 2147483648) (hS : IvS s) (hb : ¬ s 160 1 = 0 ∧ ¬ s 160 3 = 0 ∧ s 160 1 = s 160 3) (h : ¬ (0 ≤ n ∧ 0 ≤ i ∧ 0 ≤ j ∧ n ≤ s 161 1 - i ∧ n ≤ s 161 3 - j)) : CI (d + 2) 132 [.inr (.inr 10), .inl 1, .inl i, .inl 3, .inl j, .inl n] (s) (fun r s1 => r = -1000000000 - 1 ∧ s1 = us s 132 1 (s 132 1 + 1)) := by
  refine CI.mk rfl ?_
  show WP (d + 2) 132 0 [some (.inr (.inr 10)), some (.inl 1), some (.inl i), some (.inl 3), some (.inl j), some (.inl n)] [] (encA (s)) _
  have hI0 := hI
  obtain ⟨⟨hM, hC, hN⟩, hV, h8⟩ := hI
  have hV0 := hV
  have hM0 := hM
  obtain ⟨vc, vpl, vga, vse, vne, veg, vre, vtu, vta, vwa, v36, v37, v39, v40, v42, v41, v43, v44, vl0, vl1, vlm⟩ := hV
  obtain ⟨hM39, hM40, hM41, hM43, hM44, hM36, hM37, hM38, hMc, hMw, hMp, hMt, hMb⟩ := hM
  have hS9 := hS
  obtain ⟨hS0, hS1, hS2, hS3⟩ := hS
  have hA := hS1
  have hB := hS3
  obtain ⟨a1, a2, a3, a4, -⟩ := hA
  obtain ⟨b1, b2, b3, b4, -⟩ := hB
  refine w_ldI rfl rfl ?_
  refine w_call rfl rfl rfl (k_isSheet (by omega)) ?_
  refine w_bEq0 rfl (fun b2 => ?_) (fun b2 => ?_)
  · first
    | (exfalso; omega)
    | (exfalso; omega)
  · first
    | (exfalso; omega)
    | (refine w_ldI rfl rfl ?_
       refine w_call rfl rfl rfl (k_isSheet (by omega)) ?_
       refine w_bNe0 rfl (fun b5 => ?_) (fun b5 => ?_)
       · first
         | (exfalso; omega)
         | (refine w_ldR rfl rfl rfl ?_
            refine w_ldI rfl rfl ?_
            refine w_callV rfl rfl rfl rfl rfl rfl rfl (k_isMissing (by omega) (by show -2147483648 ≤ s 131 1 ∧ s 131 1 < 2147483648; omega)) ?_
            rw [show s 131 ((1 : Int)).toNat = s 160 1 from a1]
            refine w_bNe0 rfl (fun b13 => ?_) (fun b13 => ?_)
            · first
              | (exfalso; omega)
              | (exfalso; omega)
            · first
              | (exfalso; omega)
              | (refine w_ldR rfl rfl rfl ?_
                 refine w_ldI rfl rfl ?_
                 refine w_callV rfl rfl rfl rfl rfl rfl rfl (k_isMissing (by omega) (by show -2147483648 ≤ s 131 3 ∧ s 131 3 < 2147483648; omega)) ?_
                 rw [show s 131 ((3 : Int)).toNat = s 160 3 from b1]
                 refine w_bEq0 rfl (fun b17 => ?_) (fun b17 => ?_)
                 · first
                   | (exfalso; omega)
                   | (refine w_ldR rfl rfl rfl ?_
                      first | refine w_getI rfl rfl rfl rfl rfl ?_ | refine w_getR rfl rfl rfl rfl rfl ?_
                      refine w_ldI rfl rfl ?_
                      refine w_ald rfl rfl rfl (by omega) rfl ?_
                      rw [show s 131 ((1 : Int)).toNat = s 160 1 from a1]
                      refine w_ldR rfl rfl rfl ?_
                      first | refine w_getI rfl rfl rfl rfl rfl ?_ | refine w_getR rfl rfl rfl rfl rfl ?_
                      refine w_ldI rfl rfl ?_
                      refine w_ald rfl rfl rfl (by omega) rfl ?_
                      rw [show s 131 ((3 : Int)).toNat = s 160 3 from b1]
                      refine w_crEq rfl (by omega) (by omega) (fun b30 => ?_) (fun b30 => ?_)
                      · first
                        | (exfalso; omega)
                        | (refine w_ldR rfl rfl rfl ?_
                           first | refine w_getI rfl rfl rfl rfl rfl ?_ | refine w_getR rfl rfl rfl rfl rfl ?_
                           refine w_ldI rfl rfl ?_
                           refine w_rld rfl rfl rfl (by omega) rfl ?_
                           show WP _ _ _ _ (.inr (.inr 140) :: _) _ _
                           refine w_ldI rfl rfl ?_
                           refine w_ldI rfl rfl ?_
                           refine w_callV rfl rfl rfl rfl rfl rfl rfl (k_span140 (by omega) (by omega) (by omega)) ?_
                           refine w_bEq0 rfl (fun b42 => ?_) (fun b42 => ?_)
                           · first
                             | (exfalso; omega)
                             | (refine w_ldR rfl rfl rfl ?_
                                refine w_push rfl ?_
                                refine w_callWI rfl rfl rfl rfl rfl rfl rfl k_error1 (fun v53 s53 p53 => ?_)
                                obtain ⟨rfl, rfl⟩ := p53
                                refine w_retI rfl ?_
                                exact ⟨rfl, rfl⟩)
                           · first
                             | (exfalso; omega)
                             | (refine w_ldR rfl rfl rfl ?_
                                first | refine w_getI rfl rfl rfl rfl rfl ?_ | refine w_getR rfl rfl rfl rfl rfl ?_
                                refine w_ldI rfl rfl ?_
                                refine w_rld rfl rfl rfl (by omega) rfl ?_
                                show WP _ _ _ _ (.inr (.inr 144) :: _) _ _
                                refine w_ldI rfl rfl ?_
                                refine w_ldI rfl rfl ?_
                                refine w_callV rfl rfl rfl rfl rfl rfl rfl (k_span144 (by omega) (by omega) (by omega)) ?_
                                refine w_bNe0 rfl (fun b50 => ?_) (fun b50 => ?_)
                                · first
                                  | (exfalso; omega)
                                  | (exfalso; omega)
                                · first
                                  | (exfalso; omega)
                                  | (refine w_ldR rfl rfl rfl ?_
                                     refine w_push rfl ?_
                                     refine w_callWI rfl rfl rfl rfl rfl rfl rfl k_error1 (fun v53 s53 p53 => ?_)
                                     obtain ⟨rfl, rfl⟩ := p53
                                     refine w_retI rfl ?_
                                     exact ⟨rfl, rfl⟩)))
                      · first
                        | (exfalso; omega)
                        | (exfalso; omega))
                 · first
                   | (exfalso; omega)
                   | (exfalso; omega)))
       · first
         | (exfalso; omega)
         | (exfalso; omega))
theorem k_take138_142 {d : Nat} {s : mSt} {i j n : Int} (hs : 0 ≤ s 142 1 ∧ s 142 1 ≤ 40) (hs2 : 0 ≤ s 138 1 ∧ s 138 1 ≤ 40) (h : 0 ≤ n ∧ 0 ≤ i ∧ 0 ≤ j ∧ n ≤ s 142 1 - i ∧ n ≤ s 138 1 - j) : CV (d + 1) 71 [.inr (.inr 138), .inl j, .inr (.inr 142), .inl i, .inl n] (s) (fun s1 => s1 = ua s 139 (mcpy (s 143) (s 139) i.toNat j.toNat n.toNat)) := by
  refine CV.mk rfl ?_
  show WP (d + 1) 71 0 [some (.inr (.inr 138)), some (.inl j), some (.inr (.inr 142)), some (.inl i), some (.inl n)] [] (encA (s)) _
  refine w_ldR rfl rfl rfl ?_
  refine w_ldI rfl rfl ?_
  refine w_ldI rfl rfl ?_
  refine w_callV rfl rfl rfl rfl rfl rfl rfl (k_span138 (by omega) (by omega) hs2) ?_
  refine w_bEq0 rfl (fun b4 => ?_) (fun b4 => ?_)
  · first
    | (exfalso; omega)
    | (refine w_retV rfl ?_
       first
       | rfl
       | (exfalso; omega))
  · first
    | (exfalso; omega)
    | (refine w_ldR rfl rfl rfl ?_
       refine w_ldI rfl rfl ?_
       refine w_ldI rfl rfl ?_
       refine w_callV rfl rfl rfl rfl rfl rfl rfl (k_span142 (by omega) (by omega) hs) ?_
       refine w_bEq0 rfl (fun b9 => ?_) (fun b9 => ?_)
       · first
         | (exfalso; omega)
         | (refine w_retV rfl ?_
            first
            | rfl
            | (exfalso; omega))
       · first
         | (exfalso; omega)
         | (refine w_ldR rfl rfl rfl ?_
            first | refine w_getI rfl rfl rfl rfl rfl ?_ | refine w_getR rfl rfl rfl rfl rfl ?_
            refine w_ldI rfl rfl ?_
            refine w_ldR rfl rfl rfl ?_
            first | refine w_getI rfl rfl rfl rfl rfl ?_ | refine w_getR rfl rfl rfl rfl rfl ?_
            refine w_ldI rfl rfl ?_
            refine w_ldI rfl rfl ?_
            refine w_cpy rfl rfl rfl rfl rfl (by omega) (by omega) (by omega) (by omega) (by omega) rfl rfl rfl ?_
            refine w_retV rfl ?_
            first
            | rfl
            | (exfalso; omega)))
theorem x_move_y2_0 {d : Nat} {s : mSt} (hI : IvD s) {i j n : Int} (hri : -2147483648 ≤ i ∧ i < 2147483648) (hrj : -2147483648 ≤ j ∧ j < 2147483648) (hrn : -2147483648 ≤ n ∧ n < 2147483648) (hS : IvS s) (hb : ¬ s 160 2 = 0 ∧ ¬ s 160 0 = 0 ∧ s 160 2 = s 160 0) (h : 0 ≤ n ∧ 0 ≤ i ∧ 0 ≤ j ∧ n ≤ s 161 2 - i ∧ n ≤ s 161 0 - j) : CI (d + 2) 132 [.inr (.inr 10), .inl 2, .inl i, .inl 0, .inl j, .inl n] (s) (fun q s1 => q = n ∧ s1 = ua s 139 (mcpy (s 143) (s 139) i.toNat j.toNat n.toNat)) := by
  refine CI.mk rfl ?_
  show WP (d + 2) 132 0 [some (.inr (.inr 10)), some (.inl 2), some (.inl i), some (.inl 0), some (.inl j), some (.inl n)] [] (encA (s)) _
  have hI0 := hI
  obtain ⟨⟨hM, hC, hN⟩, hV, h8⟩ := hI
  have hV0 := hV
  have hM0 := hM
  obtain ⟨vc, vpl, vga, vse, vne, veg, vre, vtu, vta, vwa, v36, v37, v39, v40, v42, v41, v43, v44, vl0, vl1, vlm⟩ := hV
  obtain ⟨hM39, hM40, hM41, hM43, hM44, hM36, hM37, hM38, hMc, hMw, hMp, hMt, hMb⟩ := hM
  have hS9 := hS
  obtain ⟨hS0, hS1, hS2, hS3⟩ := hS
  have hA := hS2
  have hB := hS0
  obtain ⟨a1, a2, a3, a4, -⟩ := hA
  obtain ⟨b1, b2, b3, b4, -⟩ := hB
  refine w_ldI rfl rfl ?_
  refine w_call rfl rfl rfl (k_isSheet (by omega)) ?_
  refine w_bEq0 rfl (fun b2 => ?_) (fun b2 => ?_)
  · first
    | (exfalso; omega)
    | (exfalso; omega)
  · first
    | (exfalso; omega)
    | (refine w_ldI rfl rfl ?_
       refine w_call rfl rfl rfl (k_isSheet (by omega)) ?_
       refine w_bNe0 rfl (fun b5 => ?_) (fun b5 => ?_)
       · first
         | (exfalso; omega)
         | (refine w_ldR rfl rfl rfl ?_
            refine w_ldI rfl rfl ?_
            refine w_callV rfl rfl rfl rfl rfl rfl rfl (k_isMissing (by omega) (by show -2147483648 ≤ s 131 2 ∧ s 131 2 < 2147483648; omega)) ?_
            rw [show s 131 ((2 : Int)).toNat = s 160 2 from a1]
            refine w_bNe0 rfl (fun b13 => ?_) (fun b13 => ?_)
            · first
              | (exfalso; omega)
              | (exfalso; omega)
            · first
              | (exfalso; omega)
              | (refine w_ldR rfl rfl rfl ?_
                 refine w_ldI rfl rfl ?_
                 refine w_callV rfl rfl rfl rfl rfl rfl rfl (k_isMissing (by omega) (by show -2147483648 ≤ s 131 0 ∧ s 131 0 < 2147483648; omega)) ?_
                 rw [show s 131 ((0 : Int)).toNat = s 160 0 from b1]
                 refine w_bEq0 rfl (fun b17 => ?_) (fun b17 => ?_)
                 · first
                   | (exfalso; omega)
                   | (refine w_ldR rfl rfl rfl ?_
                      first | refine w_getI rfl rfl rfl rfl rfl ?_ | refine w_getR rfl rfl rfl rfl rfl ?_
                      refine w_ldI rfl rfl ?_
                      refine w_ald rfl rfl rfl (by omega) rfl ?_
                      rw [show s 131 ((2 : Int)).toNat = s 160 2 from a1]
                      refine w_ldR rfl rfl rfl ?_
                      first | refine w_getI rfl rfl rfl rfl rfl ?_ | refine w_getR rfl rfl rfl rfl rfl ?_
                      refine w_ldI rfl rfl ?_
                      refine w_ald rfl rfl rfl (by omega) rfl ?_
                      rw [show s 131 ((0 : Int)).toNat = s 160 0 from b1]
                      refine w_crEq rfl (by omega) (by omega) (fun b30 => ?_) (fun b30 => ?_)
                      · first
                        | (exfalso; omega)
                        | (refine w_ldR rfl rfl rfl ?_
                           first | refine w_getI rfl rfl rfl rfl rfl ?_ | refine w_getR rfl rfl rfl rfl rfl ?_
                           refine w_ldI rfl rfl ?_
                           refine w_rld rfl rfl rfl (by omega) rfl ?_
                           show WP _ _ _ _ (.inr (.inr 142) :: _) _ _
                           refine w_ldI rfl rfl ?_
                           refine w_ldI rfl rfl ?_
                           refine w_callV rfl rfl rfl rfl rfl rfl rfl (k_span142 (by omega) (by omega) (by omega)) ?_
                           refine w_bEq0 rfl (fun b42 => ?_) (fun b42 => ?_)
                           · first
                             | (exfalso; omega)
                             | (exfalso; omega)
                           · first
                             | (exfalso; omega)
                             | (refine w_ldR rfl rfl rfl ?_
                                first | refine w_getI rfl rfl rfl rfl rfl ?_ | refine w_getR rfl rfl rfl rfl rfl ?_
                                refine w_ldI rfl rfl ?_
                                refine w_rld rfl rfl rfl (by omega) rfl ?_
                                show WP _ _ _ _ (.inr (.inr 138) :: _) _ _
                                refine w_ldI rfl rfl ?_
                                refine w_ldI rfl rfl ?_
                                refine w_callV rfl rfl rfl rfl rfl rfl rfl (k_span138 (by omega) (by omega) (by omega)) ?_
                                refine w_bNe0 rfl (fun b50 => ?_) (fun b50 => ?_)
                                · first
                                  | (exfalso; omega)
                                  | (refine w_ldR rfl rfl rfl ?_
                                     first | refine w_getI rfl rfl rfl rfl rfl ?_ | refine w_getR rfl rfl rfl rfl rfl ?_
                                     refine w_ldI rfl rfl ?_
                                     refine w_rld rfl rfl rfl (by omega) rfl ?_
                                     show WP _ _ _ _ (.inr (.inr 138) :: _) _ _
                                     refine w_ldI rfl rfl ?_
                                     refine w_ldR rfl rfl rfl ?_
                                     first | refine w_getI rfl rfl rfl rfl rfl ?_ | refine w_getR rfl rfl rfl rfl rfl ?_
                                     refine w_ldI rfl rfl ?_
                                     refine w_rld rfl rfl rfl (by omega) rfl ?_
                                     show WP _ _ _ _ (.inr (.inr 142) :: _) _ _
                                     refine w_ldI rfl rfl ?_
                                     refine w_ldI rfl rfl ?_
                                     refine w_callWN rfl rfl rfl rfl rfl rfl rfl (k_take138_142 (by omega) (by omega) (by omega)) (fun s66 p66 => ?_)
                                     refine w_ldI rfl rfl ?_
                                     refine w_retI rfl ?_
                                     exact ⟨rfl, p66⟩)
                                · first
                                  | (exfalso; omega)
                                  | (exfalso; omega)))
                      · first
                        | (exfalso; omega)
                        | (exfalso; omega))
                 · first
                   | (exfalso; omega)
                   | (exfalso; omega)))
       · first
         | (exfalso; omega)
         | (exfalso; omega))
theorem x_move_s2_0 {d : Nat} {s : mSt} (hI : IvD s) {i j n : Int} (hri : -2147483648 ≤ i ∧ i < 2147483648) (hrj : -2147483648 ≤ j ∧ j < 2147483648) (hrn : -2147483648 ≤ n ∧ n < 2147483648) (hS : IvS s) (hb : ¬ s 160 2 = 0 ∧ ¬ s 160 0 = 0 ∧ s 160 2 = s 160 0) (h : ¬ (0 ≤ n ∧ 0 ≤ i ∧ 0 ≤ j ∧ n ≤ s 161 2 - i ∧ n ≤ s 161 0 - j)) : CI (d + 2) 132 [.inr (.inr 10), .inl 2, .inl i, .inl 0, .inl j, .inl n] (s) (fun r s1 => r = -1000000000 - 1 ∧ s1 = us s 132 1 (s 132 1 + 1)) := by
  refine CI.mk rfl ?_
  show WP (d + 2) 132 0 [some (.inr (.inr 10)), some (.inl 2), some (.inl i), some (.inl 0), some (.inl j), some (.inl n)] [] (encA (s)) _
  have hI0 := hI
  obtain ⟨⟨hM, hC, hN⟩, hV, h8⟩ := hI
  have hV0 := hV
  have hM0 := hM
  obtain ⟨vc, vpl, vga, vse, vne, veg, vre, vtu, vta, vwa, v36, v37, v39, v40, v42, v41, v43, v44, vl0, vl1, vlm⟩ := hV
  obtain ⟨hM39, hM40, hM41, hM43, hM44, hM36, hM37, hM38, hMc, hMw, hMp, hMt, hMb⟩ := hM
  have hS9 := hS
  obtain ⟨hS0, hS1, hS2, hS3⟩ := hS
  have hA := hS2
  have hB := hS0
  obtain ⟨a1, a2, a3, a4, -⟩ := hA
  obtain ⟨b1, b2, b3, b4, -⟩ := hB
  refine w_ldI rfl rfl ?_
  refine w_call rfl rfl rfl (k_isSheet (by omega)) ?_
  refine w_bEq0 rfl (fun b2 => ?_) (fun b2 => ?_)
  · first
    | (exfalso; omega)
    | (exfalso; omega)
  · first
    | (exfalso; omega)
    | (refine w_ldI rfl rfl ?_
       refine w_call rfl rfl rfl (k_isSheet (by omega)) ?_
       refine w_bNe0 rfl (fun b5 => ?_) (fun b5 => ?_)
       · first
         | (exfalso; omega)
         | (refine w_ldR rfl rfl rfl ?_
            refine w_ldI rfl rfl ?_
            refine w_callV rfl rfl rfl rfl rfl rfl rfl (k_isMissing (by omega) (by show -2147483648 ≤ s 131 2 ∧ s 131 2 < 2147483648; omega)) ?_
            rw [show s 131 ((2 : Int)).toNat = s 160 2 from a1]
            refine w_bNe0 rfl (fun b13 => ?_) (fun b13 => ?_)
            · first
              | (exfalso; omega)
              | (exfalso; omega)
            · first
              | (exfalso; omega)
              | (refine w_ldR rfl rfl rfl ?_
                 refine w_ldI rfl rfl ?_
                 refine w_callV rfl rfl rfl rfl rfl rfl rfl (k_isMissing (by omega) (by show -2147483648 ≤ s 131 0 ∧ s 131 0 < 2147483648; omega)) ?_
                 rw [show s 131 ((0 : Int)).toNat = s 160 0 from b1]
                 refine w_bEq0 rfl (fun b17 => ?_) (fun b17 => ?_)
                 · first
                   | (exfalso; omega)
                   | (refine w_ldR rfl rfl rfl ?_
                      first | refine w_getI rfl rfl rfl rfl rfl ?_ | refine w_getR rfl rfl rfl rfl rfl ?_
                      refine w_ldI rfl rfl ?_
                      refine w_ald rfl rfl rfl (by omega) rfl ?_
                      rw [show s 131 ((2 : Int)).toNat = s 160 2 from a1]
                      refine w_ldR rfl rfl rfl ?_
                      first | refine w_getI rfl rfl rfl rfl rfl ?_ | refine w_getR rfl rfl rfl rfl rfl ?_
                      refine w_ldI rfl rfl ?_
                      refine w_ald rfl rfl rfl (by omega) rfl ?_
                      rw [show s 131 ((0 : Int)).toNat = s 160 0 from b1]
                      refine w_crEq rfl (by omega) (by omega) (fun b30 => ?_) (fun b30 => ?_)
                      · first
                        | (exfalso; omega)
                        | (refine w_ldR rfl rfl rfl ?_
                           first | refine w_getI rfl rfl rfl rfl rfl ?_ | refine w_getR rfl rfl rfl rfl rfl ?_
                           refine w_ldI rfl rfl ?_
                           refine w_rld rfl rfl rfl (by omega) rfl ?_
                           show WP _ _ _ _ (.inr (.inr 142) :: _) _ _
                           refine w_ldI rfl rfl ?_
                           refine w_ldI rfl rfl ?_
                           refine w_callV rfl rfl rfl rfl rfl rfl rfl (k_span142 (by omega) (by omega) (by omega)) ?_
                           refine w_bEq0 rfl (fun b42 => ?_) (fun b42 => ?_)
                           · first
                             | (exfalso; omega)
                             | (refine w_ldR rfl rfl rfl ?_
                                refine w_push rfl ?_
                                refine w_callWI rfl rfl rfl rfl rfl rfl rfl k_error1 (fun v53 s53 p53 => ?_)
                                obtain ⟨rfl, rfl⟩ := p53
                                refine w_retI rfl ?_
                                exact ⟨rfl, rfl⟩)
                           · first
                             | (exfalso; omega)
                             | (refine w_ldR rfl rfl rfl ?_
                                first | refine w_getI rfl rfl rfl rfl rfl ?_ | refine w_getR rfl rfl rfl rfl rfl ?_
                                refine w_ldI rfl rfl ?_
                                refine w_rld rfl rfl rfl (by omega) rfl ?_
                                show WP _ _ _ _ (.inr (.inr 138) :: _) _ _
                                refine w_ldI rfl rfl ?_
                                refine w_ldI rfl rfl ?_
                                refine w_callV rfl rfl rfl rfl rfl rfl rfl (k_span138 (by omega) (by omega) (by omega)) ?_
                                refine w_bNe0 rfl (fun b50 => ?_) (fun b50 => ?_)
                                · first
                                  | (exfalso; omega)
                                  | (exfalso; omega)
                                · first
                                  | (exfalso; omega)
                                  | (refine w_ldR rfl rfl rfl ?_
                                     refine w_push rfl ?_
                                     refine w_callWI rfl rfl rfl rfl rfl rfl rfl k_error1 (fun v53 s53 p53 => ?_)
                                     obtain ⟨rfl, rfl⟩ := p53
                                     refine w_retI rfl ?_
                                     exact ⟨rfl, rfl⟩)))
                      · first
                        | (exfalso; omega)
                        | (exfalso; omega))
                 · first
                   | (exfalso; omega)
                   | (exfalso; omega)))
       · first
         | (exfalso; omega)
         | (exfalso; omega))
theorem k_take140_142 {d : Nat} {s : mSt} {i j n : Int} (hs : 0 ≤ s 142 1 ∧ s 142 1 ≤ 40) (hs2 : 0 ≤ s 140 1 ∧ s 140 1 ≤ 40) (h : 0 ≤ n ∧ 0 ≤ i ∧ 0 ≤ j ∧ n ≤ s 142 1 - i ∧ n ≤ s 140 1 - j) : CV (d + 1) 71 [.inr (.inr 140), .inl j, .inr (.inr 142), .inl i, .inl n] (s) (fun s1 => s1 = ua s 141 (mcpy (s 143) (s 141) i.toNat j.toNat n.toNat)) := by
  refine CV.mk rfl ?_
  show WP (d + 1) 71 0 [some (.inr (.inr 140)), some (.inl j), some (.inr (.inr 142)), some (.inl i), some (.inl n)] [] (encA (s)) _
  refine w_ldR rfl rfl rfl ?_
  refine w_ldI rfl rfl ?_
  refine w_ldI rfl rfl ?_
  refine w_callV rfl rfl rfl rfl rfl rfl rfl (k_span140 (by omega) (by omega) hs2) ?_
  refine w_bEq0 rfl (fun b4 => ?_) (fun b4 => ?_)
  · first
    | (exfalso; omega)
    | (refine w_retV rfl ?_
       first
       | rfl
       | (exfalso; omega))
  · first
    | (exfalso; omega)
    | (refine w_ldR rfl rfl rfl ?_
       refine w_ldI rfl rfl ?_
       refine w_ldI rfl rfl ?_
       refine w_callV rfl rfl rfl rfl rfl rfl rfl (k_span142 (by omega) (by omega) hs) ?_
       refine w_bEq0 rfl (fun b9 => ?_) (fun b9 => ?_)
       · first
         | (exfalso; omega)
         | (refine w_retV rfl ?_
            first
            | rfl
            | (exfalso; omega))
       · first
         | (exfalso; omega)
         | (refine w_ldR rfl rfl rfl ?_
            first | refine w_getI rfl rfl rfl rfl rfl ?_ | refine w_getR rfl rfl rfl rfl rfl ?_
            refine w_ldI rfl rfl ?_
            refine w_ldR rfl rfl rfl ?_
            first | refine w_getI rfl rfl rfl rfl rfl ?_ | refine w_getR rfl rfl rfl rfl rfl ?_
            refine w_ldI rfl rfl ?_
            refine w_ldI rfl rfl ?_
            refine w_cpy rfl rfl rfl rfl rfl (by omega) (by omega) (by omega) (by omega) (by omega) rfl rfl rfl ?_
            refine w_retV rfl ?_
            first
            | rfl
            | (exfalso; omega)))
theorem x_move_y2_1 {d : Nat} {s : mSt} (hI : IvD s) {i j n : Int} (hri : -2147483648 ≤ i ∧ i < 2147483648) (hrj : -2147483648 ≤ j ∧ j < 2147483648) (hrn : -2147483648 ≤ n ∧ n < 2147483648) (hS : IvS s) (hb : ¬ s 160 2 = 0 ∧ ¬ s 160 1 = 0 ∧ s 160 2 = s 160 1) (h : 0 ≤ n ∧ 0 ≤ i ∧ 0 ≤ j ∧ n ≤ s 161 2 - i ∧ n ≤ s 161 1 - j) : CI (d + 2) 132 [.inr (.inr 10), .inl 2, .inl i, .inl 1, .inl j, .inl n] (s) (fun q s1 => q = n ∧ s1 = ua s 141 (mcpy (s 143) (s 141) i.toNat j.toNat n.toNat)) := by
  refine CI.mk rfl ?_
  show WP (d + 2) 132 0 [some (.inr (.inr 10)), some (.inl 2), some (.inl i), some (.inl 1), some (.inl j), some (.inl n)] [] (encA (s)) _
  have hI0 := hI
  obtain ⟨⟨hM, hC, hN⟩, hV, h8⟩ := hI
  have hV0 := hV
  have hM0 := hM
  obtain ⟨vc, vpl, vga, vse, vne, veg, vre, vtu, vta, vwa, v36, v37, v39, v40, v42, v41, v43, v44, vl0, vl1, vlm⟩ := hV
  obtain ⟨hM39, hM40, hM41, hM43, hM44, hM36, hM37, hM38, hMc, hMw, hMp, hMt, hMb⟩ := hM
  have hS9 := hS
  obtain ⟨hS0, hS1, hS2, hS3⟩ := hS
  have hA := hS2
  have hB := hS1
  obtain ⟨a1, a2, a3, a4, -⟩ := hA
  obtain ⟨b1, b2, b3, b4, -⟩ := hB
  refine w_ldI rfl rfl ?_
  refine w_call rfl rfl rfl (k_isSheet (by omega)) ?_
  refine w_bEq0 rfl (fun b2 => ?_) (fun b2 => ?_)
  · first
    | (exfalso; omega)
    | (exfalso; omega)
  · first
    | (exfalso; omega)
    | (refine w_ldI rfl rfl ?_
       refine w_call rfl rfl rfl (k_isSheet (by omega)) ?_
       refine w_bNe0 rfl (fun b5 => ?_) (fun b5 => ?_)
       · first
         | (exfalso; omega)
         | (refine w_ldR rfl rfl rfl ?_
            refine w_ldI rfl rfl ?_
            refine w_callV rfl rfl rfl rfl rfl rfl rfl (k_isMissing (by omega) (by show -2147483648 ≤ s 131 2 ∧ s 131 2 < 2147483648; omega)) ?_
            rw [show s 131 ((2 : Int)).toNat = s 160 2 from a1]
            refine w_bNe0 rfl (fun b13 => ?_) (fun b13 => ?_)
            · first
              | (exfalso; omega)
              | (exfalso; omega)
            · first
              | (exfalso; omega)
              | (refine w_ldR rfl rfl rfl ?_
                 refine w_ldI rfl rfl ?_
                 refine w_callV rfl rfl rfl rfl rfl rfl rfl (k_isMissing (by omega) (by show -2147483648 ≤ s 131 1 ∧ s 131 1 < 2147483648; omega)) ?_
                 rw [show s 131 ((1 : Int)).toNat = s 160 1 from b1]
                 refine w_bEq0 rfl (fun b17 => ?_) (fun b17 => ?_)
                 · first
                   | (exfalso; omega)
                   | (refine w_ldR rfl rfl rfl ?_
                      first | refine w_getI rfl rfl rfl rfl rfl ?_ | refine w_getR rfl rfl rfl rfl rfl ?_
                      refine w_ldI rfl rfl ?_
                      refine w_ald rfl rfl rfl (by omega) rfl ?_
                      rw [show s 131 ((2 : Int)).toNat = s 160 2 from a1]
                      refine w_ldR rfl rfl rfl ?_
                      first | refine w_getI rfl rfl rfl rfl rfl ?_ | refine w_getR rfl rfl rfl rfl rfl ?_
                      refine w_ldI rfl rfl ?_
                      refine w_ald rfl rfl rfl (by omega) rfl ?_
                      rw [show s 131 ((1 : Int)).toNat = s 160 1 from b1]
                      refine w_crEq rfl (by omega) (by omega) (fun b30 => ?_) (fun b30 => ?_)
                      · first
                        | (exfalso; omega)
                        | (refine w_ldR rfl rfl rfl ?_
                           first | refine w_getI rfl rfl rfl rfl rfl ?_ | refine w_getR rfl rfl rfl rfl rfl ?_
                           refine w_ldI rfl rfl ?_
                           refine w_rld rfl rfl rfl (by omega) rfl ?_
                           show WP _ _ _ _ (.inr (.inr 142) :: _) _ _
                           refine w_ldI rfl rfl ?_
                           refine w_ldI rfl rfl ?_
                           refine w_callV rfl rfl rfl rfl rfl rfl rfl (k_span142 (by omega) (by omega) (by omega)) ?_
                           refine w_bEq0 rfl (fun b42 => ?_) (fun b42 => ?_)
                           · first
                             | (exfalso; omega)
                             | (exfalso; omega)
                           · first
                             | (exfalso; omega)
                             | (refine w_ldR rfl rfl rfl ?_
                                first | refine w_getI rfl rfl rfl rfl rfl ?_ | refine w_getR rfl rfl rfl rfl rfl ?_
                                refine w_ldI rfl rfl ?_
                                refine w_rld rfl rfl rfl (by omega) rfl ?_
                                show WP _ _ _ _ (.inr (.inr 140) :: _) _ _
                                refine w_ldI rfl rfl ?_
                                refine w_ldI rfl rfl ?_
                                refine w_callV rfl rfl rfl rfl rfl rfl rfl (k_span140 (by omega) (by omega) (by omega)) ?_
                                refine w_bNe0 rfl (fun b50 => ?_) (fun b50 => ?_)
                                · first
                                  | (exfalso; omega)
                                  | (refine w_ldR rfl rfl rfl ?_
                                     first | refine w_getI rfl rfl rfl rfl rfl ?_ | refine w_getR rfl rfl rfl rfl rfl ?_
                                     refine w_ldI rfl rfl ?_
                                     refine w_rld rfl rfl rfl (by omega) rfl ?_
                                     show WP _ _ _ _ (.inr (.inr 140) :: _) _ _
                                     refine w_ldI rfl rfl ?_
                                     refine w_ldR rfl rfl rfl ?_
                                     first | refine w_getI rfl rfl rfl rfl rfl ?_ | refine w_getR rfl rfl rfl rfl rfl ?_
                                     refine w_ldI rfl rfl ?_
                                     refine w_rld rfl rfl rfl (by omega) rfl ?_
                                     show WP _ _ _ _ (.inr (.inr 142) :: _) _ _
                                     refine w_ldI rfl rfl ?_
                                     refine w_ldI rfl rfl ?_
                                     refine w_callWN rfl rfl rfl rfl rfl rfl rfl (k_take140_142 (by omega) (by omega) (by omega)) (fun s66 p66 => ?_)
                                     refine w_ldI rfl rfl ?_
                                     refine w_retI rfl ?_
                                     exact ⟨rfl, p66⟩)
                                · first
                                  | (exfalso; omega)
                                  | (exfalso; omega)))
                      · first
                        | (exfalso; omega)
                        | (exfalso; omega))
                 · first
                   | (exfalso; omega)
                   | (exfalso; omega)))
       · first
         | (exfalso; omega)
         | (exfalso; omega))
theorem x_move_s2_1 {d : Nat} {s : mSt} (hI : IvD s) {i j n : Int} (hri : -2147483648 ≤ i ∧ i < 2147483648) (hrj : -2147483648 ≤ j ∧ j < 2147483648) (hrn : -2147483648 ≤ n ∧ n < 2147483648) (hS : IvS s) (hb : ¬ s 160 2 = 0 ∧ ¬ s 160 1 = 0 ∧ s 160 2 = s 160 1) (h : ¬ (0 ≤ n ∧ 0 ≤ i ∧ 0 ≤ j ∧ n ≤ s 161 2 - i ∧ n ≤ s 161 1 - j)) : CI (d + 2) 132 [.inr (.inr 10), .inl 2, .inl i, .inl 1, .inl j, .inl n] (s) (fun r s1 => r = -1000000000 - 1 ∧ s1 = us s 132 1 (s 132 1 + 1)) := by
  refine CI.mk rfl ?_
  show WP (d + 2) 132 0 [some (.inr (.inr 10)), some (.inl 2), some (.inl i), some (.inl 1), some (.inl j), some (.inl n)] [] (encA (s)) _
  have hI0 := hI
  obtain ⟨⟨hM, hC, hN⟩, hV, h8⟩ := hI
  have hV0 := hV
  have hM0 := hM
  obtain ⟨vc, vpl, vga, vse, vne, veg, vre, vtu, vta, vwa, v36, v37, v39, v40, v42, v41, v43, v44, vl0, vl1, vlm⟩ := hV
  obtain ⟨hM39, hM40, hM41, hM43, hM44, hM36, hM37, hM38, hMc, hMw, hMp, hMt, hMb⟩ := hM
  have hS9 := hS
  obtain ⟨hS0, hS1, hS2, hS3⟩ := hS
  have hA := hS2
  have hB := hS1
  obtain ⟨a1, a2, a3, a4, -⟩ := hA
  obtain ⟨b1, b2, b3, b4, -⟩ := hB
  refine w_ldI rfl rfl ?_
  refine w_call rfl rfl rfl (k_isSheet (by omega)) ?_
  refine w_bEq0 rfl (fun b2 => ?_) (fun b2 => ?_)
  · first
    | (exfalso; omega)
    | (exfalso; omega)
  · first
    | (exfalso; omega)
    | (refine w_ldI rfl rfl ?_
       refine w_call rfl rfl rfl (k_isSheet (by omega)) ?_
       refine w_bNe0 rfl (fun b5 => ?_) (fun b5 => ?_)
       · first
         | (exfalso; omega)
         | (refine w_ldR rfl rfl rfl ?_
            refine w_ldI rfl rfl ?_
            refine w_callV rfl rfl rfl rfl rfl rfl rfl (k_isMissing (by omega) (by show -2147483648 ≤ s 131 2 ∧ s 131 2 < 2147483648; omega)) ?_
            rw [show s 131 ((2 : Int)).toNat = s 160 2 from a1]
            refine w_bNe0 rfl (fun b13 => ?_) (fun b13 => ?_)
            · first
              | (exfalso; omega)
              | (exfalso; omega)
            · first
              | (exfalso; omega)
              | (refine w_ldR rfl rfl rfl ?_
                 refine w_ldI rfl rfl ?_
                 refine w_callV rfl rfl rfl rfl rfl rfl rfl (k_isMissing (by omega) (by show -2147483648 ≤ s 131 1 ∧ s 131 1 < 2147483648; omega)) ?_
                 rw [show s 131 ((1 : Int)).toNat = s 160 1 from b1]
                 refine w_bEq0 rfl (fun b17 => ?_) (fun b17 => ?_)
                 · first
                   | (exfalso; omega)
                   | (refine w_ldR rfl rfl rfl ?_
                      first | refine w_getI rfl rfl rfl rfl rfl ?_ | refine w_getR rfl rfl rfl rfl rfl ?_
                      refine w_ldI rfl rfl ?_
                      refine w_ald rfl rfl rfl (by omega) rfl ?_
                      rw [show s 131 ((2 : Int)).toNat = s 160 2 from a1]
                      refine w_ldR rfl rfl rfl ?_
                      first | refine w_getI rfl rfl rfl rfl rfl ?_ | refine w_getR rfl rfl rfl rfl rfl ?_
                      refine w_ldI rfl rfl ?_
                      refine w_ald rfl rfl rfl (by omega) rfl ?_
                      rw [show s 131 ((1 : Int)).toNat = s 160 1 from b1]
                      refine w_crEq rfl (by omega) (by omega) (fun b30 => ?_) (fun b30 => ?_)
                      · first
                        | (exfalso; omega)
                        | (refine w_ldR rfl rfl rfl ?_
                           first | refine w_getI rfl rfl rfl rfl rfl ?_ | refine w_getR rfl rfl rfl rfl rfl ?_
                           refine w_ldI rfl rfl ?_
                           refine w_rld rfl rfl rfl (by omega) rfl ?_
                           show WP _ _ _ _ (.inr (.inr 142) :: _) _ _
                           refine w_ldI rfl rfl ?_
                           refine w_ldI rfl rfl ?_
                           refine w_callV rfl rfl rfl rfl rfl rfl rfl (k_span142 (by omega) (by omega) (by omega)) ?_
                           refine w_bEq0 rfl (fun b42 => ?_) (fun b42 => ?_)
                           · first
                             | (exfalso; omega)
                             | (refine w_ldR rfl rfl rfl ?_
                                refine w_push rfl ?_
                                refine w_callWI rfl rfl rfl rfl rfl rfl rfl k_error1 (fun v53 s53 p53 => ?_)
                                obtain ⟨rfl, rfl⟩ := p53
                                refine w_retI rfl ?_
                                exact ⟨rfl, rfl⟩)
                           · first
                             | (exfalso; omega)
                             | (refine w_ldR rfl rfl rfl ?_
                                first | refine w_getI rfl rfl rfl rfl rfl ?_ | refine w_getR rfl rfl rfl rfl rfl ?_
                                refine w_ldI rfl rfl ?_
                                refine w_rld rfl rfl rfl (by omega) rfl ?_
                                show WP _ _ _ _ (.inr (.inr 140) :: _) _ _
                                refine w_ldI rfl rfl ?_
                                refine w_ldI rfl rfl ?_
                                refine w_callV rfl rfl rfl rfl rfl rfl rfl (k_span140 (by omega) (by omega) (by omega)) ?_
                                refine w_bNe0 rfl (fun b50 => ?_) (fun b50 => ?_)
                                · first
                                  | (exfalso; omega)
                                  | (exfalso; omega)
                                · first
                                  | (exfalso; omega)
                                  | (refine w_ldR rfl rfl rfl ?_
                                     refine w_push rfl ?_
                                     refine w_callWI rfl rfl rfl rfl rfl rfl rfl k_error1 (fun v53 s53 p53 => ?_)
                                     obtain ⟨rfl, rfl⟩ := p53
                                     refine w_retI rfl ?_
                                     exact ⟨rfl, rfl⟩)))
                      · first
                        | (exfalso; omega)
                        | (exfalso; omega))
                 · first
                   | (exfalso; omega)
                   | (exfalso; omega)))
       · first
         | (exfalso; omega)
         | (exfalso; omega))
theorem k_take142_142 {d : Nat} {s : mSt} {i j n : Int} (hs : 0 ≤ s 142 1 ∧ s 142 1 ≤ 40) (hs2 : 0 ≤ s 142 1 ∧ s 142 1 ≤ 40) (h : 0 ≤ n ∧ 0 ≤ i ∧ 0 ≤ j ∧ n ≤ s 142 1 - i ∧ n ≤ s 142 1 - j) : CV (d + 1) 71 [.inr (.inr 142), .inl j, .inr (.inr 142), .inl i, .inl n] (s) (fun s1 => s1 = ua s 143 (mcpy (s 143) (s 143) i.toNat j.toNat n.toNat)) := by
  refine CV.mk rfl ?_
  show WP (d + 1) 71 0 [some (.inr (.inr 142)), some (.inl j), some (.inr (.inr 142)), some (.inl i), some (.inl n)] [] (encA (s)) _
  refine w_ldR rfl rfl rfl ?_
  refine w_ldI rfl rfl ?_
  refine w_ldI rfl rfl ?_
  refine w_callV rfl rfl rfl rfl rfl rfl rfl (k_span142 (by omega) (by omega) hs2) ?_
  refine w_bEq0 rfl (fun b4 => ?_) (fun b4 => ?_)
  · first
    | (exfalso; omega)
    | (refine w_retV rfl ?_
       first
       | rfl
       | (exfalso; omega))
  · first
    | (exfalso; omega)
    | (refine w_ldR rfl rfl rfl ?_
       refine w_ldI rfl rfl ?_
       refine w_ldI rfl rfl ?_
       refine w_callV rfl rfl rfl rfl rfl rfl rfl (k_span142 (by omega) (by omega) hs) ?_
       refine w_bEq0 rfl (fun b9 => ?_) (fun b9 => ?_)
       · first
         | (exfalso; omega)
         | (refine w_retV rfl ?_
            first
            | rfl
            | (exfalso; omega))
       · first
         | (exfalso; omega)
         | (refine w_ldR rfl rfl rfl ?_
            first | refine w_getI rfl rfl rfl rfl rfl ?_ | refine w_getR rfl rfl rfl rfl rfl ?_
            refine w_ldI rfl rfl ?_
            refine w_ldR rfl rfl rfl ?_
            first | refine w_getI rfl rfl rfl rfl rfl ?_ | refine w_getR rfl rfl rfl rfl rfl ?_
            refine w_ldI rfl rfl ?_
            refine w_ldI rfl rfl ?_
            refine w_cpy rfl rfl rfl rfl rfl (by omega) (by omega) (by omega) (by omega) (by omega) rfl rfl rfl ?_
            refine w_retV rfl ?_
            first
            | rfl
            | (exfalso; omega)))
theorem x_move_y2_2 {d : Nat} {s : mSt} (hI : IvD s) {i j n : Int} (hri : -2147483648 ≤ i ∧ i < 2147483648) (hrj : -2147483648 ≤ j ∧ j < 2147483648) (hrn : -2147483648 ≤ n ∧ n < 2147483648) (hS : IvS s) (hb : ¬ s 160 2 = 0 ∧ ¬ s 160 2 = 0 ∧ s 160 2 = s 160 2) (h : 0 ≤ n ∧ 0 ≤ i ∧ 0 ≤ j ∧ n ≤ s 161 2 - i ∧ n ≤ s 161 2 - j) : CI (d + 2) 132 [.inr (.inr 10), .inl 2, .inl i, .inl 2, .inl j, .inl n] (s) (fun q s1 => q = n ∧ s1 = ua s 143 (mcpy (s 143) (s 143) i.toNat j.toNat n.toNat)) := by
  refine CI.mk rfl ?_
  show WP (d + 2) 132 0 [some (.inr (.inr 10)), some (.inl 2), some (.inl i), some (.inl 2), some (.inl j), some (.inl n)] [] (encA (s)) _
  have hI0 := hI
  obtain ⟨⟨hM, hC, hN⟩, hV, h8⟩ := hI
  have hV0 := hV
  have hM0 := hM
  obtain ⟨vc, vpl, vga, vse, vne, veg, vre, vtu, vta, vwa, v36, v37, v39, v40, v42, v41, v43, v44, vl0, vl1, vlm⟩ := hV
  obtain ⟨hM39, hM40, hM41, hM43, hM44, hM36, hM37, hM38, hMc, hMw, hMp, hMt, hMb⟩ := hM
  have hS9 := hS
  obtain ⟨hS0, hS1, hS2, hS3⟩ := hS
  have hA := hS2
  have hB := hS2
  obtain ⟨a1, a2, a3, a4, -⟩ := hA
  obtain ⟨b1, b2, b3, b4, -⟩ := hB
  refine w_ldI rfl rfl ?_
  refine w_call rfl rfl rfl (k_isSheet (by omega)) ?_
  refine w_bEq0 rfl (fun b2 => ?_) (fun b2 => ?_)
  · first
    | (exfalso; omega)
    | (exfalso; omega)
  · first
    | (exfalso; omega)
    | (refine w_ldI rfl rfl ?_
       refine w_call rfl rfl rfl (k_isSheet (by omega)) ?_
       refine w_bNe0 rfl (fun b5 => ?_) (fun b5 => ?_)
       · first
         | (exfalso; omega)
         | (refine w_ldR rfl rfl rfl ?_
            refine w_ldI rfl rfl ?_
            refine w_callV rfl rfl rfl rfl rfl rfl rfl (k_isMissing (by omega) (by show -2147483648 ≤ s 131 2 ∧ s 131 2 < 2147483648; omega)) ?_
            rw [show s 131 ((2 : Int)).toNat = s 160 2 from a1]
            refine w_bNe0 rfl (fun b13 => ?_) (fun b13 => ?_)
            · first
              | (exfalso; omega)
              | (exfalso; omega)
            · first
              | (exfalso; omega)
              | (refine w_ldR rfl rfl rfl ?_
                 refine w_ldI rfl rfl ?_
                 refine w_callV rfl rfl rfl rfl rfl rfl rfl (k_isMissing (by omega) (by show -2147483648 ≤ s 131 2 ∧ s 131 2 < 2147483648; omega)) ?_
                 rw [show s 131 ((2 : Int)).toNat = s 160 2 from b1]
                 refine w_bEq0 rfl (fun b17 => ?_) (fun b17 => ?_)
                 · first
                   | (exfalso; omega)
                   | (refine w_ldR rfl rfl rfl ?_
                      first | refine w_getI rfl rfl rfl rfl rfl ?_ | refine w_getR rfl rfl rfl rfl rfl ?_
                      refine w_ldI rfl rfl ?_
                      refine w_ald rfl rfl rfl (by omega) rfl ?_
                      rw [show s 131 ((2 : Int)).toNat = s 160 2 from a1]
                      refine w_ldR rfl rfl rfl ?_
                      first | refine w_getI rfl rfl rfl rfl rfl ?_ | refine w_getR rfl rfl rfl rfl rfl ?_
                      refine w_ldI rfl rfl ?_
                      refine w_ald rfl rfl rfl (by omega) rfl ?_
                      rw [show s 131 ((2 : Int)).toNat = s 160 2 from b1]
                      refine w_crEq rfl (by omega) (by omega) (fun b30 => ?_) (fun b30 => ?_)
                      · first
                        | (exfalso; omega)
                        | (refine w_ldR rfl rfl rfl ?_
                           first | refine w_getI rfl rfl rfl rfl rfl ?_ | refine w_getR rfl rfl rfl rfl rfl ?_
                           refine w_ldI rfl rfl ?_
                           refine w_rld rfl rfl rfl (by omega) rfl ?_
                           show WP _ _ _ _ (.inr (.inr 142) :: _) _ _
                           refine w_ldI rfl rfl ?_
                           refine w_ldI rfl rfl ?_
                           refine w_callV rfl rfl rfl rfl rfl rfl rfl (k_span142 (by omega) (by omega) (by omega)) ?_
                           refine w_bEq0 rfl (fun b42 => ?_) (fun b42 => ?_)
                           · first
                             | (exfalso; omega)
                             | (exfalso; omega)
                           · first
                             | (exfalso; omega)
                             | (refine w_ldR rfl rfl rfl ?_
                                first | refine w_getI rfl rfl rfl rfl rfl ?_ | refine w_getR rfl rfl rfl rfl rfl ?_
                                refine w_ldI rfl rfl ?_
                                refine w_rld rfl rfl rfl (by omega) rfl ?_
                                show WP _ _ _ _ (.inr (.inr 142) :: _) _ _
                                refine w_ldI rfl rfl ?_
                                refine w_ldI rfl rfl ?_
                                refine w_callV rfl rfl rfl rfl rfl rfl rfl (k_span142 (by omega) (by omega) (by omega)) ?_
                                refine w_bNe0 rfl (fun b50 => ?_) (fun b50 => ?_)
                                · first
                                  | (exfalso; omega)
                                  | (refine w_ldR rfl rfl rfl ?_
                                     first | refine w_getI rfl rfl rfl rfl rfl ?_ | refine w_getR rfl rfl rfl rfl rfl ?_
                                     refine w_ldI rfl rfl ?_
                                     refine w_rld rfl rfl rfl (by omega) rfl ?_
                                     show WP _ _ _ _ (.inr (.inr 142) :: _) _ _
                                     refine w_ldI rfl rfl ?_
                                     refine w_ldR rfl rfl rfl ?_
                                     first | refine w_getI rfl rfl rfl rfl rfl ?_ | refine w_getR rfl rfl rfl rfl rfl ?_
                                     refine w_ldI rfl rfl ?_
                                     refine w_rld rfl rfl rfl (by omega) rfl ?_
                                     show WP _ _ _ _ (.inr (.inr 142) :: _) _ _
                                     refine w_ldI rfl rfl ?_
                                     refine w_ldI rfl rfl ?_
                                     refine w_callWN rfl rfl rfl rfl rfl rfl rfl (k_take142_142 (by omega) (by omega) (by omega)) (fun s66 p66 => ?_)
                                     refine w_ldI rfl rfl ?_
                                     refine w_retI rfl ?_
                                     exact ⟨rfl, p66⟩)
                                · first
                                  | (exfalso; omega)
                                  | (exfalso; omega)))
                      · first
                        | (exfalso; omega)
                        | (exfalso; omega))
                 · first
                   | (exfalso; omega)
                   | (exfalso; omega)))
       · first
         | (exfalso; omega)
         | (exfalso; omega))
theorem x_move_s2_2 {d : Nat} {s : mSt} (hI : IvD s) {i j n : Int} (hri : -2147483648 ≤ i ∧ i < 2147483648) (hrj : -2147483648 ≤ j ∧ j < 2147483648) (hrn : -2147483648 ≤ n ∧ n < 2147483648) (hS : IvS s) (hb : ¬ s 160 2 = 0 ∧ ¬ s 160 2 = 0 ∧ s 160 2 = s 160 2) (h : ¬ (0 ≤ n ∧ 0 ≤ i ∧ 0 ≤ j ∧ n ≤ s 161 2 - i ∧ n ≤ s 161 2 - j)) : CI (d + 2) 132 [.inr (.inr 10), .inl 2, .inl i, .inl 2, .inl j, .inl n] (s) (fun r s1 => r = -1000000000 - 1 ∧ s1 = us s 132 1 (s 132 1 + 1)) := by
  refine CI.mk rfl ?_
  show WP (d + 2) 132 0 [some (.inr (.inr 10)), some (.inl 2), some (.inl i), some (.inl 2), some (.inl j), some (.inl n)] [] (encA (s)) _
  have hI0 := hI
  obtain ⟨⟨hM, hC, hN⟩, hV, h8⟩ := hI
  have hV0 := hV
  have hM0 := hM
  obtain ⟨vc, vpl, vga, vse, vne, veg, vre, vtu, vta, vwa, v36, v37, v39, v40, v42, v41, v43, v44, vl0, vl1, vlm⟩ := hV
  obtain ⟨hM39, hM40, hM41, hM43, hM44, hM36, hM37, hM38, hMc, hMw, hMp, hMt, hMb⟩ := hM
  have hS9 := hS
  obtain ⟨hS0, hS1, hS2, hS3⟩ := hS
  have hA := hS2
  have hB := hS2
  obtain ⟨a1, a2, a3, a4, -⟩ := hA
  obtain ⟨b1, b2, b3, b4, -⟩ := hB
  refine w_ldI rfl rfl ?_
  refine w_call rfl rfl rfl (k_isSheet (by omega)) ?_
  refine w_bEq0 rfl (fun b2 => ?_) (fun b2 => ?_)
  · first
    | (exfalso; omega)
    | (exfalso; omega)
  · first
    | (exfalso; omega)
    | (refine w_ldI rfl rfl ?_
       refine w_call rfl rfl rfl (k_isSheet (by omega)) ?_
       refine w_bNe0 rfl (fun b5 => ?_) (fun b5 => ?_)
       · first
         | (exfalso; omega)
         | (refine w_ldR rfl rfl rfl ?_
            refine w_ldI rfl rfl ?_
            refine w_callV rfl rfl rfl rfl rfl rfl rfl (k_isMissing (by omega) (by show -2147483648 ≤ s 131 2 ∧ s 131 2 < 2147483648; omega)) ?_
            rw [show s 131 ((2 : Int)).toNat = s 160 2 from a1]
            refine w_bNe0 rfl (fun b13 => ?_) (fun b13 => ?_)
            · first
              | (exfalso; omega)
              | (exfalso; omega)
            · first
              | (exfalso; omega)
              | (refine w_ldR rfl rfl rfl ?_
                 refine w_ldI rfl rfl ?_
                 refine w_callV rfl rfl rfl rfl rfl rfl rfl (k_isMissing (by omega) (by show -2147483648 ≤ s 131 2 ∧ s 131 2 < 2147483648; omega)) ?_
                 rw [show s 131 ((2 : Int)).toNat = s 160 2 from b1]
                 refine w_bEq0 rfl (fun b17 => ?_) (fun b17 => ?_)
                 · first
                   | (exfalso; omega)
                   | (refine w_ldR rfl rfl rfl ?_
                      first | refine w_getI rfl rfl rfl rfl rfl ?_ | refine w_getR rfl rfl rfl rfl rfl ?_
                      refine w_ldI rfl rfl ?_
                      refine w_ald rfl rfl rfl (by omega) rfl ?_
                      rw [show s 131 ((2 : Int)).toNat = s 160 2 from a1]
                      refine w_ldR rfl rfl rfl ?_
                      first | refine w_getI rfl rfl rfl rfl rfl ?_ | refine w_getR rfl rfl rfl rfl rfl ?_
                      refine w_ldI rfl rfl ?_
                      refine w_ald rfl rfl rfl (by omega) rfl ?_
                      rw [show s 131 ((2 : Int)).toNat = s 160 2 from b1]
                      refine w_crEq rfl (by omega) (by omega) (fun b30 => ?_) (fun b30 => ?_)
                      · first
                        | (exfalso; omega)
                        | (refine w_ldR rfl rfl rfl ?_
                           first | refine w_getI rfl rfl rfl rfl rfl ?_ | refine w_getR rfl rfl rfl rfl rfl ?_
                           refine w_ldI rfl rfl ?_
                           refine w_rld rfl rfl rfl (by omega) rfl ?_
                           show WP _ _ _ _ (.inr (.inr 142) :: _) _ _
                           refine w_ldI rfl rfl ?_
                           refine w_ldI rfl rfl ?_
                           refine w_callV rfl rfl rfl rfl rfl rfl rfl (k_span142 (by omega) (by omega) (by omega)) ?_
                           refine w_bEq0 rfl (fun b42 => ?_) (fun b42 => ?_)
                           · first
                             | (exfalso; omega)
                             | (refine w_ldR rfl rfl rfl ?_
                                refine w_push rfl ?_
                                refine w_callWI rfl rfl rfl rfl rfl rfl rfl k_error1 (fun v53 s53 p53 => ?_)
                                obtain ⟨rfl, rfl⟩ := p53
                                refine w_retI rfl ?_
                                exact ⟨rfl, rfl⟩)
                           · first
                             | (exfalso; omega)
                             | (refine w_ldR rfl rfl rfl ?_
                                first | refine w_getI rfl rfl rfl rfl rfl ?_ | refine w_getR rfl rfl rfl rfl rfl ?_
                                refine w_ldI rfl rfl ?_
                                refine w_rld rfl rfl rfl (by omega) rfl ?_
                                show WP _ _ _ _ (.inr (.inr 142) :: _) _ _
                                refine w_ldI rfl rfl ?_
                                refine w_ldI rfl rfl ?_
                                refine w_callV rfl rfl rfl rfl rfl rfl rfl (k_span142 (by omega) (by omega) (by omega)) ?_
                                refine w_bNe0 rfl (fun b50 => ?_) (fun b50 => ?_)
                                · first
                                  | (exfalso; omega)
                                  | (exfalso; omega)
                                · first
                                  | (exfalso; omega)
                                  | (refine w_ldR rfl rfl rfl ?_
                                     refine w_push rfl ?_
                                     refine w_callWI rfl rfl rfl rfl rfl rfl rfl k_error1 (fun v53 s53 p53 => ?_)
                                     obtain ⟨rfl, rfl⟩ := p53
                                     refine w_retI rfl ?_
                                     exact ⟨rfl, rfl⟩)))
                      · first
                        | (exfalso; omega)
                        | (exfalso; omega))
                 · first
                   | (exfalso; omega)
                   | (exfalso; omega)))
       · first
         | (exfalso; omega)
         | (exfalso; omega))
theorem k_take144_142 {d : Nat} {s : mSt} {i j n : Int} (hs : 0 ≤ s 142 1 ∧ s 142 1 ≤ 40) (hs2 : 0 ≤ s 144 1 ∧ s 144 1 ≤ 40) (h : 0 ≤ n ∧ 0 ≤ i ∧ 0 ≤ j ∧ n ≤ s 142 1 - i ∧ n ≤ s 144 1 - j) : CV (d + 1) 71 [.inr (.inr 144), .inl j, .inr (.inr 142), .inl i, .inl n] (s) (fun s1 => s1 = ua s 145 (mcpy (s 143) (s 145) i.toNat j.toNat n.toNat)) := by
  refine CV.mk rfl ?_
  show WP (d + 1) 71 0 [some (.inr (.inr 144)), some (.inl j), some (.inr (.inr 142)), some (.inl i), some (.inl n)] [] (encA (s)) _
  refine w_ldR rfl rfl rfl ?_
  refine w_ldI rfl rfl ?_
  refine w_ldI rfl rfl ?_
  refine w_callV rfl rfl rfl rfl rfl rfl rfl (k_span144 (by omega) (by omega) hs2) ?_
  refine w_bEq0 rfl (fun b4 => ?_) (fun b4 => ?_)
  · first
    | (exfalso; omega)
    | (refine w_retV rfl ?_
       first
       | rfl
       | (exfalso; omega))
  · first
    | (exfalso; omega)
    | (refine w_ldR rfl rfl rfl ?_
       refine w_ldI rfl rfl ?_
       refine w_ldI rfl rfl ?_
       refine w_callV rfl rfl rfl rfl rfl rfl rfl (k_span142 (by omega) (by omega) hs) ?_
       refine w_bEq0 rfl (fun b9 => ?_) (fun b9 => ?_)
       · first
         | (exfalso; omega)
         | (refine w_retV rfl ?_
            first
            | rfl
            | (exfalso; omega))
       · first
         | (exfalso; omega)
         | (refine w_ldR rfl rfl rfl ?_
            first | refine w_getI rfl rfl rfl rfl rfl ?_ | refine w_getR rfl rfl rfl rfl rfl ?_
            refine w_ldI rfl rfl ?_
            refine w_ldR rfl rfl rfl ?_
            first | refine w_getI rfl rfl rfl rfl rfl ?_ | refine w_getR rfl rfl rfl rfl rfl ?_
            refine w_ldI rfl rfl ?_
            refine w_ldI rfl rfl ?_
            refine w_cpy rfl rfl rfl rfl rfl (by omega) (by omega) (by omega) (by omega) (by omega) rfl rfl rfl ?_
            refine w_retV rfl ?_
            first
            | rfl
            | (exfalso; omega)))
theorem x_move_y2_3 {d : Nat} {s : mSt} (hI : IvD s) {i j n : Int} (hri : -2147483648 ≤ i ∧ i < 2147483648) (hrj : -2147483648 ≤ j ∧ j < 2147483648) (hrn : -2147483648 ≤ n ∧ n < 2147483648) (hS : IvS s) (hb : ¬ s 160 2 = 0 ∧ ¬ s 160 3 = 0 ∧ s 160 2 = s 160 3) (h : 0 ≤ n ∧ 0 ≤ i ∧ 0 ≤ j ∧ n ≤ s 161 2 - i ∧ n ≤ s 161 3 - j) : CI (d + 2) 132 [.inr (.inr 10), .inl 2, .inl i, .inl 3, .inl j, .inl n] (s) (fun q s1 => q = n ∧ s1 = ua s 145 (mcpy (s 143) (s 145) i.toNat j.toNat n.toNat)) := by
  refine CI.mk rfl ?_
  show WP (d + 2) 132 0 [some (.inr (.inr 10)), some (.inl 2), some (.inl i), some (.inl 3), some (.inl j), some (.inl n)] [] (encA (s)) _
  have hI0 := hI
  obtain ⟨⟨hM, hC, hN⟩, hV, h8⟩ := hI
  have hV0 := hV
  have hM0 := hM
  obtain ⟨vc, vpl, vga, vse, vne, veg, vre, vtu, vta, vwa, v36, v37, v39, v40, v42, v41, v43, v44, vl0, vl1, vlm⟩ := hV
  obtain ⟨hM39, hM40, hM41, hM43, hM44, hM36, hM37, hM38, hMc, hMw, hMp, hMt, hMb⟩ := hM
  have hS9 := hS
  obtain ⟨hS0, hS1, hS2, hS3⟩ := hS
  have hA := hS2
  have hB := hS3
  obtain ⟨a1, a2, a3, a4, -⟩ := hA
  obtain ⟨b1, b2, b3, b4, -⟩ := hB
  refine w_ldI rfl rfl ?_
  refine w_call rfl rfl rfl (k_isSheet (by omega)) ?_
  refine w_bEq0 rfl (fun b2 => ?_) (fun b2 => ?_)
  · first
    | (exfalso; omega)
    | (exfalso; omega)
  · first
    | (exfalso; omega)
    | (refine w_ldI rfl rfl ?_
       refine w_call rfl rfl rfl (k_isSheet (by omega)) ?_
       refine w_bNe0 rfl (fun b5 => ?_) (fun b5 => ?_)
       · first
         | (exfalso; omega)
         | (refine w_ldR rfl rfl rfl ?_
            refine w_ldI rfl rfl ?_
            refine w_callV rfl rfl rfl rfl rfl rfl rfl (k_isMissing (by omega) (by show -2147483648 ≤ s 131 2 ∧ s 131 2 < 2147483648; omega)) ?_
            rw [show s 131 ((2 : Int)).toNat = s 160 2 from a1]
            refine w_bNe0 rfl (fun b13 => ?_) (fun b13 => ?_)
            · first
              | (exfalso; omega)
              | (exfalso; omega)
            · first
              | (exfalso; omega)
              | (refine w_ldR rfl rfl rfl ?_
                 refine w_ldI rfl rfl ?_
                 refine w_callV rfl rfl rfl rfl rfl rfl rfl (k_isMissing (by omega) (by show -2147483648 ≤ s 131 3 ∧ s 131 3 < 2147483648; omega)) ?_
                 rw [show s 131 ((3 : Int)).toNat = s 160 3 from b1]
                 refine w_bEq0 rfl (fun b17 => ?_) (fun b17 => ?_)
                 · first
                   | (exfalso; omega)
                   | (refine w_ldR rfl rfl rfl ?_
                      first | refine w_getI rfl rfl rfl rfl rfl ?_ | refine w_getR rfl rfl rfl rfl rfl ?_
                      refine w_ldI rfl rfl ?_
                      refine w_ald rfl rfl rfl (by omega) rfl ?_
                      rw [show s 131 ((2 : Int)).toNat = s 160 2 from a1]
                      refine w_ldR rfl rfl rfl ?_
                      first | refine w_getI rfl rfl rfl rfl rfl ?_ | refine w_getR rfl rfl rfl rfl rfl ?_
                      refine w_ldI rfl rfl ?_
                      refine w_ald rfl rfl rfl (by omega) rfl ?_
                      rw [show s 131 ((3 : Int)).toNat = s 160 3 from b1]
                      refine w_crEq rfl (by omega) (by omega) (fun b30 => ?_) (fun b30 => ?_)
                      · first
                        | (exfalso; omega)
                        | (refine w_ldR rfl rfl rfl ?_
                           first | refine w_getI rfl rfl rfl rfl rfl ?_ | refine w_getR rfl rfl rfl rfl rfl ?_
                           refine w_ldI rfl rfl ?_
                           refine w_rld rfl rfl rfl (by omega) rfl ?_
                           show WP _ _ _ _ (.inr (.inr 142) :: _) _ _
                           refine w_ldI rfl rfl ?_
                           refine w_ldI rfl rfl ?_
                           refine w_callV rfl rfl rfl rfl rfl rfl rfl (k_span142 (by omega) (by omega) (by omega)) ?_
                           refine w_bEq0 rfl (fun b42 => ?_) (fun b42 => ?_)
                           · first
                             | (exfalso; omega)
                             | (exfalso; omega)
                           · first
                             | (exfalso; omega)
                             | (refine w_ldR rfl rfl rfl ?_
                                first | refine w_getI rfl rfl rfl rfl rfl ?_ | refine w_getR rfl rfl rfl rfl rfl ?_
                                refine w_ldI rfl rfl ?_
                                refine w_rld rfl rfl rfl (by omega) rfl ?_
                                show WP _ _ _ _ (.inr (.inr 144) :: _) _ _
                                refine w_ldI rfl rfl ?_
                                refine w_ldI rfl rfl ?_
                                refine w_callV rfl rfl rfl rfl rfl rfl rfl (k_span144 (by omega) (by omega) (by omega)) ?_
                                refine w_bNe0 rfl (fun b50 => ?_) (fun b50 => ?_)
                                · first
                                  | (exfalso; omega)
                                  | (refine w_ldR rfl rfl rfl ?_
                                     first | refine w_getI rfl rfl rfl rfl rfl ?_ | refine w_getR rfl rfl rfl rfl rfl ?_
                                     refine w_ldI rfl rfl ?_
                                     refine w_rld rfl rfl rfl (by omega) rfl ?_
                                     show WP _ _ _ _ (.inr (.inr 144) :: _) _ _
                                     refine w_ldI rfl rfl ?_
                                     refine w_ldR rfl rfl rfl ?_
                                     first | refine w_getI rfl rfl rfl rfl rfl ?_ | refine w_getR rfl rfl rfl rfl rfl ?_
                                     refine w_ldI rfl rfl ?_
                                     refine w_rld rfl rfl rfl (by omega) rfl ?_
                                     show WP _ _ _ _ (.inr (.inr 142) :: _) _ _
                                     refine w_ldI rfl rfl ?_
                                     refine w_ldI rfl rfl ?_
                                     refine w_callWN rfl rfl rfl rfl rfl rfl rfl (k_take144_142 (by omega) (by omega) (by omega)) (fun s66 p66 => ?_)
                                     refine w_ldI rfl rfl ?_
                                     refine w_retI rfl ?_
                                     exact ⟨rfl, p66⟩)
                                · first
                                  | (exfalso; omega)
                                  | (exfalso; omega)))
                      · first
                        | (exfalso; omega)
                        | (exfalso; omega))
                 · first
                   | (exfalso; omega)
                   | (exfalso; omega)))
       · first
         | (exfalso; omega)
         | (exfalso; omega))
theorem x_move_s2_3 {d : Nat} {s : mSt} (hI : IvD s) {i j n : Int} (hri : -2147483648 ≤ i ∧ i < 2147483648) (hrj : -2147483648 ≤ j ∧ j < 2147483648) (hrn : -2147483648 ≤ n ∧ n < 2147483648) (hS : IvS s) (hb : ¬ s 160 2 = 0 ∧ ¬ s 160 3 = 0 ∧ s 160 2 = s 160 3) (h : ¬ (0 ≤ n ∧ 0 ≤ i ∧ 0 ≤ j ∧ n ≤ s 161 2 - i ∧ n ≤ s 161 3 - j)) : CI (d + 2) 132 [.inr (.inr 10), .inl 2, .inl i, .inl 3, .inl j, .inl n] (s) (fun r s1 => r = -1000000000 - 1 ∧ s1 = us s 132 1 (s 132 1 + 1)) := by
  refine CI.mk rfl ?_
  show WP (d + 2) 132 0 [some (.inr (.inr 10)), some (.inl 2), some (.inl i), some (.inl 3), some (.inl j), some (.inl n)] [] (encA (s)) _
  have hI0 := hI
  obtain ⟨⟨hM, hC, hN⟩, hV, h8⟩ := hI
  have hV0 := hV
  have hM0 := hM
  obtain ⟨vc, vpl, vga, vse, vne, veg, vre, vtu, vta, vwa, v36, v37, v39, v40, v42, v41, v43, v44, vl0, vl1, vlm⟩ := hV
  obtain ⟨hM39, hM40, hM41, hM43, hM44, hM36, hM37, hM38, hMc, hMw, hMp, hMt, hMb⟩ := hM
  have hS9 := hS
  obtain ⟨hS0, hS1, hS2, hS3⟩ := hS
  have hA := hS2
  have hB := hS3
  obtain ⟨a1, a2, a3, a4, -⟩ := hA
  obtain ⟨b1, b2, b3, b4, -⟩ := hB
  refine w_ldI rfl rfl ?_
  refine w_call rfl rfl rfl (k_isSheet (by omega)) ?_
  refine w_bEq0 rfl (fun b2 => ?_) (fun b2 => ?_)
  · first
    | (exfalso; omega)
    | (exfalso; omega)
  · first
    | (exfalso; omega)
    | (refine w_ldI rfl rfl ?_
       refine w_call rfl rfl rfl (k_isSheet (by omega)) ?_
       refine w_bNe0 rfl (fun b5 => ?_) (fun b5 => ?_)
       · first
         | (exfalso; omega)
         | (refine w_ldR rfl rfl rfl ?_
            refine w_ldI rfl rfl ?_
            refine w_callV rfl rfl rfl rfl rfl rfl rfl (k_isMissing (by omega) (by show -2147483648 ≤ s 131 2 ∧ s 131 2 < 2147483648; omega)) ?_
            rw [show s 131 ((2 : Int)).toNat = s 160 2 from a1]
            refine w_bNe0 rfl (fun b13 => ?_) (fun b13 => ?_)
            · first
              | (exfalso; omega)
              | (exfalso; omega)
            · first
              | (exfalso; omega)
              | (refine w_ldR rfl rfl rfl ?_
                 refine w_ldI rfl rfl ?_
                 refine w_callV rfl rfl rfl rfl rfl rfl rfl (k_isMissing (by omega) (by show -2147483648 ≤ s 131 3 ∧ s 131 3 < 2147483648; omega)) ?_
                 rw [show s 131 ((3 : Int)).toNat = s 160 3 from b1]
                 refine w_bEq0 rfl (fun b17 => ?_) (fun b17 => ?_)
                 · first
                   | (exfalso; omega)
                   | (refine w_ldR rfl rfl rfl ?_
                      first | refine w_getI rfl rfl rfl rfl rfl ?_ | refine w_getR rfl rfl rfl rfl rfl ?_
                      refine w_ldI rfl rfl ?_
                      refine w_ald rfl rfl rfl (by omega) rfl ?_
                      rw [show s 131 ((2 : Int)).toNat = s 160 2 from a1]
                      refine w_ldR rfl rfl rfl ?_
                      first | refine w_getI rfl rfl rfl rfl rfl ?_ | refine w_getR rfl rfl rfl rfl rfl ?_
                      refine w_ldI rfl rfl ?_
                      refine w_ald rfl rfl rfl (by omega) rfl ?_
                      rw [show s 131 ((3 : Int)).toNat = s 160 3 from b1]
                      refine w_crEq rfl (by omega) (by omega) (fun b30 => ?_) (fun b30 => ?_)
                      · first
                        | (exfalso; omega)
                        | (refine w_ldR rfl rfl rfl ?_
                           first | refine w_getI rfl rfl rfl rfl rfl ?_ | refine w_getR rfl rfl rfl rfl rfl ?_
                           refine w_ldI rfl rfl ?_
                           refine w_rld rfl rfl rfl (by omega) rfl ?_
                           show WP _ _ _ _ (.inr (.inr 142) :: _) _ _
                           refine w_ldI rfl rfl ?_
                           refine w_ldI rfl rfl ?_
                           refine w_callV rfl rfl rfl rfl rfl rfl rfl (k_span142 (by omega) (by omega) (by omega)) ?_
                           refine w_bEq0 rfl (fun b42 => ?_) (fun b42 => ?_)
                           · first
                             | (exfalso; omega)
                             | (refine w_ldR rfl rfl rfl ?_
                                refine w_push rfl ?_
                                refine w_callWI rfl rfl rfl rfl rfl rfl rfl k_error1 (fun v53 s53 p53 => ?_)
                                obtain ⟨rfl, rfl⟩ := p53
                                refine w_retI rfl ?_
                                exact ⟨rfl, rfl⟩)
                           · first
                             | (exfalso; omega)
                             | (refine w_ldR rfl rfl rfl ?_
                                first | refine w_getI rfl rfl rfl rfl rfl ?_ | refine w_getR rfl rfl rfl rfl rfl ?_
                                refine w_ldI rfl rfl ?_
                                refine w_rld rfl rfl rfl (by omega) rfl ?_
                                show WP _ _ _ _ (.inr (.inr 144) :: _) _ _
                                refine w_ldI rfl rfl ?_
                                refine w_ldI rfl rfl ?_
                                refine w_callV rfl rfl rfl rfl rfl rfl rfl (k_span144 (by omega) (by omega) (by omega)) ?_
                                refine w_bNe0 rfl (fun b50 => ?_) (fun b50 => ?_)
                                · first
                                  | (exfalso; omega)
                                  | (exfalso; omega)
                                · first
                                  | (exfalso; omega)
                                  | (refine w_ldR rfl rfl rfl ?_
                                     refine w_push rfl ?_
                                     refine w_callWI rfl rfl rfl rfl rfl rfl rfl k_error1 (fun v53 s53 p53 => ?_)
                                     obtain ⟨rfl, rfl⟩ := p53
                                     refine w_retI rfl ?_
                                     exact ⟨rfl, rfl⟩)))
                      · first
                        | (exfalso; omega)
                        | (exfalso; omega))
                 · first
                   | (exfalso; omega)
                   | (exfalso; omega)))
       · first
         | (exfalso; omega)
         | (exfalso; omega))
theorem k_take138_144 {d : Nat} {s : mSt} {i j n : Int} (hs : 0 ≤ s 144 1 ∧ s 144 1 ≤ 40) (hs2 : 0 ≤ s 138 1 ∧ s 138 1 ≤ 40) (h : 0 ≤ n ∧ 0 ≤ i ∧ 0 ≤ j ∧ n ≤ s 144 1 - i ∧ n ≤ s 138 1 - j) : CV (d + 1) 71 [.inr (.inr 138), .inl j, .inr (.inr 144), .inl i, .inl n] (s) (fun s1 => s1 = ua s 139 (mcpy (s 145) (s 139) i.toNat j.toNat n.toNat)) := by
  refine CV.mk rfl ?_
  show WP (d + 1) 71 0 [some (.inr (.inr 138)), some (.inl j), some (.inr (.inr 144)), some (.inl i), some (.inl n)] [] (encA (s)) _
  refine w_ldR rfl rfl rfl ?_
  refine w_ldI rfl rfl ?_
  refine w_ldI rfl rfl ?_
  refine w_callV rfl rfl rfl rfl rfl rfl rfl (k_span138 (by omega) (by omega) hs2) ?_
  refine w_bEq0 rfl (fun b4 => ?_) (fun b4 => ?_)
  · first
    | (exfalso; omega)
    | (refine w_retV rfl ?_
       first
       | rfl
       | (exfalso; omega))
  · first
    | (exfalso; omega)
    | (refine w_ldR rfl rfl rfl ?_
       refine w_ldI rfl rfl ?_
       refine w_ldI rfl rfl ?_
       refine w_callV rfl rfl rfl rfl rfl rfl rfl (k_span144 (by omega) (by omega) hs) ?_
       refine w_bEq0 rfl (fun b9 => ?_) (fun b9 => ?_)
       · first
         | (exfalso; omega)
         | (refine w_retV rfl ?_
            first
            | rfl
            | (exfalso; omega))
       · first
         | (exfalso; omega)
         | (refine w_ldR rfl rfl rfl ?_
            first | refine w_getI rfl rfl rfl rfl rfl ?_ | refine w_getR rfl rfl rfl rfl rfl ?_
            refine w_ldI rfl rfl ?_
            refine w_ldR rfl rfl rfl ?_
            first | refine w_getI rfl rfl rfl rfl rfl ?_ | refine w_getR rfl rfl rfl rfl rfl ?_
            refine w_ldI rfl rfl ?_
            refine w_ldI rfl rfl ?_
            refine w_cpy rfl rfl rfl rfl rfl (by omega) (by omega) (by omega) (by omega) (by omega) rfl rfl rfl ?_
            refine w_retV rfl ?_
            first
            | rfl
            | (exfalso; omega)))
theorem x_move_y3_0 {d : Nat} {s : mSt} (hI : IvD s) {i j n : Int} (hri : -2147483648 ≤ i ∧ i < 2147483648) (hrj : -2147483648 ≤ j ∧ j < 2147483648) (hrn : -2147483648 ≤ n ∧ n < 2147483648) (hS : IvS s) (hb : ¬ s 160 3 = 0 ∧ ¬ s 160 0 = 0 ∧ s 160 3 = s 160 0) (h : 0 ≤ n ∧ 0 ≤ i ∧ 0 ≤ j ∧ n ≤ s 161 3 - i ∧ n ≤ s 161 0 - j) : CI (d + 2) 132 [.inr (.inr 10), .inl 3, .inl i, .inl 0, .inl j, .inl n] (s) (fun q s1 => q = n ∧ s1 = ua s 139 (mcpy (s 145) (s 139) i.toNat j.toNat n.toNat)) := by
  refine CI.mk rfl ?_
  show WP (d + 2) 132 0 [some (.inr (.inr 10)), some (.inl 3), some (.inl i), some (.inl 0), some (.inl j), some (.inl n)] [] (encA (s)) _
  have hI0 := hI
  obtain ⟨⟨hM, hC, hN⟩, hV, h8⟩ := hI
  have hV0 := hV
  have hM0 := hM
  obtain ⟨vc, vpl, vga, vse, vne, veg, vre, vtu, vta, vwa, v36, v37, v39, v40, v42, v41, v43, v44, vl0, vl1, vlm⟩ := hV
  obtain ⟨hM39, hM40, hM41, hM43, hM44, hM36, hM37, hM38, hMc, hMw, hMp, hMt, hMb⟩ := hM
  have hS9 := hS
  obtain ⟨hS0, hS1, hS2, hS3⟩ := hS
  have hA := hS3
  have hB := hS0
  obtain ⟨a1, a2, a3, a4, -⟩ := hA
  obtain ⟨b1, b2, b3, b4, -⟩ := hB
  refine w_ldI rfl rfl ?_
  refine w_call rfl rfl rfl (k_isSheet (by omega)) ?_
  refine w_bEq0 rfl (fun b2 => ?_) (fun b2 => ?_)
  · first
    | (exfalso; omega)
    | (exfalso; omega)
  · first
    | (exfalso; omega)
    | (refine w_ldI rfl rfl ?_
       refine w_call rfl rfl rfl (k_isSheet (by omega)) ?_
       refine w_bNe0 rfl (fun b5 => ?_) (fun b5 => ?_)
       · first
         | (exfalso; omega)
         | (refine w_ldR rfl rfl rfl ?_
            refine w_ldI rfl rfl ?_
            refine w_callV rfl rfl rfl rfl rfl rfl rfl (k_isMissing (by omega) (by show -2147483648 ≤ s 131 3 ∧ s 131 3 < 2147483648; omega)) ?_
            rw [show s 131 ((3 : Int)).toNat = s 160 3 from a1]
            refine w_bNe0 rfl (fun b13 => ?_) (fun b13 => ?_)
            · first
              | (exfalso; omega)
              | (exfalso; omega)
            · first
              | (exfalso; omega)
              | (refine w_ldR rfl rfl rfl ?_
                 refine w_ldI rfl rfl ?_
                 refine w_callV rfl rfl rfl rfl rfl rfl rfl (k_isMissing (by omega) (by show -2147483648 ≤ s 131 0 ∧ s 131 0 < 2147483648; omega)) ?_
                 rw [show s 131 ((0 : Int)).toNat = s 160 0 from b1]
                 refine w_bEq0 rfl (fun b17 => ?_) (fun b17 => ?_)
                 · first
                   | (exfalso; omega)
                   | (refine w_ldR rfl rfl rfl ?_
                      first | refine w_getI rfl rfl rfl rfl rfl ?_ | refine w_getR rfl rfl rfl rfl rfl ?_
                      refine w_ldI rfl rfl ?_
                      refine w_ald rfl rfl rfl (by omega) rfl ?_
                      rw [show s 131 ((3 : Int)).toNat = s 160 3 from a1]
                      refine w_ldR rfl rfl rfl ?_
                      first | refine w_getI rfl rfl rfl rfl rfl ?_ | refine w_getR rfl rfl rfl rfl rfl ?_
                      refine w_ldI rfl rfl ?_
                      refine w_ald rfl rfl rfl (by omega) rfl ?_
                      rw [show s 131 ((0 : Int)).toNat = s 160 0 from b1]
                      refine w_crEq rfl (by omega) (by omega) (fun b30 => ?_) (fun b30 => ?_)
                      · first
                        | (exfalso; omega)
                        | (refine w_ldR rfl rfl rfl ?_
                           first | refine w_getI rfl rfl rfl rfl rfl ?_ | refine w_getR rfl rfl rfl rfl rfl ?_
                           refine w_ldI rfl rfl ?_
                           refine w_rld rfl rfl rfl (by omega) rfl ?_
                           show WP _ _ _ _ (.inr (.inr 144) :: _) _ _
                           refine w_ldI rfl rfl ?_
                           refine w_ldI rfl rfl ?_
                           refine w_callV rfl rfl rfl rfl rfl rfl rfl (k_span144 (by omega) (by omega) (by omega)) ?_
                           refine w_bEq0 rfl (fun b42 => ?_) (fun b42 => ?_)
                           · first
                             | (exfalso; omega)
                             | (exfalso; omega)
                           · first
                             | (exfalso; omega)
                             | (refine w_ldR rfl rfl rfl ?_
                                first | refine w_getI rfl rfl rfl rfl rfl ?_ | refine w_getR rfl rfl rfl rfl rfl ?_
                                refine w_ldI rfl rfl ?_
                                refine w_rld rfl rfl rfl (by omega) rfl ?_
                                show WP _ _ _ _ (.inr (.inr 138) :: _) _ _
                                refine w_ldI rfl rfl ?_
                                refine w_ldI rfl rfl ?_
                                refine w_callV rfl rfl rfl rfl rfl rfl rfl (k_span138 (by omega) (by omega) (by omega)) ?_
                                refine w_bNe0 rfl (fun b50 => ?_) (fun b50 => ?_)
                                · first
                                  | (exfalso; omega)
                                  | (refine w_ldR rfl rfl rfl ?_
                                     first | refine w_getI rfl rfl rfl rfl rfl ?_ | refine w_getR rfl rfl rfl rfl rfl ?_
                                     refine w_ldI rfl rfl ?_
                                     refine w_rld rfl rfl rfl (by omega) rfl ?_
                                     show WP _ _ _ _ (.inr (.inr 138) :: _) _ _
                                     refine w_ldI rfl rfl ?_
                                     refine w_ldR rfl rfl rfl ?_
                                     first | refine w_getI rfl rfl rfl rfl rfl ?_ | refine w_getR rfl rfl rfl rfl rfl ?_
                                     refine w_ldI rfl rfl ?_
                                     refine w_rld rfl rfl rfl (by omega) rfl ?_
                                     show WP _ _ _ _ (.inr (.inr 144) :: _) _ _
                                     refine w_ldI rfl rfl ?_
                                     refine w_ldI rfl rfl ?_
                                     refine w_callWN rfl rfl rfl rfl rfl rfl rfl (k_take138_144 (by omega) (by omega) (by omega)) (fun s66 p66 => ?_)
                                     refine w_ldI rfl rfl ?_
                                     refine w_retI rfl ?_
                                     exact ⟨rfl, p66⟩)
                                · first
                                  | (exfalso; omega)
                                  | (exfalso; omega)))
                      · first
                        | (exfalso; omega)
                        | (exfalso; omega))
                 · first
                   | (exfalso; omega)
                   | (exfalso; omega)))
       · first
         | (exfalso; omega)
         | (exfalso; omega))
theorem x_move_s3_0 {d : Nat} {s : mSt} (hI : IvD s) {i j n : Int} (hri : -2147483648 ≤ i ∧ i < 2147483648) (hrj : -2147483648 ≤ j ∧ j < 2147483648) (hrn : -2147483648 ≤ n ∧ n < 2147483648) (hS : IvS s) (hb : ¬ s 160 3 = 0 ∧ ¬ s 160 0 = 0 ∧ s 160 3 = s 160 0) (h : ¬ (0 ≤ n ∧ 0 ≤ i ∧ 0 ≤ j ∧ n ≤ s 161 3 - i ∧ n ≤ s 161 0 - j)) : CI (d + 2) 132 [.inr (.inr 10), .inl 3, .inl i, .inl 0, .inl j, .inl n] (s) (fun r s1 => r = -1000000000 - 1 ∧ s1 = us s 132 1 (s 132 1 + 1)) := by
  refine CI.mk rfl ?_
  show WP (d + 2) 132 0 [some (.inr (.inr 10)), some (.inl 3), some (.inl i), some (.inl 0), some (.inl j), some (.inl n)] [] (encA (s)) _
  have hI0 := hI
  obtain ⟨⟨hM, hC, hN⟩, hV, h8⟩ := hI
  have hV0 := hV
  have hM0 := hM
  obtain ⟨vc, vpl, vga, vse, vne, veg, vre, vtu, vta, vwa, v36, v37, v39, v40, v42, v41, v43, v44, vl0, vl1, vlm⟩ := hV
  obtain ⟨hM39, hM40, hM41, hM43, hM44, hM36, hM37, hM38, hMc, hMw, hMp, hMt, hMb⟩ := hM
  have hS9 := hS
  obtain ⟨hS0, hS1, hS2, hS3⟩ := hS
  have hA := hS3
  have hB := hS0
  obtain ⟨a1, a2, a3, a4, -⟩ := hA
  obtain ⟨b1, b2, b3, b4, -⟩ := hB
  refine w_ldI rfl rfl ?_
  refine w_call rfl rfl rfl (k_isSheet (by omega)) ?_
  refine w_bEq0 rfl (fun b2 => ?_) (fun b2 => ?_)
  · first
    | (exfalso; omega)
    | (exfalso; omega)
  · first
    | (exfalso; omega)
    | (refine w_ldI rfl rfl ?_
       refine w_call rfl rfl rfl (k_isSheet (by omega)) ?_
       refine w_bNe0 rfl (fun b5 => ?_) (fun b5 => ?_)
       · first
         | (exfalso; omega)
         | (refine w_ldR rfl rfl rfl ?_
            refine w_ldI rfl rfl ?_
            refine w_callV rfl rfl rfl rfl rfl rfl rfl (k_isMissing (by omega) (by show -2147483648 ≤ s 131 3 ∧ s 131 3 < 2147483648; omega)) ?_
            rw [show s 131 ((3 : Int)).toNat = s 160 3 from a1]
            refine w_bNe0 rfl (fun b13 => ?_) (fun b13 => ?_)
            · first
              | (exfalso; omega)
              | (exfalso; omega)
            · first
              | (exfalso; omega)
              | (refine w_ldR rfl rfl rfl ?_
                 refine w_ldI rfl rfl ?_
                 refine w_callV rfl rfl rfl rfl rfl rfl rfl (k_isMissing (by omega) (by show -2147483648 ≤ s 131 0 ∧ s 131 0 < 2147483648; omega)) ?_
                 rw [show s 131 ((0 : Int)).toNat = s 160 0 from b1]
                 refine w_bEq0 rfl (fun b17 => ?_) (fun b17 => ?_)
                 · first
                   | (exfalso; omega)
                   | (refine w_ldR rfl rfl rfl ?_
                      first | refine w_getI rfl rfl rfl rfl rfl ?_ | refine w_getR rfl rfl rfl rfl rfl ?_
                      refine w_ldI rfl rfl ?_
                      refine w_ald rfl rfl rfl (by omega) rfl ?_
                      rw [show s 131 ((3 : Int)).toNat = s 160 3 from a1]
                      refine w_ldR rfl rfl rfl ?_
                      first | refine w_getI rfl rfl rfl rfl rfl ?_ | refine w_getR rfl rfl rfl rfl rfl ?_
                      refine w_ldI rfl rfl ?_
                      refine w_ald rfl rfl rfl (by omega) rfl ?_
                      rw [show s 131 ((0 : Int)).toNat = s 160 0 from b1]
                      refine w_crEq rfl (by omega) (by omega) (fun b30 => ?_) (fun b30 => ?_)
                      · first
                        | (exfalso; omega)
                        | (refine w_ldR rfl rfl rfl ?_
                           first | refine w_getI rfl rfl rfl rfl rfl ?_ | refine w_getR rfl rfl rfl rfl rfl ?_
                           refine w_ldI rfl rfl ?_
                           refine w_rld rfl rfl rfl (by omega) rfl ?_
                           show WP _ _ _ _ (.inr (.inr 144) :: _) _ _
                           refine w_ldI rfl rfl ?_
                           refine w_ldI rfl rfl ?_
                           refine w_callV rfl rfl rfl rfl rfl rfl rfl (k_span144 (by omega) (by omega) (by omega)) ?_
                           refine w_bEq0 rfl (fun b42 => ?_) (fun b42 => ?_)
                           · first
                             | (exfalso; omega)
                             | (refine w_ldR rfl rfl rfl ?_
                                refine w_push rfl ?_
                                refine w_callWI rfl rfl rfl rfl rfl rfl rfl k_error1 (fun v53 s53 p53 => ?_)
                                obtain ⟨rfl, rfl⟩ := p53
                                refine w_retI rfl ?_
                                exact ⟨rfl, rfl⟩)
                           · first
                             | (exfalso; omega)
                             | (refine w_ldR rfl rfl rfl ?_
                                first | refine w_getI rfl rfl rfl rfl rfl ?_ | refine w_getR rfl rfl rfl rfl rfl ?_
                                refine w_ldI rfl rfl ?_
                                refine w_rld rfl rfl rfl (by omega) rfl ?_
                                show WP _ _ _ _ (.inr (.inr 138) :: _) _ _
                                refine w_ldI rfl rfl ?_
                                refine w_ldI rfl rfl ?_
                                refine w_callV rfl rfl rfl rfl rfl rfl rfl (k_span138 (by omega) (by omega) (by omega)) ?_
                                refine w_bNe0 rfl (fun b50 => ?_) (fun b50 => ?_)
                                · first
                                  | (exfalso; omega)
                                  | (exfalso; omega)
                                · first
                                  | (exfalso; omega)
                                  | (refine w_ldR rfl rfl rfl ?_
                                     refine w_push rfl ?_
                                     refine w_callWI rfl rfl rfl rfl rfl rfl rfl k_error1 (fun v53 s53 p53 => ?_)
                                     obtain ⟨rfl, rfl⟩ := p53
                                     refine w_retI rfl ?_
                                     exact ⟨rfl, rfl⟩)))
                      · first
                        | (exfalso; omega)
                        | (exfalso; omega))
                 · first
                   | (exfalso; omega)
                   | (exfalso; omega)))
       · first
         | (exfalso; omega)
         | (exfalso; omega))
theorem k_take140_144 {d : Nat} {s : mSt} {i j n : Int} (hs : 0 ≤ s 144 1 ∧ s 144 1 ≤ 40) (hs2 : 0 ≤ s 140 1 ∧ s 140 1 ≤ 40) (h : 0 ≤ n ∧ 0 ≤ i ∧ 0 ≤ j ∧ n ≤ s 144 1 - i ∧ n ≤ s 140 1 - j) : CV (d + 1) 71 [.inr (.inr 140), .inl j, .inr (.inr 144), .inl i, .inl n] (s) (fun s1 => s1 = ua s 141 (mcpy (s 145) (s 141) i.toNat j.toNat n.toNat)) := by
  refine CV.mk rfl ?_
  show WP (d + 1) 71 0 [some (.inr (.inr 140)), some (.inl j), some (.inr (.inr 144)), some (.inl i), some (.inl n)] [] (encA (s)) _
  refine w_ldR rfl rfl rfl ?_
  refine w_ldI rfl rfl ?_
  refine w_ldI rfl rfl ?_
  refine w_callV rfl rfl rfl rfl rfl rfl rfl (k_span140 (by omega) (by omega) hs2) ?_
  refine w_bEq0 rfl (fun b4 => ?_) (fun b4 => ?_)
  · first
    | (exfalso; omega)
    | (refine w_retV rfl ?_
       first
       | rfl
       | (exfalso; omega))
  · first
    | (exfalso; omega)
    | (refine w_ldR rfl rfl rfl ?_
       refine w_ldI rfl rfl ?_
       refine w_ldI rfl rfl ?_
       refine w_callV rfl rfl rfl rfl rfl rfl rfl (k_span144 (by omega) (by omega) hs) ?_
       refine w_bEq0 rfl (fun b9 => ?_) (fun b9 => ?_)
       · first
         | (exfalso; omega)
         | (refine w_retV rfl ?_
            first
            | rfl
            | (exfalso; omega))
       · first
         | (exfalso; omega)
         | (refine w_ldR rfl rfl rfl ?_
            first | refine w_getI rfl rfl rfl rfl rfl ?_ | refine w_getR rfl rfl rfl rfl rfl ?_
            refine w_ldI rfl rfl ?_
            refine w_ldR rfl rfl rfl ?_
            first | refine w_getI rfl rfl rfl rfl rfl ?_ | refine w_getR rfl rfl rfl rfl rfl ?_
            refine w_ldI rfl rfl ?_
            refine w_ldI rfl rfl ?_
            refine w_cpy rfl rfl rfl rfl rfl (by omega) (by omega) (by omega) (by omega) (by omega) rfl rfl rfl ?_
            refine w_retV rfl ?_
            first
            | rfl
            | (exfalso; omega)))
theorem x_move_y3_1 {d : Nat} {s : mSt} (hI : IvD s) {i j n : Int} (hri : -2147483648 ≤ i ∧ i < 2147483648) (hrj : -2147483648 ≤ j ∧ j < 2147483648) (hrn : -2147483648 ≤ n ∧ n < 2147483648) (hS : IvS s) (hb : ¬ s 160 3 = 0 ∧ ¬ s 160 1 = 0 ∧ s 160 3 = s 160 1) (h : 0 ≤ n ∧ 0 ≤ i ∧ 0 ≤ j ∧ n ≤ s 161 3 - i ∧ n ≤ s 161 1 - j) : CI (d + 2) 132 [.inr (.inr 10), .inl 3, .inl i, .inl 1, .inl j, .inl n] (s) (fun q s1 => q = n ∧ s1 = ua s 141 (mcpy (s 145) (s 141) i.toNat j.toNat n.toNat)) := by
  refine CI.mk rfl ?_
  show WP (d + 2) 132 0 [some (.inr (.inr 10)), some (.inl 3), some (.inl i), some (.inl 1), some (.inl j), some (.inl n)] [] (encA (s)) _
  have hI0 := hI
  obtain ⟨⟨hM, hC, hN⟩, hV, h8⟩ := hI
  have hV0 := hV
  have hM0 := hM
  obtain ⟨vc, vpl, vga, vse, vne, veg, vre, vtu, vta, vwa, v36, v37, v39, v40, v42, v41, v43, v44, vl0, vl1, vlm⟩ := hV
  obtain ⟨hM39, hM40, hM41, hM43, hM44, hM36, hM37, hM38, hMc, hMw, hMp, hMt, hMb⟩ := hM
  have hS9 := hS
  obtain ⟨hS0, hS1, hS2, hS3⟩ := hS
  have hA := hS3
  have hB := hS1
  obtain ⟨a1, a2, a3, a4, -⟩ := hA
  obtain ⟨b1, b2, b3, b4, -⟩ := hB
  refine w_ldI rfl rfl ?_
  refine w_call rfl rfl rfl (k_isSheet (by omega)) ?_
  refine w_bEq0 rfl (fun b2 => ?_) (fun b2 => ?_)
  · first
    | (exfalso; omega)
    | (exfalso; omega)
  · first
    | (exfalso; omega)
    | (refine w_ldI rfl rfl ?_
       refine w_call rfl rfl rfl (k_isSheet (by omega)) ?_
       refine w_bNe0 rfl (fun b5 => ?_) (fun b5 => ?_)
       · first
         | (exfalso; omega)
         | (refine w_ldR rfl rfl rfl ?_
            refine w_ldI rfl rfl ?_
            refine w_callV rfl rfl rfl rfl rfl rfl rfl (k_isMissing (by omega) (by show -2147483648 ≤ s 131 3 ∧ s 131 3 < 2147483648; omega)) ?_
            rw [show s 131 ((3 : Int)).toNat = s 160 3 from a1]
            refine w_bNe0 rfl (fun b13 => ?_) (fun b13 => ?_)
            · first
              | (exfalso; omega)
              | (exfalso; omega)
            · first
              | (exfalso; omega)
              | (refine w_ldR rfl rfl rfl ?_
                 refine w_ldI rfl rfl ?_
                 refine w_callV rfl rfl rfl rfl rfl rfl rfl (k_isMissing (by omega) (by show -2147483648 ≤ s 131 1 ∧ s 131 1 < 2147483648; omega)) ?_
                 rw [show s 131 ((1 : Int)).toNat = s 160 1 from b1]
                 refine w_bEq0 rfl (fun b17 => ?_) (fun b17 => ?_)
                 · first
                   | (exfalso; omega)
                   | (refine w_ldR rfl rfl rfl ?_
                      first | refine w_getI rfl rfl rfl rfl rfl ?_ | refine w_getR rfl rfl rfl rfl rfl ?_
                      refine w_ldI rfl rfl ?_
                      refine w_ald rfl rfl rfl (by omega) rfl ?_
                      rw [show s 131 ((3 : Int)).toNat = s 160 3 from a1]
                      refine w_ldR rfl rfl rfl ?_
                      first | refine w_getI rfl rfl rfl rfl rfl ?_ | refine w_getR rfl rfl rfl rfl rfl ?_
                      refine w_ldI rfl rfl ?_
                      refine w_ald rfl rfl rfl (by omega) rfl ?_
                      rw [show s 131 ((1 : Int)).toNat = s 160 1 from b1]
                      refine w_crEq rfl (by omega) (by omega) (fun b30 => ?_) (fun b30 => ?_)
                      · first
                        | (exfalso; omega)
                        | (refine w_ldR rfl rfl rfl ?_
                           first | refine w_getI rfl rfl rfl rfl rfl ?_ | refine w_getR rfl rfl rfl rfl rfl ?_
                           refine w_ldI rfl rfl ?_
                           refine w_rld rfl rfl rfl (by omega) rfl ?_
                           show WP _ _ _ _ (.inr (.inr 144) :: _) _ _
                           refine w_ldI rfl rfl ?_
                           refine w_ldI rfl rfl ?_
                           refine w_callV rfl rfl rfl rfl rfl rfl rfl (k_span144 (by omega) (by omega) (by omega)) ?_
                           refine w_bEq0 rfl (fun b42 => ?_) (fun b42 => ?_)
                           · first
                             | (exfalso; omega)
                             | (exfalso; omega)
                           · first
                             | (exfalso; omega)
                             | (refine w_ldR rfl rfl rfl ?_
                                first | refine w_getI rfl rfl rfl rfl rfl ?_ | refine w_getR rfl rfl rfl rfl rfl ?_
                                refine w_ldI rfl rfl ?_
                                refine w_rld rfl rfl rfl (by omega) rfl ?_
                                show WP _ _ _ _ (.inr (.inr 140) :: _) _ _
                                refine w_ldI rfl rfl ?_
                                refine w_ldI rfl rfl ?_
                                refine w_callV rfl rfl rfl rfl rfl rfl rfl (k_span140 (by omega) (by omega) (by omega)) ?_
                                refine w_bNe0 rfl (fun b50 => ?_) (fun b50 => ?_)
                                · first
                                  | (exfalso; omega)
                                  | (refine w_ldR rfl rfl rfl ?_
                                     first | refine w_getI rfl rfl rfl rfl rfl ?_ | refine w_getR rfl rfl rfl rfl rfl ?_
                                     refine w_ldI rfl rfl ?_
                                     refine w_rld rfl rfl rfl (by omega) rfl ?_
                                     show WP _ _ _ _ (.inr (.inr 140) :: _) _ _
                                     refine w_ldI rfl rfl ?_
                                     refine w_ldR rfl rfl rfl ?_
                                     first | refine w_getI rfl rfl rfl rfl rfl ?_ | refine w_getR rfl rfl rfl rfl rfl ?_
                                     refine w_ldI rfl rfl ?_
                                     refine w_rld rfl rfl rfl (by omega) rfl ?_
                                     show WP _ _ _ _ (.inr (.inr 144) :: _) _ _
                                     refine w_ldI rfl rfl ?_
                                     refine w_ldI rfl rfl ?_
                                     refine w_callWN rfl rfl rfl rfl rfl rfl rfl (k_take140_144 (by omega) (by omega) (by omega)) (fun s66 p66 => ?_)
                                     refine w_ldI rfl rfl ?_
                                     refine w_retI rfl ?_
                                     exact ⟨rfl, p66⟩)
                                · first
                                  | (exfalso; omega)
                                  | (exfalso; omega)))
                      · first
                        | (exfalso; omega)
                        | (exfalso; omega))
                 · first
                   | (exfalso; omega)
                   | (exfalso; omega)))
       · first
         | (exfalso; omega)
         | (exfalso; omega))
theorem x_move_s3_1 {d : Nat} {s : mSt} (hI : IvD s) {i j n : Int} (hri : -2147483648 ≤ i ∧ i < 2147483648) (hrj : -2147483648 ≤ j ∧ j < 2147483648) (hrn : -2147483648 ≤ n ∧ n < 2147483648) (hS : IvS s) (hb : ¬ s 160 3 = 0 ∧ ¬ s 160 1 = 0 ∧ s 160 3 = s 160 1) (h : ¬ (0 ≤ n ∧ 0 ≤ i ∧ 0 ≤ j ∧ n ≤ s 161 3 - i ∧ n ≤ s 161 1 - j)) : CI (d + 2) 132 [.inr (.inr 10), .inl 3, .inl i, .inl 1, .inl j, .inl n] (s) (fun r s1 => r = -1000000000 - 1 ∧ s1 = us s 132 1 (s 132 1 + 1)) := by
  refine CI.mk rfl ?_
  show WP (d + 2) 132 0 [some (.inr (.inr 10)), some (.inl 3), some (.inl i), some (.inl 1), some (.inl j), some (.inl n)] [] (encA (s)) _
  have hI0 := hI
  obtain ⟨⟨hM, hC, hN⟩, hV, h8⟩ := hI
  have hV0 := hV
  have hM0 := hM
  obtain ⟨vc, vpl, vga, vse, vne, veg, vre, vtu, vta, vwa, v36, v37, v39, v40, v42, v41, v43, v44, vl0, vl1, vlm⟩ := hV
  obtain ⟨hM39, hM40, hM41, hM43, hM44, hM36, hM37, hM38, hMc, hMw, hMp, hMt, hMb⟩ := hM
  have hS9 := hS
  obtain ⟨hS0, hS1, hS2, hS3⟩ := hS
  have hA := hS3
  have hB := hS1
  obtain ⟨a1, a2, a3, a4, -⟩ := hA
  obtain ⟨b1, b2, b3, b4, -⟩ := hB
  refine w_ldI rfl rfl ?_
  refine w_call rfl rfl rfl (k_isSheet (by omega)) ?_
  refine w_bEq0 rfl (fun b2 => ?_) (fun b2 => ?_)
  · first
    | (exfalso; omega)
    | (exfalso; omega)
  · first
    | (exfalso; omega)
    | (refine w_ldI rfl rfl ?_
       refine w_call rfl rfl rfl (k_isSheet (by omega)) ?_
       refine w_bNe0 rfl (fun b5 => ?_) (fun b5 => ?_)
       · first
         | (exfalso; omega)
         | (refine w_ldR rfl rfl rfl ?_
            refine w_ldI rfl rfl ?_
            refine w_callV rfl rfl rfl rfl rfl rfl rfl (k_isMissing (by omega) (by show -2147483648 ≤ s 131 3 ∧ s 131 3 < 2147483648; omega)) ?_
            rw [show s 131 ((3 : Int)).toNat = s 160 3 from a1]
            refine w_bNe0 rfl (fun b13 => ?_) (fun b13 => ?_)
            · first
              | (exfalso; omega)
              | (exfalso; omega)
            · first
              | (exfalso; omega)
              | (refine w_ldR rfl rfl rfl ?_
                 refine w_ldI rfl rfl ?_
                 refine w_callV rfl rfl rfl rfl rfl rfl rfl (k_isMissing (by omega) (by show -2147483648 ≤ s 131 1 ∧ s 131 1 < 2147483648; omega)) ?_
                 rw [show s 131 ((1 : Int)).toNat = s 160 1 from b1]
                 refine w_bEq0 rfl (fun b17 => ?_) (fun b17 => ?_)
                 · first
                   | (exfalso; omega)
                   | (refine w_ldR rfl rfl rfl ?_
                      first | refine w_getI rfl rfl rfl rfl rfl ?_ | refine w_getR rfl rfl rfl rfl rfl ?_
                      refine w_ldI rfl rfl ?_
                      refine w_ald rfl rfl rfl (by omega) rfl ?_
                      rw [show s 131 ((3 : Int)).toNat = s 160 3 from a1]
                      refine w_ldR rfl rfl rfl ?_
                      first | refine w_getI rfl rfl rfl rfl rfl ?_ | refine w_getR rfl rfl rfl rfl rfl ?_
                      refine w_ldI rfl rfl ?_
                      refine w_ald rfl rfl rfl (by omega) rfl ?_
                      rw [show s 131 ((1 : Int)).toNat = s 160 1 from b1]
                      refine w_crEq rfl (by omega) (by omega) (fun b30 => ?_) (fun b30 => ?_)
                      · first
                        | (exfalso; omega)
                        | (refine w_ldR rfl rfl rfl ?_
                           first | refine w_getI rfl rfl rfl rfl rfl ?_ | refine w_getR rfl rfl rfl rfl rfl ?_
                           refine w_ldI rfl rfl ?_
                           refine w_rld rfl rfl rfl (by omega) rfl ?_
                           show WP _ _ _ _ (.inr (.inr 144) :: _) _ _
                           refine w_ldI rfl rfl ?_
                           refine w_ldI rfl rfl ?_
                           refine w_callV rfl rfl rfl rfl rfl rfl rfl (k_span144 (by omega) (by omega) (by omega)) ?_
                           refine w_bEq0 rfl (fun b42 => ?_) (fun b42 => ?_)
                           · first
                             | (exfalso; omega)
                             | (refine w_ldR rfl rfl rfl ?_
                                refine w_push rfl ?_
                                refine w_callWI rfl rfl rfl rfl rfl rfl rfl k_error1 (fun v53 s53 p53 => ?_)
                                obtain ⟨rfl, rfl⟩ := p53
                                refine w_retI rfl ?_
                                exact ⟨rfl, rfl⟩)
                           · first
                             | (exfalso; omega)
                             | (refine w_ldR rfl rfl rfl ?_
                                first | refine w_getI rfl rfl rfl rfl rfl ?_ | refine w_getR rfl rfl rfl rfl rfl ?_
                                refine w_ldI rfl rfl ?_
                                refine w_rld rfl rfl rfl (by omega) rfl ?_
                                show WP _ _ _ _ (.inr (.inr 140) :: _) _ _
                                refine w_ldI rfl rfl ?_
                                refine w_ldI rfl rfl ?_
                                refine w_callV rfl rfl rfl rfl rfl rfl rfl (k_span140 (by omega) (by omega) (by omega)) ?_
                                refine w_bNe0 rfl (fun b50 => ?_) (fun b50 => ?_)
                                · first
                                  | (exfalso; omega)
                                  | (exfalso; omega)
                                · first
                                  | (exfalso; omega)
                                  | (refine w_ldR rfl rfl rfl ?_
                                     refine w_push rfl ?_
                                     refine w_callWI rfl rfl rfl rfl rfl rfl rfl k_error1 (fun v53 s53 p53 => ?_)
                                     obtain ⟨rfl, rfl⟩ := p53
                                     refine w_retI rfl ?_
                                     exact ⟨rfl, rfl⟩)))
                      · first
                        | (exfalso; omega)
                        | (exfalso; omega))
                 · first
                   | (exfalso; omega)
                   | (exfalso; omega)))
       · first
         | (exfalso; omega)
         | (exfalso; omega))
theorem k_take142_144 {d : Nat} {s : mSt} {i j n : Int} (hs : 0 ≤ s 144 1 ∧ s 144 1 ≤ 40) (hs2 : 0 ≤ s 142 1 ∧ s 142 1 ≤ 40) (h : 0 ≤ n ∧ 0 ≤ i ∧ 0 ≤ j ∧ n ≤ s 144 1 - i ∧ n ≤ s 142 1 - j) : CV (d + 1) 71 [.inr (.inr 142), .inl j, .inr (.inr 144), .inl i, .inl n] (s) (fun s1 => s1 = ua s 143 (mcpy (s 145) (s 143) i.toNat j.toNat n.toNat)) := by
  refine CV.mk rfl ?_
  show WP (d + 1) 71 0 [some (.inr (.inr 142)), some (.inl j), some (.inr (.inr 144)), some (.inl i), some (.inl n)] [] (encA (s)) _
  refine w_ldR rfl rfl rfl ?_
  refine w_ldI rfl rfl ?_
  refine w_ldI rfl rfl ?_
  refine w_callV rfl rfl rfl rfl rfl rfl rfl (k_span142 (by omega) (by omega) hs2) ?_
  refine w_bEq0 rfl (fun b4 => ?_) (fun b4 => ?_)
  · first
    | (exfalso; omega)
    | (refine w_retV rfl ?_
       first
       | rfl
       | (exfalso; omega))
  · first
    | (exfalso; omega)
    | (refine w_ldR rfl rfl rfl ?_
       refine w_ldI rfl rfl ?_
       refine w_ldI rfl rfl ?_
       refine w_callV rfl rfl rfl rfl rfl rfl rfl (k_span144 (by omega) (by omega) hs) ?_
       refine w_bEq0 rfl (fun b9 => ?_) (fun b9 => ?_)
       · first
         | (exfalso; omega)
         | (refine w_retV rfl ?_
            first
            | rfl
            | (exfalso; omega))
       · first
         | (exfalso; omega)
         | (refine w_ldR rfl rfl rfl ?_
            first | refine w_getI rfl rfl rfl rfl rfl ?_ | refine w_getR rfl rfl rfl rfl rfl ?_
            refine w_ldI rfl rfl ?_
            refine w_ldR rfl rfl rfl ?_
            first | refine w_getI rfl rfl rfl rfl rfl ?_ | refine w_getR rfl rfl rfl rfl rfl ?_
            refine w_ldI rfl rfl ?_
            refine w_ldI rfl rfl ?_
            refine w_cpy rfl rfl rfl rfl rfl (by omega) (by omega) (by omega) (by omega) (by omega) rfl rfl rfl ?_
            refine w_retV rfl ?_
            first
            | rfl
            | (exfalso; omega)))
theorem x_move_y3_2 {d : Nat} {s : mSt} (hI : IvD s) {i j n : Int} (hri : -2147483648 ≤ i ∧ i < 2147483648) (hrj : -2147483648 ≤ j ∧ j < 2147483648) (hrn : -2147483648 ≤ n ∧ n < 2147483648) (hS : IvS s) (hb : ¬ s 160 3 = 0 ∧ ¬ s 160 2 = 0 ∧ s 160 3 = s 160 2) (h : 0 ≤ n ∧ 0 ≤ i ∧ 0 ≤ j ∧ n ≤ s 161 3 - i ∧ n ≤ s 161 2 - j) : CI (d + 2) 132 [.inr (.inr 10), .inl 3, .inl i, .inl 2, .inl j, .inl n] (s) (fun q s1 => q = n ∧ s1 = ua s 143 (mcpy (s 145) (s 143) i.toNat j.toNat n.toNat)) := by
  refine CI.mk rfl ?_
  show WP (d + 2) 132 0 [some (.inr (.inr 10)), some (.inl 3), some (.inl i), some (.inl 2), some (.inl j), some (.inl n)] [] (encA (s)) _
  have hI0 := hI
  obtain ⟨⟨hM, hC, hN⟩, hV, h8⟩ := hI
  have hV0 := hV
  have hM0 := hM
  obtain ⟨vc, vpl, vga, vse, vne, veg, vre, vtu, vta, vwa, v36, v37, v39, v40, v42, v41, v43, v44, vl0, vl1, vlm⟩ := hV
  obtain ⟨hM39, hM40, hM41, hM43, hM44, hM36, hM37, hM38, hMc, hMw, hMp, hMt, hMb⟩ := hM
  have hS9 := hS
  obtain ⟨hS0, hS1, hS2, hS3⟩ := hS
  have hA := hS3
  have hB := hS2
  obtain ⟨a1, a2, a3, a4, -⟩ := hA
  obtain ⟨b1, b2, b3, b4, -⟩ := hB
  refine w_ldI rfl rfl ?_
  refine w_call rfl rfl rfl (k_isSheet (by omega)) ?_
  refine w_bEq0 rfl (fun b2 => ?_) (fun b2 => ?_)
  · first
    | (exfalso; omega)
    | (exfalso; omega)
  · first
    | (exfalso; omega)
    | (refine w_ldI rfl rfl ?_
       refine w_call rfl rfl rfl (k_isSheet (by omega)) ?_
       refine w_bNe0 rfl (fun b5 => ?_) (fun b5 => ?_)
       · first
         | (exfalso; omega)
         | (refine w_ldR rfl rfl rfl ?_
            refine w_ldI rfl rfl ?_
            refine w_callV rfl rfl rfl rfl rfl rfl rfl (k_isMissing (by omega) (by show -2147483648 ≤ s 131 3 ∧ s 131 3 < 2147483648; omega)) ?_
            rw [show s 131 ((3 : Int)).toNat = s 160 3 from a1]
            refine w_bNe0 rfl (fun b13 => ?_) (fun b13 => ?_)
            · first
              | (exfalso; omega)
              | (exfalso; omega)
            · first
              | (exfalso; omega)
              | (refine w_ldR rfl rfl rfl ?_
                 refine w_ldI rfl rfl ?_
                 refine w_callV rfl rfl rfl rfl rfl rfl rfl (k_isMissing (by omega) (by show -2147483648 ≤ s 131 2 ∧ s 131 2 < 2147483648; omega)) ?_
                 rw [show s 131 ((2 : Int)).toNat = s 160 2 from b1]
                 refine w_bEq0 rfl (fun b17 => ?_) (fun b17 => ?_)
                 · first
                   | (exfalso; omega)
                   | (refine w_ldR rfl rfl rfl ?_
                      first | refine w_getI rfl rfl rfl rfl rfl ?_ | refine w_getR rfl rfl rfl rfl rfl ?_
                      refine w_ldI rfl rfl ?_
                      refine w_ald rfl rfl rfl (by omega) rfl ?_
                      rw [show s 131 ((3 : Int)).toNat = s 160 3 from a1]
                      refine w_ldR rfl rfl rfl ?_
                      first | refine w_getI rfl rfl rfl rfl rfl ?_ | refine w_getR rfl rfl rfl rfl rfl ?_
                      refine w_ldI rfl rfl ?_
                      refine w_ald rfl rfl rfl (by omega) rfl ?_
                      rw [show s 131 ((2 : Int)).toNat = s 160 2 from b1]
                      refine w_crEq rfl (by omega) (by omega) (fun b30 => ?_) (fun b30 => ?_)
                      · first
                        | (exfalso; omega)
                        | (refine w_ldR rfl rfl rfl ?_
                           first | refine w_getI rfl rfl rfl rfl rfl ?_ | refine w_getR rfl rfl rfl rfl rfl ?_
                           refine w_ldI rfl rfl ?_
                           refine w_rld rfl rfl rfl (by omega) rfl ?_
                           show WP _ _ _ _ (.inr (.inr 144) :: _) _ _
                           refine w_ldI rfl rfl ?_
                           refine w_ldI rfl rfl ?_
                           refine w_callV rfl rfl rfl rfl rfl rfl rfl (k_span144 (by omega) (by omega) (by omega)) ?_
                           refine w_bEq0 rfl (fun b42 => ?_) (fun b42 => ?_)
                           · first
                             | (exfalso; omega)
                             | (exfalso; omega)
                           · first
                             | (exfalso; omega)
                             | (refine w_ldR rfl rfl rfl ?_
                                first | refine w_getI rfl rfl rfl rfl rfl ?_ | refine w_getR rfl rfl rfl rfl rfl ?_
                                refine w_ldI rfl rfl ?_
                                refine w_rld rfl rfl rfl (by omega) rfl ?_
                                show WP _ _ _ _ (.inr (.inr 142) :: _) _ _
                                refine w_ldI rfl rfl ?_
                                refine w_ldI rfl rfl ?_
                                refine w_callV rfl rfl rfl rfl rfl rfl rfl (k_span142 (by omega) (by omega) (by omega)) ?_
                                refine w_bNe0 rfl (fun b50 => ?_) (fun b50 => ?_)
                                · first
                                  | (exfalso; omega)
                                  | (refine w_ldR rfl rfl rfl ?_
                                     first | refine w_getI rfl rfl rfl rfl rfl ?_ | refine w_getR rfl rfl rfl rfl rfl ?_
                                     refine w_ldI rfl rfl ?_
                                     refine w_rld rfl rfl rfl (by omega) rfl ?_
                                     show WP _ _ _ _ (.inr (.inr 142) :: _) _ _
                                     refine w_ldI rfl rfl ?_
                                     refine w_ldR rfl rfl rfl ?_
                                     first | refine w_getI rfl rfl rfl rfl rfl ?_ | refine w_getR rfl rfl rfl rfl rfl ?_
                                     refine w_ldI rfl rfl ?_
                                     refine w_rld rfl rfl rfl (by omega) rfl ?_
                                     show WP _ _ _ _ (.inr (.inr 144) :: _) _ _
                                     refine w_ldI rfl rfl ?_
                                     refine w_ldI rfl rfl ?_
                                     refine w_callWN rfl rfl rfl rfl rfl rfl rfl (k_take142_144 (by omega) (by omega) (by omega)) (fun s66 p66 => ?_)
                                     refine w_ldI rfl rfl ?_
                                     refine w_retI rfl ?_
                                     exact ⟨rfl, p66⟩)
                                · first
                                  | (exfalso; omega)
                                  | (exfalso; omega)))
                      · first
                        | (exfalso; omega)
                        | (exfalso; omega))
                 · first
                   | (exfalso; omega)
                   | (exfalso; omega)))
       · first
         | (exfalso; omega)
         | (exfalso; omega))
theorem x_move_s3_2 {d : Nat} {s : mSt} (hI : IvD s) {i j n : Int} (hri : -2147483648 ≤ i ∧ i < 2147483648) (hrj : -2147483648 ≤ j ∧ j < 2147483648) (hrn : -2147483648 ≤ n ∧ n < 2147483648) (hS : IvS s) (hb : ¬ s 160 3 = 0 ∧ ¬ s 160 2 = 0 ∧ s 160 3 = s 160 2) (h : ¬ (0 ≤ n ∧ 0 ≤ i ∧ 0 ≤ j ∧ n ≤ s 161 3 - i ∧ n ≤ s 161 2 - j)) : CI (d + 2) 132 [.inr (.inr 10), .inl 3, .inl i, .inl 2, .inl j, .inl n] (s) (fun r s1 => r = -1000000000 - 1 ∧ s1 = us s 132 1 (s 132 1 + 1)) := by
  refine CI.mk rfl ?_
  show WP (d + 2) 132 0 [some (.inr (.inr 10)), some (.inl 3), some (.inl i), some (.inl 2), some (.inl j), some (.inl n)] [] (encA (s)) _
  have hI0 := hI
  obtain ⟨⟨hM, hC, hN⟩, hV, h8⟩ := hI
  have hV0 := hV
  have hM0 := hM
  obtain ⟨vc, vpl, vga, vse, vne, veg, vre, vtu, vta, vwa, v36, v37, v39, v40, v42, v41, v43, v44, vl0, vl1, vlm⟩ := hV
  obtain ⟨hM39, hM40, hM41, hM43, hM44, hM36, hM37, hM38, hMc, hMw, hMp, hMt, hMb⟩ := hM
  have hS9 := hS
  obtain ⟨hS0, hS1, hS2, hS3⟩ := hS
  have hA := hS3
  have hB := hS2
  obtain ⟨a1, a2, a3, a4, -⟩ := hA
  obtain ⟨b1, b2, b3, b4, -⟩ := hB
  refine w_ldI rfl rfl ?_
  refine w_call rfl rfl rfl (k_isSheet (by omega)) ?_
  refine w_bEq0 rfl (fun b2 => ?_) (fun b2 => ?_)
  · first
    | (exfalso; omega)
    | (exfalso; omega)
  · first
    | (exfalso; omega)
    | (refine w_ldI rfl rfl ?_
       refine w_call rfl rfl rfl (k_isSheet (by omega)) ?_
       refine w_bNe0 rfl (fun b5 => ?_) (fun b5 => ?_)
       · first
         | (exfalso; omega)
         | (refine w_ldR rfl rfl rfl ?_
            refine w_ldI rfl rfl ?_
            refine w_callV rfl rfl rfl rfl rfl rfl rfl (k_isMissing (by omega) (by show -2147483648 ≤ s 131 3 ∧ s 131 3 < 2147483648; omega)) ?_
            rw [show s 131 ((3 : Int)).toNat = s 160 3 from a1]
            refine w_bNe0 rfl (fun b13 => ?_) (fun b13 => ?_)
            · first
              | (exfalso; omega)
              | (exfalso; omega)
            · first
              | (exfalso; omega)
              | (refine w_ldR rfl rfl rfl ?_
                 refine w_ldI rfl rfl ?_
                 refine w_callV rfl rfl rfl rfl rfl rfl rfl (k_isMissing (by omega) (by show -2147483648 ≤ s 131 2 ∧ s 131 2 < 2147483648; omega)) ?_
                 rw [show s 131 ((2 : Int)).toNat = s 160 2 from b1]
                 refine w_bEq0 rfl (fun b17 => ?_) (fun b17 => ?_)
                 · first
                   | (exfalso; omega)
                   | (refine w_ldR rfl rfl rfl ?_
                      first | refine w_getI rfl rfl rfl rfl rfl ?_ | refine w_getR rfl rfl rfl rfl rfl ?_
                      refine w_ldI rfl rfl ?_
                      refine w_ald rfl rfl rfl (by omega) rfl ?_
                      rw [show s 131 ((3 : Int)).toNat = s 160 3 from a1]
                      refine w_ldR rfl rfl rfl ?_
                      first | refine w_getI rfl rfl rfl rfl rfl ?_ | refine w_getR rfl rfl rfl rfl rfl ?_
                      refine w_ldI rfl rfl ?_
                      refine w_ald rfl rfl rfl (by omega) rfl ?_
                      rw [show s 131 ((2 : Int)).toNat = s 160 2 from b1]
                      refine w_crEq rfl (by omega) (by omega) (fun b30 => ?_) (fun b30 => ?_)
                      · first
                        | (exfalso; omega)
                        | (refine w_ldR rfl rfl rfl ?_
                           first | refine w_getI rfl rfl rfl rfl rfl ?_ | refine w_getR rfl rfl rfl rfl rfl ?_
                           refine w_ldI rfl rfl ?_
                           refine w_rld rfl rfl rfl (by omega) rfl ?_
                           show WP _ _ _ _ (.inr (.inr 144) :: _) _ _
                           refine w_ldI rfl rfl ?_
                           refine w_ldI rfl rfl ?_
                           refine w_callV rfl rfl rfl rfl rfl rfl rfl (k_span144 (by omega) (by omega) (by omega)) ?_
                           refine w_bEq0 rfl (fun b42 => ?_) (fun b42 => ?_)
                           · first
                             | (exfalso; omega)
                             | (refine w_ldR rfl rfl rfl ?_
                                refine w_push rfl ?_
                                refine w_callWI rfl rfl rfl rfl rfl rfl rfl k_error1 (fun v53 s53 p53 => ?_)
                                obtain ⟨rfl, rfl⟩ := p53
                                refine w_retI rfl ?_
                                exact ⟨rfl, rfl⟩)
                           · first
                             | (exfalso; omega)
                             | (refine w_ldR rfl rfl rfl ?_
                                first | refine w_getI rfl rfl rfl rfl rfl ?_ | refine w_getR rfl rfl rfl rfl rfl ?_
                                refine w_ldI rfl rfl ?_
                                refine w_rld rfl rfl rfl (by omega) rfl ?_
                                show WP _ _ _ _ (.inr (.inr 142) :: _) _ _
                                refine w_ldI rfl rfl ?_
                                refine w_ldI rfl rfl ?_
                                refine w_callV rfl rfl rfl rfl rfl rfl rfl (k_span142 (by omega) (by omega) (by omega)) ?_
                                refine w_bNe0 rfl (fun b50 => ?_) (fun b50 => ?_)
                                · first
                                  | (exfalso; omega)
                                  | (exfalso; omega)
                                · first
                                  | (exfalso; omega)
                                  | (refine w_ldR rfl rfl rfl ?_
                                     refine w_push rfl ?_
                                     refine w_callWI rfl rfl rfl rfl rfl rfl rfl k_error1 (fun v53 s53 p53 => ?_)
                                     obtain ⟨rfl, rfl⟩ := p53
                                     refine w_retI rfl ?_
                                     exact ⟨rfl, rfl⟩)))
                      · first
                        | (exfalso; omega)
                        | (exfalso; omega))
                 · first
                   | (exfalso; omega)
                   | (exfalso; omega)))
       · first
         | (exfalso; omega)
         | (exfalso; omega))
theorem k_take144_144 {d : Nat} {s : mSt} {i j n : Int} (hs : 0 ≤ s 144 1 ∧ s 144 1 ≤ 40) (hs2 : 0 ≤ s 144 1 ∧ s 144 1 ≤ 40) (h : 0 ≤ n ∧ 0 ≤ i ∧ 0 ≤ j ∧ n ≤ s 144 1 - i ∧ n ≤ s 144 1 - j) : CV (d + 1) 71 [.inr (.inr 144), .inl j, .inr (.inr 144), .inl i, .inl n] (s) (fun s1 => s1 = ua s 145 (mcpy (s 145) (s 145) i.toNat j.toNat n.toNat)) := by
  refine CV.mk rfl ?_
  show WP (d + 1) 71 0 [some (.inr (.inr 144)), some (.inl j), some (.inr (.inr 144)), some (.inl i), some (.inl n)] [] (encA (s)) _
  refine w_ldR rfl rfl rfl ?_
  refine w_ldI rfl rfl ?_
  refine w_ldI rfl rfl ?_
  refine w_callV rfl rfl rfl rfl rfl rfl rfl (k_span144 (by omega) (by omega) hs2) ?_
  refine w_bEq0 rfl (fun b4 => ?_) (fun b4 => ?_)
  · first
    | (exfalso; omega)
    | (refine w_retV rfl ?_
       first
       | rfl
       | (exfalso; omega))
  · first
    | (exfalso; omega)
    | (refine w_ldR rfl rfl rfl ?_
       refine w_ldI rfl rfl ?_
       refine w_ldI rfl rfl ?_
       refine w_callV rfl rfl rfl rfl rfl rfl rfl (k_span144 (by omega) (by omega) hs) ?_
       refine w_bEq0 rfl (fun b9 => ?_) (fun b9 => ?_)
       · first
         | (exfalso; omega)
         | (refine w_retV rfl ?_
            first
            | rfl
            | (exfalso; omega))
       · first
         | (exfalso; omega)
         | (refine w_ldR rfl rfl rfl ?_
            first | refine w_getI rfl rfl rfl rfl rfl ?_ | refine w_getR rfl rfl rfl rfl rfl ?_
            refine w_ldI rfl rfl ?_
            refine w_ldR rfl rfl rfl ?_
            first | refine w_getI rfl rfl rfl rfl rfl ?_ | refine w_getR rfl rfl rfl rfl rfl ?_
            refine w_ldI rfl rfl ?_
            refine w_ldI rfl rfl ?_
            refine w_cpy rfl rfl rfl rfl rfl (by omega) (by omega) (by omega) (by omega) (by omega) rfl rfl rfl ?_
            refine w_retV rfl ?_
            first
            | rfl
            | (exfalso; omega)))
theorem x_move_y3_3 {d : Nat} {s : mSt} (hI : IvD s) {i j n : Int} (hri : -2147483648 ≤ i ∧ i < 2147483648) (hrj : -2147483648 ≤ j ∧ j < 2147483648) (hrn : -2147483648 ≤ n ∧ n < 2147483648) (hS : IvS s) (hb : ¬ s 160 3 = 0 ∧ ¬ s 160 3 = 0 ∧ s 160 3 = s 160 3) (h : 0 ≤ n ∧ 0 ≤ i ∧ 0 ≤ j ∧ n ≤ s 161 3 - i ∧ n ≤ s 161 3 - j) : CI (d + 2) 132 [.inr (.inr 10), .inl 3, .inl i, .inl 3, .inl j, .inl n] (s) (fun q s1 => q = n ∧ s1 = ua s 145 (mcpy (s 145) (s 145) i.toNat j.toNat n.toNat)) := by
  refine CI.mk rfl ?_
  show WP (d + 2) 132 0 [some (.inr (.inr 10)), some (.inl 3), some (.inl i), some (.inl 3), some (.inl j), some (.inl n)] [] (encA (s)) _
  have hI0 := hI
  obtain ⟨⟨hM, hC, hN⟩, hV, h8⟩ := hI
  have hV0 := hV
  have hM0 := hM
  obtain ⟨vc, vpl, vga, vse, vne, veg, vre, vtu, vta, vwa, v36, v37, v39, v40, v42, v41, v43, v44, vl0, vl1, vlm⟩ := hV
  obtain ⟨hM39, hM40, hM41, hM43, hM44, hM36, hM37, hM38, hMc, hMw, hMp, hMt, hMb⟩ := hM
  have hS9 := hS
  obtain ⟨hS0, hS1, hS2, hS3⟩ := hS
  have hA := hS3
  have hB := hS3
  obtain ⟨a1, a2, a3, a4, -⟩ := hA
  obtain ⟨b1, b2, b3, b4, -⟩ := hB
  refine w_ldI rfl rfl ?_
  refine w_call rfl rfl rfl (k_isSheet (by omega)) ?_
  refine w_bEq0 rfl (fun b2 => ?_) (fun b2 => ?_)
  · first
    | (exfalso; omega)
    | (exfalso; omega)
  · first
    | (exfalso; omega)
    | (refine w_ldI rfl rfl ?_
       refine w_call rfl rfl rfl (k_isSheet (by omega)) ?_
       refine w_bNe0 rfl (fun b5 => ?_) (fun b5 => ?_)
       · first
         | (exfalso; omega)
         | (refine w_ldR rfl rfl rfl ?_
            refine w_ldI rfl rfl ?_
            refine w_callV rfl rfl rfl rfl rfl rfl rfl (k_isMissing (by omega) (by show -2147483648 ≤ s 131 3 ∧ s 131 3 < 2147483648; omega)) ?_
            rw [show s 131 ((3 : Int)).toNat = s 160 3 from a1]
            refine w_bNe0 rfl (fun b13 => ?_) (fun b13 => ?_)
            · first
              | (exfalso; omega)
              | (exfalso; omega)
            · first
              | (exfalso; omega)
              | (refine w_ldR rfl rfl rfl ?_
                 refine w_ldI rfl rfl ?_
                 refine w_callV rfl rfl rfl rfl rfl rfl rfl (k_isMissing (by omega) (by show -2147483648 ≤ s 131 3 ∧ s 131 3 < 2147483648; omega)) ?_
                 rw [show s 131 ((3 : Int)).toNat = s 160 3 from b1]
                 refine w_bEq0 rfl (fun b17 => ?_) (fun b17 => ?_)
                 · first
                   | (exfalso; omega)
                   | (refine w_ldR rfl rfl rfl ?_
                      first | refine w_getI rfl rfl rfl rfl rfl ?_ | refine w_getR rfl rfl rfl rfl rfl ?_
                      refine w_ldI rfl rfl ?_
                      refine w_ald rfl rfl rfl (by omega) rfl ?_
                      rw [show s 131 ((3 : Int)).toNat = s 160 3 from a1]
                      refine w_ldR rfl rfl rfl ?_
                      first | refine w_getI rfl rfl rfl rfl rfl ?_ | refine w_getR rfl rfl rfl rfl rfl ?_
                      refine w_ldI rfl rfl ?_
                      refine w_ald rfl rfl rfl (by omega) rfl ?_
                      rw [show s 131 ((3 : Int)).toNat = s 160 3 from b1]
                      refine w_crEq rfl (by omega) (by omega) (fun b30 => ?_) (fun b30 => ?_)
                      · first
                        | (exfalso; omega)
                        | (refine w_ldR rfl rfl rfl ?_
                           first | refine w_getI rfl rfl rfl rfl rfl ?_ | refine w_getR rfl rfl rfl rfl rfl ?_
                           refine w_ldI rfl rfl ?_
                           refine w_rld rfl rfl rfl (by omega) rfl ?_
                           show WP _ _ _ _ (.inr (.inr 144) :: _) _ _
                           refine w_ldI rfl rfl ?_
                           refine w_ldI rfl rfl ?_
                           refine w_callV rfl rfl rfl rfl rfl rfl rfl (k_span144 (by omega) (by omega) (by omega)) ?_
                           refine w_bEq0 rfl (fun b42 => ?_) (fun b42 => ?_)
                           · first
                             | (exfalso; omega)
                             | (exfalso; omega)
                           · first
                             | (exfalso; omega)
                             | (refine w_ldR rfl rfl rfl ?_
                                first | refine w_getI rfl rfl rfl rfl rfl ?_ | refine w_getR rfl rfl rfl rfl rfl ?_
                                refine w_ldI rfl rfl ?_
                                refine w_rld rfl rfl rfl (by omega) rfl ?_
                                show WP _ _ _ _ (.inr (.inr 144) :: _) _ _
                                refine w_ldI rfl rfl ?_
                                refine w_ldI rfl rfl ?_
                                refine w_callV rfl rfl rfl rfl rfl rfl rfl (k_span144 (by omega) (by omega) (by omega)) ?_
                                refine w_bNe0 rfl (fun b50 => ?_) (fun b50 => ?_)
                                · first
                                  | (exfalso; omega)
                                  | (refine w_ldR rfl rfl rfl ?_
                                     first | refine w_getI rfl rfl rfl rfl rfl ?_ | refine w_getR rfl rfl rfl rfl rfl ?_
                                     refine w_ldI rfl rfl ?_
                                     refine w_rld rfl rfl rfl (by omega) rfl ?_
                                     show WP _ _ _ _ (.inr (.inr 144) :: _) _ _
                                     refine w_ldI rfl rfl ?_
                                     refine w_ldR rfl rfl rfl ?_
                                     first | refine w_getI rfl rfl rfl rfl rfl ?_ | refine w_getR rfl rfl rfl rfl rfl ?_
                                     refine w_ldI rfl rfl ?_
                                     refine w_rld rfl rfl rfl (by omega) rfl ?_
                                     show WP _ _ _ _ (.inr (.inr 144) :: _) _ _
                                     refine w_ldI rfl rfl ?_
                                     refine w_ldI rfl rfl ?_
                                     refine w_callWN rfl rfl rfl rfl rfl rfl rfl (k_take144_144 (by omega) (by omega) (by omega)) (fun s66 p66 => ?_)
                                     refine w_ldI rfl rfl ?_
                                     refine w_retI rfl ?_
                                     exact ⟨rfl, p66⟩)
                                · first
                                  | (exfalso; omega)
                                  | (exfalso; omega)))
                      · first
                        | (exfalso; omega)
                        | (exfalso; omega))
                 · first
                   | (exfalso; omega)
                   | (exfalso; omega)))
       · first
         | (exfalso; omega)
         | (exfalso; omega))
theorem x_move_s3_3 {d : Nat} {s : mSt} (hI : IvD s) {i j n : Int} (hri : -2147483648 ≤ i ∧ i < 2147483648) (hrj : -2147483648 ≤ j ∧ j < 2147483648) (hrn : -2147483648 ≤ n ∧ n < 2147483648) (hS : IvS s) (hb : ¬ s 160 3 = 0 ∧ ¬ s 160 3 = 0 ∧ s 160 3 = s 160 3) (h : ¬ (0 ≤ n ∧ 0 ≤ i ∧ 0 ≤ j ∧ n ≤ s 161 3 - i ∧ n ≤ s 161 3 - j)) : CI (d + 2) 132 [.inr (.inr 10), .inl 3, .inl i, .inl 3, .inl j, .inl n] (s) (fun r s1 => r = -1000000000 - 1 ∧ s1 = us s 132 1 (s 132 1 + 1)) := by
  refine CI.mk rfl ?_
  show WP (d + 2) 132 0 [some (.inr (.inr 10)), some (.inl 3), some (.inl i), some (.inl 3), some (.inl j), some (.inl n)] [] (encA (s)) _
  have hI0 := hI
  obtain ⟨⟨hM, hC, hN⟩, hV, h8⟩ := hI
  have hV0 := hV
  have hM0 := hM
  obtain ⟨vc, vpl, vga, vse, vne, veg, vre, vtu, vta, vwa, v36, v37, v39, v40, v42, v41, v43, v44, vl0, vl1, vlm⟩ := hV
  obtain ⟨hM39, hM40, hM41, hM43, hM44, hM36, hM37, hM38, hMc, hMw, hMp, hMt, hMb⟩ := hM
  have hS9 := hS
  obtain ⟨hS0, hS1, hS2, hS3⟩ := hS
  have hA := hS3
  have hB := hS3
  obtain ⟨a1, a2, a3, a4, -⟩ := hA
  obtain ⟨b1, b2, b3, b4, -⟩ := hB
  refine w_ldI rfl rfl ?_
  refine w_call rfl rfl rfl (k_isSheet (by omega)) ?_
  refine w_bEq0 rfl (fun b2 => ?_) (fun b2 => ?_)
  · first
    | (exfalso; omega)
    | (exfalso; omega)
  · first
    | (exfalso; omega)
    | (refine w_ldI rfl rfl ?_
       refine w_call rfl rfl rfl (k_isSheet (by omega)) ?_
       refine w_bNe0 rfl (fun b5 => ?_) (fun b5 => ?_)
       · first
         | (exfalso; omega)
         | (refine w_ldR rfl rfl rfl ?_
            refine w_ldI rfl rfl ?_
            refine w_callV rfl rfl rfl rfl rfl rfl rfl (k_isMissing (by omega) (by show -2147483648 ≤ s 131 3 ∧ s 131 3 < 2147483648; omega)) ?_
            rw [show s 131 ((3 : Int)).toNat = s 160 3 from a1]
            refine w_bNe0 rfl (fun b13 => ?_) (fun b13 => ?_)
            · first
              | (exfalso; omega)
              | (exfalso; omega)
            · first
              | (exfalso; omega)
              | (refine w_ldR rfl rfl rfl ?_
                 refine w_ldI rfl rfl ?_
                 refine w_callV rfl rfl rfl rfl rfl rfl rfl (k_isMissing (by omega) (by show -2147483648 ≤ s 131 3 ∧ s 131 3 < 2147483648; omega)) ?_
                 rw [show s 131 ((3 : Int)).toNat = s 160 3 from b1]
                 refine w_bEq0 rfl (fun b17 => ?_) (fun b17 => ?_)
                 · first
                   | (exfalso; omega)
                   | (refine w_ldR rfl rfl rfl ?_
                      first | refine w_getI rfl rfl rfl rfl rfl ?_ | refine w_getR rfl rfl rfl rfl rfl ?_
                      refine w_ldI rfl rfl ?_
                      refine w_ald rfl rfl rfl (by omega) rfl ?_
                      rw [show s 131 ((3 : Int)).toNat = s 160 3 from a1]
                      refine w_ldR rfl rfl rfl ?_
                      first | refine w_getI rfl rfl rfl rfl rfl ?_ | refine w_getR rfl rfl rfl rfl rfl ?_
                      refine w_ldI rfl rfl ?_
                      refine w_ald rfl rfl rfl (by omega) rfl ?_
                      rw [show s 131 ((3 : Int)).toNat = s 160 3 from b1]
                      refine w_crEq rfl (by omega) (by omega) (fun b30 => ?_) (fun b30 => ?_)
                      · first
                        | (exfalso; omega)
                        | (refine w_ldR rfl rfl rfl ?_
                           first | refine w_getI rfl rfl rfl rfl rfl ?_ | refine w_getR rfl rfl rfl rfl rfl ?_
                           refine w_ldI rfl rfl ?_
                           refine w_rld rfl rfl rfl (by omega) rfl ?_
                           show WP _ _ _ _ (.inr (.inr 144) :: _) _ _
                           refine w_ldI rfl rfl ?_
                           refine w_ldI rfl rfl ?_
                           refine w_callV rfl rfl rfl rfl rfl rfl rfl (k_span144 (by omega) (by omega) (by omega)) ?_
                           refine w_bEq0 rfl (fun b42 => ?_) (fun b42 => ?_)
                           · first
                             | (exfalso; omega)
                             | (refine w_ldR rfl rfl rfl ?_
                                refine w_push rfl ?_
                                refine w_callWI rfl rfl rfl rfl rfl rfl rfl k_error1 (fun v53 s53 p53 => ?_)
                                obtain ⟨rfl, rfl⟩ := p53
                                refine w_retI rfl ?_
                                exact ⟨rfl, rfl⟩)
                           · first
                             | (exfalso; omega)
                             | (refine w_ldR rfl rfl rfl ?_
                                first | refine w_getI rfl rfl rfl rfl rfl ?_ | refine w_getR rfl rfl rfl rfl rfl ?_
                                refine w_ldI rfl rfl ?_
                                refine w_rld rfl rfl rfl (by omega) rfl ?_
                                show WP _ _ _ _ (.inr (.inr 144) :: _) _ _
                                refine w_ldI rfl rfl ?_
                                refine w_ldI rfl rfl ?_
                                refine w_callV rfl rfl rfl rfl rfl rfl rfl (k_span144 (by omega) (by omega) (by omega)) ?_
                                refine w_bNe0 rfl (fun b50 => ?_) (fun b50 => ?_)
                                · first
                                  | (exfalso; omega)
                                  | (exfalso; omega)
                                · first
                                  | (exfalso; omega)
                                  | (refine w_ldR rfl rfl rfl ?_
                                     refine w_push rfl ?_
                                     refine w_callWI rfl rfl rfl rfl rfl rfl rfl k_error1 (fun v53 s53 p53 => ?_)
                                     obtain ⟨rfl, rfl⟩ := p53
                                     refine w_retI rfl ?_
                                     exact ⟨rfl, rfl⟩)))
                      · first
                        | (exfalso; omega)
                        | (exfalso; omega))
                 · first
                   | (exfalso; omega)
                   | (exfalso; omega)))
       · first
         | (exfalso; omega)
         | (exfalso; omega))
theorem m_move_n {d : Nat} {s : mSt} {D : Nat → Int} (hD : s 147 = D) (hM : MOk D) (hC : COk D) {w i o j n : Int} (hrw : -2147483648 ≤ w ∧ w < 2147483648) (hri : -2147483648 ≤ i ∧ i < 2147483648) (hro : -2147483648 ≤ o ∧ o < 2147483648) (hrj : -2147483648 ≤ j ∧ j < 2147483648) (hrn : -2147483648 ≤ n ∧ n < 2147483648) (hw : ¬ ((0 ≤ w ∧ w ≤ 3) ∧ 0 ≤ o ∧ o ≤ 3)) : CI (d + 2) 256 [.inr (.inr 146), .inl w, .inl i, .inl o, .inl j, .inl n] (s) (fun r s1 => r = -1000000000 - 1 ∧ s1 = us s 150 1 (s 150 1 + 1)) := by
  refine CI.mk rfl ?_
  show WP (d + 2) 256 0 [some (.inr (.inr 146)), some (.inl w), some (.inl i), some (.inl o), some (.inl j), some (.inl n), none] [] (encA (s)) _
  have hM0 := hM
  obtain ⟨hM39, hM40, hM41, hM43, hM44, hM36, hM37, hM38, hMc, hMw, hMp, hMt, hMb⟩ := hM
  refine w_ldI rfl rfl ?_
  refine w_call rfl rfl rfl (c_isSheet (by omega)) ?_
  refine w_bEq0 rfl (fun b2 => ?_) (fun b2 => ?_)
  · first
    | (exfalso; omega)
    | (refine w_ldR rfl rfl rfl ?_
       refine w_push rfl ?_
       refine w_callV rfl rfl rfl rfl rfl rfl rfl r_finds1 ?_
       refine w_retI rfl ?_
       exact ⟨rfl, rfl⟩)
  · first
    | (exfalso; omega)
    | (refine w_ldI rfl rfl ?_
       refine w_call rfl rfl rfl (c_isSheet (by omega)) ?_
       refine w_bNe0 rfl (fun b5 => ?_) (fun b5 => ?_)
       · first
         | (exfalso; omega)
         | (exfalso; omega)
       · first
         | (exfalso; omega)
         | (refine w_ldR rfl rfl rfl ?_
            refine w_push rfl ?_
            refine w_callV rfl rfl rfl rfl rfl rfl rfl r_finds1 ?_
            refine w_retI rfl ?_
            exact ⟨rfl, rfl⟩))
theorem m_move_m {d : Nat} {s : mSt} {D : Nat → Int} (hD : s 147 = D) (hM : MOk D) (hC : COk D) {w i o j n : Int} (hrw : -2147483648 ≤ w ∧ w < 2147483648) (hri : -2147483648 ≤ i ∧ i < 2147483648) (hro : -2147483648 ≤ o ∧ o < 2147483648) (hrj : -2147483648 ≤ j ∧ j < 2147483648) (hrn : -2147483648 ≤ n ∧ n < 2147483648) (hw : 0 ≤ w ∧ w ≤ 3) (ho : 0 ≤ o ∧ o ≤ 3) (hsa : (0 ≤ s 160 w.toNat ∧ s 160 w.toNat ≤ 32) ∧ (0 ≤ s 161 w.toNat ∧ s 161 w.toNat ≤ 40)) (hsb : (0 ≤ s 160 o.toNat ∧ s 160 o.toNat ≤ 32) ∧ (0 ≤ s 161 o.toNat ∧ s 161 o.toNat ≤ 40)) (hb : s 160 w.toNat = 0 ∨ s 160 o.toNat = 0) : CI (d + 2) 256 [.inr (.inr 146), .inl w, .inl i, .inl o, .inl j, .inl n] (s) (fun r s1 => r = -1000000000 - 2 ∧ s1 = us s 150 2 (s 150 2 + 1)) := by
  refine CI.mk rfl ?_
  show WP (d + 2) 256 0 [some (.inr (.inr 146)), some (.inl w), some (.inl i), some (.inl o), some (.inl j), some (.inl n), none] [] (encA (s)) _
  have hM0 := hM
  obtain ⟨hM39, hM40, hM41, hM43, hM44, hM36, hM37, hM38, hMc, hMw, hMp, hMt, hMb⟩ := hM
  refine w_ldI rfl rfl ?_
  refine w_call rfl rfl rfl (c_isSheet (by omega)) ?_
  refine w_bEq0 rfl (fun b2 => ?_) (fun b2 => ?_)
  · first
    | (exfalso; omega)
    | (exfalso; omega)
  · first
    | (exfalso; omega)
    | (refine w_ldI rfl rfl ?_
       refine w_call rfl rfl rfl (c_isSheet (by omega)) ?_
       refine w_bNe0 rfl (fun b5 => ?_) (fun b5 => ?_)
       · first
         | (exfalso; omega)
         | (refine w_ldR rfl rfl rfl ?_
            first | refine w_getI rfl rfl rfl rfl rfl ?_ | refine w_getR rfl rfl rfl rfl rfl ?_
            refine w_ldI rfl rfl ?_
            refine w_ald rfl rfl rfl (by omega) rfl ?_
            refine w_irEq0 rfl (by omega) (fun b14 => ?_) (fun b14 => ?_)
            · first
              | (exfalso; omega)
              | (refine w_ldR rfl rfl rfl ?_
                 refine w_push rfl ?_
                 refine w_callV rfl rfl rfl rfl rfl rfl rfl r_finds2 ?_
                 refine w_retI rfl ?_
                 exact ⟨rfl, rfl⟩)
            · first
              | (exfalso; omega)
              | (refine w_ldR rfl rfl rfl ?_
                 first | refine w_getI rfl rfl rfl rfl rfl ?_ | refine w_getR rfl rfl rfl rfl rfl ?_
                 refine w_ldI rfl rfl ?_
                 refine w_ald rfl rfl rfl (by omega) rfl ?_
                 refine w_irNe0 rfl (by omega) (fun b19 => ?_) (fun b19 => ?_)
                 · first
                   | (exfalso; omega)
                   | (exfalso; omega)
                 · first
                   | (exfalso; omega)
                   | (refine w_ldR rfl rfl rfl ?_
                      refine w_push rfl ?_
                      refine w_callV rfl rfl rfl rfl rfl rfl rfl r_finds2 ?_
                      refine w_retI rfl ?_
                      exact ⟨rfl, rfl⟩)))
       · first
         | (exfalso; omega)
         | (exfalso; omega))
theorem m_move_k {d : Nat} {s : mSt} {D : Nat → Int} (hD : s 147 = D) (hM : MOk D) (hC : COk D) {w i o j n : Int} (hrw : -2147483648 ≤ w ∧ w < 2147483648) (hri : -2147483648 ≤ i ∧ i < 2147483648) (hro : -2147483648 ≤ o ∧ o < 2147483648) (hrj : -2147483648 ≤ j ∧ j < 2147483648) (hrn : -2147483648 ≤ n ∧ n < 2147483648) (hw : 0 ≤ w ∧ w ≤ 3) (ho : 0 ≤ o ∧ o ≤ 3) (hsa : (0 ≤ s 160 w.toNat ∧ s 160 w.toNat ≤ 32) ∧ (0 ≤ s 161 w.toNat ∧ s 161 w.toNat ≤ 40)) (hsb : (0 ≤ s 160 o.toNat ∧ s 160 o.toNat ≤ 32) ∧ (0 ≤ s 161 o.toNat ∧ s 161 o.toNat ≤ 40)) (hb : ¬ (s 160 w.toNat = 0 ∨ s 160 o.toNat = 0)) (hk : ¬ s 160 w.toNat = s 160 o.toNat) : CI (d + 2) 256 [.inr (.inr 146), .inl w, .inl i, .inl o, .inl j, .inl n] (s) (fun r s1 => r = -1000000000 - 5 ∧ s1 = us s 150 5 (s 150 5 + 1)) := by
  refine CI.mk rfl ?_
  show WP (d + 2) 256 0 [some (.inr (.inr 146)), some (.inl w), some (.inl i), some (.inl o), some (.inl j), some (.inl n), none] [] (encA (s)) _
  have hM0 := hM
  obtain ⟨hM39, hM40, hM41, hM43, hM44, hM36, hM37, hM38, hMc, hMw, hMp, hMt, hMb⟩ := hM
  refine w_ldI rfl rfl ?_
  refine w_call rfl rfl rfl (c_isSheet (by omega)) ?_
  refine w_bEq0 rfl (fun b2 => ?_) (fun b2 => ?_)
  · first
    | (exfalso; omega)
    | (exfalso; omega)
  · first
    | (exfalso; omega)
    | (refine w_ldI rfl rfl ?_
       refine w_call rfl rfl rfl (c_isSheet (by omega)) ?_
       refine w_bNe0 rfl (fun b5 => ?_) (fun b5 => ?_)
       · first
         | (exfalso; omega)
         | (refine w_ldR rfl rfl rfl ?_
            first | refine w_getI rfl rfl rfl rfl rfl ?_ | refine w_getR rfl rfl rfl rfl rfl ?_
            refine w_ldI rfl rfl ?_
            refine w_ald rfl rfl rfl (by omega) rfl ?_
            refine w_irEq0 rfl (by omega) (fun b14 => ?_) (fun b14 => ?_)
            · first
              | (exfalso; omega)
              | (exfalso; omega)
            · first
              | (exfalso; omega)
              | (refine w_ldR rfl rfl rfl ?_
                 first | refine w_getI rfl rfl rfl rfl rfl ?_ | refine w_getR rfl rfl rfl rfl rfl ?_
                 refine w_ldI rfl rfl ?_
                 refine w_ald rfl rfl rfl (by omega) rfl ?_
                 refine w_irNe0 rfl (by omega) (fun b19 => ?_) (fun b19 => ?_)
                 · first
                   | (exfalso; omega)
                   | (refine w_ldR rfl rfl rfl ?_
                      first | refine w_getI rfl rfl rfl rfl rfl ?_ | refine w_getR rfl rfl rfl rfl rfl ?_
                      refine w_ldI rfl rfl ?_
                      refine w_ald rfl rfl rfl (by omega) rfl ?_
                      refine w_ldR rfl rfl rfl ?_
                      first | refine w_getI rfl rfl rfl rfl rfl ?_ | refine w_getR rfl rfl rfl rfl rfl ?_
                      refine w_ldI rfl rfl ?_
                      refine w_ald rfl rfl rfl (by omega) rfl ?_
                      refine w_crEq rfl (by omega) (by omega) (fun b32 => ?_) (fun b32 => ?_)
                      · first
                        | (exfalso; omega)
                        | (exfalso; omega)
                      · first
                        | (exfalso; omega)
                        | (refine w_ldR rfl rfl rfl ?_
                           refine w_push rfl ?_
                           refine w_callV rfl rfl rfl rfl rfl rfl rfl r_finds5 ?_
                           refine w_retI rfl ?_
                           exact ⟨rfl, rfl⟩))
                 · first
                   | (exfalso; omega)
                   | (exfalso; omega)))
       · first
         | (exfalso; omega)
         | (exfalso; omega))
theorem m_move_s {d : Nat} {s : mSt} {D : Nat → Int} (hD : s 147 = D) (hM : MOk D) (hC : COk D) {w i o j n : Int} (hrw : -2147483648 ≤ w ∧ w < 2147483648) (hri : -2147483648 ≤ i ∧ i < 2147483648) (hro : -2147483648 ≤ o ∧ o < 2147483648) (hrj : -2147483648 ≤ j ∧ j < 2147483648) (hrn : -2147483648 ≤ n ∧ n < 2147483648) (hw : 0 ≤ w ∧ w ≤ 3) (ho : 0 ≤ o ∧ o ≤ 3) (hsa : (0 ≤ s 160 w.toNat ∧ s 160 w.toNat ≤ 32) ∧ (0 ≤ s 161 w.toNat ∧ s 161 w.toNat ≤ 40)) (hsb : (0 ≤ s 160 o.toNat ∧ s 160 o.toNat ≤ 32) ∧ (0 ≤ s 161 o.toNat ∧ s 161 o.toNat ≤ 40)) (hb : ¬ s 160 w.toNat = 0 ∧ ¬ s 160 o.toNat = 0 ∧ s 160 w.toNat = s 160 o.toNat) (h : ¬ (0 ≤ n ∧ 0 ≤ i ∧ 0 ≤ j ∧ n ≤ s 161 w.toNat - i ∧ n ≤ s 161 o.toNat - j)) : CI (d + 2) 256 [.inr (.inr 146), .inl w, .inl i, .inl o, .inl j, .inl n] (s) (fun r s1 => r = -1000000000 - 1 ∧ s1 = us s 150 1 (s 150 1 + 1)) := by
  refine CI.mk rfl ?_
  show WP (d + 2) 256 0 [some (.inr (.inr 146)), some (.inl w), some (.inl i), some (.inl o), some (.inl j), some (.inl n), none] [] (encA (s)) _
  have hM0 := hM
  obtain ⟨hM39, hM40, hM41, hM43, hM44, hM36, hM37, hM38, hMc, hMw, hMp, hMt, hMb⟩ := hM
  refine w_ldI rfl rfl ?_
  refine w_call rfl rfl rfl (c_isSheet (by omega)) ?_
  refine w_bEq0 rfl (fun b2 => ?_) (fun b2 => ?_)
  · first
    | (exfalso; omega)
    | (exfalso; omega)
  · first
    | (exfalso; omega)
    | (refine w_ldI rfl rfl ?_
       refine w_call rfl rfl rfl (c_isSheet (by omega)) ?_
       refine w_bNe0 rfl (fun b5 => ?_) (fun b5 => ?_)
       · first
         | (exfalso; omega)
         | (refine w_ldR rfl rfl rfl ?_
            first | refine w_getI rfl rfl rfl rfl rfl ?_ | refine w_getR rfl rfl rfl rfl rfl ?_
            refine w_ldI rfl rfl ?_
            refine w_ald rfl rfl rfl (by omega) rfl ?_
            refine w_irEq0 rfl (by omega) (fun b14 => ?_) (fun b14 => ?_)
            · first
              | (exfalso; omega)
              | (exfalso; omega)
            · first
              | (exfalso; omega)
              | (refine w_ldR rfl rfl rfl ?_
                 first | refine w_getI rfl rfl rfl rfl rfl ?_ | refine w_getR rfl rfl rfl rfl rfl ?_
                 refine w_ldI rfl rfl ?_
                 refine w_ald rfl rfl rfl (by omega) rfl ?_
                 refine w_irNe0 rfl (by omega) (fun b19 => ?_) (fun b19 => ?_)
                 · first
                   | (exfalso; omega)
                   | (refine w_ldR rfl rfl rfl ?_
                      first | refine w_getI rfl rfl rfl rfl rfl ?_ | refine w_getR rfl rfl rfl rfl rfl ?_
                      refine w_ldI rfl rfl ?_
                      refine w_ald rfl rfl rfl (by omega) rfl ?_
                      refine w_ldR rfl rfl rfl ?_
                      first | refine w_getI rfl rfl rfl rfl rfl ?_ | refine w_getR rfl rfl rfl rfl rfl ?_
                      refine w_ldI rfl rfl ?_
                      refine w_ald rfl rfl rfl (by omega) rfl ?_
                      refine w_crEq rfl (by omega) (by omega) (fun b32 => ?_) (fun b32 => ?_)
                      · first
                        | (exfalso; omega)
                        | (refine w_ldI rfl rfl ?_
                           refine w_irLt0 rfl (by omega) (fun b38 => ?_) (fun b38 => ?_)
                           · first
                             | (exfalso; omega)
                             | (refine w_ldR rfl rfl rfl ?_
                                refine w_push rfl ?_
                                refine w_callV rfl rfl rfl rfl rfl rfl rfl r_finds1 ?_
                                refine w_retI rfl ?_
                                exact ⟨rfl, rfl⟩)
                           · first
                             | (exfalso; omega)
                             | (refine w_ldI rfl rfl ?_
                                refine w_irLt0 rfl (by omega) (fun b40 => ?_) (fun b40 => ?_)
                                · first
                                  | (exfalso; omega)
                                  | (refine w_ldR rfl rfl rfl ?_
                                     refine w_push rfl ?_
                                     refine w_callV rfl rfl rfl rfl rfl rfl rfl r_finds1 ?_
                                     refine w_retI rfl ?_
                                     exact ⟨rfl, rfl⟩)
                                · first
                                  | (exfalso; omega)
                                  | (refine w_ldI rfl rfl ?_
                                     refine w_irLt0 rfl (by omega) (fun b42 => ?_) (fun b42 => ?_)
                                     · first
                                       | (exfalso; omega)
                                       | (refine w_ldR rfl rfl rfl ?_
                                          refine w_push rfl ?_
                                          refine w_callV rfl rfl rfl rfl rfl rfl rfl r_finds1 ?_
                                          refine w_retI rfl ?_
                                          exact ⟨rfl, rfl⟩)
                                     · first
                                       | (exfalso; omega)
                                       | (refine w_ldI rfl rfl ?_
                                          refine w_ldR rfl rfl rfl ?_
                                          first | refine w_getI rfl rfl rfl rfl rfl ?_ | refine w_getR rfl rfl rfl rfl rfl ?_
                                          refine w_ldI rfl rfl ?_
                                          refine w_ald rfl rfl rfl (by omega) rfl ?_
                                          refine w_ldI rfl rfl ?_
                                          refine w_sub rfl ?_
                                          refine w_crGt rfl (by omega) (by omega) (fun b50 => ?_) (fun b50 => ?_)
                                          · first
                                            | (exfalso; omega)
                                            | (refine w_ldR rfl rfl rfl ?_
                                               refine w_push rfl ?_
                                               refine w_callV rfl rfl rfl rfl rfl rfl rfl r_finds1 ?_
                                               refine w_retI rfl ?_
                                               exact ⟨rfl, rfl⟩)
                                          · first
                                            | (exfalso; omega)
                                            | (refine w_ldI rfl rfl ?_
                                               refine w_ldR rfl rfl rfl ?_
                                               first | refine w_getI rfl rfl rfl rfl rfl ?_ | refine w_getR rfl rfl rfl rfl rfl ?_
                                               refine w_ldI rfl rfl ?_
                                               refine w_ald rfl rfl rfl (by omega) rfl ?_
                                               refine w_ldI rfl rfl ?_
                                               refine w_sub rfl ?_
                                               refine w_crLe rfl (by omega) (by omega) (fun b58 => ?_) (fun b58 => ?_)
                                               · first
                                                 | (exfalso; omega)
                                                 | (exfalso; omega)
                                               · first
                                                 | (exfalso; omega)
                                                 | (refine w_ldR rfl rfl rfl ?_
                                                    refine w_push rfl ?_
                                                    refine w_callV rfl rfl rfl rfl rfl rfl rfl r_finds1 ?_
                                                    refine w_retI rfl ?_
                                                    exact ⟨rfl, rfl⟩))))))
                      · first
                        | (exfalso; omega)
                        | (exfalso; omega))
                 · first
                   | (exfalso; omega)
                   | (exfalso; omega)))
       · first
         | (exfalso; omega)
         | (exfalso; omega))
theorem l_mmoveB {d : Nat} {s : mSt} {P : Int → mSt → Prop} {s0 : mSt} {w i o j n : Int} (ho : 0 ≤ o ∧ o ≤ 3) (hj : 0 ≤ j ∧ j + n ≤ 40) (hn : 0 ≤ n) (k : Nat) (q : Int) (hq : q = (k : Int)) (hk : (k : Int) ≤ n) {Z : Nat → Int} (hz : ∀ q : Nat, (q : Int) < n → s 163 q = Z q) (hf : Fr [162] s0 s) (h1 : ∀ q : Nat, s 162 q = if 40 * o + j ≤ (q : Int) ∧ (q : Int) < 40 * o + j + (k : Int) then Z ((q : Int) - (40 * o + j)).toNat else s0 162 q) (hP : ∀ s1, Fr [162] s0 s1 → (∀ q : Nat, s1 162 q = if 40 * o + j ≤ (q : Int) ∧ (q : Int) < 40 * o + j + n then Z ((q : Int) - (40 * o + j)).toNat else s0 162 q) → P n s1) : WP (d + 2) 256 86 [some (.inr (.inr 146)), some (.inl w), some (.inl i), some (.inl o), some (.inl j), some (.inl n), some (.inl q)] [] (encA (s)) (QI P) := by
  subst hq
  refine w_ldI rfl rfl ?_
  refine w_ldI rfl rfl ?_
  refine w_crGe rfl (by omega) (by omega) (fun b88 => ?_) (fun b88 => ?_)
  · first
    | (exfalso; omega)
    | (refine w_ldI rfl rfl ?_
       refine w_retI rfl ?_
       obtain rfl : n = (k : Int) := by omega
       exact hP s hf h1)
  · first
    | (exfalso; omega)
    | (refine w_ldR rfl rfl rfl ?_
       first | refine w_getI rfl rfl rfl rfl rfl ?_ | refine w_getR rfl rfl rfl rfl rfl ?_
       refine w_push rfl ?_
       refine w_ldI rfl rfl ?_
       refine w_mul rfl ?_
       refine w_ldI rfl rfl ?_
       refine w_add rfl ?_
       refine w_ldI rfl rfl ?_
       refine w_add rfl ?_
       refine w_ldR rfl rfl rfl ?_
       first | refine w_getI rfl rfl rfl rfl rfl ?_ | refine w_getR rfl rfl rfl rfl rfl ?_
       refine w_ldI rfl rfl ?_
       refine w_ald rfl rfl rfl (by omega) rfl ?_
       refine w_ast rfl rfl rfl (by omega) rfl ?_
       refine w_inc_7_6 rfl rfl ?_
       refine w_go rfl ?_
       refine l_mmoveB ho hj hn (k + 1) ((k : Int) + 1) (by omega) (by omega) (fun q h => by rw [us_ne (by decide)]; exact hz q h) (hf.tr (Fr.us rfl)) (fun q => ?_) hP
       rw [us_eq]
       unfold mup
       by_cases e : q = (40 * o + j + (k : Int)).toNat
       · rw [if_pos e, if_pos (by omega), hz _ (by omega)]
         congr 1
         omega
       · rw [if_neg e, h1 q]
         by_cases e2 : 40 * o + j ≤ (q : Int) ∧ (q : Int) < 40 * o + j + (k : Int)
         · rw [if_pos e2, if_pos (by omega)]
         · rw [if_neg e2, if_neg (by omega)])
termination_by (n - k).toNat
decreasing_by all_goals omega
theorem l_mmoveA {d : Nat} {s : mSt} {Q : mQ} {w i o j n : Int} (hw : 0 ≤ w ∧ w ≤ 3) (hi : 0 ≤ i ∧ i + n ≤ 40) (hn : 0 ≤ n) (k : Nat) (q : Int) (hq : q = (k : Int)) (hk : (k : Int) ≤ n) (h1 : ∀ q : Nat, q < k → s 163 q = s 162 (40 * w + i + (q : Int)).toNat) (kk : ∀ s1, Fr [163] s s1 → (∀ q : Nat, (q : Int) < n → s1 163 q = s 162 (40 * w + i + (q : Int)).toNat) → WP (d + 2) 256 84 [some (.inr (.inr 146)), some (.inl w), some (.inl i), some (.inl o), some (.inl j), some (.inl n), some (.inl n)] [] (encA (s1)) (Q)) : WP (d + 2) 256 65 [some (.inr (.inr 146)), some (.inl w), some (.inl i), some (.inl o), some (.inl j), some (.inl n), some (.inl q)] [] (encA (s)) (Q) := by
  subst hq
  refine w_ldI rfl rfl ?_
  refine w_ldI rfl rfl ?_
  refine w_crGe rfl (by omega) (by omega) (fun b67 => ?_) (fun b67 => ?_)
  · first
    | (exfalso; omega)
    | (obtain rfl : n = (k : Int) := by omega
       exact kk s Fr.rf (fun q h => h1 q (by omega)))
  · first
    | (exfalso; omega)
    | (refine w_ldR rfl rfl rfl ?_
       first | refine w_getI rfl rfl rfl rfl rfl ?_ | refine w_getR rfl rfl rfl rfl rfl ?_
       refine w_ldI rfl rfl ?_
       refine w_ldR rfl rfl rfl ?_
       first | refine w_getI rfl rfl rfl rfl rfl ?_ | refine w_getR rfl rfl rfl rfl rfl ?_
       refine w_push rfl ?_
       refine w_ldI rfl rfl ?_
       refine w_mul rfl ?_
       refine w_ldI rfl rfl ?_
       refine w_add rfl ?_
       refine w_ldI rfl rfl ?_
       refine w_add rfl ?_
       refine w_ald rfl rfl rfl (by omega) rfl ?_
       refine w_ast rfl rfl rfl (by omega) rfl ?_
       refine w_inc_7_6 rfl rfl ?_
       refine w_go rfl ?_
       refine l_mmoveA hw hi hn (k + 1) ((k : Int) + 1) (by omega) (by omega) (fun q h => ?_) (fun s1 h2 h3 => kk s1 ((Fr.us rfl).tr h2) (fun q h => by rw [h3 q h, us_ne (by decide)]))
       rw [us_eq, us_ne (show (162 : Nat) ≠ 163 by decide)]
       unfold mup
       by_cases e : q = (k : Int).toNat
       · rw [if_pos e]
         congr 1
         omega
       · rw [if_neg e]; exact h1 q (by omega))
termination_by (n - k).toNat
decreasing_by all_goals omega
theorem z_mmove {d : Nat} {s : mSt} {P : Int → mSt → Prop} {w i o j n : Int} {l6 : Option mAV} (ho : 0 ≤ o ∧ o ≤ 3) (hj : 0 ≤ j ∧ j + n ≤ 40) (hn : 0 ≤ n) {Z : Nat → Int} (hz : ∀ q : Nat, (q : Int) < n → s 163 q = Z q) (hP : ∀ s1, Fr [162] s s1 → (∀ q : Nat, s1 162 q = if 40 * o + j ≤ (q : Int) ∧ (q : Int) < 40 * o + j + n then Z ((q : Int) - (40 * o + j)).toNat else s 162 q) → P n s1) : WP (d + 2) 256 84 [some (.inr (.inr 146)), some (.inl w), some (.inl i), some (.inl o), some (.inl j), some (.inl n), l6] [] (encA (s)) (QI P) := by
  refine w_push rfl ?_
  refine w_StI_7_6 rfl rfl ?_
  exact l_mmoveB (s0 := s) ho hj hn 0 0 rfl (by omega) hz Fr.rf (fun q => by rw [if_neg (by omega)]) hP
theorem m_move_y {d : Nat} {s : mSt} {D : Nat → Int} (hD : s 147 = D) (hM : MOk D) (hC : COk D) {w i o j n : Int} (hrw : -2147483648 ≤ w ∧ w < 2147483648) (hri : -2147483648 ≤ i ∧ i < 2147483648) (hro : -2147483648 ≤ o ∧ o < 2147483648) (hrj : -2147483648 ≤ j ∧ j < 2147483648) (hrn : -2147483648 ≤ n ∧ n < 2147483648) (hw : 0 ≤ w ∧ w ≤ 3) (ho : 0 ≤ o ∧ o ≤ 3) (hsa : (0 ≤ s 160 w.toNat ∧ s 160 w.toNat ≤ 32) ∧ (0 ≤ s 161 w.toNat ∧ s 161 w.toNat ≤ 40)) (hsb : (0 ≤ s 160 o.toNat ∧ s 160 o.toNat ≤ 32) ∧ (0 ≤ s 161 o.toNat ∧ s 161 o.toNat ≤ 40)) (hb : ¬ s 160 w.toNat = 0 ∧ ¬ s 160 o.toNat = 0 ∧ s 160 w.toNat = s 160 o.toNat) (h : 0 ≤ n ∧ 0 ≤ i ∧ 0 ≤ j ∧ n ≤ s 161 w.toNat - i ∧ n ≤ s 161 o.toNat - j) : CI (d + 2) 256 [.inr (.inr 146), .inl w, .inl i, .inl o, .inl j, .inl n] (s) (fun v s1 => v = n ∧ (∀ q : Nat, s1 162 q = if 40 * o + j ≤ (q : Int) ∧ (q : Int) < 40 * o + j + n then s 162 (40 * w + i + (((q : Int) - (40 * o + j)).toNat : Int)).toNat else s 162 q) ∧ Fr [162, 163] s s1) := by
  refine CI.mk rfl ?_
  show WP (d + 2) 256 0 [some (.inr (.inr 146)), some (.inl w), some (.inl i), some (.inl o), some (.inl j), some (.inl n), none] [] (encA (s)) _
  have hM0 := hM
  obtain ⟨hM39, hM40, hM41, hM43, hM44, hM36, hM37, hM38, hMc, hMw, hMp, hMt, hMb⟩ := hM
  refine w_ldI rfl rfl ?_
  refine w_call rfl rfl rfl (c_isSheet (by omega)) ?_
  refine w_bEq0 rfl (fun b2 => ?_) (fun b2 => ?_)
  · first
    | (exfalso; omega)
    | (exfalso; omega)
  · first
    | (exfalso; omega)
    | (refine w_ldI rfl rfl ?_
       refine w_call rfl rfl rfl (c_isSheet (by omega)) ?_
       refine w_bNe0 rfl (fun b5 => ?_) (fun b5 => ?_)
       · first
         | (exfalso; omega)
         | (refine w_ldR rfl rfl rfl ?_
            first | refine w_getI rfl rfl rfl rfl rfl ?_ | refine w_getR rfl rfl rfl rfl rfl ?_
            refine w_ldI rfl rfl ?_
            refine w_ald rfl rfl rfl (by omega) rfl ?_
            refine w_irEq0 rfl (by omega) (fun b14 => ?_) (fun b14 => ?_)
            · first
              | (exfalso; omega)
              | (exfalso; omega)
            · first
              | (exfalso; omega)
              | (refine w_ldR rfl rfl rfl ?_
                 first | refine w_getI rfl rfl rfl rfl rfl ?_ | refine w_getR rfl rfl rfl rfl rfl ?_
                 refine w_ldI rfl rfl ?_
                 refine w_ald rfl rfl rfl (by omega) rfl ?_
                 refine w_irNe0 rfl (by omega) (fun b19 => ?_) (fun b19 => ?_)
                 · first
                   | (exfalso; omega)
                   | (refine w_ldR rfl rfl rfl ?_
                      first | refine w_getI rfl rfl rfl rfl rfl ?_ | refine w_getR rfl rfl rfl rfl rfl ?_
                      refine w_ldI rfl rfl ?_
                      refine w_ald rfl rfl rfl (by omega) rfl ?_
                      refine w_ldR rfl rfl rfl ?_
                      first | refine w_getI rfl rfl rfl rfl rfl ?_ | refine w_getR rfl rfl rfl rfl rfl ?_
                      refine w_ldI rfl rfl ?_
                      refine w_ald rfl rfl rfl (by omega) rfl ?_
                      refine w_crEq rfl (by omega) (by omega) (fun b32 => ?_) (fun b32 => ?_)
                      · first
                        | (exfalso; omega)
                        | (refine w_ldI rfl rfl ?_
                           refine w_irLt0 rfl (by omega) (fun b38 => ?_) (fun b38 => ?_)
                           · first
                             | (exfalso; omega)
                             | (exfalso; omega)
                           · first
                             | (exfalso; omega)
                             | (refine w_ldI rfl rfl ?_
                                refine w_irLt0 rfl (by omega) (fun b40 => ?_) (fun b40 => ?_)
                                · first
                                  | (exfalso; omega)
                                  | (exfalso; omega)
                                · first
                                  | (exfalso; omega)
                                  | (refine w_ldI rfl rfl ?_
                                     refine w_irLt0 rfl (by omega) (fun b42 => ?_) (fun b42 => ?_)
                                     · first
                                       | (exfalso; omega)
                                       | (exfalso; omega)
                                     · first
                                       | (exfalso; omega)
                                       | (refine w_ldI rfl rfl ?_
                                          refine w_ldR rfl rfl rfl ?_
                                          first | refine w_getI rfl rfl rfl rfl rfl ?_ | refine w_getR rfl rfl rfl rfl rfl ?_
                                          refine w_ldI rfl rfl ?_
                                          refine w_ald rfl rfl rfl (by omega) rfl ?_
                                          refine w_ldI rfl rfl ?_
                                          refine w_sub rfl ?_
                                          refine w_crGt rfl (by omega) (by omega) (fun b50 => ?_) (fun b50 => ?_)
                                          · first
                                            | (exfalso; omega)
                                            | (exfalso; omega)
                                          · first
                                            | (exfalso; omega)
                                            | (refine w_ldI rfl rfl ?_
                                               refine w_ldR rfl rfl rfl ?_
                                               first | refine w_getI rfl rfl rfl rfl rfl ?_ | refine w_getR rfl rfl rfl rfl rfl ?_
                                               refine w_ldI rfl rfl ?_
                                               refine w_ald rfl rfl rfl (by omega) rfl ?_
                                               refine w_ldI rfl rfl ?_
                                               refine w_sub rfl ?_
                                               refine w_crLe rfl (by omega) (by omega) (fun b58 => ?_) (fun b58 => ?_)
                                               · first
                                                 | (exfalso; omega)
                                                 | (refine w_push rfl ?_
                                                    refine w_StI_7_6 rfl rfl ?_
                                                    exact l_mmoveA hw (by omega) (by omega) 0 0 rfl (by omega) (fun q h => by omega) (fun s1 h2 h3 => z_mmove (Z := fun q => s 162 (40 * w + i + (q : Int)).toNat) ho (by omega) (by omega) h3 (fun s2 h4 h5 => ⟨rfl, fun q => by rw [h5 q, h2.at 162 rfl], (Fr.mono rfl h2).tr (Fr.mono rfl h4)⟩)))
                                               · first
                                                 | (exfalso; omega)
                                                 | (exfalso; omega))))))
                      · first
                        | (exfalso; omega)
                        | (exfalso; omega))
                 · first
                   | (exfalso; omega)
                   | (exfalso; omega)))
       · first
         | (exfalso; omega)
         | (exfalso; omega))
theorem st_move {X : Nat → Int} {N : Int} {d : Nat} {s : mSt} {cnt : Int} (hI : Inv X N s cnt) {w i o j n : Int} (hrw : -2147483648 ≤ w ∧ w < 2147483648) (hri : -2147483648 ≤ i ∧ i < 2147483648) (hro : -2147483648 ≤ o ∧ o < 2147483648) (hrj : -2147483648 ≤ j ∧ j < 2147483648) (hrn : -2147483648 ≤ n ∧ n < 2147483648) : Step X N (d + 150) s cnt 132 256 [.inl w, .inl i, .inl o, .inl j, .inl n] := by
  have hI0 := hI
  obtain ⟨hD, -, -, -, -, hT, -, hX, hU⟩ := hI
  have hD0 := hD
  obtain ⟨⟨hM, hC, hN⟩, hV, h8⟩ := hD
  have hV0 := hV
  have hM0 := hM
  obtain ⟨vc, vpl, vga, vse, vne, veg, vre, vtu, vta, vwa, v36, v37, v39, v40, v42, v41, v43, v44, vl0, vl1, vlm⟩ := hV
  obtain ⟨hM39, hM40, hM41, hM43, hM44, hM36, hM37, hM38, hMc, hMw, hMp, hMt, hMb⟩ := hM
  have hS := hI0.2.2.2.2.1
  by_cases hy : (0 ≤ w ∧ w ≤ 3) ∧ 0 ≤ o ∧ o ≤ 3
  · have hsa : (0 ≤ s 160 w.toNat ∧ s 160 w.toNat ≤ 32) ∧ (0 ≤ s 161 w.toNat ∧ s 161 w.toNat ≤ 40) := by have := hS.at hy.1; omega
    have hsb : (0 ≤ s 160 o.toNat ∧ s 160 o.toNat ≤ 32) ∧ (0 ≤ s 161 o.toNat ∧ s 161 o.toNat ≤ 40) := by have := hS.at hy.2; omega
    by_cases hb0 : s 160 w.toNat = 0 ∨ s 160 o.toNat = 0
    · obtain ⟨r1, s1, k1, hr, hs1⟩ := x_move_m (d := d + 148) hD0 hrw hri hro hrj hrn hS hy.1 hy.2 hb0
      have e : s1 147 = s 147 := by rw [hs1]; exact us_ne (by decide)
      obtain ⟨r2, s2, k2, hr2, hs2⟩ := m_move_m (d := d + 148) (s := s1) e hM0 hC hrw hri hro hrj hrn (by omega) (by omega) (by rw [hs1, us_ne (by decide), us_ne (by decide)]; exact hsa) (by rw [hs1, us_ne (by decide), us_ne (by decide)]; exact hsb) (by rw [hs1, us_ne (by decide)]; exact hb0)
      rw [hs2] at k2
      exact Step.mk (by first | exact ⟨(f1.at 1 rfl).trans hX.2.1, (congrFun (f1.at 0 rfl) 1).trans hX.2.2⟩ | exact ⟨hX.2.1, hX.2.2⟩ | exact ⟨by rw [hs1, us_ne (by decide)]; exact hX.2.1, by rw [hs1, us_ne (by decide)]; exact hX.2.2⟩ | exact ⟨by rw [hs1, us_ne (by decide), us_ne (by decide)]; exact hX.2.1, by rw [hs1, us_ne (by decide), us_ne (by decide)]; exact hX.2.2⟩ | exact ⟨by rw [e1, us_ne (by decide), f1.at 1 rfl]; exact hX.2.1, by rw [e1, us_ne (by decide), f1.at 0 rfl]; exact hX.2.2⟩ | exact ⟨by rw [ft.at 1 rfl, hx 1 (by decide) (by decide)]; exact hX.2.1, by rw [ft.at 0 rfl, et, newL_0, mup_ne (by decide)]; exact hX.2.2⟩) k1 k2 (by rw [hr, hr2]) (hI0.err2 hs1)
    · by_cases hk : s 160 w.toNat = s 160 o.toNat
      · have hb : ¬ s 160 w.toNat = 0 ∧ ¬ s 160 o.toNat = 0 ∧ s 160 w.toNat = s 160 o.toNat := ⟨fun q => hb0 (Or.inl q), fun q => hb0 (Or.inr q), hk⟩
        rcases (show w = 0 ∨ w = 1 ∨ w = 2 ∨ w = 3 by omega) with rfl | rfl | rfl | rfl <;> rcases (show o = 0 ∨ o = 1 ∨ o = 2 ∨ o = 3 by omega) with rfl | rfl | rfl | rfl
        · by_cases h : 0 ≤ n ∧ 0 ≤ i ∧ 0 ≤ j ∧ n ≤ s 161 0 - i ∧ n ≤ s 161 0 - j
          · obtain ⟨r1, s1, k1, hr, hs1⟩ := x_move_y0_0 (d := d + 148) hD0 hri hrj hrn hS hb h
            have f1 : Fr [139] s s1 := by rw [hs1]; exact Fr.ua rfl
            have e : s1 147 = s 147 := f1.at 147 rfl
            obtain ⟨r2, s2, k2, hr2, g2, f2⟩ := m_move_y (d := d + 148) (s := s1) (w := 0) (o := 0) e hM0 hC hrw hri hro hrj hrn (by omega) (by omega) (by rw [f1.at 160 rfl, f1.at 161 rfl]; exact hsa) (by rw [f1.at 160 rfl, f1.at 161 rfl]; exact hsb) (by rw [f1.at 160 rfl]; exact hb) (by rw [f1.at 161 rfl]; exact h)
            refine Step.mk (by first | exact ⟨(f1.at 1 rfl).trans hX.2.1, (congrFun (f1.at 0 rfl) 1).trans hX.2.2⟩ | exact ⟨hX.2.1, hX.2.2⟩ | exact ⟨by rw [hs1, us_ne (by decide)]; exact hX.2.1, by rw [hs1, us_ne (by decide)]; exact hX.2.2⟩ | exact ⟨by rw [hs1, us_ne (by decide), us_ne (by decide)]; exact hX.2.1, by rw [hs1, us_ne (by decide), us_ne (by decide)]; exact hX.2.2⟩ | exact ⟨by rw [e1, us_ne (by decide), f1.at 1 rfl]; exact hX.2.1, by rw [e1, us_ne (by decide), f1.at 0 rfl]; exact hX.2.2⟩ | exact ⟨by rw [ft.at 1 rfl, hx 1 (by decide) (by decide)]; exact hX.2.1, by rw [ft.at 0 rfl, et, newL_0, mup_ne (by decide)]; exact hX.2.2⟩) k1 k2 (by rw [hr, hr2]) (hI0.sht (A := [139, 162, 163]) rfl (by omega) ((Fr.mono rfl f1).tr (Fr.mono rfl f2)) ?_)
            obtain ⟨hS0, hS1, hS2, hS3⟩ := hS
            have hz0 := hS0.2.2.1
            have hz1 := hS0.2.2.1
            exact ⟨⟨by rw [f2.at 131 rfl, f1.at 131 rfl, f2.at 160 rfl, f1.at 160 rfl]; exact hS0.1, by rw [f2.at 160 rfl, f1.at 160 rfl]; exact hS0.2.1, by rw [f2.at 161 rfl, f1.at 161 rfl]; exact hS0.2.2.1, by rw [f2.at 138 rfl, f1.at 138 rfl, f2.at 161 rfl, f1.at 161 rfl]; exact hS0.2.2.2.1, fun t t0 t1 => by
                rw [f2.at 160 rfl, f1.at 160 rfl, f2.at (138 + 1) rfl, hs1, ua_eq, g2]
                unfold mcpy
                by_cases e : j ≤ t ∧ t < j + n
                · have h9 := hS0.2.2.2.2 (i + (t - j)) (by omega) (by omega)
                  rw [if_pos (by omega), if_pos (by omega), hs1, ua_ne (by decide), show s 160 0 = s 160 0 from hb.2.2.symm]
                  rw [show i.toNat + (t.toNat - j.toNat) = (i + (t - j)).toNat by omega, show (40 * (0 : Int) + i + (((((40 * ((0 : Nat) : Int) + t).toNat : Nat) : Int) - (40 * (0 : Int) + j)).toNat : Int)).toNat = (40 * ((0 : Nat) : Int) + (i + (t - j))).toNat by omega]
                  exact h9
                · rw [if_neg (by omega), if_neg (by omega), hs1, ua_ne (by decide)]
                  exact hS0.2.2.2.2 t t0 t1⟩,
              hS1.cg (by rw [f2.at 131 rfl, f1.at 131 rfl]) (by rw [f2.at 160 rfl, f1.at 160 rfl]) (by rw [f2.at 161 rfl, f1.at 161 rfl]) (by rw [f2.at 140 rfl, f1.at 140 rfl]) (by rw [f2.at (140 + 1) rfl, f1.at (140 + 1) rfl]) (fun t t0 t1 => by rw [g2, if_neg (by omega), f1.at 162 rfl]),
              hS2.cg (by rw [f2.at 131 rfl, f1.at 131 rfl]) (by rw [f2.at 160 rfl, f1.at 160 rfl]) (by rw [f2.at 161 rfl, f1.at 161 rfl]) (by rw [f2.at 142 rfl, f1.at 142 rfl]) (by rw [f2.at (142 + 1) rfl, f1.at (142 + 1) rfl]) (fun t t0 t1 => by rw [g2, if_neg (by omega), f1.at 162 rfl]),
              hS3.cg (by rw [f2.at 131 rfl, f1.at 131 rfl]) (by rw [f2.at 160 rfl, f1.at 160 rfl]) (by rw [f2.at 161 rfl, f1.at 161 rfl]) (by rw [f2.at 144 rfl, f1.at 144 rfl]) (by rw [f2.at (144 + 1) rfl, f1.at (144 + 1) rfl]) (fun t t0 t1 => by rw [g2, if_neg (by omega), f1.at 162 rfl])⟩
          · obtain ⟨r1, s1, k1, hr, hs1⟩ := x_move_s0_0 (d := d + 148) hD0 hri hrj hrn hS hb h
            have e : s1 147 = s 147 := by rw [hs1]; exact us_ne (by decide)
            obtain ⟨r2, s2, k2, hr2, hs2⟩ := m_move_s (d := d + 148) (s := s1) e hM0 hC (w := 0) (o := 0) hrw hri hro hrj hrn (by omega) (by omega) (by rw [hs1, us_ne (by decide), us_ne (by decide)]; exact hsa) (by rw [hs1, us_ne (by decide), us_ne (by decide)]; exact hsb) (by rw [hs1, us_ne (by decide)]; exact hb) (by rw [hs1, us_ne (by decide)]; exact h)
            rw [hs2] at k2
            exact Step.mk (by first | exact ⟨(f1.at 1 rfl).trans hX.2.1, (congrFun (f1.at 0 rfl) 1).trans hX.2.2⟩ | exact ⟨hX.2.1, hX.2.2⟩ | exact ⟨by rw [hs1, us_ne (by decide)]; exact hX.2.1, by rw [hs1, us_ne (by decide)]; exact hX.2.2⟩ | exact ⟨by rw [hs1, us_ne (by decide), us_ne (by decide)]; exact hX.2.1, by rw [hs1, us_ne (by decide), us_ne (by decide)]; exact hX.2.2⟩ | exact ⟨by rw [e1, us_ne (by decide), f1.at 1 rfl]; exact hX.2.1, by rw [e1, us_ne (by decide), f1.at 0 rfl]; exact hX.2.2⟩ | exact ⟨by rw [ft.at 1 rfl, hx 1 (by decide) (by decide)]; exact hX.2.1, by rw [ft.at 0 rfl, et, newL_0, mup_ne (by decide)]; exact hX.2.2⟩) k1 k2 (by rw [hr, hr2]) (hI0.err2 hs1)
        · by_cases h : 0 ≤ n ∧ 0 ≤ i ∧ 0 ≤ j ∧ n ≤ s 161 0 - i ∧ n ≤ s 161 1 - j
          · obtain ⟨r1, s1, k1, hr, hs1⟩ := x_move_y0_1 (d := d + 148) hD0 hri hrj hrn hS hb h
            have f1 : Fr [141] s s1 := by rw [hs1]; exact Fr.ua rfl
            have e : s1 147 = s 147 := f1.at 147 rfl
            obtain ⟨r2, s2, k2, hr2, g2, f2⟩ := m_move_y (d := d + 148) (s := s1) (w := 0) (o := 1) e hM0 hC hrw hri hro hrj hrn (by omega) (by omega) (by rw [f1.at 160 rfl, f1.at 161 rfl]; exact hsa) (by rw [f1.at 160 rfl, f1.at 161 rfl]; exact hsb) (by rw [f1.at 160 rfl]; exact hb) (by rw [f1.at 161 rfl]; exact h)
            refine Step.mk (by first | exact ⟨(f1.at 1 rfl).trans hX.2.1, (congrFun (f1.at 0 rfl) 1).trans hX.2.2⟩ | exact ⟨hX.2.1, hX.2.2⟩ | exact ⟨by rw [hs1, us_ne (by decide)]; exact hX.2.1, by rw [hs1, us_ne (by decide)]; exact hX.2.2⟩ | exact ⟨by rw [hs1, us_ne (by decide), us_ne (by decide)]; exact hX.2.1, by rw [hs1, us_ne (by decide), us_ne (by decide)]; exact hX.2.2⟩ | exact ⟨by rw [e1, us_ne (by decide), f1.at 1 rfl]; exact hX.2.1, by rw [e1, us_ne (by decide), f1.at 0 rfl]; exact hX.2.2⟩ | exact ⟨by rw [ft.at 1 rfl, hx 1 (by decide) (by decide)]; exact hX.2.1, by rw [ft.at 0 rfl, et, newL_0, mup_ne (by decide)]; exact hX.2.2⟩) k1 k2 (by rw [hr, hr2]) (hI0.sht (A := [141, 162, 163]) rfl (by omega) ((Fr.mono rfl f1).tr (Fr.mono rfl f2)) ?_)
            obtain ⟨hS0, hS1, hS2, hS3⟩ := hS
            have hz0 := hS0.2.2.1
            have hz1 := hS1.2.2.1
            exact ⟨hS0.cg (by rw [f2.at 131 rfl, f1.at 131 rfl]) (by rw [f2.at 160 rfl, f1.at 160 rfl]) (by rw [f2.at 161 rfl, f1.at 161 rfl]) (by rw [f2.at 138 rfl, f1.at 138 rfl]) (by rw [f2.at (138 + 1) rfl, f1.at (138 + 1) rfl]) (fun t t0 t1 => by rw [g2, if_neg (by omega), f1.at 162 rfl]),
              ⟨by rw [f2.at 131 rfl, f1.at 131 rfl, f2.at 160 rfl, f1.at 160 rfl]; exact hS1.1, by rw [f2.at 160 rfl, f1.at 160 rfl]; exact hS1.2.1, by rw [f2.at 161 rfl, f1.at 161 rfl]; exact hS1.2.2.1, by rw [f2.at 140 rfl, f1.at 140 rfl, f2.at 161 rfl, f1.at 161 rfl]; exact hS1.2.2.2.1, fun t t0 t1 => by
                rw [f2.at 160 rfl, f1.at 160 rfl, f2.at (140 + 1) rfl, hs1, ua_eq, g2]
                unfold mcpy
                by_cases e : j ≤ t ∧ t < j + n
                · have h9 := hS0.2.2.2.2 (i + (t - j)) (by omega) (by omega)
                  rw [if_pos (by omega), if_pos (by omega), hs1, ua_ne (by decide), show s 160 1 = s 160 0 from hb.2.2.symm]
                  rw [show i.toNat + (t.toNat - j.toNat) = (i + (t - j)).toNat by omega, show (40 * (0 : Int) + i + (((((40 * ((1 : Nat) : Int) + t).toNat : Nat) : Int) - (40 * (1 : Int) + j)).toNat : Int)).toNat = (40 * ((0 : Nat) : Int) + (i + (t - j))).toNat by omega]
                  exact h9
                · rw [if_neg (by omega), if_neg (by omega), hs1, ua_ne (by decide)]
                  exact hS1.2.2.2.2 t t0 t1⟩,
              hS2.cg (by rw [f2.at 131 rfl, f1.at 131 rfl]) (by rw [f2.at 160 rfl, f1.at 160 rfl]) (by rw [f2.at 161 rfl, f1.at 161 rfl]) (by rw [f2.at 142 rfl, f1.at 142 rfl]) (by rw [f2.at (142 + 1) rfl, f1.at (142 + 1) rfl]) (fun t t0 t1 => by rw [g2, if_neg (by omega), f1.at 162 rfl]),
              hS3.cg (by rw [f2.at 131 rfl, f1.at 131 rfl]) (by rw [f2.at 160 rfl, f1.at 160 rfl]) (by rw [f2.at 161 rfl, f1.at 161 rfl]) (by rw [f2.at 144 rfl, f1.at 144 rfl]) (by rw [f2.at (144 + 1) rfl, f1.at (144 + 1) rfl]) (fun t t0 t1 => by rw [g2, if_neg (by omega), f1.at 162 rfl])⟩
          · obtain ⟨r1, s1, k1, hr, hs1⟩ := x_move_s0_1 (d := d + 148) hD0 hri hrj hrn hS hb h
            have e : s1 147 = s 147 := by rw [hs1]; exact us_ne (by decide)
            obtain ⟨r2, s2, k2, hr2, hs2⟩ := m_move_s (d := d + 148) (s := s1) e hM0 hC (w := 0) (o := 1) hrw hri hro hrj hrn (by omega) (by omega) (by rw [hs1, us_ne (by decide), us_ne (by decide)]; exact hsa) (by rw [hs1, us_ne (by decide), us_ne (by decide)]; exact hsb) (by rw [hs1, us_ne (by decide)]; exact hb) (by rw [hs1, us_ne (by decide)]; exact h)
            rw [hs2] at k2
            exact Step.mk (by first | exact ⟨(f1.at 1 rfl).trans hX.2.1, (congrFun (f1.at 0 rfl) 1).trans hX.2.2⟩ | exact ⟨hX.2.1, hX.2.2⟩ | exact ⟨by rw [hs1, us_ne (by decide)]; exact hX.2.1, by rw [hs1, us_ne (by decide)]; exact hX.2.2⟩ | exact ⟨by rw [hs1, us_ne (by decide), us_ne (by decide)]; exact hX.2.1, by rw [hs1, us_ne (by decide), us_ne (by decide)]; exact hX.2.2⟩ | exact ⟨by rw [e1, us_ne (by decide), f1.at 1 rfl]; exact hX.2.1, by rw [e1, us_ne (by decide), f1.at 0 rfl]; exact hX.2.2⟩ | exact ⟨by rw [ft.at 1 rfl, hx 1 (by decide) (by decide)]; exact hX.2.1, by rw [ft.at 0 rfl, et, newL_0, mup_ne (by decide)]; exact hX.2.2⟩) k1 k2 (by rw [hr, hr2]) (hI0.err2 hs1)
        · by_cases h : 0 ≤ n ∧ 0 ≤ i ∧ 0 ≤ j ∧ n ≤ s 161 0 - i ∧ n ≤ s 161 2 - j
          · obtain ⟨r1, s1, k1, hr, hs1⟩ := x_move_y0_2 (d := d + 148) hD0 hri hrj hrn hS hb h
            have f1 : Fr [143] s s1 := by rw [hs1]; exact Fr.ua rfl
            have e : s1 147 = s 147 := f1.at 147 rfl
            obtain ⟨r2, s2, k2, hr2, g2, f2⟩ := m_move_y (d := d + 148) (s := s1) (w := 0) (o := 2) e hM0 hC hrw hri hro hrj hrn (by omega) (by omega) (by rw [f1.at 160 rfl, f1.at 161 rfl]; exact hsa) (by rw [f1.at 160 rfl, f1.at 161 rfl]; exact hsb) (by rw [f1.at 160 rfl]; exact hb) (by rw [f1.at 161 rfl]; exact h)
            refine Step.mk (by first | exact ⟨(f1.at 1 rfl).trans hX.2.1, (congrFun (f1.at 0 rfl) 1).trans hX.2.2⟩ | exact ⟨hX.2.1, hX.2.2⟩ | exact ⟨by rw [hs1, us_ne (by decide)]; exact hX.2.1, by rw [hs1, us_ne (by decide)]; exact hX.2.2⟩ | exact ⟨by rw [hs1, us_ne (by decide), us_ne (by decide)]; exact hX.2.1, by rw [hs1, us_ne (by decide), us_ne (by decide)]; exact hX.2.2⟩ | exact ⟨by rw [e1, us_ne (by decide), f1.at 1 rfl]; exact hX.2.1, by rw [e1, us_ne (by decide), f1.at 0 rfl]; exact hX.2.2⟩ | exact ⟨by rw [ft.at 1 rfl, hx 1 (by decide) (by decide)]; exact hX.2.1, by rw [ft.at 0 rfl, et, newL_0, mup_ne (by decide)]; exact hX.2.2⟩) k1 k2 (by rw [hr, hr2]) (hI0.sht (A := [143, 162, 163]) rfl (by omega) ((Fr.mono rfl f1).tr (Fr.mono rfl f2)) ?_)
            obtain ⟨hS0, hS1, hS2, hS3⟩ := hS
            have hz0 := hS0.2.2.1
            have hz1 := hS2.2.2.1
            exact ⟨hS0.cg (by rw [f2.at 131 rfl, f1.at 131 rfl]) (by rw [f2.at 160 rfl, f1.at 160 rfl]) (by rw [f2.at 161 rfl, f1.at 161 rfl]) (by rw [f2.at 138 rfl, f1.at 138 rfl]) (by rw [f2.at (138 + 1) rfl, f1.at (138 + 1) rfl]) (fun t t0 t1 => by rw [g2, if_neg (by omega), f1.at 162 rfl]),
              hS1.cg (by rw [f2.at 131 rfl, f1.at 131 rfl]) (by rw [f2.at 160 rfl, f1.at 160 rfl]) (by rw [f2.at 161 rfl, f1.at 161 rfl]) (by rw [f2.at 140 rfl, f1.at 140 rfl]) (by rw [f2.at (140 + 1) rfl, f1.at (140 + 1) rfl]) (fun t t0 t1 => by rw [g2, if_neg (by omega), f1.at 162 rfl]),
              ⟨by rw [f2.at 131 rfl, f1.at 131 rfl, f2.at 160 rfl, f1.at 160 rfl]; exact hS2.1, by rw [f2.at 160 rfl, f1.at 160 rfl]; exact hS2.2.1, by rw [f2.at 161 rfl, f1.at 161 rfl]; exact hS2.2.2.1, by rw [f2.at 142 rfl, f1.at 142 rfl, f2.at 161 rfl, f1.at 161 rfl]; exact hS2.2.2.2.1, fun t t0 t1 => by
                rw [f2.at 160 rfl, f1.at 160 rfl, f2.at (142 + 1) rfl, hs1, ua_eq, g2]
                unfold mcpy
                by_cases e : j ≤ t ∧ t < j + n
                · have h9 := hS0.2.2.2.2 (i + (t - j)) (by omega) (by omega)
                  rw [if_pos (by omega), if_pos (by omega), hs1, ua_ne (by decide), show s 160 2 = s 160 0 from hb.2.2.symm]
                  rw [show i.toNat + (t.toNat - j.toNat) = (i + (t - j)).toNat by omega, show (40 * (0 : Int) + i + (((((40 * ((2 : Nat) : Int) + t).toNat : Nat) : Int) - (40 * (2 : Int) + j)).toNat : Int)).toNat = (40 * ((0 : Nat) : Int) + (i + (t - j))).toNat by omega]
                  exact h9
                · rw [if_neg (by omega), if_neg (by omega), hs1, ua_ne (by decide)]
                  exact hS2.2.2.2.2 t t0 t1⟩,
              hS3.cg (by rw [f2.at 131 rfl, f1.at 131 rfl]) (by rw [f2.at 160 rfl, f1.at 160 rfl]) (by rw [f2.at 161 rfl, f1.at 161 rfl]) (by rw [f2.at 144 rfl, f1.at 144 rfl]) (by rw [f2.at (144 + 1) rfl, f1.at (144 + 1) rfl]) (fun t t0 t1 => by rw [g2, if_neg (by omega), f1.at 162 rfl])⟩
          · obtain ⟨r1, s1, k1, hr, hs1⟩ := x_move_s0_2 (d := d + 148) hD0 hri hrj hrn hS hb h
            have e : s1 147 = s 147 := by rw [hs1]; exact us_ne (by decide)
            obtain ⟨r2, s2, k2, hr2, hs2⟩ := m_move_s (d := d + 148) (s := s1) e hM0 hC (w := 0) (o := 2) hrw hri hro hrj hrn (by omega) (by omega) (by rw [hs1, us_ne (by decide), us_ne (by decide)]; exact hsa) (by rw [hs1, us_ne (by decide), us_ne (by decide)]; exact hsb) (by rw [hs1, us_ne (by decide)]; exact hb) (by rw [hs1, us_ne (by decide)]; exact h)
            rw [hs2] at k2
            exact Step.mk (by first | exact ⟨(f1.at 1 rfl).trans hX.2.1, (congrFun (f1.at 0 rfl) 1).trans hX.2.2⟩ | exact ⟨hX.2.1, hX.2.2⟩ | exact ⟨by rw [hs1, us_ne (by decide)]; exact hX.2.1, by rw [hs1, us_ne (by decide)]; exact hX.2.2⟩ | exact ⟨by rw [hs1, us_ne (by decide), us_ne (by decide)]; exact hX.2.1, by rw [hs1, us_ne (by decide), us_ne (by decide)]; exact hX.2.2⟩ | exact ⟨by rw [e1, us_ne (by decide), f1.at 1 rfl]; exact hX.2.1, by rw [e1, us_ne (by decide), f1.at 0 rfl]; exact hX.2.2⟩ | exact ⟨by rw [ft.at 1 rfl, hx 1 (by decide) (by decide)]; exact hX.2.1, by rw [ft.at 0 rfl, et, newL_0, mup_ne (by decide)]; exact hX.2.2⟩) k1 k2 (by rw [hr, hr2]) (hI0.err2 hs1)
        · by_cases h : 0 ≤ n ∧ 0 ≤ i ∧ 0 ≤ j ∧ n ≤ s 161 0 - i ∧ n ≤ s 161 3 - j
          · obtain ⟨r1, s1, k1, hr, hs1⟩ := x_move_y0_3 (d := d + 148) hD0 hri hrj hrn hS hb h
            have f1 : Fr [145] s s1 := by rw [hs1]; exact Fr.ua rfl
            have e : s1 147 = s 147 := f1.at 147 rfl
            obtain ⟨r2, s2, k2, hr2, g2, f2⟩ := m_move_y (d := d + 148) (s := s1) (w := 0) (o := 3) e hM0 hC hrw hri hro hrj hrn (by omega) (by omega) (by rw [f1.at 160 rfl, f1.at 161 rfl]; exact hsa) (by rw [f1.at 160 rfl, f1.at 161 rfl]; exact hsb) (by rw [f1.at 160 rfl]; exact hb) (by rw [f1.at 161 rfl]; exact h)
            refine Step.mk (by first | exact ⟨(f1.at 1 rfl).trans hX.2.1, (congrFun (f1.at 0 rfl) 1).trans hX.2.2⟩ | exact ⟨hX.2.1, hX.2.2⟩ | exact ⟨by rw [hs1, us_ne (by decide)]; exact hX.2.1, by rw [hs1, us_ne (by decide)]; exact hX.2.2⟩ | exact ⟨by rw [hs1, us_ne (by decide), us_ne (by decide)]; exact hX.2.1, by rw [hs1, us_ne (by decide), us_ne (by decide)]; exact hX.2.2⟩ | exact ⟨by rw [e1, us_ne (by decide), f1.at 1 rfl]; exact hX.2.1, by rw [e1, us_ne (by decide), f1.at 0 rfl]; exact hX.2.2⟩ | exact ⟨by rw [ft.at 1 rfl, hx 1 (by decide) (by decide)]; exact hX.2.1, by rw [ft.at 0 rfl, et, newL_0, mup_ne (by decide)]; exact hX.2.2⟩) k1 k2 (by rw [hr, hr2]) (hI0.sht (A := [145, 162, 163]) rfl (by omega) ((Fr.mono rfl f1).tr (Fr.mono rfl f2)) ?_)
            obtain ⟨hS0, hS1, hS2, hS3⟩ := hS
            have hz0 := hS0.2.2.1
            have hz1 := hS3.2.2.1
            exact ⟨hS0.cg (by rw [f2.at 131 rfl, f1.at 131 rfl]) (by rw [f2.at 160 rfl, f1.at 160 rfl]) (by rw [f2.at 161 rfl, f1.at 161 rfl]) (by rw [f2.at 138 rfl, f1.at 138 rfl]) (by rw [f2.at (138 + 1) rfl, f1.at (138 + 1) rfl]) (fun t t0 t1 => by rw [g2, if_neg (by omega), f1.at 162 rfl]),
              hS1.cg (by rw [f2.at 131 rfl, f1.at 131 rfl]) (by rw [f2.at 160 rfl, f1.at 160 rfl]) (by rw [f2.at 161 rfl, f1.at 161 rfl]) (by rw [f2.at 140 rfl, f1.at 140 rfl]) (by rw [f2.at (140 + 1) rfl, f1.at (140 + 1) rfl]) (fun t t0 t1 => by rw [g2, if_neg (by omega), f1.at 162 rfl]),
              hS2.cg (by rw [f2.at 131 rfl, f1.at 131 rfl]) (by rw [f2.at 160 rfl, f1.at 160 rfl]) (by rw [f2.at 161 rfl, f1.at 161 rfl]) (by rw [f2.at 142 rfl, f1.at 142 rfl]) (by rw [f2.at (142 + 1) rfl, f1.at (142 + 1) rfl]) (fun t t0 t1 => by rw [g2, if_neg (by omega), f1.at 162 rfl]),
              ⟨by rw [f2.at 131 rfl, f1.at 131 rfl, f2.at 160 rfl, f1.at 160 rfl]; exact hS3.1, by rw [f2.at 160 rfl, f1.at 160 rfl]; exact hS3.2.1, by rw [f2.at 161 rfl, f1.at 161 rfl]; exact hS3.2.2.1, by rw [f2.at 144 rfl, f1.at 144 rfl, f2.at 161 rfl, f1.at 161 rfl]; exact hS3.2.2.2.1, fun t t0 t1 => by
                rw [f2.at 160 rfl, f1.at 160 rfl, f2.at (144 + 1) rfl, hs1, ua_eq, g2]
                unfold mcpy
                by_cases e : j ≤ t ∧ t < j + n
                · have h9 := hS0.2.2.2.2 (i + (t - j)) (by omega) (by omega)
                  rw [if_pos (by omega), if_pos (by omega), hs1, ua_ne (by decide), show s 160 3 = s 160 0 from hb.2.2.symm]
                  rw [show i.toNat + (t.toNat - j.toNat) = (i + (t - j)).toNat by omega, show (40 * (0 : Int) + i + (((((40 * ((3 : Nat) : Int) + t).toNat : Nat) : Int) - (40 * (3 : Int) + j)).toNat : Int)).toNat = (40 * ((0 : Nat) : Int) + (i + (t - j))).toNat by omega]
                  exact h9
                · rw [if_neg (by omega), if_neg (by omega), hs1, ua_ne (by decide)]
                  exact hS3.2.2.2.2 t t0 t1⟩⟩
          · obtain ⟨r1, s1, k1, hr, hs1⟩ := x_move_s0_3 (d := d + 148) hD0 hri hrj hrn hS hb h
            have e : s1 147 = s 147 := by rw [hs1]; exact us_ne (by decide)
            obtain ⟨r2, s2, k2, hr2, hs2⟩ := m_move_s (d := d + 148) (s := s1) e hM0 hC (w := 0) (o := 3) hrw hri hro hrj hrn (by omega) (by omega) (by rw [hs1, us_ne (by decide), us_ne (by decide)]; exact hsa) (by rw [hs1, us_ne (by decide), us_ne (by decide)]; exact hsb) (by rw [hs1, us_ne (by decide)]; exact hb) (by rw [hs1, us_ne (by decide)]; exact h)
            rw [hs2] at k2
            exact Step.mk (by first | exact ⟨(f1.at 1 rfl).trans hX.2.1, (congrFun (f1.at 0 rfl) 1).trans hX.2.2⟩ | exact ⟨hX.2.1, hX.2.2⟩ | exact ⟨by rw [hs1, us_ne (by decide)]; exact hX.2.1, by rw [hs1, us_ne (by decide)]; exact hX.2.2⟩ | exact ⟨by rw [hs1, us_ne (by decide), us_ne (by decide)]; exact hX.2.1, by rw [hs1, us_ne (by decide), us_ne (by decide)]; exact hX.2.2⟩ | exact ⟨by rw [e1, us_ne (by decide), f1.at 1 rfl]; exact hX.2.1, by rw [e1, us_ne (by decide), f1.at 0 rfl]; exact hX.2.2⟩ | exact ⟨by rw [ft.at 1 rfl, hx 1 (by decide) (by decide)]; exact hX.2.1, by rw [ft.at 0 rfl, et, newL_0, mup_ne (by decide)]; exact hX.2.2⟩) k1 k2 (by rw [hr, hr2]) (hI0.err2 hs1)
        · by_cases h : 0 ≤ n ∧ 0 ≤ i ∧ 0 ≤ j ∧ n ≤ s 161 1 - i ∧ n ≤ s 161 0 - j
          · obtain ⟨r1, s1, k1, hr, hs1⟩ := x_move_y1_0 (d := d + 148) hD0 hri hrj hrn hS hb h
            have f1 : Fr [139] s s1 := by rw [hs1]; exact Fr.ua rfl
            have e : s1 147 = s 147 := f1.at 147 rfl
            obtain ⟨r2, s2, k2, hr2, g2, f2⟩ := m_move_y (d := d + 148) (s := s1) (w := 1) (o := 0) e hM0 hC hrw hri hro hrj hrn (by omega) (by omega) (by rw [f1.at 160 rfl, f1.at 161 rfl]; exact hsa) (by rw [f1.at 160 rfl, f1.at 161 rfl]; exact hsb) (by rw [f1.at 160 rfl]; exact hb) (by rw [f1.at 161 rfl]; exact h)
            refine Step.mk (by first | exact ⟨(f1.at 1 rfl).trans hX.2.1, (congrFun (f1.at 0 rfl) 1).trans hX.2.2⟩ | exact ⟨hX.2.1, hX.2.2⟩ | exact ⟨by rw [hs1, us_ne (by decide)]; exact hX.2.1, by rw [hs1, us_ne (by decide)]; exact hX.2.2⟩ | exact ⟨by rw [hs1, us_ne (by decide), us_ne (by decide)]; exact hX.2.1, by rw [hs1, us_ne (by decide), us_ne (by decide)]; exact hX.2.2⟩ | exact ⟨by rw [e1, us_ne (by decide), f1.at 1 rfl]; exact hX.2.1, by rw [e1, us_ne (by decide), f1.at 0 rfl]; exact hX.2.2⟩ | exact ⟨by rw [ft.at 1 rfl, hx 1 (by decide) (by decide)]; exact hX.2.1, by rw [ft.at 0 rfl, et, newL_0, mup_ne (by decide)]; exact hX.2.2⟩) k1 k2 (by rw [hr, hr2]) (hI0.sht (A := [139, 162, 163]) rfl (by omega) ((Fr.mono rfl f1).tr (Fr.mono rfl f2)) ?_)
            obtain ⟨hS0, hS1, hS2, hS3⟩ := hS
            have hz0 := hS1.2.2.1
            have hz1 := hS0.2.2.1
            exact ⟨⟨by rw [f2.at 131 rfl, f1.at 131 rfl, f2.at 160 rfl, f1.at 160 rfl]; exact hS0.1, by rw [f2.at 160 rfl, f1.at 160 rfl]; exact hS0.2.1, by rw [f2.at 161 rfl, f1.at 161 rfl]; exact hS0.2.2.1, by rw [f2.at 138 rfl, f1.at 138 rfl, f2.at 161 rfl, f1.at 161 rfl]; exact hS0.2.2.2.1, fun t t0 t1 => by
                rw [f2.at 160 rfl, f1.at 160 rfl, f2.at (138 + 1) rfl, hs1, ua_eq, g2]
                unfold mcpy
                by_cases e : j ≤ t ∧ t < j + n
                · have h9 := hS1.2.2.2.2 (i + (t - j)) (by omega) (by omega)
                  rw [if_pos (by omega), if_pos (by omega), hs1, ua_ne (by decide), show s 160 0 = s 160 1 from hb.2.2.symm]
                  rw [show i.toNat + (t.toNat - j.toNat) = (i + (t - j)).toNat by omega, show (40 * (1 : Int) + i + (((((40 * ((0 : Nat) : Int) + t).toNat : Nat) : Int) - (40 * (0 : Int) + j)).toNat : Int)).toNat = (40 * ((1 : Nat) : Int) + (i + (t - j))).toNat by omega]
                  exact h9
                · rw [if_neg (by omega), if_neg (by omega), hs1, ua_ne (by decide)]
                  exact hS0.2.2.2.2 t t0 t1⟩,
              hS1.cg (by rw [f2.at 131 rfl, f1.at 131 rfl]) (by rw [f2.at 160 rfl, f1.at 160 rfl]) (by rw [f2.at 161 rfl, f1.at 161 rfl]) (by rw [f2.at 140 rfl, f1.at 140 rfl]) (by rw [f2.at (140 + 1) rfl, f1.at (140 + 1) rfl]) (fun t t0 t1 => by rw [g2, if_neg (by omega), f1.at 162 rfl]),
              hS2.cg (by rw [f2.at 131 rfl, f1.at 131 rfl]) (by rw [f2.at 160 rfl, f1.at 160 rfl]) (by rw [f2.at 161 rfl, f1.at 161 rfl]) (by rw [f2.at 142 rfl, f1.at 142 rfl]) (by rw [f2.at (142 + 1) rfl, f1.at (142 + 1) rfl]) (fun t t0 t1 => by rw [g2, if_neg (by omega), f1.at 162 rfl]),
              hS3.cg (by rw [f2.at 131 rfl, f1.at 131 rfl]) (by rw [f2.at 160 rfl, f1.at 160 rfl]) (by rw [f2.at 161 rfl, f1.at 161 rfl]) (by rw [f2.at 144 rfl, f1.at 144 rfl]) (by rw [f2.at (144 + 1) rfl, f1.at (144 + 1) rfl]) (fun t t0 t1 => by rw [g2, if_neg (by omega), f1.at 162 rfl])⟩
          · obtain ⟨r1, s1, k1, hr, hs1⟩ := x_move_s1_0 (d := d + 148) hD0 hri hrj hrn hS hb h
            have e : s1 147 = s 147 := by rw [hs1]; exact us_ne (by decide)
            obtain ⟨r2, s2, k2, hr2, hs2⟩ := m_move_s (d := d + 148) (s := s1) e hM0 hC (w := 1) (o := 0) hrw hri hro hrj hrn (by omega) (by omega) (by rw [hs1, us_ne (by decide), us_ne (by decide)]; exact hsa) (by rw [hs1, us_ne (by decide), us_ne (by decide)]; exact hsb) (by rw [hs1, us_ne (by decide)]; exact hb) (by rw [hs1, us_ne (by decide)]; exact h)
            rw [hs2] at k2
            exact Step.mk (by first | exact ⟨(f1.at 1 rfl).trans hX.2.1, (congrFun (f1.at 0 rfl) 1).trans hX.2.2⟩ | exact ⟨hX.2.1, hX.2.2⟩ | exact ⟨by rw [hs1, us_ne (by decide)]; exact hX.2.1, by rw [hs1, us_ne (by decide)]; exact hX.2.2⟩ | exact ⟨by rw [hs1, us_ne (by decide), us_ne (by decide)]; exact hX.2.1, by rw [hs1, us_ne (by decide), us_ne (by decide)]; exact hX.2.2⟩ | exact ⟨by rw [e1, us_ne (by decide), f1.at 1 rfl]; exact hX.2.1, by rw [e1, us_ne (by decide), f1.at 0 rfl]; exact hX.2.2⟩ | exact ⟨by rw [ft.at 1 rfl, hx 1 (by decide) (by decide)]; exact hX.2.1, by rw [ft.at 0 rfl, et, newL_0, mup_ne (by decide)]; exact hX.2.2⟩) k1 k2 (by rw [hr, hr2]) (hI0.err2 hs1)
        · by_cases h : 0 ≤ n ∧ 0 ≤ i ∧ 0 ≤ j ∧ n ≤ s 161 1 - i ∧ n ≤ s 161 1 - j
          · obtain ⟨r1, s1, k1, hr, hs1⟩ := x_move_y1_1 (d := d + 148) hD0 hri hrj hrn hS hb h
            have f1 : Fr [141] s s1 := by rw [hs1]; exact Fr.ua rfl
            have e : s1 147 = s 147 := f1.at 147 rfl
            obtain ⟨r2, s2, k2, hr2, g2, f2⟩ := m_move_y (d := d + 148) (s := s1) (w := 1) (o := 1) e hM0 hC hrw hri hro hrj hrn (by omega) (by omega) (by rw [f1.at 160 rfl, f1.at 161 rfl]; exact hsa) (by rw [f1.at 160 rfl, f1.at 161 rfl]; exact hsb) (by rw [f1.at 160 rfl]; exact hb) (by rw [f1.at 161 rfl]; exact h)
            refine Step.mk (by first | exact ⟨(f1.at 1 rfl).trans hX.2.1, (congrFun (f1.at 0 rfl) 1).trans hX.2.2⟩ | exact ⟨hX.2.1, hX.2.2⟩ | exact ⟨by rw [hs1, us_ne (by decide)]; exact hX.2.1, by rw [hs1, us_ne (by decide)]; exact hX.2.2⟩ | exact ⟨by rw [hs1, us_ne (by decide), us_ne (by decide)]; exact hX.2.1, by rw [hs1, us_ne (by decide), us_ne (by decide)]; exact hX.2.2⟩ | exact ⟨by rw [e1, us_ne (by decide), f1.at 1 rfl]; exact hX.2.1, by rw [e1, us_ne (by decide), f1.at 0 rfl]; exact hX.2.2⟩ | exact ⟨by rw [ft.at 1 rfl, hx 1 (by decide) (by decide)]; exact hX.2.1, by rw [ft.at 0 rfl, et, newL_0, mup_ne (by decide)]; exact hX.2.2⟩) k1 k2 (by rw [hr, hr2]) (hI0.sht (A := [141, 162, 163]) rfl (by omega) ((Fr.mono rfl f1).tr (Fr.mono rfl f2)) ?_)
            obtain ⟨hS0, hS1, hS2, hS3⟩ := hS
            have hz0 := hS1.2.2.1
            have hz1 := hS1.2.2.1
            exact ⟨hS0.cg (by rw [f2.at 131 rfl, f1.at 131 rfl]) (by rw [f2.at 160 rfl, f1.at 160 rfl]) (by rw [f2.at 161 rfl, f1.at 161 rfl]) (by rw [f2.at 138 rfl, f1.at 138 rfl]) (by rw [f2.at (138 + 1) rfl, f1.at (138 + 1) rfl]) (fun t t0 t1 => by rw [g2, if_neg (by omega), f1.at 162 rfl]),
              ⟨by rw [f2.at 131 rfl, f1.at 131 rfl, f2.at 160 rfl, f1.at 160 rfl]; exact hS1.1, by rw [f2.at 160 rfl, f1.at 160 rfl]; exact hS1.2.1, by rw [f2.at 161 rfl, f1.at 161 rfl]; exact hS1.2.2.1, by rw [f2.at 140 rfl, f1.at 140 rfl, f2.at 161 rfl, f1.at 161 rfl]; exact hS1.2.2.2.1, fun t t0 t1 => by
                rw [f2.at 160 rfl, f1.at 160 rfl, f2.at (140 + 1) rfl, hs1, ua_eq, g2]
                unfold mcpy
                by_cases e : j ≤ t ∧ t < j + n
                · have h9 := hS1.2.2.2.2 (i + (t - j)) (by omega) (by omega)
                  rw [if_pos (by omega), if_pos (by omega), hs1, ua_ne (by decide), show s 160 1 = s 160 1 from hb.2.2.symm]
                  rw [show i.toNat + (t.toNat - j.toNat) = (i + (t - j)).toNat by omega, show (40 * (1 : Int) + i + (((((40 * ((1 : Nat) : Int) + t).toNat : Nat) : Int) - (40 * (1 : Int) + j)).toNat : Int)).toNat = (40 * ((1 : Nat) : Int) + (i + (t - j))).toNat by omega]
                  exact h9
                · rw [if_neg (by omega), if_neg (by omega), hs1, ua_ne (by decide)]
                  exact hS1.2.2.2.2 t t0 t1⟩,
              hS2.cg (by rw [f2.at 131 rfl, f1.at 131 rfl]) (by rw [f2.at 160 rfl, f1.at 160 rfl]) (by rw [f2.at 161 rfl, f1.at 161 rfl]) (by rw [f2.at 142 rfl, f1.at 142 rfl]) (by rw [f2.at (142 + 1) rfl, f1.at (142 + 1) rfl]) (fun t t0 t1 => by rw [g2, if_neg (by omega), f1.at 162 rfl]),
              hS3.cg (by rw [f2.at 131 rfl, f1.at 131 rfl]) (by rw [f2.at 160 rfl, f1.at 160 rfl]) (by rw [f2.at 161 rfl, f1.at 161 rfl]) (by rw [f2.at 144 rfl, f1.at 144 rfl]) (by rw [f2.at (144 + 1) rfl, f1.at (144 + 1) rfl]) (fun t t0 t1 => by rw [g2, if_neg (by omega), f1.at 162 rfl])⟩
          · obtain ⟨r1, s1, k1, hr, hs1⟩ := x_move_s1_1 (d := d + 148) hD0 hri hrj hrn hS hb h
            have e : s1 147 = s 147 := by rw [hs1]; exact us_ne (by decide)
            obtain ⟨r2, s2, k2, hr2, hs2⟩ := m_move_s (d := d + 148) (s := s1) e hM0 hC (w := 1) (o := 1) hrw hri hro hrj hrn (by omega) (by omega) (by rw [hs1, us_ne (by decide), us_ne (by decide)]; exact hsa) (by rw [hs1, us_ne (by decide), us_ne (by decide)]; exact hsb) (by rw [hs1, us_ne (by decide)]; exact hb) (by rw [hs1, us_ne (by decide)]; exact h)
            rw [hs2] at k2
            exact Step.mk (by first | exact ⟨(f1.at 1 rfl).trans hX.2.1, (congrFun (f1.at 0 rfl) 1).trans hX.2.2⟩ | exact ⟨hX.2.1, hX.2.2⟩ | exact ⟨by rw [hs1, us_ne (by decide)]; exact hX.2.1, by rw [hs1, us_ne (by decide)]; exact hX.2.2⟩ | exact ⟨by rw [hs1, us_ne (by decide), us_ne (by decide)]; exact hX.2.1, by rw [hs1, us_ne (by decide), us_ne (by decide)]; exact hX.2.2⟩ | exact ⟨by rw [e1, us_ne (by decide), f1.at 1 rfl]; exact hX.2.1, by rw [e1, us_ne (by decide), f1.at 0 rfl]; exact hX.2.2⟩ | exact ⟨by rw [ft.at 1 rfl, hx 1 (by decide) (by decide)]; exact hX.2.1, by rw [ft.at 0 rfl, et, newL_0, mup_ne (by decide)]; exact hX.2.2⟩) k1 k2 (by rw [hr, hr2]) (hI0.err2 hs1)
        · by_cases h : 0 ≤ n ∧ 0 ≤ i ∧ 0 ≤ j ∧ n ≤ s 161 1 - i ∧ n ≤ s 161 2 - j
          · obtain ⟨r1, s1, k1, hr, hs1⟩ := x_move_y1_2 (d := d + 148) hD0 hri hrj hrn hS hb h
            have f1 : Fr [143] s s1 := by rw [hs1]; exact Fr.ua rfl
            have e : s1 147 = s 147 := f1.at 147 rfl
            obtain ⟨r2, s2, k2, hr2, g2, f2⟩ := m_move_y (d := d + 148) (s := s1) (w := 1) (o := 2) e hM0 hC hrw hri hro hrj hrn (by omega) (by omega) (by rw [f1.at 160 rfl, f1.at 161 rfl]; exact hsa) (by rw [f1.at 160 rfl, f1.at 161 rfl]; exact hsb) (by rw [f1.at 160 rfl]; exact hb) (by rw [f1.at 161 rfl]; exact h)
            refine Step.mk (by first | exact ⟨(f1.at 1 rfl).trans hX.2.1, (congrFun (f1.at 0 rfl) 1).trans hX.2.2⟩ | exact ⟨hX.2.1, hX.2.2⟩ | exact ⟨by rw [hs1, us_ne (by decide)]; exact hX.2.1, by rw [hs1, us_ne (by decide)]; exact hX.2.2⟩ | exact ⟨by rw [hs1, us_ne (by decide), us_ne (by decide)]; exact hX.2.1, by rw [hs1, us_ne (by decide), us_ne (by decide)]; exact hX.2.2⟩ | exact ⟨by rw [e1, us_ne (by decide), f1.at 1 rfl]; exact hX.2.1, by rw [e1, us_ne (by decide), f1.at 0 rfl]; exact hX.2.2⟩ | exact ⟨by rw [ft.at 1 rfl, hx 1 (by decide) (by decide)]; exact hX.2.1, by rw [ft.at 0 rfl, et, newL_0, mup_ne (by decide)]; exact hX.2.2⟩) k1 k2 (by rw [hr, hr2]) (hI0.sht (A := [143, 162, 163]) rfl (by omega) ((Fr.mono rfl f1).tr (Fr.mono rfl f2)) ?_)
            obtain ⟨hS0, hS1, hS2, hS3⟩ := hS
            have hz0 := hS1.2.2.1
            have hz1 := hS2.2.2.1
            exact ⟨hS0.cg (by rw [f2.at 131 rfl, f1.at 131 rfl]) (by rw [f2.at 160 rfl, f1.at 160 rfl]) (by rw [f2.at 161 rfl, f1.at 161 rfl]) (by rw [f2.at 138 rfl, f1.at 138 rfl]) (by rw [f2.at (138 + 1) rfl, f1.at (138 + 1) rfl]) (fun t t0 t1 => by rw [g2, if_neg (by omega), f1.at 162 rfl]),
              hS1.cg (by rw [f2.at 131 rfl, f1.at 131 rfl]) (by rw [f2.at 160 rfl, f1.at 160 rfl]) (by rw [f2.at 161 rfl, f1.at 161 rfl]) (by rw [f2.at 140 rfl, f1.at 140 rfl]) (by rw [f2.at (140 + 1) rfl, f1.at (140 + 1) rfl]) (fun t t0 t1 => by rw [g2, if_neg (by omega), f1.at 162 rfl]),
              ⟨by rw [f2.at 131 rfl, f1.at 131 rfl, f2.at 160 rfl, f1.at 160 rfl]; exact hS2.1, by rw [f2.at 160 rfl, f1.at 160 rfl]; exact hS2.2.1, by rw [f2.at 161 rfl, f1.at 161 rfl]; exact hS2.2.2.1, by rw [f2.at 142 rfl, f1.at 142 rfl, f2.at 161 rfl, f1.at 161 rfl]; exact hS2.2.2.2.1, fun t t0 t1 => by
                rw [f2.at 160 rfl, f1.at 160 rfl, f2.at (142 + 1) rfl, hs1, ua_eq, g2]
                unfold mcpy
                by_cases e : j ≤ t ∧ t < j + n
                · have h9 := hS1.2.2.2.2 (i + (t - j)) (by omega) (by omega)
                  rw [if_pos (by omega), if_pos (by omega), hs1, ua_ne (by decide), show s 160 2 = s 160 1 from hb.2.2.symm]
                  rw [show i.toNat + (t.toNat - j.toNat) = (i + (t - j)).toNat by omega, show (40 * (1 : Int) + i + (((((40 * ((2 : Nat) : Int) + t).toNat : Nat) : Int) - (40 * (2 : Int) + j)).toNat : Int)).toNat = (40 * ((1 : Nat) : Int) + (i + (t - j))).toNat by omega]
                  exact h9
                · rw [if_neg (by omega), if_neg (by omega), hs1, ua_ne (by decide)]
                  exact hS2.2.2.2.2 t t0 t1⟩,
              hS3.cg (by rw [f2.at 131 rfl, f1.at 131 rfl]) (by rw [f2.at 160 rfl, f1.at 160 rfl]) (by rw [f2.at 161 rfl, f1.at 161 rfl]) (by rw [f2.at 144 rfl, f1.at 144 rfl]) (by rw [f2.at (144 + 1) rfl, f1.at (144 + 1) rfl]) (fun t t0 t1 => by rw [g2, if_neg (by omega), f1.at 162 rfl])⟩
          · obtain ⟨r1, s1, k1, hr, hs1⟩ := x_move_s1_2 (d := d + 148) hD0 hri hrj hrn hS hb h
            have e : s1 147 = s 147 := by rw [hs1]; exact us_ne (by decide)
            obtain ⟨r2, s2, k2, hr2, hs2⟩ := m_move_s (d := d + 148) (s := s1) e hM0 hC (w := 1) (o := 2) hrw hri hro hrj hrn (by omega) (by omega) (by rw [hs1, us_ne (by decide), us_ne (by decide)]; exact hsa) (by rw [hs1, us_ne (by decide), us_ne (by decide)]; exact hsb) (by rw [hs1, us_ne (by decide)]; exact hb) (by rw [hs1, us_ne (by decide)]; exact h)
            rw [hs2] at k2
            exact Step.mk (by first | exact ⟨(f1.at 1 rfl).trans hX.2.1, (congrFun (f1.at 0 rfl) 1).trans hX.2.2⟩ | exact ⟨hX.2.1, hX.2.2⟩ | exact ⟨by rw [hs1, us_ne (by decide)]; exact hX.2.1, by rw [hs1, us_ne (by decide)]; exact hX.2.2⟩ | exact ⟨by rw [hs1, us_ne (by decide), us_ne (by decide)]; exact hX.2.1, by rw [hs1, us_ne (by decide), us_ne (by decide)]; exact hX.2.2⟩ | exact ⟨by rw [e1, us_ne (by decide), f1.at 1 rfl]; exact hX.2.1, by rw [e1, us_ne (by decide), f1.at 0 rfl]; exact hX.2.2⟩ | exact ⟨by rw [ft.at 1 rfl, hx 1 (by decide) (by decide)]; exact hX.2.1, by rw [ft.at 0 rfl, et, newL_0, mup_ne (by decide)]; exact hX.2.2⟩) k1 k2 (by rw [hr, hr2]) (hI0.err2 hs1)
        · by_cases h : 0 ≤ n ∧ 0 ≤ i ∧ 0 ≤ j ∧ n ≤ s 161 1 - i ∧ n ≤ s 161 3 - j
          · obtain ⟨r1, s1, k1, hr, hs1⟩ := x_move_y1_3 (d := d + 148) hD0 hri hrj hrn hS hb h
            have f1 : Fr [145] s s1 := by rw [hs1]; exact Fr.ua rfl
            have e : s1 147 = s 147 := f1.at 147 rfl
            obtain ⟨r2, s2, k2, hr2, g2, f2⟩ := m_move_y (d := d + 148) (s := s1) (w := 1) (o := 3) e hM0 hC hrw hri hro hrj hrn (by omega) (by omega) (by rw [f1.at 160 rfl, f1.at 161 rfl]; exact hsa) (by rw [f1.at 160 rfl, f1.at 161 rfl]; exact hsb) (by rw [f1.at 160 rfl]; exact hb) (by rw [f1.at 161 rfl]; exact h)
            refine Step.mk (by first | exact ⟨(f1.at 1 rfl).trans hX.2.1, (congrFun (f1.at 0 rfl) 1).trans hX.2.2⟩ | exact ⟨hX.2.1, hX.2.2⟩ | exact ⟨by rw [hs1, us_ne (by decide)]; exact hX.2.1, by rw [hs1, us_ne (by decide)]; exact hX.2.2⟩ | exact ⟨by rw [hs1, us_ne (by decide), us_ne (by decide)]; exact hX.2.1, by rw [hs1, us_ne (by decide), us_ne (by decide)]; exact hX.2.2⟩ | exact ⟨by rw [e1, us_ne (by decide), f1.at 1 rfl]; exact hX.2.1, by rw [e1, us_ne (by decide), f1.at 0 rfl]; exact hX.2.2⟩ | exact ⟨by rw [ft.at 1 rfl, hx 1 (by decide) (by decide)]; exact hX.2.1, by rw [ft.at 0 rfl, et, newL_0, mup_ne (by decide)]; exact hX.2.2⟩) k1 k2 (by rw [hr, hr2]) (hI0.sht (A := [145, 162, 163]) rfl (by omega) ((Fr.mono rfl f1).tr (Fr.mono rfl f2)) ?_)
            obtain ⟨hS0, hS1, hS2, hS3⟩ := hS
            have hz0 := hS1.2.2.1
            have hz1 := hS3.2.2.1
            exact ⟨hS0.cg (by rw [f2.at 131 rfl, f1.at 131 rfl]) (by rw [f2.at 160 rfl, f1.at 160 rfl]) (by rw [f2.at 161 rfl, f1.at 161 rfl]) (by rw [f2.at 138 rfl, f1.at 138 rfl]) (by rw [f2.at (138 + 1) rfl, f1.at (138 + 1) rfl]) (fun t t0 t1 => by rw [g2, if_neg (by omega), f1.at 162 rfl]),
              hS1.cg (by rw [f2.at 131 rfl, f1.at 131 rfl]) (by rw [f2.at 160 rfl, f1.at 160 rfl]) (by rw [f2.at 161 rfl, f1.at 161 rfl]) (by rw [f2.at 140 rfl, f1.at 140 rfl]) (by rw [f2.at (140 + 1) rfl, f1.at (140 + 1) rfl]) (fun t t0 t1 => by rw [g2, if_neg (by omega), f1.at 162 rfl]),
              hS2.cg (by rw [f2.at 131 rfl, f1.at 131 rfl]) (by rw [f2.at 160 rfl, f1.at 160 rfl]) (by rw [f2.at 161 rfl, f1.at 161 rfl]) (by rw [f2.at 142 rfl, f1.at 142 rfl]) (by rw [f2.at (142 + 1) rfl, f1.at (142 + 1) rfl]) (fun t t0 t1 => by rw [g2, if_neg (by omega), f1.at 162 rfl]),
              ⟨by rw [f2.at 131 rfl, f1.at 131 rfl, f2.at 160 rfl, f1.at 160 rfl]; exact hS3.1, by rw [f2.at 160 rfl, f1.at 160 rfl]; exact hS3.2.1, by rw [f2.at 161 rfl, f1.at 161 rfl]; exact hS3.2.2.1, by rw [f2.at 144 rfl, f1.at 144 rfl, f2.at 161 rfl, f1.at 161 rfl]; exact hS3.2.2.2.1, fun t t0 t1 => by
                rw [f2.at 160 rfl, f1.at 160 rfl, f2.at (144 + 1) rfl, hs1, ua_eq, g2]
                unfold mcpy
                by_cases e : j ≤ t ∧ t < j + n
                · have h9 := hS1.2.2.2.2 (i + (t - j)) (by omega) (by omega)
                  rw [if_pos (by omega), if_pos (by omega), hs1, ua_ne (by decide), show s 160 3 = s 160 1 from hb.2.2.symm]
                  rw [show i.toNat + (t.toNat - j.toNat) = (i + (t - j)).toNat by omega, show (40 * (1 : Int) + i + (((((40 * ((3 : Nat) : Int) + t).toNat : Nat) : Int) - (40 * (3 : Int) + j)).toNat : Int)).toNat = (40 * ((1 : Nat) : Int) + (i + (t - j))).toNat by omega]
                  exact h9
                · rw [if_neg (by omega), if_neg (by omega), hs1, ua_ne (by decide)]
                  exact hS3.2.2.2.2 t t0 t1⟩⟩
          · obtain ⟨r1, s1, k1, hr, hs1⟩ := x_move_s1_3 (d := d + 148) hD0 hri hrj hrn hS hb h
            have e : s1 147 = s 147 := by rw [hs1]; exact us_ne (by decide)
            obtain ⟨r2, s2, k2, hr2, hs2⟩ := m_move_s (d := d + 148) (s := s1) e hM0 hC (w := 1) (o := 3) hrw hri hro hrj hrn (by omega) (by omega) (by rw [hs1, us_ne (by decide), us_ne (by decide)]; exact hsa) (by rw [hs1, us_ne (by decide), us_ne (by decide)]; exact hsb) (by rw [hs1, us_ne (by decide)]; exact hb) (by rw [hs1, us_ne (by decide)]; exact h)
            rw [hs2] at k2
            exact Step.mk (by first | exact ⟨(f1.at 1 rfl).trans hX.2.1, (congrFun (f1.at 0 rfl) 1).trans hX.2.2⟩ | exact ⟨hX.2.1, hX.2.2⟩ | exact ⟨by rw [hs1, us_ne (by decide)]; exact hX.2.1, by rw [hs1, us_ne (by decide)]; exact hX.2.2⟩ | exact ⟨by rw [hs1, us_ne (by decide), us_ne (by decide)]; exact hX.2.1, by rw [hs1, us_ne (by decide), us_ne (by decide)]; exact hX.2.2⟩ | exact ⟨by rw [e1, us_ne (by decide), f1.at 1 rfl]; exact hX.2.1, by rw [e1, us_ne (by decide), f1.at 0 rfl]; exact hX.2.2⟩ | exact ⟨by rw [ft.at 1 rfl, hx 1 (by decide) (by decide)]; exact hX.2.1, by rw [ft.at 0 rfl, et, newL_0, mup_ne (by decide)]; exact hX.2.2⟩) k1 k2 (by rw [hr, hr2]) (hI0.err2 hs1)
        · by_cases h : 0 ≤ n ∧ 0 ≤ i ∧ 0 ≤ j ∧ n ≤ s 161 2 - i ∧ n ≤ s 161 0 - j
          · obtain ⟨r1, s1, k1, hr, hs1⟩ := x_move_y2_0 (d := d + 148) hD0 hri hrj hrn hS hb h
            have f1 : Fr [139] s s1 := by rw [hs1]; exact Fr.ua rfl
            have e : s1 147 = s 147 := f1.at 147 rfl
            obtain ⟨r2, s2, k2, hr2, g2, f2⟩ := m_move_y (d := d + 148) (s := s1) (w := 2) (o := 0) e hM0 hC hrw hri hro hrj hrn (by omega) (by omega) (by rw [f1.at 160 rfl, f1.at 161 rfl]; exact hsa) (by rw [f1.at 160 rfl, f1.at 161 rfl]; exact hsb) (by rw [f1.at 160 rfl]; exact hb) (by rw [f1.at 161 rfl]; exact h)
            refine Step.mk (by first | exact ⟨(f1.at 1 rfl).trans hX.2.1, (congrFun (f1.at 0 rfl) 1).trans hX.2.2⟩ | exact ⟨hX.2.1, hX.2.2⟩ | exact ⟨by rw [hs1, us_ne (by decide)]; exact hX.2.1, by rw [hs1, us_ne (by decide)]; exact hX.2.2⟩ | exact ⟨by rw [hs1, us_ne (by decide), us_ne (by decide)]; exact hX.2.1, by rw [hs1, us_ne (by decide), us_ne (by decide)]; exact hX.2.2⟩ | exact ⟨by rw [e1, us_ne (by decide), f1.at 1 rfl]; exact hX.2.1, by rw [e1, us_ne (by decide), f1.at 0 rfl]; exact hX.2.2⟩ | exact ⟨by rw [ft.at 1 rfl, hx 1 (by decide) (by decide)]; exact hX.2.1, by rw [ft.at 0 rfl, et, newL_0, mup_ne (by decide)]; exact hX.2.2⟩) k1 k2 (by rw [hr, hr2]) (hI0.sht (A := [139, 162, 163]) rfl (by omega) ((Fr.mono rfl f1).tr (Fr.mono rfl f2)) ?_)
            obtain ⟨hS0, hS1, hS2, hS3⟩ := hS
            have hz0 := hS2.2.2.1
            have hz1 := hS0.2.2.1
            exact ⟨⟨by rw [f2.at 131 rfl, f1.at 131 rfl, f2.at 160 rfl, f1.at 160 rfl]; exact hS0.1, by rw [f2.at 160 rfl, f1.at 160 rfl]; exact hS0.2.1, by rw [f2.at 161 rfl, f1.at 161 rfl]; exact hS0.2.2.1, by rw [f2.at 138 rfl, f1.at 138 rfl, f2.at 161 rfl, f1.at 161 rfl]; exact hS0.2.2.2.1, fun t t0 t1 => by
                rw [f2.at 160 rfl, f1.at 160 rfl, f2.at (138 + 1) rfl, hs1, ua_eq, g2]
                unfold mcpy
                by_cases e : j ≤ t ∧ t < j + n
                · have h9 := hS2.2.2.2.2 (i + (t - j)) (by omega) (by omega)
                  rw [if_pos (by omega), if_pos (by omega), hs1, ua_ne (by decide), show s 160 0 = s 160 2 from hb.2.2.symm]
                  rw [show i.toNat + (t.toNat - j.toNat) = (i + (t - j)).toNat by omega, show (40 * (2 : Int) + i + (((((40 * ((0 : Nat) : Int) + t).toNat : Nat) : Int) - (40 * (0 : Int) + j)).toNat : Int)).toNat = (40 * ((2 : Nat) : Int) + (i + (t - j))).toNat by omega]
                  exact h9
                · rw [if_neg (by omega), if_neg (by omega), hs1, ua_ne (by decide)]
                  exact hS0.2.2.2.2 t t0 t1⟩,
              hS1.cg (by rw [f2.at 131 rfl, f1.at 131 rfl]) (by rw [f2.at 160 rfl, f1.at 160 rfl]) (by rw [f2.at 161 rfl, f1.at 161 rfl]) (by rw [f2.at 140 rfl, f1.at 140 rfl]) (by rw [f2.at (140 + 1) rfl, f1.at (140 + 1) rfl]) (fun t t0 t1 => by rw [g2, if_neg (by omega), f1.at 162 rfl]),
              hS2.cg (by rw [f2.at 131 rfl, f1.at 131 rfl]) (by rw [f2.at 160 rfl, f1.at 160 rfl]) (by rw [f2.at 161 rfl, f1.at 161 rfl]) (by rw [f2.at 142 rfl, f1.at 142 rfl]) (by rw [f2.at (142 + 1) rfl, f1.at (142 + 1) rfl]) (fun t t0 t1 => by rw [g2, if_neg (by omega), f1.at 162 rfl]),
              hS3.cg (by rw [f2.at 131 rfl, f1.at 131 rfl]) (by rw [f2.at 160 rfl, f1.at 160 rfl]) (by rw [f2.at 161 rfl, f1.at 161 rfl]) (by rw [f2.at 144 rfl, f1.at 144 rfl]) (by rw [f2.at (144 + 1) rfl, f1.at (144 + 1) rfl]) (fun t t0 t1 => by rw [g2, if_neg (by omega), f1.at 162 rfl])⟩
          · obtain ⟨r1, s1, k1, hr, hs1⟩ := x_move_s2_0 (d := d + 148) hD0 hri hrj hrn hS hb h
            have e : s1 147 = s 147 := by rw [hs1]; exact us_ne (by decide)
            obtain ⟨r2, s2, k2, hr2, hs2⟩ := m_move_s (d := d + 148) (s := s1) e hM0 hC (w := 2) (o := 0) hrw hri hro hrj hrn (by omega) (by omega) (by rw [hs1, us_ne (by decide), us_ne (by decide)]; exact hsa) (by rw [hs1, us_ne (by decide), us_ne (by decide)]; exact hsb) (by rw [hs1, us_ne (by decide)]; exact hb) (by rw [hs1, us_ne (by decide)]; exact h)
            rw [hs2] at k2
            exact Step.mk (by first | exact ⟨(f1.at 1 rfl).trans hX.2.1, (congrFun (f1.at 0 rfl) 1).trans hX.2.2⟩ | exact ⟨hX.2.1, hX.2.2⟩ | exact ⟨by rw [hs1, us_ne (by decide)]; exact hX.2.1, by rw [hs1, us_ne (by decide)]; exact hX.2.2⟩ | exact ⟨by rw [hs1, us_ne (by decide), us_ne (by decide)]; exact hX.2.1, by rw [hs1, us_ne (by decide), us_ne (by decide)]; exact hX.2.2⟩ | exact ⟨by rw [e1, us_ne (by decide), f1.at 1 rfl]; exact hX.2.1, by rw [e1, us_ne (by decide), f1.at 0 rfl]; exact hX.2.2⟩ | exact ⟨by rw [ft.at 1 rfl, hx 1 (by decide) (by decide)]; exact hX.2.1, by rw [ft.at 0 rfl, et, newL_0, mup_ne (by decide)]; exact hX.2.2⟩) k1 k2 (by rw [hr, hr2]) (hI0.err2 hs1)
        · by_cases h : 0 ≤ n ∧ 0 ≤ i ∧ 0 ≤ j ∧ n ≤ s 161 2 - i ∧ n ≤ s 161 1 - j
          · obtain ⟨r1, s1, k1, hr, hs1⟩ := x_move_y2_1 (d := d + 148) hD0 hri hrj hrn hS hb h
            have f1 : Fr [141] s s1 := by rw [hs1]; exact Fr.ua rfl
            have e : s1 147 = s 147 := f1.at 147 rfl
            obtain ⟨r2, s2, k2, hr2, g2, f2⟩ := m_move_y (d := d + 148) (s := s1) (w := 2) (o := 1) e hM0 hC hrw hri hro hrj hrn (by omega) (by omega) (by rw [f1.at 160 rfl, f1.at 161 rfl]; exact hsa) (by rw [f1.at 160 rfl, f1.at 161 rfl]; exact hsb) (by rw [f1.at 160 rfl]; exact hb) (by rw [f1.at 161 rfl]; exact h)
            refine Step.mk (by first | exact ⟨(f1.at 1 rfl).trans hX.2.1, (congrFun (f1.at 0 rfl) 1).trans hX.2.2⟩ | exact ⟨hX.2.1, hX.2.2⟩ | exact ⟨by rw [hs1, us_ne (by decide)]; exact hX.2.1, by rw [hs1, us_ne (by decide)]; exact hX.2.2⟩ | exact ⟨by rw [hs1, us_ne (by decide), us_ne (by decide)]; exact hX.2.1, by rw [hs1, us_ne (by decide), us_ne (by decide)]; exact hX.2.2⟩ | exact ⟨by rw [e1, us_ne (by decide), f1.at 1 rfl]; exact hX.2.1, by rw [e1, us_ne (by decide), f1.at 0 rfl]; exact hX.2.2⟩ | exact ⟨by rw [ft.at 1 rfl, hx 1 (by decide) (by decide)]; exact hX.2.1, by rw [ft.at 0 rfl, et, newL_0, mup_ne (by decide)]; exact hX.2.2⟩) k1 k2 (by rw [hr, hr2]) (hI0.sht (A := [141, 162, 163]) rfl (by omega) ((Fr.mono rfl f1).tr (Fr.mono rfl f2)) ?_)
            obtain ⟨hS0, hS1, hS2, hS3⟩ := hS
            have hz0 := hS2.2.2.1
            have hz1 := hS1.2.2.1
            exact ⟨hS0.cg (by rw [f2.at 131 rfl, f1.at 131 rfl]) (by rw [f2.at 160 rfl, f1.at 160 rfl]) (by rw [f2.at 161 rfl, f1.at 161 rfl]) (by rw [f2.at 138 rfl, f1.at 138 rfl]) (by rw [f2.at (138 + 1) rfl, f1.at (138 + 1) rfl]) (fun t t0 t1 => by rw [g2, if_neg (by omega), f1.at 162 rfl]),
              ⟨by rw [f2.at 131 rfl, f1.at 131 rfl, f2.at 160 rfl, f1.at 160 rfl]; exact hS1.1, by rw [f2.at 160 rfl, f1.at 160 rfl]; exact hS1.2.1, by rw [f2.at 161 rfl, f1.at 161 rfl]; exact hS1.2.2.1, by rw [f2.at 140 rfl, f1.at 140 rfl, f2.at 161 rfl, f1.at 161 rfl]; exact hS1.2.2.2.1, fun t t0 t1 => by
                rw [f2.at 160 rfl, f1.at 160 rfl, f2.at (140 + 1) rfl, hs1, ua_eq, g2]
                unfold mcpy
                by_cases e : j ≤ t ∧ t < j + n
                · have h9 := hS2.2.2.2.2 (i + (t - j)) (by omega) (by omega)
                  rw [if_pos (by omega), if_pos (by omega), hs1, ua_ne (by decide), show s 160 1 = s 160 2 from hb.2.2.symm]
                  rw [show i.toNat + (t.toNat - j.toNat) = (i + (t - j)).toNat by omega, show (40 * (2 : Int) + i + (((((40 * ((1 : Nat) : Int) + t).toNat : Nat) : Int) - (40 * (1 : Int) + j)).toNat : Int)).toNat = (40 * ((2 : Nat) : Int) + (i + (t - j))).toNat by omega]
                  exact h9
                · rw [if_neg (by omega), if_neg (by omega), hs1, ua_ne (by decide)]
                  exact hS1.2.2.2.2 t t0 t1⟩,
              hS2.cg (by rw [f2.at 131 rfl, f1.at 131 rfl]) (by rw [f2.at 160 rfl, f1.at 160 rfl]) (by rw [f2.at 161 rfl, f1.at 161 rfl]) (by rw [f2.at 142 rfl, f1.at 142 rfl]) (by rw [f2.at (142 + 1) rfl, f1.at (142 + 1) rfl]) (fun t t0 t1 => by rw [g2, if_neg (by omega), f1.at 162 rfl]),
              hS3.cg (by rw [f2.at 131 rfl, f1.at 131 rfl]) (by rw [f2.at 160 rfl, f1.at 160 rfl]) (by rw [f2.at 161 rfl, f1.at 161 rfl]) (by rw [f2.at 144 rfl, f1.at 144 rfl]) (by rw [f2.at (144 + 1) rfl, f1.at (144 + 1) rfl]) (fun t t0 t1 => by rw [g2, if_neg (by omega), f1.at 162 rfl])⟩
          · obtain ⟨r1, s1, k1, hr, hs1⟩ := x_move_s2_1 (d := d + 148) hD0 hri hrj hrn hS hb h
            have e : s1 147 = s 147 := by rw [hs1]; exact us_ne (by decide)
            obtain ⟨r2, s2, k2, hr2, hs2⟩ := m_move_s (d := d + 148) (s := s1) e hM0 hC (w := 2) (o := 1) hrw hri hro hrj hrn (by omega) (by omega) (by rw [hs1, us_ne (by decide), us_ne (by decide)]; exact hsa) (by rw [hs1, us_ne (by decide), us_ne (by decide)]; exact hsb) (by rw [hs1, us_ne (by decide)]; exact hb) (by rw [hs1, us_ne (by decide)]; exact h)
            rw [hs2] at k2
            exact Step.mk (by first | exact ⟨(f1.at 1 rfl).trans hX.2.1, (congrFun (f1.at 0 rfl) 1).trans hX.2.2⟩ | exact ⟨hX.2.1, hX.2.2⟩ | exact ⟨by rw [hs1, us_ne (by decide)]; exact hX.2.1, by rw [hs1, us_ne (by decide)]; exact hX.2.2⟩ | exact ⟨by rw [hs1, us_ne (by decide), us_ne (by decide)]; exact hX.2.1, by rw [hs1, us_ne (by decide), us_ne (by decide)]; exact hX.2.2⟩ | exact ⟨by rw [e1, us_ne (by decide), f1.at 1 rfl]; exact hX.2.1, by rw [e1, us_ne (by decide), f1.at 0 rfl]; exact hX.2.2⟩ | exact ⟨by rw [ft.at 1 rfl, hx 1 (by decide) (by decide)]; exact hX.2.1, by rw [ft.at 0 rfl, et, newL_0, mup_ne (by decide)]; exact hX.2.2⟩) k1 k2 (by rw [hr, hr2]) (hI0.err2 hs1)
        · by_cases h : 0 ≤ n ∧ 0 ≤ i ∧ 0 ≤ j ∧ n ≤ s 161 2 - i ∧ n ≤ s 161 2 - j
          · obtain ⟨r1, s1, k1, hr, hs1⟩ := x_move_y2_2 (d := d + 148) hD0 hri hrj hrn hS hb h
            have f1 : Fr [143] s s1 := by rw [hs1]; exact Fr.ua rfl
            have e : s1 147 = s 147 := f1.at 147 rfl
            obtain ⟨r2, s2, k2, hr2, g2, f2⟩ := m_move_y (d := d + 148) (s := s1) (w := 2) (o := 2) e hM0 hC hrw hri hro hrj hrn (by omega) (by omega) (by rw [f1.at 160 rfl, f1.at 161 rfl]; exact hsa) (by rw [f1.at 160 rfl, f1.at 161 rfl]; exact hsb) (by rw [f1.at 160 rfl]; exact hb) (by rw [f1.at 161 rfl]; exact h)
            refine Step.mk (by first | exact ⟨(f1.at 1 rfl).trans hX.2.1, (congrFun (f1.at 0 rfl) 1).trans hX.2.2⟩ | exact ⟨hX.2.1, hX.2.2⟩ | exact ⟨by rw [hs1, us_ne (by decide)]; exact hX.2.1, by rw [hs1, us_ne (by decide)]; exact hX.2.2⟩ | exact ⟨by rw [hs1, us_ne (by decide), us_ne (by decide)]; exact hX.2.1, by rw [hs1, us_ne (by decide), us_ne (by decide)]; exact hX.2.2⟩ | exact ⟨by rw [e1, us_ne (by decide), f1.at 1 rfl]; exact hX.2.1, by rw [e1, us_ne (by decide), f1.at 0 rfl]; exact hX.2.2⟩ | exact ⟨by rw [ft.at 1 rfl, hx 1 (by decide) (by decide)]; exact hX.2.1, by rw [ft.at 0 rfl, et, newL_0, mup_ne (by decide)]; exact hX.2.2⟩) k1 k2 (by rw [hr, hr2]) (hI0.sht (A := [143, 162, 163]) rfl (by omega) ((Fr.mono rfl f1).tr (Fr.mono rfl f2)) ?_)
            obtain ⟨hS0, hS1, hS2, hS3⟩ := hS
            have hz0 := hS2.2.2.1
            have hz1 := hS2.2.2.1
            exact ⟨hS0.cg (by rw [f2.at 131 rfl, f1.at 131 rfl]) (by rw [f2.at 160 rfl, f1.at 160 rfl]) (by rw [f2.at 161 rfl, f1.at 161 rfl]) (by rw [f2.at 138 rfl, f1.at 138 rfl]) (by rw [f2.at (138 + 1) rfl, f1.at (138 + 1) rfl]) (fun t t0 t1 => by rw [g2, if_neg (by omega), f1.at 162 rfl]),
              hS1.cg (by rw [f2.at 131 rfl, f1.at 131 rfl]) (by rw [f2.at 160 rfl, f1.at 160 rfl]) (by rw [f2.at 161 rfl, f1.at 161 rfl]) (by rw [f2.at 140 rfl, f1.at 140 rfl]) (by rw [f2.at (140 + 1) rfl, f1.at (140 + 1) rfl]) (fun t t0 t1 => by rw [g2, if_neg (by omega), f1.at 162 rfl]),
              ⟨by rw [f2.at 131 rfl, f1.at 131 rfl, f2.at 160 rfl, f1.at 160 rfl]; exact hS2.1, by rw [f2.at 160 rfl, f1.at 160 rfl]; exact hS2.2.1, by rw [f2.at 161 rfl, f1.at 161 rfl]; exact hS2.2.2.1, by rw [f2.at 142 rfl, f1.at 142 rfl, f2.at 161 rfl, f1.at 161 rfl]; exact hS2.2.2.2.1, fun t t0 t1 => by
                rw [f2.at 160 rfl, f1.at 160 rfl, f2.at (142 + 1) rfl, hs1, ua_eq, g2]
                unfold mcpy
                by_cases e : j ≤ t ∧ t < j + n
                · have h9 := hS2.2.2.2.2 (i + (t - j)) (by omega) (by omega)
                  rw [if_pos (by omega), if_pos (by omega), hs1, ua_ne (by decide), show s 160 2 = s 160 2 from hb.2.2.symm]
                  rw [show i.toNat + (t.toNat - j.toNat) = (i + (t - j)).toNat by omega, show (40 * (2 : Int) + i + (((((40 * ((2 : Nat) : Int) + t).toNat : Nat) : Int) - (40 * (2 : Int) + j)).toNat : Int)).toNat = (40 * ((2 : Nat) : Int) + (i + (t - j))).toNat by omega]
                  exact h9
                · rw [if_neg (by omega), if_neg (by omega), hs1, ua_ne (by decide)]
                  exact hS2.2.2.2.2 t t0 t1⟩,
              hS3.cg (by rw [f2.at 131 rfl, f1.at 131 rfl]) (by rw [f2.at 160 rfl, f1.at 160 rfl]) (by rw [f2.at 161 rfl, f1.at 161 rfl]) (by rw [f2.at 144 rfl, f1.at 144 rfl]) (by rw [f2.at (144 + 1) rfl, f1.at (144 + 1) rfl]) (fun t t0 t1 => by rw [g2, if_neg (by omega), f1.at 162 rfl])⟩
          · obtain ⟨r1, s1, k1, hr, hs1⟩ := x_move_s2_2 (d := d + 148) hD0 hri hrj hrn hS hb h
            have e : s1 147 = s 147 := by rw [hs1]; exact us_ne (by decide)
            obtain ⟨r2, s2, k2, hr2, hs2⟩ := m_move_s (d := d + 148) (s := s1) e hM0 hC (w := 2) (o := 2) hrw hri hro hrj hrn (by omega) (by omega) (by rw [hs1, us_ne (by decide), us_ne (by decide)]; exact hsa) (by rw [hs1, us_ne (by decide), us_ne (by decide)]; exact hsb) (by rw [hs1, us_ne (by decide)]; exact hb) (by rw [hs1, us_ne (by decide)]; exact h)
            rw [hs2] at k2
            exact Step.mk (by first | exact ⟨(f1.at 1 rfl).trans hX.2.1, (congrFun (f1.at 0 rfl) 1).trans hX.2.2⟩ | exact ⟨hX.2.1, hX.2.2⟩ | exact ⟨by rw [hs1, us_ne (by decide)]; exact hX.2.1, by rw [hs1, us_ne (by decide)]; exact hX.2.2⟩ | exact ⟨by rw [hs1, us_ne (by decide), us_ne (by decide)]; exact hX.2.1, by rw [hs1, us_ne (by decide), us_ne (by decide)]; exact hX.2.2⟩ | exact ⟨by rw [e1, us_ne (by decide), f1.at 1 rfl]; exact hX.2.1, by rw [e1, us_ne (by decide), f1.at 0 rfl]; exact hX.2.2⟩ | exact ⟨by rw [ft.at 1 rfl, hx 1 (by decide) (by decide)]; exact hX.2.1, by rw [ft.at 0 rfl, et, newL_0, mup_ne (by decide)]; exact hX.2.2⟩) k1 k2 (by rw [hr, hr2]) (hI0.err2 hs1)
        · by_cases h : 0 ≤ n ∧ 0 ≤ i ∧ 0 ≤ j ∧ n ≤ s 161 2 - i ∧ n ≤ s 161 3 - j
          · obtain ⟨r1, s1, k1, hr, hs1⟩ := x_move_y2_3 (d := d + 148) hD0 hri hrj hrn hS hb h
            have f1 : Fr [145] s s1 := by rw [hs1]; exact Fr.ua rfl
            have e : s1 147 = s 147 := f1.at 147 rfl
            obtain ⟨r2, s2, k2, hr2, g2, f2⟩ := m_move_y (d := d + 148) (s := s1) (w := 2) (o := 3) e hM0 hC hrw hri hro hrj hrn (by omega) (by omega) (by rw [f1.at 160 rfl, f1.at 161 rfl]; exact hsa) (by rw [f1.at 160 rfl, f1.at 161 rfl]; exact hsb) (by rw [f1.at 160 rfl]; exact hb) (by rw [f1.at 161 rfl]; exact h)
            refine Step.mk (by first | exact ⟨(f1.at 1 rfl).trans hX.2.1, (congrFun (f1.at 0 rfl) 1).trans hX.2.2⟩ | exact ⟨hX.2.1, hX.2.2⟩ | exact ⟨by rw [hs1, us_ne (by decide)]; exact hX.2.1, by rw [hs1, us_ne (by decide)]; exact hX.2.2⟩ | exact ⟨by rw [hs1, us_ne (by decide), us_ne (by decide)]; exact hX.2.1, by rw [hs1, us_ne (by decide), us_ne (by decide)]; exact hX.2.2⟩ | exact ⟨by rw [e1, us_ne (by decide), f1.at 1 rfl]; exact hX.2.1, by rw [e1, us_ne (by decide), f1.at 0 rfl]; exact hX.2.2⟩ | exact ⟨by rw [ft.at 1 rfl, hx 1 (by decide) (by decide)]; exact hX.2.1, by rw [ft.at 0 rfl, et, newL_0, mup_ne (by decide)]; exact hX.2.2⟩) k1 k2 (by rw [hr, hr2]) (hI0.sht (A := [145, 162, 163]) rfl (by omega) ((Fr.mono rfl f1).tr (Fr.mono rfl f2)) ?_)
            obtain ⟨hS0, hS1, hS2, hS3⟩ := hS
            have hz0 := hS2.2.2.1
            have hz1 := hS3.2.2.1
            exact ⟨hS0.cg (by rw [f2.at 131 rfl, f1.at 131 rfl]) (by rw [f2.at 160 rfl, f1.at 160 rfl]) (by rw [f2.at 161 rfl, f1.at 161 rfl]) (by rw [f2.at 138 rfl, f1.at 138 rfl]) (by rw [f2.at (138 + 1) rfl, f1.at (138 + 1) rfl]) (fun t t0 t1 => by rw [g2, if_neg (by omega), f1.at 162 rfl]),
              hS1.cg (by rw [f2.at 131 rfl, f1.at 131 rfl]) (by rw [f2.at 160 rfl, f1.at 160 rfl]) (by rw [f2.at 161 rfl, f1.at 161 rfl]) (by rw [f2.at 140 rfl, f1.at 140 rfl]) (by rw [f2.at (140 + 1) rfl, f1.at (140 + 1) rfl]) (fun t t0 t1 => by rw [g2, if_neg (by omega), f1.at 162 rfl]),
              hS2.cg (by rw [f2.at 131 rfl, f1.at 131 rfl]) (by rw [f2.at 160 rfl, f1.at 160 rfl]) (by rw [f2.at 161 rfl, f1.at 161 rfl]) (by rw [f2.at 142 rfl, f1.at 142 rfl]) (by rw [f2.at (142 + 1) rfl, f1.at (142 + 1) rfl]) (fun t t0 t1 => by rw [g2, if_neg (by omega), f1.at 162 rfl]),
              ⟨by rw [f2.at 131 rfl, f1.at 131 rfl, f2.at 160 rfl, f1.at 160 rfl]; exact hS3.1, by rw [f2.at 160 rfl, f1.at 160 rfl]; exact hS3.2.1, by rw [f2.at 161 rfl, f1.at 161 rfl]; exact hS3.2.2.1, by rw [f2.at 144 rfl, f1.at 144 rfl, f2.at 161 rfl, f1.at 161 rfl]; exact hS3.2.2.2.1, fun t t0 t1 => by
                rw [f2.at 160 rfl, f1.at 160 rfl, f2.at (144 + 1) rfl, hs1, ua_eq, g2]
                unfold mcpy
                by_cases e : j ≤ t ∧ t < j + n
                · have h9 := hS2.2.2.2.2 (i + (t - j)) (by omega) (by omega)
                  rw [if_pos (by omega), if_pos (by omega), hs1, ua_ne (by decide), show s 160 3 = s 160 2 from hb.2.2.symm]
                  rw [show i.toNat + (t.toNat - j.toNat) = (i + (t - j)).toNat by omega, show (40 * (2 : Int) + i + (((((40 * ((3 : Nat) : Int) + t).toNat : Nat) : Int) - (40 * (3 : Int) + j)).toNat : Int)).toNat = (40 * ((2 : Nat) : Int) + (i + (t - j))).toNat by omega]
                  exact h9
                · rw [if_neg (by omega), if_neg (by omega), hs1, ua_ne (by decide)]
                  exact hS3.2.2.2.2 t t0 t1⟩⟩
          · obtain ⟨r1, s1, k1, hr, hs1⟩ := x_move_s2_3 (d := d + 148) hD0 hri hrj hrn hS hb h
            have e : s1 147 = s 147 := by rw [hs1]; exact us_ne (by decide)
            obtain ⟨r2, s2, k2, hr2, hs2⟩ := m_move_s (d := d + 148) (s := s1) e hM0 hC (w := 2) (o := 3) hrw hri hro hrj hrn (by omega) (by omega) (by rw [hs1, us_ne (by decide), us_ne (by decide)]; exact hsa) (by rw [hs1, us_ne (by decide), us_ne (by decide)]; exact hsb) (by rw [hs1, us_ne (by decide)]; exact hb) (by rw [hs1, us_ne (by decide)]; exact h)
            rw [hs2] at k2
            exact Step.mk (by first | exact ⟨(f1.at 1 rfl).trans hX.2.1, (congrFun (f1.at 0 rfl) 1).trans hX.2.2⟩ | exact ⟨hX.2.1, hX.2.2⟩ | exact ⟨by rw [hs1, us_ne (by decide)]; exact hX.2.1, by rw [hs1, us_ne (by decide)]; exact hX.2.2⟩ | exact ⟨by rw [hs1, us_ne (by decide), us_ne (by decide)]; exact hX.2.1, by rw [hs1, us_ne (by decide), us_ne (by decide)]; exact hX.2.2⟩ | exact ⟨by rw [e1, us_ne (by decide), f1.at 1 rfl]; exact hX.2.1, by rw [e1, us_ne (by decide), f1.at 0 rfl]; exact hX.2.2⟩ | exact ⟨by rw [ft.at 1 rfl, hx 1 (by decide) (by decide)]; exact hX.2.1, by rw [ft.at 0 rfl, et, newL_0, mup_ne (by decide)]; exact hX.2.2⟩) k1 k2 (by rw [hr, hr2]) (hI0.err2 hs1)
        · by_cases h : 0 ≤ n ∧ 0 ≤ i ∧ 0 ≤ j ∧ n ≤ s 161 3 - i ∧ n ≤ s 161 0 - j
          · obtain ⟨r1, s1, k1, hr, hs1⟩ := x_move_y3_0 (d := d + 148) hD0 hri hrj hrn hS hb h
            have f1 : Fr [139] s s1 := by rw [hs1]; exact Fr.ua rfl
            have e : s1 147 = s 147 := f1.at 147 rfl
            obtain ⟨r2, s2, k2, hr2, g2, f2⟩ := m_move_y (d := d + 148) (s := s1) (w := 3) (o := 0) e hM0 hC hrw hri hro hrj hrn (by omega) (by omega) (by rw [f1.at 160 rfl, f1.at 161 rfl]; exact hsa) (by rw [f1.at 160 rfl, f1.at 161 rfl]; exact hsb) (by rw [f1.at 160 rfl]; exact hb) (by rw [f1.at 161 rfl]; exact h)
            refine Step.mk (by first | exact ⟨(f1.at 1 rfl).trans hX.2.1, (congrFun (f1.at 0 rfl) 1).trans hX.2.2⟩ | exact ⟨hX.2.1, hX.2.2⟩ | exact ⟨by rw [hs1, us_ne (by decide)]; exact hX.2.1, by rw [hs1, us_ne (by decide)]; exact hX.2.2⟩ | exact ⟨by rw [hs1, us_ne (by decide), us_ne (by decide)]; exact hX.2.1, by rw [hs1, us_ne (by decide), us_ne (by decide)]; exact hX.2.2⟩ | exact ⟨by rw [e1, us_ne (by decide), f1.at 1 rfl]; exact hX.2.1, by rw [e1, us_ne (by decide), f1.at 0 rfl]; exact hX.2.2⟩ | exact ⟨by rw [ft.at 1 rfl, hx 1 (by decide) (by decide)]; exact hX.2.1, by rw [ft.at 0 rfl, et, newL_0, mup_ne (by decide)]; exact hX.2.2⟩) k1 k2 (by rw [hr, hr2]) (hI0.sht (A := [139, 162, 163]) rfl (by omega) ((Fr.mono rfl f1).tr (Fr.mono rfl f2)) ?_)
            obtain ⟨hS0, hS1, hS2, hS3⟩ := hS
            have hz0 := hS3.2.2.1
            have hz1 := hS0.2.2.1
            exact ⟨⟨by rw [f2.at 131 rfl, f1.at 131 rfl, f2.at 160 rfl, f1.at 160 rfl]; exact hS0.1, by rw [f2.at 160 rfl, f1.at 160 rfl]; exact hS0.2.1, by rw [f2.at 161 rfl, f1.at 161 rfl]; exact hS0.2.2.1, by rw [f2.at 138 rfl, f1.at 138 rfl, f2.at 161 rfl, f1.at 161 rfl]; exact hS0.2.2.2.1, fun t t0 t1 => by
                rw [f2.at 160 rfl, f1.at 160 rfl, f2.at (138 + 1) rfl, hs1, ua_eq, g2]
                unfold mcpy
                by_cases e : j ≤ t ∧ t < j + n
                · have h9 := hS3.2.2.2.2 (i + (t - j)) (by omega) (by omega)
                  rw [if_pos (by omega), if_pos (by omega), hs1, ua_ne (by decide), show s 160 0 = s 160 3 from hb.2.2.symm]
                  rw [show i.toNat + (t.toNat - j.toNat) = (i + (t - j)).toNat by omega, show (40 * (3 : Int) + i + (((((40 * ((0 : Nat) : Int) + t).toNat : Nat) : Int) - (40 * (0 : Int) + j)).toNat : Int)).toNat = (40 * ((3 : Nat) : Int) + (i + (t - j))).toNat by omega]
                  exact h9
                · rw [if_neg (by omega), if_neg (by omega), hs1, ua_ne (by decide)]
                  exact hS0.2.2.2.2 t t0 t1⟩,
              hS1.cg (by rw [f2.at 131 rfl, f1.at 131 rfl]) (by rw [f2.at 160 rfl, f1.at 160 rfl]) (by rw [f2.at 161 rfl, f1.at 161 rfl]) (by rw [f2.at 140 rfl, f1.at 140 rfl]) (by rw [f2.at (140 + 1) rfl, f1.at (140 + 1) rfl]) (fun t t0 t1 => by rw [g2, if_neg (by omega), f1.at 162 rfl]),
              hS2.cg (by rw [f2.at 131 rfl, f1.at 131 rfl]) (by rw [f2.at 160 rfl, f1.at 160 rfl]) (by rw [f2.at 161 rfl, f1.at 161 rfl]) (by rw [f2.at 142 rfl, f1.at 142 rfl]) (by rw [f2.at (142 + 1) rfl, f1.at (142 + 1) rfl]) (fun t t0 t1 => by rw [g2, if_neg (by omega), f1.at 162 rfl]),
              hS3.cg (by rw [f2.at 131 rfl, f1.at 131 rfl]) (by rw [f2.at 160 rfl, f1.at 160 rfl]) (by rw [f2.at 161 rfl, f1.at 161 rfl]) (by rw [f2.at 144 rfl, f1.at 144 rfl]) (by rw [f2.at (144 + 1) rfl, f1.at (144 + 1) rfl]) (fun t t0 t1 => by rw [g2, if_neg (by omega), f1.at 162 rfl])⟩
          · obtain ⟨r1, s1, k1, hr, hs1⟩ := x_move_s3_0 (d := d + 148) hD0 hri hrj hrn hS hb h
            have e : s1 147 = s 147 := by rw [hs1]; exact us_ne (by decide)
            obtain ⟨r2, s2, k2, hr2, hs2⟩ := m_move_s (d := d + 148) (s := s1) e hM0 hC (w := 3) (o := 0) hrw hri hro hrj hrn (by omega) (by omega) (by rw [hs1, us_ne (by decide), us_ne (by decide)]; exact hsa) (by rw [hs1, us_ne (by decide), us_ne (by decide)]; exact hsb) (by rw [hs1, us_ne (by decide)]; exact hb) (by rw [hs1, us_ne (by decide)]; exact h)
            rw [hs2] at k2
            exact Step.mk (by first | exact ⟨(f1.at 1 rfl).trans hX.2.1, (congrFun (f1.at 0 rfl) 1).trans hX.2.2⟩ | exact ⟨hX.2.1, hX.2.2⟩ | exact ⟨by rw [hs1, us_ne (by decide)]; exact hX.2.1, by rw [hs1, us_ne (by decide)]; exact hX.2.2⟩ | exact ⟨by rw [hs1, us_ne (by decide), us_ne (by decide)]; exact hX.2.1, by rw [hs1, us_ne (by decide), us_ne (by decide)]; exact hX.2.2⟩ | exact ⟨by rw [e1, us_ne (by decide), f1.at 1 rfl]; exact hX.2.1, by rw [e1, us_ne (by decide), f1.at 0 rfl]; exact hX.2.2⟩ | exact ⟨by rw [ft.at 1 rfl, hx 1 (by decide) (by decide)]; exact hX.2.1, by rw [ft.at 0 rfl, et, newL_0, mup_ne (by decide)]; exact hX.2.2⟩) k1 k2 (by rw [hr, hr2]) (hI0.err2 hs1)
        · by_cases h : 0 ≤ n ∧ 0 ≤ i ∧ 0 ≤ j ∧ n ≤ s 161 3 - i ∧ n ≤ s 161 1 - j
          · obtain ⟨r1, s1, k1, hr, hs1⟩ := x_move_y3_1 (d := d + 148) hD0 hri hrj hrn hS hb h
            have f1 : Fr [141] s s1 := by rw [hs1]; exact Fr.ua rfl
            have e : s1 147 = s 147 := f1.at 147 rfl
            obtain ⟨r2, s2, k2, hr2, g2, f2⟩ := m_move_y (d := d + 148) (s := s1) (w := 3) (o := 1) e hM0 hC hrw hri hro hrj hrn (by omega) (by omega) (by rw [f1.at 160 rfl, f1.at 161 rfl]; exact hsa) (by rw [f1.at 160 rfl, f1.at 161 rfl]; exact hsb) (by rw [f1.at 160 rfl]; exact hb) (by rw [f1.at 161 rfl]; exact h)
            refine Step.mk (by first | exact ⟨(f1.at 1 rfl).trans hX.2.1, (congrFun (f1.at 0 rfl) 1).trans hX.2.2⟩ | exact ⟨hX.2.1, hX.2.2⟩ | exact ⟨by rw [hs1, us_ne (by decide)]; exact hX.2.1, by rw [hs1, us_ne (by decide)]; exact hX.2.2⟩ | exact ⟨by rw [hs1, us_ne (by decide), us_ne (by decide)]; exact hX.2.1, by rw [hs1, us_ne (by decide), us_ne (by decide)]; exact hX.2.2⟩ | exact ⟨by rw [e1, us_ne (by decide), f1.at 1 rfl]; exact hX.2.1, by rw [e1, us_ne (by decide), f1.at 0 rfl]; exact hX.2.2⟩ | exact ⟨by rw [ft.at 1 rfl, hx 1 (by decide) (by decide)]; exact hX.2.1, by rw [ft.at 0 rfl, et, newL_0, mup_ne (by decide)]; exact hX.2.2⟩) k1 k2 (by rw [hr, hr2]) (hI0.sht (A := [141, 162, 163]) rfl (by omega) ((Fr.mono rfl f1).tr (Fr.mono rfl f2)) ?_)
            obtain ⟨hS0, hS1, hS2, hS3⟩ := hS
            have hz0 := hS3.2.2.1
            have hz1 := hS1.2.2.1
            exact ⟨hS0.cg (by rw [f2.at 131 rfl, f1.at 131 rfl]) (by rw [f2.at 160 rfl, f1.at 160 rfl]) (by rw [f2.at 161 rfl, f1.at 161 rfl]) (by rw [f2.at 138 rfl, f1.at 138 rfl]) (by rw [f2.at (138 + 1) rfl, f1.at (138 + 1) rfl]) (fun t t0 t1 => by rw [g2, if_neg (by omega), f1.at 162 rfl]),
              ⟨by rw [f2.at 131 rfl, f1.at 131 rfl, f2.at 160 rfl, f1.at 160 rfl]; exact hS1.1, by rw [f2.at 160 rfl, f1.at 160 rfl]; exact hS1.2.1, by rw [f2.at 161 rfl, f1.at 161 rfl]; exact hS1.2.2.1, by rw [f2.at 140 rfl, f1.at 140 rfl, f2.at 161 rfl, f1.at 161 rfl]; exact hS1.2.2.2.1, fun t t0 t1 => by
                rw [f2.at 160 rfl, f1.at 160 rfl, f2.at (140 + 1) rfl, hs1, ua_eq, g2]
                unfold mcpy
                by_cases e : j ≤ t ∧ t < j + n
                · have h9 := hS3.2.2.2.2 (i + (t - j)) (by omega) (by omega)
                  rw [if_pos (by omega), if_pos (by omega), hs1, ua_ne (by decide), show s 160 1 = s 160 3 from hb.2.2.symm]
                  rw [show i.toNat + (t.toNat - j.toNat) = (i + (t - j)).toNat by omega, show (40 * (3 : Int) + i + (((((40 * ((1 : Nat) : Int) + t).toNat : Nat) : Int) - (40 * (1 : Int) + j)).toNat : Int)).toNat = (40 * ((3 : Nat) : Int) + (i + (t - j))).toNat by omega]
                  exact h9
                · rw [if_neg (by omega), if_neg (by omega), hs1, ua_ne (by decide)]
                  exact hS1.2.2.2.2 t t0 t1⟩,
              hS2.cg (by rw [f2.at 131 rfl, f1.at 131 rfl]) (by rw [f2.at 160 rfl, f1.at 160 rfl]) (by rw [f2.at 161 rfl, f1.at 161 rfl]) (by rw [f2.at 142 rfl, f1.at 142 rfl]) (by rw [f2.at (142 + 1) rfl, f1.at (142 + 1) rfl]) (fun t t0 t1 => by rw [g2, if_neg (by omega), f1.at 162 rfl]),
              hS3.cg (by rw [f2.at 131 rfl, f1.at 131 rfl]) (by rw [f2.at 160 rfl, f1.at 160 rfl]) (by rw [f2.at 161 rfl, f1.at 161 rfl]) (by rw [f2.at 144 rfl, f1.at 144 rfl]) (by rw [f2.at (144 + 1) rfl, f1.at (144 + 1) rfl]) (fun t t0 t1 => by rw [g2, if_neg (by omega), f1.at 162 rfl])⟩
          · obtain ⟨r1, s1, k1, hr, hs1⟩ := x_move_s3_1 (d := d + 148) hD0 hri hrj hrn hS hb h
            have e : s1 147 = s 147 := by rw [hs1]; exact us_ne (by decide)
            obtain ⟨r2, s2, k2, hr2, hs2⟩ := m_move_s (d := d + 148) (s := s1) e hM0 hC (w := 3) (o := 1) hrw hri hro hrj hrn (by omega) (by omega) (by rw [hs1, us_ne (by decide), us_ne (by decide)]; exact hsa) (by rw [hs1, us_ne (by decide), us_ne (by decide)]; exact hsb) (by rw [hs1, us_ne (by decide)]; exact hb) (by rw [hs1, us_ne (by decide)]; exact h)
            rw [hs2] at k2
            exact Step.mk (by first | exact ⟨(f1.at 1 rfl).trans hX.2.1, (congrFun (f1.at 0 rfl) 1).trans hX.2.2⟩ | exact ⟨hX.2.1, hX.2.2⟩ | exact ⟨by rw [hs1, us_ne (by decide)]; exact hX.2.1, by rw [hs1, us_ne (by decide)]; exact hX.2.2⟩ | exact ⟨by rw [hs1, us_ne (by decide), us_ne (by decide)]; exact hX.2.1, by rw [hs1, us_ne (by decide), us_ne (by decide)]; exact hX.2.2⟩ | exact ⟨by rw [e1, us_ne (by decide), f1.at 1 rfl]; exact hX.2.1, by rw [e1, us_ne (by decide), f1.at 0 rfl]; exact hX.2.2⟩ | exact ⟨by rw [ft.at 1 rfl, hx 1 (by decide) (by decide)]; exact hX.2.1, by rw [ft.at 0 rfl, et, newL_0, mup_ne (by decide)]; exact hX.2.2⟩) k1 k2 (by rw [hr, hr2]) (hI0.err2 hs1)
        · by_cases h : 0 ≤ n ∧ 0 ≤ i ∧ 0 ≤ j ∧ n ≤ s 161 3 - i ∧ n ≤ s 161 2 - j
          · obtain ⟨r1, s1, k1, hr, hs1⟩ := x_move_y3_2 (d := d + 148) hD0 hri hrj hrn hS hb h
            have f1 : Fr [143] s s1 := by rw [hs1]; exact Fr.ua rfl
            have e : s1 147 = s 147 := f1.at 147 rfl
            obtain ⟨r2, s2, k2, hr2, g2, f2⟩ := m_move_y (d := d + 148) (s := s1) (w := 3) (o := 2) e hM0 hC hrw hri hro hrj hrn (by omega) (by omega) (by rw [f1.at 160 rfl, f1.at 161 rfl]; exact hsa) (by rw [f1.at 160 rfl, f1.at 161 rfl]; exact hsb) (by rw [f1.at 160 rfl]; exact hb) (by rw [f1.at 161 rfl]; exact h)
            refine Step.mk (by first | exact ⟨(f1.at 1 rfl).trans hX.2.1, (congrFun (f1.at 0 rfl) 1).trans hX.2.2⟩ | exact ⟨hX.2.1, hX.2.2⟩ | exact ⟨by rw [hs1, us_ne (by decide)]; exact hX.2.1, by rw [hs1, us_ne (by decide)]; exact hX.2.2⟩ | exact ⟨by rw [hs1, us_ne (by decide), us_ne (by decide)]; exact hX.2.1, by rw [hs1, us_ne (by decide), us_ne (by decide)]; exact hX.2.2⟩ | exact ⟨by rw [e1, us_ne (by decide), f1.at 1 rfl]; exact hX.2.1, by rw [e1, us_ne (by decide), f1.at 0 rfl]; exact hX.2.2⟩ | exact ⟨by rw [ft.at 1 rfl, hx 1 (by decide) (by decide)]; exact hX.2.1, by rw [ft.at 0 rfl, et, newL_0, mup_ne (by decide)]; exact hX.2.2⟩) k1 k2 (by rw [hr, hr2]) (hI0.sht (A := [143, 162, 163]) rfl (by omega) ((Fr.mono rfl f1).tr (Fr.mono rfl f2)) ?_)
            obtain ⟨hS0, hS1, hS2, hS3⟩ := hS
            have hz0 := hS3.2.2.1
            have hz1 := hS2.2.2.1
            exact ⟨hS0.cg (by rw [f2.at 131 rfl, f1.at 131 rfl]) (by rw [f2.at 160 rfl, f1.at 160 rfl]) (by rw [f2.at 161 rfl, f1.at 161 rfl]) (by rw [f2.at 138 rfl, f1.at 138 rfl]) (by rw [f2.at (138 + 1) rfl, f1.at (138 + 1) rfl]) (fun t t0 t1 => by rw [g2, if_neg (by omega), f1.at 162 rfl]),
              hS1.cg (by rw [f2.at 131 rfl, f1.at 131 rfl]) (by rw [f2.at 160 rfl, f1.at 160 rfl]) (by rw [f2.at 161 rfl, f1.at 161 rfl]) (by rw [f2.at 140 rfl, f1.at 140 rfl]) (by rw [f2.at (140 + 1) rfl, f1.at (140 + 1) rfl]) (fun t t0 t1 => by rw [g2, if_neg (by omega), f1.at 162 rfl]),
              ⟨by rw [f2.at 131 rfl, f1.at 131 rfl, f2.at 160 rfl, f1.at 160 rfl]; exact hS2.1, by rw [f2.at 160 rfl, f1.at 160 rfl]; exact hS2.2.1, by rw [f2.at 161 rfl, f1.at 161 rfl]; exact hS2.2.2.1, by rw [f2.at 142 rfl, f1.at 142 rfl, f2.at 161 rfl, f1.at 161 rfl]; exact hS2.2.2.2.1, fun t t0 t1 => by
                rw [f2.at 160 rfl, f1.at 160 rfl, f2.at (142 + 1) rfl, hs1, ua_eq, g2]
                unfold mcpy
                by_cases e : j ≤ t ∧ t < j + n
                · have h9 := hS3.2.2.2.2 (i + (t - j)) (by omega) (by omega)
                  rw [if_pos (by omega), if_pos (by omega), hs1, ua_ne (by decide), show s 160 2 = s 160 3 from hb.2.2.symm]
                  rw [show i.toNat + (t.toNat - j.toNat) = (i + (t - j)).toNat by omega, show (40 * (3 : Int) + i + (((((40 * ((2 : Nat) : Int) + t).toNat : Nat) : Int) - (40 * (2 : Int) + j)).toNat : Int)).toNat = (40 * ((3 : Nat) : Int) + (i + (t - j))).toNat by omega]
                  exact h9
                · rw [if_neg (by omega), if_neg (by omega), hs1, ua_ne (by decide)]
                  exact hS2.2.2.2.2 t t0 t1⟩,
              hS3.cg (by rw [f2.at 131 rfl, f1.at 131 rfl]) (by rw [f2.at 160 rfl, f1.at 160 rfl]) (by rw [f2.at 161 rfl, f1.at 161 rfl]) (by rw [f2.at 144 rfl, f1.at 144 rfl]) (by rw [f2.at (144 + 1) rfl, f1.at (144 + 1) rfl]) (fun t t0 t1 => by rw [g2, if_neg (by omega), f1.at 162 rfl])⟩
          · obtain ⟨r1, s1, k1, hr, hs1⟩ := x_move_s3_2 (d := d + 148) hD0 hri hrj hrn hS hb h
            have e : s1 147 = s 147 := by rw [hs1]; exact us_ne (by decide)
            obtain ⟨r2, s2, k2, hr2, hs2⟩ := m_move_s (d := d + 148) (s := s1) e hM0 hC (w := 3) (o := 2) hrw hri hro hrj hrn (by omega) (by omega) (by rw [hs1, us_ne (by decide), us_ne (by decide)]; exact hsa) (by rw [hs1, us_ne (by decide), us_ne (by decide)]; exact hsb) (by rw [hs1, us_ne (by decide)]; exact hb) (by rw [hs1, us_ne (by decide)]; exact h)
            rw [hs2] at k2
            exact Step.mk (by first | exact ⟨(f1.at 1 rfl).trans hX.2.1, (congrFun (f1.at 0 rfl) 1).trans hX.2.2⟩ | exact ⟨hX.2.1, hX.2.2⟩ | exact ⟨by rw [hs1, us_ne (by decide)]; exact hX.2.1, by rw [hs1, us_ne (by decide)]; exact hX.2.2⟩ | exact ⟨by rw [hs1, us_ne (by decide), us_ne (by decide)]; exact hX.2.1, by rw [hs1, us_ne (by decide), us_ne (by decide)]; exact hX.2.2⟩ | exact ⟨by rw [e1, us_ne (by decide), f1.at 1 rfl]; exact hX.2.1, by rw [e1, us_ne (by decide), f1.at 0 rfl]; exact hX.2.2⟩ | exact ⟨by rw [ft.at 1 rfl, hx 1 (by decide) (by decide)]; exact hX.2.1, by rw [ft.at 0 rfl, et, newL_0, mup_ne (by decide)]; exact hX.2.2⟩) k1 k2 (by rw [hr, hr2]) (hI0.err2 hs1)
        · by_cases h : 0 ≤ n ∧ 0 ≤ i ∧ 0 ≤ j ∧ n ≤ s 161 3 - i ∧ n ≤ s 161 3 - j
          · obtain ⟨r1, s1, k1, hr, hs1⟩ := x_move_y3_3 (d := d + 148) hD0 hri hrj hrn hS hb h
            have f1 : Fr [145] s s1 := by rw [hs1]; exact Fr.ua rfl
            have e : s1 147 = s 147 := f1.at 147 rfl
            obtain ⟨r2, s2, k2, hr2, g2, f2⟩ := m_move_y (d := d + 148) (s := s1) (w := 3) (o := 3) e hM0 hC hrw hri hro hrj hrn (by omega) (by omega) (by rw [f1.at 160 rfl, f1.at 161 rfl]; exact hsa) (by rw [f1.at 160 rfl, f1.at 161 rfl]; exact hsb) (by rw [f1.at 160 rfl]; exact hb) (by rw [f1.at 161 rfl]; exact h)
            refine Step.mk (by first | exact ⟨(f1.at 1 rfl).trans hX.2.1, (congrFun (f1.at 0 rfl) 1).trans hX.2.2⟩ | exact ⟨hX.2.1, hX.2.2⟩ | exact ⟨by rw [hs1, us_ne (by decide)]; exact hX.2.1, by rw [hs1, us_ne (by decide)]; exact hX.2.2⟩ | exact ⟨by rw [hs1, us_ne (by decide), us_ne (by decide)]; exact hX.2.1, by rw [hs1, us_ne (by decide), us_ne (by decide)]; exact hX.2.2⟩ | exact ⟨by rw [e1, us_ne (by decide), f1.at 1 rfl]; exact hX.2.1, by rw [e1, us_ne (by decide), f1.at 0 rfl]; exact hX.2.2⟩ | exact ⟨by rw [ft.at 1 rfl, hx 1 (by decide) (by decide)]; exact hX.2.1, by rw [ft.at 0 rfl, et, newL_0, mup_ne (by decide)]; exact hX.2.2⟩) k1 k2 (by rw [hr, hr2]) (hI0.sht (A := [145, 162, 163]) rfl (by omega) ((Fr.mono rfl f1).tr (Fr.mono rfl f2)) ?_)
            obtain ⟨hS0, hS1, hS2, hS3⟩ := hS
            have hz0 := hS3.2.2.1
            have hz1 := hS3.2.2.1
            exact ⟨hS0.cg (by rw [f2.at 131 rfl, f1.at 131 rfl]) (by rw [f2.at 160 rfl, f1.at 160 rfl]) (by rw [f2.at 161 rfl, f1.at 161 rfl]) (by rw [f2.at 138 rfl, f1.at 138 rfl]) (by rw [f2.at (138 + 1) rfl, f1.at (138 + 1) rfl]) (fun t t0 t1 => by rw [g2, if_neg (by omega), f1.at 162 rfl]),
              hS1.cg (by rw [f2.at 131 rfl, f1.at 131 rfl]) (by rw [f2.at 160 rfl, f1.at 160 rfl]) (by rw [f2.at 161 rfl, f1.at 161 rfl]) (by rw [f2.at 140 rfl, f1.at 140 rfl]) (by rw [f2.at (140 + 1) rfl, f1.at (140 + 1) rfl]) (fun t t0 t1 => by rw [g2, if_neg (by omega), f1.at 162 rfl]),
              hS2.cg (by rw [f2.at 131 rfl, f1.at 131 rfl]) (by rw [f2.at 160 rfl, f1.at 160 rfl]) (by rw [f2.at 161 rfl, f1.at 161 rfl]) (by rw [f2.at 142 rfl, f1.at 142 rfl]) (by rw [f2.at (142 + 1) rfl, f1.at (142 + 1) rfl]) (fun t t0 t1 => by rw [g2, if_neg (by omega), f1.at 162 rfl]),
              ⟨by rw [f2.at 131 rfl, f1.at 131 rfl, f2.at 160 rfl, f1.at 160 rfl]; exact hS3.1, by rw [f2.at 160 rfl, f1.at 160 rfl]; exact hS3.2.1, by rw [f2.at 161 rfl, f1.at 161 rfl]; exact hS3.2.2.1, by rw [f2.at 144 rfl, f1.at 144 rfl, f2.at 161 rfl, f1.at 161 rfl]; exact hS3.2.2.2.1, fun t t0 t1 => by
                rw [f2.at 160 rfl, f1.at 160 rfl, f2.at (144 + 1) rfl, hs1, ua_eq, g2]
                unfold mcpy
                by_cases e : j ≤ t ∧ t < j + n
                · have h9 := hS3.2.2.2.2 (i + (t - j)) (by omega) (by omega)
                  rw [if_pos (by omega), if_pos (by omega), hs1, ua_ne (by decide), show s 160 3 = s 160 3 from hb.2.2.symm]
                  rw [show i.toNat + (t.toNat - j.toNat) = (i + (t - j)).toNat by omega, show (40 * (3 : Int) + i + (((((40 * ((3 : Nat) : Int) + t).toNat : Nat) : Int) - (40 * (3 : Int) + j)).toNat : Int)).toNat = (40 * ((3 : Nat) : Int) + (i + (t - j))).toNat by omega]
                  exact h9
                · rw [if_neg (by omega), if_neg (by omega), hs1, ua_ne (by decide)]
                  exact hS3.2.2.2.2 t t0 t1⟩⟩
          · obtain ⟨r1, s1, k1, hr, hs1⟩ := x_move_s3_3 (d := d + 148) hD0 hri hrj hrn hS hb h
            have e : s1 147 = s 147 := by rw [hs1]; exact us_ne (by decide)
            obtain ⟨r2, s2, k2, hr2, hs2⟩ := m_move_s (d := d + 148) (s := s1) e hM0 hC (w := 3) (o := 3) hrw hri hro hrj hrn (by omega) (by omega) (by rw [hs1, us_ne (by decide), us_ne (by decide)]; exact hsa) (by rw [hs1, us_ne (by decide), us_ne (by decide)]; exact hsb) (by rw [hs1, us_ne (by decide)]; exact hb) (by rw [hs1, us_ne (by decide)]; exact h)
            rw [hs2] at k2
            exact Step.mk (by first | exact ⟨(f1.at 1 rfl).trans hX.2.1, (congrFun (f1.at 0 rfl) 1).trans hX.2.2⟩ | exact ⟨hX.2.1, hX.2.2⟩ | exact ⟨by rw [hs1, us_ne (by decide)]; exact hX.2.1, by rw [hs1, us_ne (by decide)]; exact hX.2.2⟩ | exact ⟨by rw [hs1, us_ne (by decide), us_ne (by decide)]; exact hX.2.1, by rw [hs1, us_ne (by decide), us_ne (by decide)]; exact hX.2.2⟩ | exact ⟨by rw [e1, us_ne (by decide), f1.at 1 rfl]; exact hX.2.1, by rw [e1, us_ne (by decide), f1.at 0 rfl]; exact hX.2.2⟩ | exact ⟨by rw [ft.at 1 rfl, hx 1 (by decide) (by decide)]; exact hX.2.1, by rw [ft.at 0 rfl, et, newL_0, mup_ne (by decide)]; exact hX.2.2⟩) k1 k2 (by rw [hr, hr2]) (hI0.err2 hs1)
      · obtain ⟨r1, s1, k1, hr, hs1⟩ := x_move_k (d := d + 148) hD0 hrw hri hro hrj hrn hS hy.1 hy.2 hb0 hk
        have e : s1 147 = s 147 := by rw [hs1]; exact us_ne (by decide)
        obtain ⟨r2, s2, k2, hr2, hs2⟩ := m_move_k (d := d + 148) (s := s1) e hM0 hC hrw hri hro hrj hrn (by omega) (by omega) (by rw [hs1, us_ne (by decide), us_ne (by decide)]; exact hsa) (by rw [hs1, us_ne (by decide), us_ne (by decide)]; exact hsb) (by rw [hs1, us_ne (by decide)]; exact hb0) (by rw [hs1, us_ne (by decide)]; exact hk)
        rw [hs2] at k2
        exact Step.mk (by first | exact ⟨(f1.at 1 rfl).trans hX.2.1, (congrFun (f1.at 0 rfl) 1).trans hX.2.2⟩ | exact ⟨hX.2.1, hX.2.2⟩ | exact ⟨by rw [hs1, us_ne (by decide)]; exact hX.2.1, by rw [hs1, us_ne (by decide)]; exact hX.2.2⟩ | exact ⟨by rw [hs1, us_ne (by decide), us_ne (by decide)]; exact hX.2.1, by rw [hs1, us_ne (by decide), us_ne (by decide)]; exact hX.2.2⟩ | exact ⟨by rw [e1, us_ne (by decide), f1.at 1 rfl]; exact hX.2.1, by rw [e1, us_ne (by decide), f1.at 0 rfl]; exact hX.2.2⟩ | exact ⟨by rw [ft.at 1 rfl, hx 1 (by decide) (by decide)]; exact hX.2.1, by rw [ft.at 0 rfl, et, newL_0, mup_ne (by decide)]; exact hX.2.2⟩) k1 k2 (by rw [hr, hr2]) (hI0.err2 hs1)
  · obtain ⟨r1, s1, k1, hr, hs1⟩ := x_move_n (d := d + 148) hD0 hrw hri hro hrj hrn hS hy
    have e : s1 147 = s 147 := by rw [hs1]; exact us_ne (by decide)
    obtain ⟨r2, s2, k2, hr2, hs2⟩ := m_move_n (d := d + 148) (s := s1) e hM0 hC hrw hri hro hrj hrn hy
    rw [hs2] at k2
    exact Step.mk (by first | exact ⟨(f1.at 1 rfl).trans hX.2.1, (congrFun (f1.at 0 rfl) 1).trans hX.2.2⟩ | exact ⟨hX.2.1, hX.2.2⟩ | exact ⟨by rw [hs1, us_ne (by decide)]; exact hX.2.1, by rw [hs1, us_ne (by decide)]; exact hX.2.2⟩ | exact ⟨by rw [hs1, us_ne (by decide), us_ne (by decide)]; exact hX.2.1, by rw [hs1, us_ne (by decide), us_ne (by decide)]; exact hX.2.2⟩ | exact ⟨by rw [e1, us_ne (by decide), f1.at 1 rfl]; exact hX.2.1, by rw [e1, us_ne (by decide), f1.at 0 rfl]; exact hX.2.2⟩ | exact ⟨by rw [ft.at 1 rfl, hx 1 (by decide) (by decide)]; exact hX.2.1, by rw [ft.at 0 rfl, et, newL_0, mup_ne (by decide)]; exact hX.2.2⟩) k1 k2 (by rw [hr, hr2]) (hI0.err2 hs1)
