/-! ===== change, nights, loose ===== -/
theorem k_fits {d : Nat} {s : mSt} {w v : Int} (hrw : -2147483648 ≤ w ∧ w < 2147483648) (hrv : -2147483648 ≤ v ∧ v < 2147483648) : Call (d + 1) 150 [.inl w, .inl v] (encA (s)) (some (.inl (bI ((w = 0 ∧ 0 ≤ v ∧ v ≤ 35) ∨ (w = 1 ∧ 1 ≤ v ∧ v ≤ 20) ∨ (w = 2 ∧ 0 ≤ v ∧ v ≤ 9999))))) (encA (s)) := by
  refine CI.ex (CI.mk rfl ?_)
  show WP (d + 1) 150 0 [some (.inl w), some (.inl v)] [] (encA (s)) _
  refine w_ldI rfl rfl ?_
  obtain b1 | b1 | b1 | b1 := (by omega : w = 0 ∨ w = 1 ∨ w = 2 ∨ (w < 0 ∨ 3 ≤ w))
  · first
    | (exfalso; omega)
    | (refine w_sw (tg := 2) rfl (by rw [w32_id (by omega) (by omega), b1]; rfl) ?_
       refine w_ldI rfl rfl ?_
       refine w_call rfl rfl rfl (k_isCell (by omega)) ?_
       refine w_retB rfl (by first | exact bI_01 _ | decide | omega) ?_
       refine ⟨?_, rfl⟩
       first
       | (exact bI_iff (by omega))
       | (unfold bI; rw [if_pos (by omega)])
       | (unfold bI; rw [if_neg (by omega)]))
  · first
    | (exfalso; omega)
    | (refine w_sw (tg := 5) rfl (by rw [w32_id (by omega) (by omega), b1]; rfl) ?_
       refine w_ldI rfl rfl ?_
       refine w_push rfl ?_
       refine w_crLt rfl (by omega) (by omega) (fun b7 => ?_) (fun b7 => ?_)
       · first
         | (exfalso; omega)
         | (refine w_push rfl ?_
            refine w_retB rfl (by first | exact bI_01 _ | decide | omega) ?_
            refine ⟨?_, rfl⟩
            first
            | (exact bI_iff (by omega))
            | (unfold bI; rw [if_pos (by omega)])
            | (unfold bI; rw [if_neg (by omega)]))
       · first
         | (exfalso; omega)
         | (refine w_ldI rfl rfl ?_
            refine w_push rfl ?_
            refine w_crGt rfl (by omega) (by omega) (fun b10 => ?_) (fun b10 => ?_)
            · first
              | (exfalso; omega)
              | (refine w_push rfl ?_
                 refine w_retB rfl (by first | exact bI_01 _ | decide | omega) ?_
                 refine ⟨?_, rfl⟩
                 first
                 | (exact bI_iff (by omega))
                 | (unfold bI; rw [if_pos (by omega)])
                 | (unfold bI; rw [if_neg (by omega)]))
            · first
              | (exfalso; omega)
              | (refine w_push rfl ?_
                 refine w_go rfl ?_
                 refine w_retB rfl (by first | exact bI_01 _ | decide | omega) ?_
                 refine ⟨?_, rfl⟩
                 first
                 | (exact bI_iff (by omega))
                 | (unfold bI; rw [if_pos (by omega)])
                 | (unfold bI; rw [if_neg (by omega)]))))
  · first
    | (exfalso; omega)
    | (refine w_sw (tg := 15) rfl (by rw [w32_id (by omega) (by omega), b1]; rfl) ?_
       refine w_ldI rfl rfl ?_
       refine w_irLt0 rfl (by omega) (fun b16 => ?_) (fun b16 => ?_)
       · first
         | (exfalso; omega)
         | (refine w_push rfl ?_
            refine w_retB rfl (by first | exact bI_01 _ | decide | omega) ?_
            refine ⟨?_, rfl⟩
            first
            | (exact bI_iff (by omega))
            | (unfold bI; rw [if_pos (by omega)])
            | (unfold bI; rw [if_neg (by omega)]))
       · first
         | (exfalso; omega)
         | (refine w_ldI rfl rfl ?_
            refine w_push rfl ?_
            refine w_crGt rfl (by omega) (by omega) (fun b19 => ?_) (fun b19 => ?_)
            · first
              | (exfalso; omega)
              | (refine w_push rfl ?_
                 refine w_retB rfl (by first | exact bI_01 _ | decide | omega) ?_
                 refine ⟨?_, rfl⟩
                 first
                 | (exact bI_iff (by omega))
                 | (unfold bI; rw [if_pos (by omega)])
                 | (unfold bI; rw [if_neg (by omega)]))
            · first
              | (exfalso; omega)
              | (refine w_push rfl ?_
                 refine w_go rfl ?_
                 refine w_retB rfl (by first | exact bI_01 _ | decide | omega) ?_
                 refine ⟨?_, rfl⟩
                 first
                 | (exact bI_iff (by omega))
                 | (unfold bI; rw [if_pos (by omega)])
                 | (unfold bI; rw [if_neg (by omega)]))))
  · first
    | (exfalso; omega)
    | (refine w_sw (tg := 24) rfl (mSwT_df (by rw [w32_id (by omega) (by omega)]; exact b1)) ?_
       refine w_push rfl ?_
       refine w_retB rfl (by first | exact bI_01 _ | decide | omega) ?_
       refine ⟨?_, rfl⟩
       first
       | (exact bI_iff (by omega))
       | (unfold bI; rw [if_pos (by omega)])
       | (unfold bI; rw [if_neg (by omega)]))
theorem x_change_0 {d : Nat} {s : mSt} (hI : IvD s) {p w v : Int} (hrp : -2147483648 ≤ p ∧ p < 2147483648) (hrw : -2147483648 ≤ w ∧ w < 2147483648) (hrv : -2147483648 ≤ v ∧ v < 2147483648) (hy : (0 ≤ p ∧ p ≤ s 147 40 - 1) ∧ ((w = 0 ∧ 0 ≤ v ∧ v ≤ 35) ∨ (w = 1 ∧ 1 ≤ v ∧ v ≤ 20) ∨ (w = 2 ∧ 0 ≤ v ∧ v ≤ 9999))) (hw : w = 0) : CI (d + 4) 110 [.inr (.inr 10), .inl p, .inl w, .inl v] (s) (fun r s1 => r = faF (s 147) p w ∧ ∃ s2, Fr [46] s s2 ∧ s1 = us s2 18 p.toNat v) := by
  refine CI.mk rfl ?_
  show WP (d + 4) 110 0 [some (.inr (.inr 10)), some (.inl p), some (.inl w), some (.inl v), none] [] (encA (s)) _
  have hI0 := hI
  obtain ⟨⟨hM, hC, hN⟩, hV, h8⟩ := hI
  have hV0 := hV
  have hM0 := hM
  obtain ⟨vc, vpl, vga, vse, vne, veg, vre, vtu, vta, vwa, v36, v37, v39, v40, v42, v41, v43, v44, vl0, vl1, vlm⟩ := hV
  obtain ⟨hM39, hM40, hM41, hM43, hM44, hM36, hM37, hM38, hMc, hMw, hMp, hMt, hMb⟩ := hM
  refine w_ldR rfl rfl rfl ?_
  refine w_ldI rfl rfl ?_
  refine w_callV rfl rfl rfl rfl rfl rfl rfl (k_isPerson (by omega) (by omega)) ?_
  refine w_bEq0 rfl (fun b3 => ?_) (fun b3 => ?_)
  · first
    | (exfalso; omega)
    | (refine w_ldR rfl rfl rfl ?_
       refine w_push rfl ?_
       refine w_callWI rfl rfl rfl rfl rfl rfl rfl k_error1 (fun v10 s10 p10 => ?_)
       obtain ⟨rfl, rfl⟩ := p10
       refine w_retI rfl ?_
       exact ⟨rfl, s16, f16, rfl⟩)
  · first
    | (exfalso; omega)
    | (refine w_ldI rfl rfl ?_
       refine w_ldI rfl rfl ?_
       refine w_call rfl rfl rfl (k_fits (by omega) (by omega)) ?_
       refine w_bNe0 rfl (fun b7 => ?_) (fun b7 => ?_)
       · first
         | (exfalso; omega)
         | (refine w_ldR rfl rfl rfl ?_
            first | refine w_getI rfl rfl rfl rfl rfl ?_ | refine w_getR rfl rfl rfl rfl rfl ?_
            refine w_ldI rfl rfl ?_
            refine w_ldI rfl rfl ?_
            refine w_callWI rfl rfl rfl rfl rfl rfl rfl (k_factOf13 hV0 hM0 hC (by omega) (by omega) h8) (fun v16 s16 p16 => ?_)
            obtain ⟨rfl, f16⟩ := p16
            refine w_StI_5_4 rfl rfl ?_
            refine w_ldI rfl rfl ?_
            refine w_irNe0 rfl (by omega) (fun b19 => ?_) (fun b19 => ?_)
            · first
              | (exfalso; omega)
              | (refine w_ldI rfl rfl ?_
                 refine w_push rfl ?_
                 refine w_crNe rfl (by omega) (by omega) (fun b29 => ?_) (fun b29 => ?_)
                 · first
                   | (exfalso; omega)
                   | (refine w_ldR rfl rfl rfl ?_
                      first | refine w_getI rfl rfl rfl rfl rfl ?_ | refine w_getR rfl rfl rfl rfl rfl ?_
                      first | refine w_getI rfl rfl rfl rfl rfl ?_ | refine w_getR rfl rfl rfl rfl rfl ?_
                      refine w_ldI rfl rfl ?_
                      refine w_ldI rfl rfl ?_
                      refine w_ast rfl rfl rfl (by omega) rfl ?_
                      refine w_ldI rfl rfl ?_
                      refine w_retI rfl ?_
                      exact ⟨rfl, s16, f16, rfl⟩)
                 · first
                   | (exfalso; omega)
                   | (refine w_ldR rfl rfl rfl ?_
                      first | refine w_getI rfl rfl rfl rfl rfl ?_ | refine w_getR rfl rfl rfl rfl rfl ?_
                      first | refine w_getI rfl rfl rfl rfl rfl ?_ | refine w_getR rfl rfl rfl rfl rfl ?_
                      refine w_ldI rfl rfl ?_
                      refine w_ldI rfl rfl ?_
                      refine w_ast rfl rfl rfl (by omega) rfl ?_
                      refine w_go rfl ?_
                      refine w_ldI rfl rfl ?_
                      refine w_retI rfl ?_
                      exact ⟨rfl, s16, f16, rfl⟩))
            · first
              | (exfalso; omega)
              | (refine w_ldR rfl rfl rfl ?_
                 first | refine w_getI rfl rfl rfl rfl rfl ?_ | refine w_getR rfl rfl rfl rfl rfl ?_
                 first | refine w_getI rfl rfl rfl rfl rfl ?_ | refine w_getR rfl rfl rfl rfl rfl ?_
                 refine w_ldI rfl rfl ?_
                 refine w_ldI rfl rfl ?_
                 refine w_ast rfl rfl rfl (by omega) rfl ?_
                 refine w_go rfl ?_
                 refine w_ldI rfl rfl ?_
                 refine w_retI rfl ?_
                 exact ⟨rfl, s16, f16, rfl⟩))
       · first
         | (exfalso; omega)
         | (refine w_ldR rfl rfl rfl ?_
            refine w_push rfl ?_
            refine w_callWI rfl rfl rfl rfl rfl rfl rfl k_error1 (fun v10 s10 p10 => ?_)
            obtain ⟨rfl, rfl⟩ := p10
            refine w_retI rfl ?_
            exact ⟨rfl, s16, f16, rfl⟩))
theorem x_change_1 {d : Nat} {s : mSt} (hI : IvD s) {p w v : Int} (hrp : -2147483648 ≤ p ∧ p < 2147483648) (hrw : -2147483648 ≤ w ∧ w < 2147483648) (hrv : -2147483648 ≤ v ∧ v < 2147483648) (hy : (0 ≤ p ∧ p ≤ s 147 40 - 1) ∧ ((w = 0 ∧ 0 ≤ v ∧ v ≤ 35) ∨ (w = 1 ∧ 1 ≤ v ∧ v ≤ 20) ∨ (w = 2 ∧ 0 ≤ v ∧ v ≤ 9999))) (hw : w = 1) : CI (d + 4) 110 [.inr (.inr 10), .inl p, .inl w, .inl v] (s) (fun r s1 => r = faF (s 147) p w ∧ ∃ s2, Fr [46] s s2 ∧ s1 = us s2 19 p.toNat v) := by
  refine CI.mk rfl ?_
  show WP (d + 4) 110 0 [some (.inr (.inr 10)), some (.inl p), some (.inl w), some (.inl v), none] [] (encA (s)) _
  have hI0 := hI
  obtain ⟨⟨hM, hC, hN⟩, hV, h8⟩ := hI
  have hV0 := hV
  have hM0 := hM
  obtain ⟨vc, vpl, vga, vse, vne, veg, vre, vtu, vta, vwa, v36, v37, v39, v40, v42, v41, v43, v44, vl0, vl1, vlm⟩ := hV
  obtain ⟨hM39, hM40, hM41, hM43, hM44, hM36, hM37, hM38, hMc, hMw, hMp, hMt, hMb⟩ := hM
  refine w_ldR rfl rfl rfl ?_
  refine w_ldI rfl rfl ?_
  refine w_callV rfl rfl rfl rfl rfl rfl rfl (k_isPerson (by omega) (by omega)) ?_
  refine w_bEq0 rfl (fun b3 => ?_) (fun b3 => ?_)
  · first
    | (exfalso; omega)
    | (refine w_ldR rfl rfl rfl ?_
       refine w_push rfl ?_
       refine w_callWI rfl rfl rfl rfl rfl rfl rfl k_error1 (fun v10 s10 p10 => ?_)
       obtain ⟨rfl, rfl⟩ := p10
       refine w_retI rfl ?_
       exact ⟨rfl, s16, f16, rfl⟩)
  · first
    | (exfalso; omega)
    | (refine w_ldI rfl rfl ?_
       refine w_ldI rfl rfl ?_
       refine w_call rfl rfl rfl (k_fits (by omega) (by omega)) ?_
       refine w_bNe0 rfl (fun b7 => ?_) (fun b7 => ?_)
       · first
         | (exfalso; omega)
         | (refine w_ldR rfl rfl rfl ?_
            first | refine w_getI rfl rfl rfl rfl rfl ?_ | refine w_getR rfl rfl rfl rfl rfl ?_
            refine w_ldI rfl rfl ?_
            refine w_ldI rfl rfl ?_
            refine w_callWI rfl rfl rfl rfl rfl rfl rfl (k_factOf13 hV0 hM0 hC (by omega) (by omega) h8) (fun v16 s16 p16 => ?_)
            obtain ⟨rfl, f16⟩ := p16
            refine w_StI_5_4 rfl rfl ?_
            refine w_ldI rfl rfl ?_
            refine w_irNe0 rfl (by omega) (fun b19 => ?_) (fun b19 => ?_)
            · first
              | (exfalso; omega)
              | (refine w_ldI rfl rfl ?_
                 refine w_push rfl ?_
                 refine w_crNe rfl (by omega) (by omega) (fun b29 => ?_) (fun b29 => ?_)
                 · first
                   | (exfalso; omega)
                   | (refine w_ldR rfl rfl rfl ?_
                      first | refine w_getI rfl rfl rfl rfl rfl ?_ | refine w_getR rfl rfl rfl rfl rfl ?_
                      first | refine w_getI rfl rfl rfl rfl rfl ?_ | refine w_getR rfl rfl rfl rfl rfl ?_
                      refine w_ldI rfl rfl ?_
                      refine w_ldI rfl rfl ?_
                      refine w_ast rfl rfl rfl (by omega) rfl ?_
                      refine w_ldI rfl rfl ?_
                      refine w_retI rfl ?_
                      exact ⟨rfl, s16, f16, rfl⟩)
                 · first
                   | (exfalso; omega)
                   | (refine w_ldR rfl rfl rfl ?_
                      first | refine w_getI rfl rfl rfl rfl rfl ?_ | refine w_getR rfl rfl rfl rfl rfl ?_
                      first | refine w_getI rfl rfl rfl rfl rfl ?_ | refine w_getR rfl rfl rfl rfl rfl ?_
                      refine w_ldI rfl rfl ?_
                      refine w_ldI rfl rfl ?_
                      refine w_ast rfl rfl rfl (by omega) rfl ?_
                      refine w_go rfl ?_
                      refine w_ldI rfl rfl ?_
                      refine w_retI rfl ?_
                      exact ⟨rfl, s16, f16, rfl⟩))
            · first
              | (exfalso; omega)
              | (refine w_ldR rfl rfl rfl ?_
                 first | refine w_getI rfl rfl rfl rfl rfl ?_ | refine w_getR rfl rfl rfl rfl rfl ?_
                 first | refine w_getI rfl rfl rfl rfl rfl ?_ | refine w_getR rfl rfl rfl rfl rfl ?_
                 refine w_ldI rfl rfl ?_
                 refine w_ldI rfl rfl ?_
                 refine w_ast rfl rfl rfl (by omega) rfl ?_
                 refine w_go rfl ?_
                 refine w_ldI rfl rfl ?_
                 refine w_retI rfl ?_
                 exact ⟨rfl, s16, f16, rfl⟩))
       · first
         | (exfalso; omega)
         | (refine w_ldR rfl rfl rfl ?_
            refine w_push rfl ?_
            refine w_callWI rfl rfl rfl rfl rfl rfl rfl k_error1 (fun v10 s10 p10 => ?_)
            obtain ⟨rfl, rfl⟩ := p10
            refine w_retI rfl ?_
            exact ⟨rfl, s16, f16, rfl⟩))
theorem x_change_2 {d : Nat} {s : mSt} (hI : IvD s) {p w v : Int} (hrp : -2147483648 ≤ p ∧ p < 2147483648) (hrw : -2147483648 ≤ w ∧ w < 2147483648) (hrv : -2147483648 ≤ v ∧ v < 2147483648) (hy : (0 ≤ p ∧ p ≤ s 147 40 - 1) ∧ ((w = 0 ∧ 0 ≤ v ∧ v ≤ 35) ∨ (w = 1 ∧ 1 ≤ v ∧ v ≤ 20) ∨ (w = 2 ∧ 0 ≤ v ∧ v ≤ 9999))) (hw : w = 2) : CI (d + 4) 110 [.inr (.inr 10), .inl p, .inl w, .inl v] (s) (fun r s1 => r = faF (s 147) p w ∧ ∃ s2, Fr [46] s s2 ∧ s1 = us s2 20 p.toNat v) := by
  refine CI.mk rfl ?_
  show WP (d + 4) 110 0 [some (.inr (.inr 10)), some (.inl p), some (.inl w), some (.inl v), none] [] (encA (s)) _
  have hI0 := hI
  obtain ⟨⟨hM, hC, hN⟩, hV, h8⟩ := hI
  have hV0 := hV
  have hM0 := hM
  obtain ⟨vc, vpl, vga, vse, vne, veg, vre, vtu, vta, vwa, v36, v37, v39, v40, v42, v41, v43, v44, vl0, vl1, vlm⟩ := hV
  obtain ⟨hM39, hM40, hM41, hM43, hM44, hM36, hM37, hM38, hMc, hMw, hMp, hMt, hMb⟩ := hM
  refine w_ldR rfl rfl rfl ?_
  refine w_ldI rfl rfl ?_
  refine w_callV rfl rfl rfl rfl rfl rfl rfl (k_isPerson (by omega) (by omega)) ?_
  refine w_bEq0 rfl (fun b3 => ?_) (fun b3 => ?_)
  · first
    | (exfalso; omega)
    | (refine w_ldR rfl rfl rfl ?_
       refine w_push rfl ?_
       refine w_callWI rfl rfl rfl rfl rfl rfl rfl k_error1 (fun v10 s10 p10 => ?_)
       obtain ⟨rfl, rfl⟩ := p10
       refine w_retI rfl ?_
       exact ⟨rfl, s16, f16, rfl⟩)
  · first
    | (exfalso; omega)
    | (refine w_ldI rfl rfl ?_
       refine w_ldI rfl rfl ?_
       refine w_call rfl rfl rfl (k_fits (by omega) (by omega)) ?_
       refine w_bNe0 rfl (fun b7 => ?_) (fun b7 => ?_)
       · first
         | (exfalso; omega)
         | (refine w_ldR rfl rfl rfl ?_
            first | refine w_getI rfl rfl rfl rfl rfl ?_ | refine w_getR rfl rfl rfl rfl rfl ?_
            refine w_ldI rfl rfl ?_
            refine w_ldI rfl rfl ?_
            refine w_callWI rfl rfl rfl rfl rfl rfl rfl (k_factOf13 hV0 hM0 hC (by omega) (by omega) h8) (fun v16 s16 p16 => ?_)
            obtain ⟨rfl, f16⟩ := p16
            refine w_StI_5_4 rfl rfl ?_
            refine w_ldI rfl rfl ?_
            refine w_irNe0 rfl (by omega) (fun b19 => ?_) (fun b19 => ?_)
            · first
              | (exfalso; omega)
              | (refine w_ldI rfl rfl ?_
                 refine w_push rfl ?_
                 refine w_crNe rfl (by omega) (by omega) (fun b29 => ?_) (fun b29 => ?_)
                 · first
                   | (exfalso; omega)
                   | (refine w_ldR rfl rfl rfl ?_
                      first | refine w_getI rfl rfl rfl rfl rfl ?_ | refine w_getR rfl rfl rfl rfl rfl ?_
                      first | refine w_getI rfl rfl rfl rfl rfl ?_ | refine w_getR rfl rfl rfl rfl rfl ?_
                      refine w_ldI rfl rfl ?_
                      refine w_ldI rfl rfl ?_
                      refine w_ast rfl rfl rfl (by omega) rfl ?_
                      refine w_ldI rfl rfl ?_
                      refine w_retI rfl ?_
                      exact ⟨rfl, s16, f16, rfl⟩)
                 · first
                   | (exfalso; omega)
                   | (refine w_ldR rfl rfl rfl ?_
                      first | refine w_getI rfl rfl rfl rfl rfl ?_ | refine w_getR rfl rfl rfl rfl rfl ?_
                      first | refine w_getI rfl rfl rfl rfl rfl ?_ | refine w_getR rfl rfl rfl rfl rfl ?_
                      refine w_ldI rfl rfl ?_
                      refine w_ldI rfl rfl ?_
                      refine w_ast rfl rfl rfl (by omega) rfl ?_
                      refine w_go rfl ?_
                      refine w_ldI rfl rfl ?_
                      refine w_retI rfl ?_
                      exact ⟨rfl, s16, f16, rfl⟩))
            · first
              | (exfalso; omega)
              | (refine w_ldR rfl rfl rfl ?_
                 first | refine w_getI rfl rfl rfl rfl rfl ?_ | refine w_getR rfl rfl rfl rfl rfl ?_
                 first | refine w_getI rfl rfl rfl rfl rfl ?_ | refine w_getR rfl rfl rfl rfl rfl ?_
                 refine w_ldI rfl rfl ?_
                 refine w_ldI rfl rfl ?_
                 refine w_ast rfl rfl rfl (by omega) rfl ?_
                 refine w_go rfl ?_
                 refine w_ldI rfl rfl ?_
                 refine w_retI rfl ?_
                 exact ⟨rfl, s16, f16, rfl⟩))
       · first
         | (exfalso; omega)
         | (refine w_ldR rfl rfl rfl ?_
            refine w_push rfl ?_
            refine w_callWI rfl rfl rfl rfl rfl rfl rfl k_error1 (fun v10 s10 p10 => ?_)
            obtain ⟨rfl, rfl⟩ := p10
            refine w_retI rfl ?_
            exact ⟨rfl, s16, f16, rfl⟩))
theorem x_change_n {d : Nat} {s : mSt} (hI : IvD s) {p w v : Int} (hrp : -2147483648 ≤ p ∧ p < 2147483648) (hrw : -2147483648 ≤ w ∧ w < 2147483648) (hrv : -2147483648 ≤ v ∧ v < 2147483648) (hy : ¬ ((0 ≤ p ∧ p ≤ s 147 40 - 1) ∧ ((w = 0 ∧ 0 ≤ v ∧ v ≤ 35) ∨ (w = 1 ∧ 1 ≤ v ∧ v ≤ 20) ∨ (w = 2 ∧ 0 ≤ v ∧ v ≤ 9999)))) : CI (d + 4) 110 [.inr (.inr 10), .inl p, .inl w, .inl v] (s) (fun r s1 => r = -1000000000 - 1 ∧ s1 = us s 132 1 (s 132 1 + 1)) := by
  refine CI.mk rfl ?_
  show WP (d + 4) 110 0 [some (.inr (.inr 10)), some (.inl p), some (.inl w), some (.inl v), none] [] (encA (s)) _
  have hI0 := hI
  obtain ⟨⟨hM, hC, hN⟩, hV, h8⟩ := hI
  have hV0 := hV
  have hM0 := hM
  obtain ⟨vc, vpl, vga, vse, vne, veg, vre, vtu, vta, vwa, v36, v37, v39, v40, v42, v41, v43, v44, vl0, vl1, vlm⟩ := hV
  obtain ⟨hM39, hM40, hM41, hM43, hM44, hM36, hM37, hM38, hMc, hMw, hMp, hMt, hMb⟩ := hM
  refine w_ldR rfl rfl rfl ?_
  refine w_ldI rfl rfl ?_
  refine w_callV rfl rfl rfl rfl rfl rfl rfl (k_isPerson (by omega) (by omega)) ?_
  refine w_bEq0 rfl (fun b3 => ?_) (fun b3 => ?_)
  · first
    | (exfalso; omega)
    | (refine w_ldR rfl rfl rfl ?_
       refine w_push rfl ?_
       refine w_callWI rfl rfl rfl rfl rfl rfl rfl k_error1 (fun v10 s10 p10 => ?_)
       obtain ⟨rfl, rfl⟩ := p10
       refine w_retI rfl ?_
       exact ⟨rfl, rfl⟩)
  · first
    | (exfalso; omega)
    | (refine w_ldI rfl rfl ?_
       refine w_ldI rfl rfl ?_
       refine w_call rfl rfl rfl (k_fits (by omega) (by omega)) ?_
       refine w_bNe0 rfl (fun b7 => ?_) (fun b7 => ?_)
       · first
         | (exfalso; omega)
         | (exfalso; omega)
       · first
         | (exfalso; omega)
         | (refine w_ldR rfl rfl rfl ?_
            refine w_push rfl ?_
            refine w_callWI rfl rfl rfl rfl rfl rfl rfl k_error1 (fun v10 s10 p10 => ?_)
            obtain ⟨rfl, rfl⟩ := p10
            refine w_retI rfl ?_
            exact ⟨rfl, rfl⟩))
theorem m_change_y {d : Nat} {s : mSt} {D : Nat → Int} (hD : s 147 = D) (hM : MOk D) (hC : COk D) {p w v : Int} (hrp : -2147483648 ≤ p ∧ p < 2147483648) (hrw : -2147483648 ≤ w ∧ w < 2147483648) (hrv : -2147483648 ≤ v ∧ v < 2147483648) (hy : (0 ≤ p ∧ p ≤ D 40 - 1) ∧ ((w = 0 ∧ 0 ≤ v ∧ v ≤ 35) ∨ (w = 1 ∧ 1 ≤ v ∧ v ≤ 20) ∨ (w = 2 ∧ 0 ≤ v ∧ v ≤ 9999))) : CI (d + 2) 216 [.inr (.inr 146), .inl p, .inl w, .inl v] (s) (fun r s1 => r = faF D p w ∧ s1 = us s 147 (69 + 4 * p + w).toNat v) := by
  refine CI.mk rfl ?_
  show WP (d + 2) 216 0 [some (.inr (.inr 146)), some (.inl p), some (.inl w), some (.inl v), none, none] [] (encA (s)) _
  have hM0 := hM
  obtain ⟨hM39, hM40, hM41, hM43, hM44, hM36, hM37, hM38, hMc, hMw, hMp, hMt, hMb⟩ := hM
  refine w_ldI rfl rfl ?_
  refine w_irNe0 rfl (by omega) (fun b1 => ?_) (fun b1 => ?_)
  · first
    | (exfalso; omega)
    | (refine w_ldI rfl rfl ?_
       refine w_push rfl ?_
       refine w_crNe rfl (by omega) (by omega) (fun b7 => ?_) (fun b7 => ?_)
       · first
         | (exfalso; omega)
         | (refine w_ldI rfl rfl ?_
            refine w_push rfl ?_
            refine w_crNe rfl (by omega) (by omega) (fun b16 => ?_) (fun b16 => ?_)
            · first
              | (exfalso; omega)
              | (refine w_push rfl ?_
                 refine w_StI_6_4 rfl rfl ?_
                 refine w_ldR rfl rfl rfl ?_
                 refine w_ldI rfl rfl ?_
                 refine w_callV rfl rfl rfl rfl rfl rfl rfl (r_isPerson (by omega) (by rw [hD]; omega)) ?_
                 rw [hD]
                 try simp only [hD]
                 refine w_bEq0 rfl (fun b30 => ?_) (fun b30 => ?_)
                 · first
                   | (exfalso; omega)
                   | (refine w_ldR rfl rfl rfl ?_
                      refine w_push rfl ?_
                      refine w_callV rfl rfl rfl rfl rfl rfl rfl r_finds1 ?_
                      try simp only [hD]
                      refine w_retI rfl ?_
                      exact ⟨by unfold faF; rw [if_pos (by omega)], rfl⟩)
                 · first
                   | (exfalso; omega)
                   | (refine w_ldI rfl rfl ?_
                      first | refine w_bNe0 rfl (fun b32 => ?_) (fun b32 => ?_) | refine w_irNe0 rfl (by omega) (fun b32 => ?_) (fun b32 => ?_)
                      · first
                        | (exfalso; omega)
                        | (refine w_ldR rfl rfl rfl ?_
                           refine w_ldI rfl rfl ?_
                           refine w_ldI rfl rfl ?_
                           refine w_callV rfl rfl rfl rfl rfl rfl rfl (r_ofOne (by omega) (by omega)) ?_
                           try simp only [hD]
                           refine w_StI_6_5 rfl rfl ?_
                           refine w_ldR rfl rfl rfl ?_
                           first | refine w_getI rfl rfl rfl rfl rfl ?_ | refine w_getR rfl rfl rfl rfl rfl ?_
                           try simp only [hD]
                           refine w_push rfl ?_
                           refine w_push rfl ?_
                           refine w_ldI rfl rfl ?_
                           refine w_mul rfl ?_
                           refine w_add rfl ?_
                           refine w_ldI rfl rfl ?_
                           refine w_add rfl ?_
                           refine w_ldI rfl rfl ?_
                           refine w_ast rfl rfl rfl (by omega) rfl ?_
                           refine w_ldI rfl rfl ?_
                           refine w_retI rfl ?_
                           exact ⟨by unfold faF; rw [if_pos (by omega)], rfl⟩)
                      · first
                        | (exfalso; omega)
                        | (refine w_ldR rfl rfl rfl ?_
                           refine w_push rfl ?_
                           refine w_callV rfl rfl rfl rfl rfl rfl rfl r_finds1 ?_
                           try simp only [hD]
                           refine w_retI rfl ?_
                           exact ⟨by unfold faF; rw [if_pos (by omega)], rfl⟩)))
            · first
              | (exfalso; omega)
              | (refine w_ldI rfl rfl ?_
                 refine w_i2lr rfl (by omega) ?_
                 refine w_push rfl ?_
                 refine w_push rfl ?_
                 refine w_call rfl rfl rfl (r_in (by omega) (by omega) (by omega)) ?_
                 try simp only [hD]
                 refine w_bEq0 rfl (fun b22 => ?_) (fun b22 => ?_)
                 · first
                   | (exfalso; omega)
                   | (refine w_push rfl ?_
                      refine w_StI_6_4 rfl rfl ?_
                      refine w_ldR rfl rfl rfl ?_
                      refine w_ldI rfl rfl ?_
                      refine w_callV rfl rfl rfl rfl rfl rfl rfl (r_isPerson (by omega) (by rw [hD]; omega)) ?_
                      rw [hD]
                      try simp only [hD]
                      refine w_bEq0 rfl (fun b30 => ?_) (fun b30 => ?_)
                      · first
                        | (exfalso; omega)
                        | (refine w_ldR rfl rfl rfl ?_
                           refine w_push rfl ?_
                           refine w_callV rfl rfl rfl rfl rfl rfl rfl r_finds1 ?_
                           try simp only [hD]
                           refine w_retI rfl ?_
                           exact ⟨by unfold faF; rw [if_pos (by omega)], rfl⟩)
                      · first
                        | (exfalso; omega)
                        | (refine w_ldI rfl rfl ?_
                           first | refine w_bNe0 rfl (fun b32 => ?_) (fun b32 => ?_) | refine w_irNe0 rfl (by omega) (fun b32 => ?_) (fun b32 => ?_)
                           · first
                             | (exfalso; omega)
                             | (refine w_ldR rfl rfl rfl ?_
                                refine w_ldI rfl rfl ?_
                                refine w_ldI rfl rfl ?_
                                refine w_callV rfl rfl rfl rfl rfl rfl rfl (r_ofOne (by omega) (by omega)) ?_
                                try simp only [hD]
                                refine w_StI_6_5 rfl rfl ?_
                                refine w_ldR rfl rfl rfl ?_
                                first | refine w_getI rfl rfl rfl rfl rfl ?_ | refine w_getR rfl rfl rfl rfl rfl ?_
                                try simp only [hD]
                                refine w_push rfl ?_
                                refine w_push rfl ?_
                                refine w_ldI rfl rfl ?_
                                refine w_mul rfl ?_
                                refine w_add rfl ?_
                                refine w_ldI rfl rfl ?_
                                refine w_add rfl ?_
                                refine w_ldI rfl rfl ?_
                                refine w_ast rfl rfl rfl (by omega) rfl ?_
                                refine w_ldI rfl rfl ?_
                                refine w_retI rfl ?_
                                exact ⟨by unfold faF; rw [if_pos (by omega)], rfl⟩)
                           · first
                             | (exfalso; omega)
                             | (refine w_ldR rfl rfl rfl ?_
                                refine w_push rfl ?_
                                refine w_callV rfl rfl rfl rfl rfl rfl rfl r_finds1 ?_
                                try simp only [hD]
                                refine w_retI rfl ?_
                                exact ⟨by unfold faF; rw [if_pos (by omega)], rfl⟩)))
                 · first
                   | (exfalso; omega)
                   | (refine w_push rfl ?_
                      refine w_go rfl ?_
                      refine w_StI_6_4 rfl rfl ?_
                      refine w_ldR rfl rfl rfl ?_
                      refine w_ldI rfl rfl ?_
                      refine w_callV rfl rfl rfl rfl rfl rfl rfl (r_isPerson (by omega) (by rw [hD]; omega)) ?_
                      rw [hD]
                      try simp only [hD]
                      refine w_bEq0 rfl (fun b30 => ?_) (fun b30 => ?_)
                      · first
                        | (exfalso; omega)
                        | (refine w_ldR rfl rfl rfl ?_
                           refine w_push rfl ?_
                           refine w_callV rfl rfl rfl rfl rfl rfl rfl r_finds1 ?_
                           try simp only [hD]
                           refine w_retI rfl ?_
                           exact ⟨by unfold faF; rw [if_pos (by omega)], rfl⟩)
                      · first
                        | (exfalso; omega)
                        | (refine w_ldI rfl rfl ?_
                           first | refine w_bNe0 rfl (fun b32 => ?_) (fun b32 => ?_) | refine w_irNe0 rfl (by omega) (fun b32 => ?_) (fun b32 => ?_)
                           · first
                             | (exfalso; omega)
                             | (refine w_ldR rfl rfl rfl ?_
                                refine w_ldI rfl rfl ?_
                                refine w_ldI rfl rfl ?_
                                refine w_callV rfl rfl rfl rfl rfl rfl rfl (r_ofOne (by omega) (by omega)) ?_
                                try simp only [hD]
                                refine w_StI_6_5 rfl rfl ?_
                                refine w_ldR rfl rfl rfl ?_
                                first | refine w_getI rfl rfl rfl rfl rfl ?_ | refine w_getR rfl rfl rfl rfl rfl ?_
                                try simp only [hD]
                                refine w_push rfl ?_
                                refine w_push rfl ?_
                                refine w_ldI rfl rfl ?_
                                refine w_mul rfl ?_
                                refine w_add rfl ?_
                                refine w_ldI rfl rfl ?_
                                refine w_add rfl ?_
                                refine w_ldI rfl rfl ?_
                                refine w_ast rfl rfl rfl (by omega) rfl ?_
                                refine w_ldI rfl rfl ?_
                                refine w_retI rfl ?_
                                exact ⟨by unfold faF; rw [if_pos (by omega)], rfl⟩)
                           · first
                             | (exfalso; omega)
                             | (refine w_ldR rfl rfl rfl ?_
                                refine w_push rfl ?_
                                refine w_callV rfl rfl rfl rfl rfl rfl rfl r_finds1 ?_
                                try simp only [hD]
                                refine w_retI rfl ?_
                                exact ⟨by unfold faF; rw [if_pos (by omega)], rfl⟩)))))
       · first
         | (exfalso; omega)
         | (refine w_ldI rfl rfl ?_
            refine w_i2lr rfl (by omega) ?_
            refine w_push rfl ?_
            refine w_push rfl ?_
            refine w_call rfl rfl rfl (r_in (by omega) (by omega) (by omega)) ?_
            try simp only [hD]
            refine w_go rfl ?_
            refine w_StI_6_4 rfl rfl ?_
            refine w_ldR rfl rfl rfl ?_
            refine w_ldI rfl rfl ?_
            refine w_callV rfl rfl rfl rfl rfl rfl rfl (r_isPerson (by omega) (by rw [hD]; omega)) ?_
            rw [hD]
            try simp only [hD]
            refine w_bEq0 rfl (fun b30 => ?_) (fun b30 => ?_)
            · first
              | (exfalso; omega)
              | (refine w_ldR rfl rfl rfl ?_
                 refine w_push rfl ?_
                 refine w_callV rfl rfl rfl rfl rfl rfl rfl r_finds1 ?_
                 try simp only [hD]
                 refine w_retI rfl ?_
                 exact ⟨by unfold faF; rw [if_pos (by omega)], rfl⟩)
            · first
              | (exfalso; omega)
              | (refine w_ldI rfl rfl ?_
                 first | refine w_bNe0 rfl (fun b32 => ?_) (fun b32 => ?_) | refine w_irNe0 rfl (by omega) (fun b32 => ?_) (fun b32 => ?_)
                 · first
                   | (exfalso; omega)
                   | (refine w_ldR rfl rfl rfl ?_
                      refine w_ldI rfl rfl ?_
                      refine w_ldI rfl rfl ?_
                      refine w_callV rfl rfl rfl rfl rfl rfl rfl (r_ofOne (by omega) (by omega)) ?_
                      try simp only [hD]
                      refine w_StI_6_5 rfl rfl ?_
                      refine w_ldR rfl rfl rfl ?_
                      first | refine w_getI rfl rfl rfl rfl rfl ?_ | refine w_getR rfl rfl rfl rfl rfl ?_
                      try simp only [hD]
                      refine w_push rfl ?_
                      refine w_push rfl ?_
                      refine w_ldI rfl rfl ?_
                      refine w_mul rfl ?_
                      refine w_add rfl ?_
                      refine w_ldI rfl rfl ?_
                      refine w_add rfl ?_
                      refine w_ldI rfl rfl ?_
                      refine w_ast rfl rfl rfl (by omega) rfl ?_
                      refine w_ldI rfl rfl ?_
                      refine w_retI rfl ?_
                      exact ⟨by unfold faF; rw [if_pos (by omega)], rfl⟩)
                 · first
                   | (exfalso; omega)
                   | (refine w_ldR rfl rfl rfl ?_
                      refine w_push rfl ?_
                      refine w_callV rfl rfl rfl rfl rfl rfl rfl r_finds1 ?_
                      try simp only [hD]
                      refine w_retI rfl ?_
                      exact ⟨by unfold faF; rw [if_pos (by omega)], rfl⟩))))
  · first
    | (exfalso; omega)
    | (refine w_ldI rfl rfl ?_
       refine w_call rfl rfl rfl (r_isCell (by omega)) ?_
       try simp only [hD]
       refine w_go rfl ?_
       refine w_StI_6_4 rfl rfl ?_
       refine w_ldR rfl rfl rfl ?_
       refine w_ldI rfl rfl ?_
       refine w_callV rfl rfl rfl rfl rfl rfl rfl (r_isPerson (by omega) (by rw [hD]; omega)) ?_
       rw [hD]
       try simp only [hD]
       refine w_bEq0 rfl (fun b30 => ?_) (fun b30 => ?_)
       · first
         | (exfalso; omega)
         | (refine w_ldR rfl rfl rfl ?_
            refine w_push rfl ?_
            refine w_callV rfl rfl rfl rfl rfl rfl rfl r_finds1 ?_
            try simp only [hD]
            refine w_retI rfl ?_
            exact ⟨by unfold faF; rw [if_pos (by omega)], rfl⟩)
       · first
         | (exfalso; omega)
         | (refine w_ldI rfl rfl ?_
            first | refine w_bNe0 rfl (fun b32 => ?_) (fun b32 => ?_) | refine w_irNe0 rfl (by omega) (fun b32 => ?_) (fun b32 => ?_)
            · first
              | (exfalso; omega)
              | (refine w_ldR rfl rfl rfl ?_
                 refine w_ldI rfl rfl ?_
                 refine w_ldI rfl rfl ?_
                 refine w_callV rfl rfl rfl rfl rfl rfl rfl (r_ofOne (by omega) (by omega)) ?_
                 try simp only [hD]
                 refine w_StI_6_5 rfl rfl ?_
                 refine w_ldR rfl rfl rfl ?_
                 first | refine w_getI rfl rfl rfl rfl rfl ?_ | refine w_getR rfl rfl rfl rfl rfl ?_
                 try simp only [hD]
                 refine w_push rfl ?_
                 refine w_push rfl ?_
                 refine w_ldI rfl rfl ?_
                 refine w_mul rfl ?_
                 refine w_add rfl ?_
                 refine w_ldI rfl rfl ?_
                 refine w_add rfl ?_
                 refine w_ldI rfl rfl ?_
                 refine w_ast rfl rfl rfl (by omega) rfl ?_
                 refine w_ldI rfl rfl ?_
                 refine w_retI rfl ?_
                 exact ⟨by unfold faF; rw [if_pos (by omega)], rfl⟩)
            · first
              | (exfalso; omega)
              | (refine w_ldR rfl rfl rfl ?_
                 refine w_push rfl ?_
                 refine w_callV rfl rfl rfl rfl rfl rfl rfl r_finds1 ?_
                 try simp only [hD]
                 refine w_retI rfl ?_
                 exact ⟨by unfold faF; rw [if_pos (by omega)], rfl⟩)))
theorem m_change_n {d : Nat} {s : mSt} {D : Nat → Int} (hD : s 147 = D) (hM : MOk D) (hC : COk D) {p w v : Int} (hrp : -2147483648 ≤ p ∧ p < 2147483648) (hrw : -2147483648 ≤ w ∧ w < 2147483648) (hrv : -2147483648 ≤ v ∧ v < 2147483648) (hy : ¬ ((0 ≤ p ∧ p ≤ D 40 - 1) ∧ ((w = 0 ∧ 0 ≤ v ∧ v ≤ 35) ∨ (w = 1 ∧ 1 ≤ v ∧ v ≤ 20) ∨ (w = 2 ∧ 0 ≤ v ∧ v ≤ 9999)))) : CI (d + 2) 216 [.inr (.inr 146), .inl p, .inl w, .inl v] (s) (fun r s1 => r = -1000000000 - 1 ∧ s1 = us s 150 1 (s 150 1 + 1)) := by
  refine CI.mk rfl ?_
  show WP (d + 2) 216 0 [some (.inr (.inr 146)), some (.inl p), some (.inl w), some (.inl v), none, none] [] (encA (s)) _
  have hM0 := hM
  obtain ⟨hM39, hM40, hM41, hM43, hM44, hM36, hM37, hM38, hMc, hMw, hMp, hMt, hMb⟩ := hM
  refine w_ldI rfl rfl ?_
  refine w_irNe0 rfl (by omega) (fun b1 => ?_) (fun b1 => ?_)
  · first
    | (exfalso; omega)
    | (refine w_ldI rfl rfl ?_
       refine w_push rfl ?_
       refine w_crNe rfl (by omega) (by omega) (fun b7 => ?_) (fun b7 => ?_)
       · first
         | (exfalso; omega)
         | (refine w_ldI rfl rfl ?_
            refine w_push rfl ?_
            refine w_crNe rfl (by omega) (by omega) (fun b16 => ?_) (fun b16 => ?_)
            · first
              | (exfalso; omega)
              | (refine w_push rfl ?_
                 refine w_StI_6_4 rfl rfl ?_
                 refine w_ldR rfl rfl rfl ?_
                 refine w_ldI rfl rfl ?_
                 refine w_callV rfl rfl rfl rfl rfl rfl rfl (r_isPerson (by omega) (by rw [hD]; omega)) ?_
                 rw [hD]
                 try simp only [hD]
                 refine w_bEq0 rfl (fun b30 => ?_) (fun b30 => ?_)
                 · first
                   | (exfalso; omega)
                   | (refine w_ldR rfl rfl rfl ?_
                      refine w_push rfl ?_
                      refine w_callV rfl rfl rfl rfl rfl rfl rfl r_finds1 ?_
                      try simp only [hD]
                      refine w_retI rfl ?_
                      exact ⟨rfl, rfl⟩)
                 · first
                   | (exfalso; omega)
                   | (refine w_ldI rfl rfl ?_
                      first | refine w_bNe0 rfl (fun b32 => ?_) (fun b32 => ?_) | refine w_irNe0 rfl (by omega) (fun b32 => ?_) (fun b32 => ?_)
                      · first
                        | (exfalso; omega)
                        | (exfalso; omega)
                      · first
                        | (exfalso; omega)
                        | (refine w_ldR rfl rfl rfl ?_
                           refine w_push rfl ?_
                           refine w_callV rfl rfl rfl rfl rfl rfl rfl r_finds1 ?_
                           try simp only [hD]
                           refine w_retI rfl ?_
                           exact ⟨rfl, rfl⟩)))
            · first
              | (exfalso; omega)
              | (refine w_ldI rfl rfl ?_
                 refine w_i2lr rfl (by omega) ?_
                 refine w_push rfl ?_
                 refine w_push rfl ?_
                 refine w_call rfl rfl rfl (r_in (by omega) (by omega) (by omega)) ?_
                 try simp only [hD]
                 refine w_bEq0 rfl (fun b22 => ?_) (fun b22 => ?_)
                 · first
                   | (exfalso; omega)
                   | (refine w_push rfl ?_
                      refine w_StI_6_4 rfl rfl ?_
                      refine w_ldR rfl rfl rfl ?_
                      refine w_ldI rfl rfl ?_
                      refine w_callV rfl rfl rfl rfl rfl rfl rfl (r_isPerson (by omega) (by rw [hD]; omega)) ?_
                      rw [hD]
                      try simp only [hD]
                      refine w_bEq0 rfl (fun b30 => ?_) (fun b30 => ?_)
                      · first
                        | (exfalso; omega)
                        | (refine w_ldR rfl rfl rfl ?_
                           refine w_push rfl ?_
                           refine w_callV rfl rfl rfl rfl rfl rfl rfl r_finds1 ?_
                           try simp only [hD]
                           refine w_retI rfl ?_
                           exact ⟨rfl, rfl⟩)
                      · first
                        | (exfalso; omega)
                        | (refine w_ldI rfl rfl ?_
                           first | refine w_bNe0 rfl (fun b32 => ?_) (fun b32 => ?_) | refine w_irNe0 rfl (by omega) (fun b32 => ?_) (fun b32 => ?_)
                           · first
                             | (exfalso; omega)
                             | (exfalso; omega)
                           · first
                             | (exfalso; omega)
                             | (refine w_ldR rfl rfl rfl ?_
                                refine w_push rfl ?_
                                refine w_callV rfl rfl rfl rfl rfl rfl rfl r_finds1 ?_
                                try simp only [hD]
                                refine w_retI rfl ?_
                                exact ⟨rfl, rfl⟩)))
                 · first
                   | (exfalso; omega)
                   | (refine w_push rfl ?_
                      refine w_go rfl ?_
                      refine w_StI_6_4 rfl rfl ?_
                      refine w_ldR rfl rfl rfl ?_
                      refine w_ldI rfl rfl ?_
                      refine w_callV rfl rfl rfl rfl rfl rfl rfl (r_isPerson (by omega) (by rw [hD]; omega)) ?_
                      rw [hD]
                      try simp only [hD]
                      refine w_bEq0 rfl (fun b30 => ?_) (fun b30 => ?_)
                      · first
                        | (exfalso; omega)
                        | (refine w_ldR rfl rfl rfl ?_
                           refine w_push rfl ?_
                           refine w_callV rfl rfl rfl rfl rfl rfl rfl r_finds1 ?_
                           try simp only [hD]
                           refine w_retI rfl ?_
                           exact ⟨rfl, rfl⟩)
                      · first
                        | (exfalso; omega)
                        | (refine w_ldI rfl rfl ?_
                           first | refine w_bNe0 rfl (fun b32 => ?_) (fun b32 => ?_) | refine w_irNe0 rfl (by omega) (fun b32 => ?_) (fun b32 => ?_)
                           · first
                             | (exfalso; omega)
                             | (exfalso; omega)
                           · first
                             | (exfalso; omega)
                             | (refine w_ldR rfl rfl rfl ?_
                                refine w_push rfl ?_
                                refine w_callV rfl rfl rfl rfl rfl rfl rfl r_finds1 ?_
                                try simp only [hD]
                                refine w_retI rfl ?_
                                exact ⟨rfl, rfl⟩)))))
       · first
         | (exfalso; omega)
         | (refine w_ldI rfl rfl ?_
            refine w_i2lr rfl (by omega) ?_
            refine w_push rfl ?_
            refine w_push rfl ?_
            refine w_call rfl rfl rfl (r_in (by omega) (by omega) (by omega)) ?_
            try simp only [hD]
            refine w_go rfl ?_
            refine w_StI_6_4 rfl rfl ?_
            refine w_ldR rfl rfl rfl ?_
            refine w_ldI rfl rfl ?_
            refine w_callV rfl rfl rfl rfl rfl rfl rfl (r_isPerson (by omega) (by rw [hD]; omega)) ?_
            rw [hD]
            try simp only [hD]
            refine w_bEq0 rfl (fun b30 => ?_) (fun b30 => ?_)
            · first
              | (exfalso; omega)
              | (refine w_ldR rfl rfl rfl ?_
                 refine w_push rfl ?_
                 refine w_callV rfl rfl rfl rfl rfl rfl rfl r_finds1 ?_
                 try simp only [hD]
                 refine w_retI rfl ?_
                 exact ⟨rfl, rfl⟩)
            · first
              | (exfalso; omega)
              | (refine w_ldI rfl rfl ?_
                 first | refine w_bNe0 rfl (fun b32 => ?_) (fun b32 => ?_) | refine w_irNe0 rfl (by omega) (fun b32 => ?_) (fun b32 => ?_)
                 · first
                   | (exfalso; omega)
                   | (exfalso; omega)
                 · first
                   | (exfalso; omega)
                   | (refine w_ldR rfl rfl rfl ?_
                      refine w_push rfl ?_
                      refine w_callV rfl rfl rfl rfl rfl rfl rfl r_finds1 ?_
                      try simp only [hD]
                      refine w_retI rfl ?_
                      exact ⟨rfl, rfl⟩))))
  · first
    | (exfalso; omega)
    | (refine w_ldI rfl rfl ?_
       refine w_call rfl rfl rfl (r_isCell (by omega)) ?_
       try simp only [hD]
       refine w_go rfl ?_
       refine w_StI_6_4 rfl rfl ?_
       refine w_ldR rfl rfl rfl ?_
       refine w_ldI rfl rfl ?_
       refine w_callV rfl rfl rfl rfl rfl rfl rfl (r_isPerson (by omega) (by rw [hD]; omega)) ?_
       rw [hD]
       try simp only [hD]
       refine w_bEq0 rfl (fun b30 => ?_) (fun b30 => ?_)
       · first
         | (exfalso; omega)
         | (refine w_ldR rfl rfl rfl ?_
            refine w_push rfl ?_
            refine w_callV rfl rfl rfl rfl rfl rfl rfl r_finds1 ?_
            try simp only [hD]
            refine w_retI rfl ?_
            exact ⟨rfl, rfl⟩)
       · first
         | (exfalso; omega)
         | (refine w_ldI rfl rfl ?_
            first | refine w_bNe0 rfl (fun b32 => ?_) (fun b32 => ?_) | refine w_irNe0 rfl (by omega) (fun b32 => ?_) (fun b32 => ?_)
            · first
              | (exfalso; omega)
              | (exfalso; omega)
            · first
              | (exfalso; omega)
              | (refine w_ldR rfl rfl rfl ?_
                 refine w_push rfl ?_
                 refine w_callV rfl rfl rfl rfl rfl rfl rfl r_finds1 ?_
                 try simp only [hD]
                 refine w_retI rfl ?_
                 exact ⟨rfl, rfl⟩)))
theorem st_change {X : Nat → Int} {N : Int} {d : Nat} {s : mSt} {cnt : Int} (hI : Inv X N s cnt) {p w v : Int} (hrp : -2147483648 ≤ p ∧ p < 2147483648) (hrw : -2147483648 ≤ w ∧ w < 2147483648) (hrv : -2147483648 ≤ v ∧ v < 2147483648) : Step X N (d + 150) s cnt 110 216 [.inl p, .inl w, .inl v] := by
  have hI0 := hI
  obtain ⟨hD, -, -, -, -, hT, -, hX, hU⟩ := hI
  have hD0 := hD
  obtain ⟨⟨hM, hC, hN⟩, hV, h8⟩ := hD
  have hV0 := hV
  have hM0 := hM
  obtain ⟨vc, vpl, vga, vse, vne, veg, vre, vtu, vta, vwa, v36, v37, v39, v40, v42, v41, v43, v44, vl0, vl1, vlm⟩ := hV
  obtain ⟨hM39, hM40, hM41, hM43, hM44, hM36, hM37, hM38, hMc, hMw, hMp, hMt, hMb⟩ := hM
  by_cases hy : (0 ≤ p ∧ p ≤ s 147 40 - 1) ∧ ((w = 0 ∧ 0 ≤ v ∧ v ≤ 35) ∨ (w = 1 ∧ 1 ≤ v ∧ v ≤ 20) ∨ (w = 2 ∧ 0 ≤ v ∧ v ≤ 9999))
  · rcases (show w = 0 ∨ w = 1 ∨ w = 2 by omega) with hw | hw | hw
    · obtain ⟨r1, s1, k1, hr, t1, f1, e1⟩ := x_change_0 (d := d + 146) hD0 hrp hrw hrv hy (by omega)
      have e : s1 147 = s 147 := by rw [e1, us_ne (by decide)]; exact f1.at 147 rfl
      obtain ⟨r2, s2, k2, hr2, hs2⟩ := m_change_y (d := d + 148) (s := s1) e hM0 hC hrp hrw hrv hy
      refine Step.mk (by first | exact ⟨(f1.at 1 rfl).trans hX.2.1, (congrFun (f1.at 0 rfl) 1).trans hX.2.2⟩ | exact ⟨hX.2.1, hX.2.2⟩ | exact ⟨by rw [hs1, us_ne (by decide)]; exact hX.2.1, by rw [hs1, us_ne (by decide)]; exact hX.2.2⟩ | exact ⟨by rw [hs1, us_ne (by decide), us_ne (by decide)]; exact hX.2.1, by rw [hs1, us_ne (by decide), us_ne (by decide)]; exact hX.2.2⟩ | exact ⟨by rw [e1, us_ne (by decide), f1.at 1 rfl]; exact hX.2.1, by rw [e1, us_ne (by decide), f1.at 0 rfl]; exact hX.2.2⟩ | exact ⟨by rw [ft.at 1 rfl, hx 1 (by decide) (by decide)]; exact hX.2.1, by rw [ft.at 0 rfl, et, newL_0, mup_ne (by decide)]; exact hX.2.2⟩) k1 k2 (by rw [hr, hr2]) ?_
      have hf : Fr [18, 46, 147] s s2 := by rw [hs2, e1]; exact ((Fr.mono rfl f1).tr (Fr.us rfl)).tr (Fr.us rfl)
      have e2 : s2 147 = mup (s 147) (69 + 4 * p + 0).toNat v := by rw [hs2, us_eq, e]; congr 1; omega
      have hV1 := (VN13.set_vse (v := v) (hV0.fr rfl f1) (show 0 ≤ p ∧ p < 10 by omega)).fr (A := [147]) (s1 := s2) rfl (by rw [hs2, e1]; exact Fr.us rfl)
      refine hI0.vil rfl rfl (by omega) hf (IvD.mk e2 (MOk_set hM0 ⟨by omega, by omega, by omega, by omega, by omega, by omega, by omega, by omega, by omega, fun w hw => ⟨by omega, by omega, by omega, by omega⟩, fun p hp => ⟨by omega, by omega, by omega, by omega⟩, fun j hj => by omega, fun j hj => by omega⟩) (COk_set2 (by omega) hC) (by rw [mup_ne (by omega)]; exact hN) hV1 (by rw [hf.at 13 rfl, mup_ne (by omega)]; exact h8)) (hT.d (fun i hi => by rw [e2, mup_ne (by omega)]) (hf.at 148 rfl) (hf.at 149 rfl))
    · obtain ⟨r1, s1, k1, hr, t1, f1, e1⟩ := x_change_1 (d := d + 146) hD0 hrp hrw hrv hy (by omega)
      have e : s1 147 = s 147 := by rw [e1, us_ne (by decide)]; exact f1.at 147 rfl
      obtain ⟨r2, s2, k2, hr2, hs2⟩ := m_change_y (d := d + 148) (s := s1) e hM0 hC hrp hrw hrv hy
      refine Step.mk (by first | exact ⟨(f1.at 1 rfl).trans hX.2.1, (congrFun (f1.at 0 rfl) 1).trans hX.2.2⟩ | exact ⟨hX.2.1, hX.2.2⟩ | exact ⟨by rw [hs1, us_ne (by decide)]; exact hX.2.1, by rw [hs1, us_ne (by decide)]; exact hX.2.2⟩ | exact ⟨by rw [hs1, us_ne (by decide), us_ne (by decide)]; exact hX.2.1, by rw [hs1, us_ne (by decide), us_ne (by decide)]; exact hX.2.2⟩ | exact ⟨by rw [e1, us_ne (by decide), f1.at 1 rfl]; exact hX.2.1, by rw [e1, us_ne (by decide), f1.at 0 rfl]; exact hX.2.2⟩ | exact ⟨by rw [ft.at 1 rfl, hx 1 (by decide) (by decide)]; exact hX.2.1, by rw [ft.at 0 rfl, et, newL_0, mup_ne (by decide)]; exact hX.2.2⟩) k1 k2 (by rw [hr, hr2]) ?_
      have hf : Fr [19, 46, 147] s s2 := by rw [hs2, e1]; exact ((Fr.mono rfl f1).tr (Fr.us rfl)).tr (Fr.us rfl)
      have e2 : s2 147 = mup (s 147) (69 + 4 * p + 1).toNat v := by rw [hs2, us_eq, e]; congr 1; omega
      have hV1 := (VN13.set_vne (v := v) (hV0.fr rfl f1) (show 0 ≤ p ∧ p < 10 by omega)).fr (A := [147]) (s1 := s2) rfl (by rw [hs2, e1]; exact Fr.us rfl)
      refine hI0.vil rfl rfl (by omega) hf (IvD.mk e2 (MOk_set hM0 ⟨by omega, by omega, by omega, by omega, by omega, by omega, by omega, by omega, by omega, fun w hw => ⟨by omega, by omega, by omega, by omega⟩, fun p hp => ⟨by omega, by omega, by omega, by omega⟩, fun j hj => by omega, fun j hj => by omega⟩) (COk_set2 (by omega) hC) (by rw [mup_ne (by omega)]; exact hN) hV1 (by rw [hf.at 13 rfl, mup_ne (by omega)]; exact h8)) (hT.d (fun i hi => by rw [e2, mup_ne (by omega)]) (hf.at 148 rfl) (hf.at 149 rfl))
    · obtain ⟨r1, s1, k1, hr, t1, f1, e1⟩ := x_change_2 (d := d + 146) hD0 hrp hrw hrv hy (by omega)
      have e : s1 147 = s 147 := by rw [e1, us_ne (by decide)]; exact f1.at 147 rfl
      obtain ⟨r2, s2, k2, hr2, hs2⟩ := m_change_y (d := d + 148) (s := s1) e hM0 hC hrp hrw hrv hy
      refine Step.mk (by first | exact ⟨(f1.at 1 rfl).trans hX.2.1, (congrFun (f1.at 0 rfl) 1).trans hX.2.2⟩ | exact ⟨hX.2.1, hX.2.2⟩ | exact ⟨by rw [hs1, us_ne (by decide)]; exact hX.2.1, by rw [hs1, us_ne (by decide)]; exact hX.2.2⟩ | exact ⟨by rw [hs1, us_ne (by decide), us_ne (by decide)]; exact hX.2.1, by rw [hs1, us_ne (by decide), us_ne (by decide)]; exact hX.2.2⟩ | exact ⟨by rw [e1, us_ne (by decide), f1.at 1 rfl]; exact hX.2.1, by rw [e1, us_ne (by decide), f1.at 0 rfl]; exact hX.2.2⟩ | exact ⟨by rw [ft.at 1 rfl, hx 1 (by decide) (by decide)]; exact hX.2.1, by rw [ft.at 0 rfl, et, newL_0, mup_ne (by decide)]; exact hX.2.2⟩) k1 k2 (by rw [hr, hr2]) ?_
      have hf : Fr [20, 46, 147] s s2 := by rw [hs2, e1]; exact ((Fr.mono rfl f1).tr (Fr.us rfl)).tr (Fr.us rfl)
      have e2 : s2 147 = mup (s 147) (69 + 4 * p + 2).toNat v := by rw [hs2, us_eq, e]; congr 1; omega
      have hV1 := (VN13.set_veg (v := v) (hV0.fr rfl f1) (show 0 ≤ p ∧ p < 10 by omega)).fr (A := [147]) (s1 := s2) rfl (by rw [hs2, e1]; exact Fr.us rfl)
      refine hI0.vil rfl rfl (by omega) hf (IvD.mk e2 (MOk_set hM0 ⟨by omega, by omega, by omega, by omega, by omega, by omega, by omega, by omega, by omega, fun w hw => ⟨by omega, by omega, by omega, by omega⟩, fun p hp => ⟨by omega, by omega, by omega, by omega⟩, fun j hj => by omega, fun j hj => by omega⟩) (COk_set2 (by omega) hC) (by rw [mup_ne (by omega)]; exact hN) hV1 (by rw [hf.at 13 rfl, mup_ne (by omega)]; exact h8)) (hT.d (fun i hi => by rw [e2, mup_ne (by omega)]) (hf.at 148 rfl) (hf.at 149 rfl))
  · obtain ⟨r1, s1, k1, hr, hs1⟩ := x_change_n (d := d + 146) hD0 hrp hrw hrv hy
    have e : s1 147 = s 147 := by rw [hs1]; exact us_ne (by decide)
    obtain ⟨r2, s2, k2, hr2, hs2⟩ := m_change_n (d := d + 148) (s := s1) e hM0 hC hrp hrw hrv hy
    rw [hs2] at k2
    exact Step.mk (by first | exact ⟨(f1.at 1 rfl).trans hX.2.1, (congrFun (f1.at 0 rfl) 1).trans hX.2.2⟩ | exact ⟨hX.2.1, hX.2.2⟩ | exact ⟨by rw [hs1, us_ne (by decide)]; exact hX.2.1, by rw [hs1, us_ne (by decide)]; exact hX.2.2⟩ | exact ⟨by rw [hs1, us_ne (by decide), us_ne (by decide)]; exact hX.2.1, by rw [hs1, us_ne (by decide), us_ne (by decide)]; exact hX.2.2⟩ | exact ⟨by rw [e1, us_ne (by decide), f1.at 1 rfl]; exact hX.2.1, by rw [e1, us_ne (by decide), f1.at 0 rfl]; exact hX.2.2⟩ | exact ⟨by rw [ft.at 1 rfl, hx 1 (by decide) (by decide)]; exact hX.2.1, by rw [ft.at 0 rfl, et, newL_0, mup_ne (by decide)]; exact hX.2.2⟩) k1 k2 (by rw [hr, hr2]) (hI0.err2 hs1)
theorem k_drawFog {d : Nat} {s : mSt} {D : Nat → Int} (hV : VN13 s D) : CV (d + 0) 92 [.inr (.inr 13)] (s) (fun s1 => VN13 s1 (fgF 1 D) ∧ s1 13 1 = s 13 1 ∧ Fr [13] s s1) := by
  refine CV.mk rfl ?_
  show WP (d + 0) 92 0 [some (.inr (.inr 13))] [] (encA (s)) _
  have hV0 := hV
  obtain ⟨vc, vpl, vga, vse, vne, veg, vre, vtu, vta, vwa, v36, v37, v39, v40, v42, v41, v43, v44, vl0, vl1, vlm⟩ := hV
  refine w_ldR rfl rfl rfl ?_
  refine w_ldR rfl rfl rfl ?_
  first | refine w_getI rfl rfl rfl rfl rfl ?_ | refine w_getR rfl rfl rfl rfl rfl ?_
  rw [v42]
  refine w_push rfl ?_
  refine w_mul rfl ?_
  refine w_push rfl ?_
  refine w_add rfl ?_
  refine w_putI rfl rfl rfl rfl rfl rfl rfl ?_
  refine w_ldR rfl rfl rfl ?_
  refine w_ldR rfl rfl rfl ?_
  first | refine w_getI rfl rfl rfl rfl rfl ?_ | refine w_getR rfl rfl rfl rfl rfl ?_
  rw [us_eq, mup_eq]
  refine w_push rfl ?_
  refine w_bin rfl ?_
  refine w_push rfl ?_
  refine w_div rfl (by decide) ?_
  refine w_putI rfl rfl rfl rfl rfl rfl rfl ?_
  refine w_retV rfl ?_
  refine ⟨?_, by rw [us_eq, us_eq, mup_ne (by decide), mup_ne (by decide)], (Fr.us rfl).tr (Fr.us rfl)⟩
  have h := (hV0.set_v42 (v := zF (D 42))).set_v36 (v := m_rem (m_ushr (zF (D 42)) 8) 4)
  unfold fgF
  rw [if_neg (by decide)]
  exact h
theorem l_nights {d : Nat} {s : mSt} {P : Int → mSt → Prop} {n lo : Int} {D : Nat → Int} (m k : Nat) (i : Int) (hi : i = (k : Int)) (hV : VN13 s D) (h8 : s 13 1 = D 38) (hM : MOk D) (hC : COk D) (hlo : lo = 0 ∨ lo = 1) (hk : (k : Int) + m = n ∧ n ≤ 1000) (hn : D 38 + m ≤ 20000) (hP : ∀ s1, Fr [13, 17, 20, 21, 38, 46, 128, 129] s s1 → VN13 s1 (ngF lo m D) → s1 13 1 = D 38 + m → P (roF (ngF lo m D)) s1) : WP (d + 6) 152 23 [some (.inr (.inr 10)), some (.inl n), some (.inl lo), some (.inl i)] [] (encA (s)) (QI P) := by
  subst hi
  have hV0 := hV
  refine w_ldI rfl rfl ?_
  refine w_ldI rfl rfl ?_
  refine w_crGe rfl (by omega) (by omega) (fun b25 => ?_) (fun b25 => ?_)
  · first
    | (exfalso; omega)
    | (refine w_ldR rfl rfl rfl ?_
       first | refine w_getI rfl rfl rfl rfl rfl ?_ | refine w_getR rfl rfl rfl rfl rfl ?_
       refine w_callV rfl rfl rfl rfl rfl rfl rfl (k_rall13 hV0 hM) ?_
       refine w_retI rfl ?_
       obtain rfl : m = 0 := by omega
       exact hP s Fr.rf hV0 (by omega))
  · first
    | (exfalso; omega)
    | (obtain ⟨m, rfl⟩ : ∃ q, m = q + 1 := ⟨m - 1, by omega⟩
       have hf := fgF_ok (lo := lo) hM hC
       have hf8 := hf.2.2 38 (by decide) (by decide)
       refine w_ldI rfl rfl ?_
       refine w_irEq0 rfl (by omega) (fun b27 => ?_) (fun b27 => ?_)
       · first
         | (exfalso; omega)
         | (first
            | (obtain ⟨g1, g2, f31⟩ := p30
               have f31 : Fr [13, 17, 20, 21, 38, 46, 128, 129] s s30 := Fr.mono rfl f31
               have h31 : VN13 s30 (fgF lo D) := by rw [elo]; exact g1)
            | (have f31 : Fr [13, 17, 20, 21, 38, 46, 128, 129] s s := Fr.rf
               have h31 : VN13 s (fgF lo D) := by unfold fgF; rw [if_pos (by omega)]; exact hV0)
            refine w_ldR rfl rfl rfl ?_
            first | refine w_getI rfl rfl rfl rfl rfl ?_ | refine w_getR rfl rfl rfl rfl rfl ?_
            refine w_ldR rfl rfl rfl ?_
            first | refine w_getI rfl rfl rfl rfl rfl ?_ | refine w_getR rfl rfl rfl rfl rfl ?_
            refine w_callWN rfl rfl rfl rfl rfl rfl rfl (k_pass13 h31 hf.1 hf.2.1 (by omega)) (fun s35 p35 => ?_)
            refine w_inc_4_3 rfl rfl ?_
            refine w_go rfl ?_
            have hg := nfF_ok hf.1 hf.2.1 (by omega)
            obtain ⟨g1, g2, g3⟩ := p35
            exact l_nights (D := nfF (fgF lo D)) m (k + 1) ((k : Int) + 1) (by omega) g1 (by omega) hg.1 hg.2.1 hlo (by omega) (by omega) (fun s1 hf1 hs hs8 => hP s1 (f31.tr ((Fr.mono rfl g3).tr hf1)) hs (by omega)))
       · first
         | (exfalso; omega)
         | (have elo : lo = 1 := by omega
            refine w_ldR rfl rfl rfl ?_
            first | refine w_getI rfl rfl rfl rfl rfl ?_ | refine w_getR rfl rfl rfl rfl rfl ?_
            refine w_callWN rfl rfl rfl rfl rfl rfl rfl (k_drawFog hV0) (fun s30 p30 => ?_)
            first
            | (obtain ⟨g1, g2, f31⟩ := p30
               have f31 : Fr [13, 17, 20, 21, 38, 46, 128, 129] s s30 := Fr.mono rfl f31
               have h31 : VN13 s30 (fgF lo D) := by rw [elo]; exact g1)
            | (have f31 : Fr [13, 17, 20, 21, 38, 46, 128, 129] s s := Fr.rf
               have h31 : VN13 s (fgF lo D) := by unfold fgF; rw [if_pos (by omega)]; exact hV0)
            refine w_ldR rfl rfl rfl ?_
            first | refine w_getI rfl rfl rfl rfl rfl ?_ | refine w_getR rfl rfl rfl rfl rfl ?_
            refine w_ldR rfl rfl rfl ?_
            first | refine w_getI rfl rfl rfl rfl rfl ?_ | refine w_getR rfl rfl rfl rfl rfl ?_
            refine w_callWN rfl rfl rfl rfl rfl rfl rfl (k_pass13 h31 hf.1 hf.2.1 (by omega)) (fun s35 p35 => ?_)
            refine w_inc_4_3 rfl rfl ?_
            refine w_go rfl ?_
            have hg := nfF_ok hf.1 hf.2.1 (by omega)
            obtain ⟨g1, g2, g3⟩ := p35
            exact l_nights (D := nfF (fgF lo D)) m (k + 1) ((k : Int) + 1) (by omega) g1 (by omega) hg.1 hg.2.1 hlo (by omega) (by omega) (fun s1 hf1 hs hs8 => hP s1 (f31.tr ((Fr.mono rfl g3).tr hf1)) hs (by omega))))
termination_by m
decreasing_by all_goals omega
theorem k_pnights {d : Nat} {s : mSt} (hI : IvD s) {n lo : Int} (hrn : -2147483648 ≤ n ∧ n < 2147483648) (hlo : lo = 0 ∨ lo = 1) (hy : (1 ≤ n ∧ n ≤ 100) ∧ s 147 38 + n ≤ 9999) : CI (d + 6) 152 [.inr (.inr 10), .inl n, .inl lo] (s) (fun r s1 => r = roF (ngF lo n.toNat (s 147)) ∧ VN13 s1 (ngF lo n.toNat (s 147)) ∧ s1 13 1 = s 147 38 + n ∧ Fr [13, 17, 20, 21, 38, 46, 128, 129] s s1) := by
  refine CI.mk rfl ?_
  show WP (d + 6) 152 0 [some (.inr (.inr 10)), some (.inl n), some (.inl lo), none] [] (encA (s)) _
  have hI0 := hI
  obtain ⟨⟨hM, hC, hN⟩, hV, h8⟩ := hI
  have hV0 := hV
  have hM0 := hM
  obtain ⟨vc, vpl, vga, vse, vne, veg, vre, vtu, vta, vwa, v36, v37, v39, v40, v42, v41, v43, v44, vl0, vl1, vlm⟩ := hV
  obtain ⟨hM39, hM40, hM41, hM43, hM44, hM36, hM37, hM38, hMc, hMw, hMp, hMt, hMb⟩ := hM
  refine w_ldI rfl rfl ?_
  refine w_push rfl ?_
  refine w_crLt rfl (by omega) (by omega) (fun b2 => ?_) (fun b2 => ?_)
  · first
    | (exfalso; omega)
    | (exfalso; omega)
  · first
    | (exfalso; omega)
    | (refine w_ldI rfl rfl ?_
       refine w_push rfl ?_
       refine w_crLe rfl (by omega) (by omega) (fun b5 => ?_) (fun b5 => ?_)
       · first
         | (exfalso; omega)
         | (refine w_ldR rfl rfl rfl ?_
            first | refine w_getI rfl rfl rfl rfl rfl ?_ | refine w_getR rfl rfl rfl rfl rfl ?_
            first | refine w_getI rfl rfl rfl rfl rfl ?_ | refine w_getR rfl rfl rfl rfl rfl ?_
            rw [h8]
            refine w_ldI rfl rfl ?_
            refine w_add rfl ?_
            refine w_push rfl ?_
            refine w_crLe rfl (by omega) (by omega) (fun b16 => ?_) (fun b16 => ?_)
            · first
              | (exfalso; omega)
              | (refine w_push rfl ?_
                 refine w_StI_4_3 rfl rfl ?_
                 exact l_nights n.toNat 0 0 rfl hV0 h8 hM0 hC hlo (by omega) (by omega) (fun s1 hf hs hs8 => ⟨rfl, hs, by omega, hf⟩))
            · first
              | (exfalso; omega)
              | (exfalso; omega))
       · first
         | (exfalso; omega)
         | (exfalso; omega))
theorem k_pnights_n {d : Nat} {s : mSt} (hI : IvD s) {n lo : Int} (hrn : -2147483648 ≤ n ∧ n < 2147483648) (hy : ¬ (1 ≤ n ∧ n ≤ 100)) : CI (d + 6) 152 [.inr (.inr 10), .inl n, .inl lo] (s) (fun r s1 => r = -1000000000 - 1 ∧ s1 = us s 132 1 (s 132 1 + 1)) := by
  refine CI.mk rfl ?_
  show WP (d + 6) 152 0 [some (.inr (.inr 10)), some (.inl n), some (.inl lo), none] [] (encA (s)) _
  have hI0 := hI
  obtain ⟨⟨hM, hC, hN⟩, hV, h8⟩ := hI
  have hV0 := hV
  have hM0 := hM
  obtain ⟨vc, vpl, vga, vse, vne, veg, vre, vtu, vta, vwa, v36, v37, v39, v40, v42, v41, v43, v44, vl0, vl1, vlm⟩ := hV
  obtain ⟨hM39, hM40, hM41, hM43, hM44, hM36, hM37, hM38, hMc, hMw, hMp, hMt, hMb⟩ := hM
  refine w_ldI rfl rfl ?_
  refine w_push rfl ?_
  refine w_crLt rfl (by omega) (by omega) (fun b2 => ?_) (fun b2 => ?_)
  · first
    | (exfalso; omega)
    | (refine w_ldR rfl rfl rfl ?_
       refine w_push rfl ?_
       refine w_callWI rfl rfl rfl rfl rfl rfl rfl k_error1 (fun v8 s8 p8 => ?_)
       obtain ⟨rfl, rfl⟩ := p8
       refine w_retI rfl ?_
       exact ⟨rfl, rfl⟩)
  · first
    | (exfalso; omega)
    | (refine w_ldI rfl rfl ?_
       refine w_push rfl ?_
       refine w_crLe rfl (by omega) (by omega) (fun b5 => ?_) (fun b5 => ?_)
       · first
         | (exfalso; omega)
         | (exfalso; omega)
       · first
         | (exfalso; omega)
         | (refine w_ldR rfl rfl rfl ?_
            refine w_push rfl ?_
            refine w_callWI rfl rfl rfl rfl rfl rfl rfl k_error1 (fun v8 s8 p8 => ?_)
            obtain ⟨rfl, rfl⟩ := p8
            refine w_retI rfl ?_
            exact ⟨rfl, rfl⟩))
theorem k_pnights_s {d : Nat} {s : mSt} (hI : IvD s) {n lo : Int} (hrn : -2147483648 ≤ n ∧ n < 2147483648) (hy : (1 ≤ n ∧ n ≤ 100) ∧ ¬ s 147 38 + n ≤ 9999) : CI (d + 6) 152 [.inr (.inr 10), .inl n, .inl lo] (s) (fun r s1 => r = -1000000000 - 3 ∧ s1 = us s 132 3 (s 132 3 + 1)) := by
  refine CI.mk rfl ?_
  show WP (d + 6) 152 0 [some (.inr (.inr 10)), some (.inl n), some (.inl lo), none] [] (encA (s)) _
  have hI0 := hI
  obtain ⟨⟨hM, hC, hN⟩, hV, h8⟩ := hI
  have hV0 := hV
  have hM0 := hM
  obtain ⟨vc, vpl, vga, vse, vne, veg, vre, vtu, vta, vwa, v36, v37, v39, v40, v42, v41, v43, v44, vl0, vl1, vlm⟩ := hV
  obtain ⟨hM39, hM40, hM41, hM43, hM44, hM36, hM37, hM38, hMc, hMw, hMp, hMt, hMb⟩ := hM
  refine w_ldI rfl rfl ?_
  refine w_push rfl ?_
  refine w_crLt rfl (by omega) (by omega) (fun b2 => ?_) (fun b2 => ?_)
  · first
    | (exfalso; omega)
    | (exfalso; omega)
  · first
    | (exfalso; omega)
    | (refine w_ldI rfl rfl ?_
       refine w_push rfl ?_
       refine w_crLe rfl (by omega) (by omega) (fun b5 => ?_) (fun b5 => ?_)
       · first
         | (exfalso; omega)
         | (refine w_ldR rfl rfl rfl ?_
            first | refine w_getI rfl rfl rfl rfl rfl ?_ | refine w_getR rfl rfl rfl rfl rfl ?_
            first | refine w_getI rfl rfl rfl rfl rfl ?_ | refine w_getR rfl rfl rfl rfl rfl ?_
            rw [h8]
            refine w_ldI rfl rfl ?_
            refine w_add rfl ?_
            refine w_push rfl ?_
            refine w_crLe rfl (by omega) (by omega) (fun b16 => ?_) (fun b16 => ?_)
            · first
              | (exfalso; omega)
              | (exfalso; omega)
            · first
              | (exfalso; omega)
              | (refine w_ldR rfl rfl rfl ?_
                 refine w_push rfl ?_
                 refine w_callWI rfl rfl rfl rfl rfl rfl rfl k_error3 (fun v19 s19 p19 => ?_)
                 obtain ⟨rfl, rfl⟩ := p19
                 refine w_retI rfl ?_
                 exact ⟨rfl, rfl⟩))
       · first
         | (exfalso; omega)
         | (exfalso; omega))
theorem m_goes {d : Nat} {s : mSt} {D : Nat → Int} (hD : s 147 = D) (hM : MOk D) (hC : COk D) {n lo : Int} (hrn : -2147483648 ≤ n ∧ n < 2147483648) (hlo : lo = 0 ∨ lo = 1) (hy : (1 ≤ n ∧ n ≤ 100) ∧ D 38 + n ≤ 9999) : CI (d + 7) 226 [.inr (.inr 146), .inl n, .inl lo] (s) (fun r s1 => r = roF (ngF lo n.toNat D) ∧ s1 147 = ngF lo n.toNat D ∧ Fr [147, 151, 153, 154] s s1) := by
  refine CI.mk rfl ?_
  show WP (d + 7) 226 0 [some (.inr (.inr 146)), some (.inl n), some (.inl lo), none] [] (encA (s)) _
  have hM0 := hM
  obtain ⟨hM39, hM40, hM41, hM43, hM44, hM36, hM37, hM38, hMc, hMw, hMp, hMt, hMb⟩ := hM
  refine w_ldI rfl rfl ?_
  refine w_i2lr rfl (by omega) ?_
  refine w_push rfl ?_
  refine w_push rfl ?_
  refine w_call rfl rfl rfl (r_in (by omega) (by omega) (by omega)) ?_
  try simp only [hD]
  refine w_bNe0 rfl (fun b5 => ?_) (fun b5 => ?_)
  · first
    | (exfalso; omega)
    | (refine w_ldR rfl rfl rfl ?_
       first | refine w_getI rfl rfl rfl rfl rfl ?_ | refine w_getR rfl rfl rfl rfl rfl ?_
       try simp only [hD]
       refine w_push rfl ?_
       refine w_aldk 38 rfl rfl rfl rfl rfl rfl ?_
       try simp only [hD]
       refine w_ldI rfl rfl ?_
       refine w_add rfl ?_
       refine w_push rfl ?_
       refine w_crLe rfl (by omega) (by omega) (fun b17 => ?_) (fun b17 => ?_)
       · first
         | (exfalso; omega)
         | (refine w_push rfl ?_
            refine w_StI_4_3 rfl rfl ?_
            exact l_goes n.toNat 0 0 rfl hD hM0 hC hlo (by omega) (by omega) (fun s1 hf hs => ⟨rfl, hs, hf⟩))
       · first
         | (exfalso; omega)
         | (exfalso; omega))
  · first
    | (exfalso; omega)
    | (exfalso; omega)
theorem m_goes_n {d : Nat} {s : mSt} {D : Nat → Int} (hD : s 147 = D) (hM : MOk D) (hC : COk D) {n lo : Int} (hrn : -2147483648 ≤ n ∧ n < 2147483648) (hy : ¬ (1 ≤ n ∧ n ≤ 100)) : CI (d + 7) 226 [.inr (.inr 146), .inl n, .inl lo] (s) (fun r s1 => r = -1000000000 - 1 ∧ s1 = us s 150 1 (s 150 1 + 1)) := by
  refine CI.mk rfl ?_
  show WP (d + 7) 226 0 [some (.inr (.inr 146)), some (.inl n), some (.inl lo), none] [] (encA (s)) _
  have hM0 := hM
  obtain ⟨hM39, hM40, hM41, hM43, hM44, hM36, hM37, hM38, hMc, hMw, hMp, hMt, hMb⟩ := hM
  refine w_ldI rfl rfl ?_
  refine w_i2lr rfl (by omega) ?_
  refine w_push rfl ?_
  refine w_push rfl ?_
  refine w_call rfl rfl rfl (r_in (by omega) (by omega) (by omega)) ?_
  try simp only [hD]
  refine w_bNe0 rfl (fun b5 => ?_) (fun b5 => ?_)
  · first
    | (exfalso; omega)
    | (exfalso; omega)
  · first
    | (exfalso; omega)
    | (refine w_ldR rfl rfl rfl ?_
       refine w_push rfl ?_
       refine w_callV rfl rfl rfl rfl rfl rfl rfl r_finds1 ?_
       try simp only [hD]
       refine w_retI rfl ?_
       exact ⟨rfl, rfl⟩)
theorem m_goes_s {d : Nat} {s : mSt} {D : Nat → Int} (hD : s 147 = D) (hM : MOk D) (hC : COk D) {n lo : Int} (hrn : -2147483648 ≤ n ∧ n < 2147483648) (hy : (1 ≤ n ∧ n ≤ 100) ∧ ¬ D 38 + n ≤ 9999) : CI (d + 7) 226 [.inr (.inr 146), .inl n, .inl lo] (s) (fun r s1 => r = -1000000000 - 3 ∧ s1 = us s 150 3 (s 150 3 + 1)) := by
  refine CI.mk rfl ?_
  show WP (d + 7) 226 0 [some (.inr (.inr 146)), some (.inl n), some (.inl lo), none] [] (encA (s)) _
  have hM0 := hM
  obtain ⟨hM39, hM40, hM41, hM43, hM44, hM36, hM37, hM38, hMc, hMw, hMp, hMt, hMb⟩ := hM
  refine w_ldI rfl rfl ?_
  refine w_i2lr rfl (by omega) ?_
  refine w_push rfl ?_
  refine w_push rfl ?_
  refine w_call rfl rfl rfl (r_in (by omega) (by omega) (by omega)) ?_
  try simp only [hD]
  refine w_bNe0 rfl (fun b5 => ?_) (fun b5 => ?_)
  · first
    | (exfalso; omega)
    | (refine w_ldR rfl rfl rfl ?_
       first | refine w_getI rfl rfl rfl rfl rfl ?_ | refine w_getR rfl rfl rfl rfl rfl ?_
       try simp only [hD]
       refine w_push rfl ?_
       refine w_aldk 38 rfl rfl rfl rfl rfl rfl ?_
       try simp only [hD]
       refine w_ldI rfl rfl ?_
       refine w_add rfl ?_
       refine w_push rfl ?_
       refine w_crLe rfl (by omega) (by omega) (fun b17 => ?_) (fun b17 => ?_)
       · first
         | (exfalso; omega)
         | (exfalso; omega)
       · first
         | (exfalso; omega)
         | (refine w_ldR rfl rfl rfl ?_
            refine w_push rfl ?_
            refine w_callV rfl rfl rfl rfl rfl rfl rfl r_finds3 ?_
            try simp only [hD]
            refine w_retI rfl ?_
            exact ⟨rfl, rfl⟩))
  · first
    | (exfalso; omega)
    | (exfalso; omega)
theorem x_nights_y {d : Nat} {s : mSt} (hI : IvD s) {n : Int} (hrn : -2147483648 ≤ n ∧ n < 2147483648) (hy : (1 ≤ n ∧ n ≤ 100) ∧ s 147 38 + n ≤ 9999) : CI (d + 7) 118 [.inr (.inr 10), .inl n] (s) (fun r s1 => r = roF (ngF 0 n.toNat (s 147)) ∧ VN13 s1 (ngF 0 n.toNat (s 147)) ∧ s1 13 1 = s 147 38 + n ∧ Fr [13, 17, 20, 21, 38, 46, 128, 129] s s1) := by
  refine CI.mk rfl ?_
  show WP (d + 7) 118 0 [some (.inr (.inr 10)), some (.inl n)] [] (encA (s)) _
  have hI0 := hI
  obtain ⟨⟨hM, hC, hN⟩, hV, h8⟩ := hI
  have hV0 := hV
  have hM0 := hM
  obtain ⟨vc, vpl, vga, vse, vne, veg, vre, vtu, vta, vwa, v36, v37, v39, v40, v42, v41, v43, v44, vl0, vl1, vlm⟩ := hV
  obtain ⟨hM39, hM40, hM41, hM43, hM44, hM36, hM37, hM38, hMc, hMw, hMp, hMt, hMb⟩ := hM
  refine w_ldR rfl rfl rfl ?_
  refine w_ldI rfl rfl ?_
  refine w_push rfl ?_
  refine w_callWI rfl rfl rfl rfl rfl rfl rfl (k_pnights hI0 (by omega) (Or.inl rfl) hy) (fun v3 s3 p3 => ?_)
  refine w_retI rfl ?_
  exact p3
theorem x_nights_n {d : Nat} {s : mSt} (hI : IvD s) {n : Int} (hrn : -2147483648 ≤ n ∧ n < 2147483648) (hy : ¬ (1 ≤ n ∧ n ≤ 100)) : CI (d + 7) 118 [.inr (.inr 10), .inl n] (s) (fun r s1 => r = -1000000000 - 1 ∧ s1 = us s 132 1 (s 132 1 + 1)) := by
  refine CI.mk rfl ?_
  show WP (d + 7) 118 0 [some (.inr (.inr 10)), some (.inl n)] [] (encA (s)) _
  have hI0 := hI
  obtain ⟨⟨hM, hC, hN⟩, hV, h8⟩ := hI
  have hV0 := hV
  have hM0 := hM
  obtain ⟨vc, vpl, vga, vse, vne, veg, vre, vtu, vta, vwa, v36, v37, v39, v40, v42, v41, v43, v44, vl0, vl1, vlm⟩ := hV
  obtain ⟨hM39, hM40, hM41, hM43, hM44, hM36, hM37, hM38, hMc, hMw, hMp, hMt, hMb⟩ := hM
  refine w_ldR rfl rfl rfl ?_
  refine w_ldI rfl rfl ?_
  refine w_push rfl ?_
  refine w_callWI rfl rfl rfl rfl rfl rfl rfl (k_pnights_n hI0 (by omega) hy) (fun v3 s3 p3 => ?_)
  refine w_retI rfl ?_
  exact p3
theorem x_nights_s {d : Nat} {s : mSt} (hI : IvD s) {n : Int} (hrn : -2147483648 ≤ n ∧ n < 2147483648) (hy : (1 ≤ n ∧ n ≤ 100) ∧ ¬ s 147 38 + n ≤ 9999) : CI (d + 7) 118 [.inr (.inr 10), .inl n] (s) (fun r s1 => r = -1000000000 - 3 ∧ s1 = us s 132 3 (s 132 3 + 1)) := by
  refine CI.mk rfl ?_
  show WP (d + 7) 118 0 [some (.inr (.inr 10)), some (.inl n)] [] (encA (s)) _
  have hI0 := hI
  obtain ⟨⟨hM, hC, hN⟩, hV, h8⟩ := hI
  have hV0 := hV
  have hM0 := hM
  obtain ⟨vc, vpl, vga, vse, vne, veg, vre, vtu, vta, vwa, v36, v37, v39, v40, v42, v41, v43, v44, vl0, vl1, vlm⟩ := hV
  obtain ⟨hM39, hM40, hM41, hM43, hM44, hM36, hM37, hM38, hMc, hMw, hMp, hMt, hMb⟩ := hM
  refine w_ldR rfl rfl rfl ?_
  refine w_ldI rfl rfl ?_
  refine w_push rfl ?_
  refine w_callWI rfl rfl rfl rfl rfl rfl rfl (k_pnights_s hI0 (by omega) hy) (fun v3 s3 p3 => ?_)
  refine w_retI rfl ?_
  exact p3
theorem m_nights_y {d : Nat} {s : mSt} {D : Nat → Int} (hD : s 147 = D) (hM : MOk D) (hC : COk D) {n : Int} (hrn : -2147483648 ≤ n ∧ n < 2147483648) (hy : (1 ≤ n ∧ n ≤ 100) ∧ D 38 + n ≤ 9999) : CI (d + 8) 227 [.inr (.inr 146), .inl n] (s) (fun r s1 => r = roF (ngF 0 n.toNat D) ∧ s1 147 = ngF 0 n.toNat D ∧ Fr [147, 151, 153, 154] s s1) := by
  refine CI.mk rfl ?_
  show WP (d + 8) 227 0 [some (.inr (.inr 146)), some (.inl n)] [] (encA (s)) _
  have hM0 := hM
  obtain ⟨hM39, hM40, hM41, hM43, hM44, hM36, hM37, hM38, hMc, hMw, hMp, hMt, hMb⟩ := hM
  refine w_ldR rfl rfl rfl ?_
  refine w_ldI rfl rfl ?_
  refine w_push rfl ?_
  refine w_callWI rfl rfl rfl rfl rfl rfl rfl (m_goes hD hM0 hC (by omega) (Or.inl rfl) hy) (fun v3 s3 p3 => ?_)
  refine w_retI rfl ?_
  exact p3
theorem m_nights_n {d : Nat} {s : mSt} {D : Nat → Int} (hD : s 147 = D) (hM : MOk D) (hC : COk D) {n : Int} (hrn : -2147483648 ≤ n ∧ n < 2147483648) (hy : ¬ (1 ≤ n ∧ n ≤ 100)) : CI (d + 8) 227 [.inr (.inr 146), .inl n] (s) (fun r s1 => r = -1000000000 - 1 ∧ s1 = us s 150 1 (s 150 1 + 1)) := by
  refine CI.mk rfl ?_
  show WP (d + 8) 227 0 [some (.inr (.inr 146)), some (.inl n)] [] (encA (s)) _
  have hM0 := hM
  obtain ⟨hM39, hM40, hM41, hM43, hM44, hM36, hM37, hM38, hMc, hMw, hMp, hMt, hMb⟩ := hM
  refine w_ldR rfl rfl rfl ?_
  refine w_ldI rfl rfl ?_
  refine w_push rfl ?_
  refine w_callWI rfl rfl rfl rfl rfl rfl rfl (m_goes_n hD hM0 hC (by omega) hy) (fun v3 s3 p3 => ?_)
  refine w_retI rfl ?_
  exact p3
theorem m_nights_s {d : Nat} {s : mSt} {D : Nat → Int} (hD : s 147 = D) (hM : MOk D) (hC : COk D) {n : Int} (hrn : -2147483648 ≤ n ∧ n < 2147483648) (hy : (1 ≤ n ∧ n ≤ 100) ∧ ¬ D 38 + n ≤ 9999) : CI (d + 8) 227 [.inr (.inr 146), .inl n] (s) (fun r s1 => r = -1000000000 - 3 ∧ s1 = us s 150 3 (s 150 3 + 1)) := by
  refine CI.mk rfl ?_
  show WP (d + 8) 227 0 [some (.inr (.inr 146)), some (.inl n)] [] (encA (s)) _
  have hM0 := hM
  obtain ⟨hM39, hM40, hM41, hM43, hM44, hM36, hM37, hM38, hMc, hMw, hMp, hMt, hMb⟩ := hM
  refine w_ldR rfl rfl rfl ?_
  refine w_ldI rfl rfl ?_
  refine w_push rfl ?_
  refine w_callWI rfl rfl rfl rfl rfl rfl rfl (m_goes_s hD hM0 hC (by omega) hy) (fun v3 s3 p3 => ?_)
  refine w_retI rfl ?_
  exact p3
theorem st_nights {X : Nat → Int} {N : Int} {d : Nat} {s : mSt} {cnt : Int} (hI : Inv X N s cnt) {n : Int} (hrn : -2147483648 ≤ n ∧ n < 2147483648) : Step X N (d + 150) s cnt 118 227 [.inl n] := by
  have hI0 := hI
  obtain ⟨hD, -, -, -, -, hT, -, hX, hU⟩ := hI
  have hD0 := hD
  obtain ⟨⟨hM, hC, hN⟩, hV, h8⟩ := hD
  have hV0 := hV
  have hM0 := hM
  obtain ⟨vc, vpl, vga, vse, vne, veg, vre, vtu, vta, vwa, v36, v37, v39, v40, v42, v41, v43, v44, vl0, vl1, vlm⟩ := hV
  obtain ⟨hM39, hM40, hM41, hM43, hM44, hM36, hM37, hM38, hMc, hMw, hMp, hMt, hMb⟩ := hM
  by_cases hy : 1 ≤ n ∧ n ≤ 100
  · by_cases hz : s 147 38 + n ≤ 9999
    · obtain ⟨r1, s1, k1, hr, hV1, h81, f1⟩ := x_nights_y (d := d + 143) hD0 hrn ⟨hy, hz⟩
      have e : s1 147 = s 147 := f1.at 147 rfl
      obtain ⟨r2, s2, k2, hr2, e2, f2⟩ := m_nights_y (d := d + 142) (s := s1) e hM0 hC hrn ⟨hy, hz⟩
      refine Step.mk (by first | exact ⟨(f1.at 1 rfl).trans hX.2.1, (congrFun (f1.at 0 rfl) 1).trans hX.2.2⟩ | exact ⟨hX.2.1, hX.2.2⟩ | exact ⟨by rw [hs1, us_ne (by decide)]; exact hX.2.1, by rw [hs1, us_ne (by decide)]; exact hX.2.2⟩ | exact ⟨by rw [hs1, us_ne (by decide), us_ne (by decide)]; exact hX.2.1, by rw [hs1, us_ne (by decide), us_ne (by decide)]; exact hX.2.2⟩ | exact ⟨by rw [e1, us_ne (by decide), f1.at 1 rfl]; exact hX.2.1, by rw [e1, us_ne (by decide), f1.at 0 rfl]; exact hX.2.2⟩ | exact ⟨by rw [ft.at 1 rfl, hx 1 (by decide) (by decide)]; exact hX.2.1, by rw [ft.at 0 rfl, et, newL_0, mup_ne (by decide)]; exact hX.2.2⟩) k1 k2 (by rw [hr, hr2]) ?_
      have hg := ngF_ok (lo := 0) n.toNat (s 147) hM0 hC (by omega)
      have hf : Fr [13, 17, 20, 21, 38, 46, 128, 129, 147, 151, 153, 154] s s2 := (Fr.mono rfl f1).tr (Fr.mono rfl f2)
      exact hI0.vil rfl rfl (by omega) hf (IvD.mk e2 hg.1 hg.2.1 (by omega) (hV1.fr rfl f2) (by rw [f2.at 13 rfl]; omega)) (hT.d (fun i hi => by rw [e2]; exact hg.2.2.1 i (by omega) (by omega) (by omega) (by omega)) (hf.at 148 rfl) (hf.at 149 rfl))
    · obtain ⟨r1, s1, k1, hr, hs1⟩ := x_nights_s (d := d + 143) hD0 hrn ⟨hy, hz⟩
      have e : s1 147 = s 147 := by rw [hs1]; exact us_ne (by decide)
      obtain ⟨r2, s2, k2, hr2, hs2⟩ := m_nights_s (d := d + 142) (s := s1) e hM0 hC hrn ⟨hy, hz⟩
      rw [hs2] at k2
      exact Step.mk (by first | exact ⟨(f1.at 1 rfl).trans hX.2.1, (congrFun (f1.at 0 rfl) 1).trans hX.2.2⟩ | exact ⟨hX.2.1, hX.2.2⟩ | exact ⟨by rw [hs1, us_ne (by decide)]; exact hX.2.1, by rw [hs1, us_ne (by decide)]; exact hX.2.2⟩ | exact ⟨by rw [hs1, us_ne (by decide), us_ne (by decide)]; exact hX.2.1, by rw [hs1, us_ne (by decide), us_ne (by decide)]; exact hX.2.2⟩ | exact ⟨by rw [e1, us_ne (by decide), f1.at 1 rfl]; exact hX.2.1, by rw [e1, us_ne (by decide), f1.at 0 rfl]; exact hX.2.2⟩ | exact ⟨by rw [ft.at 1 rfl, hx 1 (by decide) (by decide)]; exact hX.2.1, by rw [ft.at 0 rfl, et, newL_0, mup_ne (by decide)]; exact hX.2.2⟩) k1 k2 (by rw [hr, hr2]) (hI0.err2 hs1)
  · obtain ⟨r1, s1, k1, hr, hs1⟩ := x_nights_n (d := d + 143) hD0 hrn hy
    have e : s1 147 = s 147 := by rw [hs1]; exact us_ne (by decide)
    obtain ⟨r2, s2, k2, hr2, hs2⟩ := m_nights_n (d := d + 142) (s := s1) e hM0 hC hrn hy
    rw [hs2] at k2
    exact Step.mk (by first | exact ⟨(f1.at 1 rfl).trans hX.2.1, (congrFun (f1.at 0 rfl) 1).trans hX.2.2⟩ | exact ⟨hX.2.1, hX.2.2⟩ | exact ⟨by rw [hs1, us_ne (by decide)]; exact hX.2.1, by rw [hs1, us_ne (by decide)]; exact hX.2.2⟩ | exact ⟨by rw [hs1, us_ne (by decide), us_ne (by decide)]; exact hX.2.1, by rw [hs1, us_ne (by decide), us_ne (by decide)]; exact hX.2.2⟩ | exact ⟨by rw [e1, us_ne (by decide), f1.at 1 rfl]; exact hX.2.1, by rw [e1, us_ne (by decide), f1.at 0 rfl]; exact hX.2.2⟩ | exact ⟨by rw [ft.at 1 rfl, hx 1 (by decide) (by decide)]; exact hX.2.1, by rw [ft.at 0 rfl, et, newL_0, mup_ne (by decide)]; exact hX.2.2⟩) k1 k2 (by rw [hr, hr2]) (hI0.err2 hs1)
theorem x_loose_y {d : Nat} {s : mSt} (hI : IvD s) {n : Int} (hrn : -2147483648 ≤ n ∧ n < 2147483648) (hy : (1 ≤ n ∧ n ≤ 100) ∧ s 147 38 + n ≤ 9999) : CI (d + 7) 119 [.inr (.inr 10), .inl n] (s) (fun r s1 => r = roF (ngF 1 n.toNat (s 147)) ∧ VN13 s1 (ngF 1 n.toNat (s 147)) ∧ s1 13 1 = s 147 38 + n ∧ Fr [13, 17, 20, 21, 38, 46, 128, 129] s s1) := by
  refine CI.mk rfl ?_
  show WP (d + 7) 119 0 [some (.inr (.inr 10)), some (.inl n)] [] (encA (s)) _
  have hI0 := hI
  obtain ⟨⟨hM, hC, hN⟩, hV, h8⟩ := hI
  have hV0 := hV
  have hM0 := hM
  obtain ⟨vc, vpl, vga, vse, vne, veg, vre, vtu, vta, vwa, v36, v37, v39, v40, v42, v41, v43, v44, vl0, vl1, vlm⟩ := hV
  obtain ⟨hM39, hM40, hM41, hM43, hM44, hM36, hM37, hM38, hMc, hMw, hMp, hMt, hMb⟩ := hM
  refine w_ldR rfl rfl rfl ?_
  refine w_ldI rfl rfl ?_
  refine w_push rfl ?_
  refine w_callWI rfl rfl rfl rfl rfl rfl rfl (k_pnights hI0 (by omega) (Or.inr rfl) hy) (fun v3 s3 p3 => ?_)
  refine w_retI rfl ?_
  exact p3
theorem x_loose_n {d : Nat} {s : mSt} (hI : IvD s) {n : Int} (hrn : -2147483648 ≤ n ∧ n < 2147483648) (hy : ¬ (1 ≤ n ∧ n ≤ 100)) : CI (d + 7) 119 [.inr (.inr 10), .inl n] (s) (fun r s1 => r = -1000000000 - 1 ∧ s1 = us s 132 1 (s 132 1 + 1)) := by
  refine CI.mk rfl ?_
  show WP (d + 7) 119 0 [some (.inr (.inr 10)), some (.inl n)] [] (encA (s)) _
  have hI0 := hI
  obtain ⟨⟨hM, hC, hN⟩, hV, h8⟩ := hI
  have hV0 := hV
  have hM0 := hM
  obtain ⟨vc, vpl, vga, vse, vne, veg, vre, vtu, vta, vwa, v36, v37, v39, v40, v42, v41, v43, v44, vl0, vl1, vlm⟩ := hV
  obtain ⟨hM39, hM40, hM41, hM43, hM44, hM36, hM37, hM38, hMc, hMw, hMp, hMt, hMb⟩ := hM
  refine w_ldR rfl rfl rfl ?_
  refine w_ldI rfl rfl ?_
  refine w_push rfl ?_
  refine w_callWI rfl rfl rfl rfl rfl rfl rfl (k_pnights_n hI0 (by omega) hy) (fun v3 s3 p3 => ?_)
  refine w_retI rfl ?_
  exact p3
theorem x_loose_s {d : Nat} {s : mSt} (hI : IvD s) {n : Int} (hrn : -2147483648 ≤ n ∧ n < 2147483648) (hy : (1 ≤ n ∧ n ≤ 100) ∧ ¬ s 147 38 + n ≤ 9999) : CI (d + 7) 119 [.inr (.inr 10), .inl n] (s) (fun r s1 => r = -1000000000 - 3 ∧ s1 = us s 132 3 (s 132 3 + 1)) := by
  refine CI.mk rfl ?_
  show WP (d + 7) 119 0 [some (.inr (.inr 10)), some (.inl n)] [] (encA (s)) _
  have hI0 := hI
  obtain ⟨⟨hM, hC, hN⟩, hV, h8⟩ := hI
  have hV0 := hV
  have hM0 := hM
  obtain ⟨vc, vpl, vga, vse, vne, veg, vre, vtu, vta, vwa, v36, v37, v39, v40, v42, v41, v43, v44, vl0, vl1, vlm⟩ := hV
  obtain ⟨hM39, hM40, hM41, hM43, hM44, hM36, hM37, hM38, hMc, hMw, hMp, hMt, hMb⟩ := hM
  refine w_ldR rfl rfl rfl ?_
  refine w_ldI rfl rfl ?_
  refine w_push rfl ?_
  refine w_callWI rfl rfl rfl rfl rfl rfl rfl (k_pnights_s hI0 (by omega) hy) (fun v3 s3 p3 => ?_)
  refine w_retI rfl ?_
  exact p3
theorem m_loose_y {d : Nat} {s : mSt} {D : Nat → Int} (hD : s 147 = D) (hM : MOk D) (hC : COk D) {n : Int} (hrn : -2147483648 ≤ n ∧ n < 2147483648) (hy : (1 ≤ n ∧ n ≤ 100) ∧ D 38 + n ≤ 9999) : CI (d + 8) 228 [.inr (.inr 146), .inl n] (s) (fun r s1 => r = roF (ngF 1 n.toNat D) ∧ s1 147 = ngF 1 n.toNat D ∧ Fr [147, 151, 153, 154] s s1) := by
  refine CI.mk rfl ?_
  show WP (d + 8) 228 0 [some (.inr (.inr 146)), some (.inl n)] [] (encA (s)) _
  have hM0 := hM
  obtain ⟨hM39, hM40, hM41, hM43, hM44, hM36, hM37, hM38, hMc, hMw, hMp, hMt, hMb⟩ := hM
  refine w_ldR rfl rfl rfl ?_
  refine w_ldI rfl rfl ?_
  refine w_push rfl ?_
  refine w_callWI rfl rfl rfl rfl rfl rfl rfl (m_goes hD hM0 hC (by omega) (Or.inr rfl) hy) (fun v3 s3 p3 => ?_)
  refine w_retI rfl ?_
  exact p3
theorem m_loose_n {d : Nat} {s : mSt} {D : Nat → Int} (hD : s 147 = D) (hM : MOk D) (hC : COk D) {n : Int} (hrn : -2147483648 ≤ n ∧ n < 2147483648) (hy : ¬ (1 ≤ n ∧ n ≤ 100)) : CI (d + 8) 228 [.inr (.inr 146), .inl n] (s) (fun r s1 => r = -1000000000 - 1 ∧ s1 = us s 150 1 (s 150 1 + 1)) := by
  refine CI.mk rfl ?_
  show WP (d + 8) 228 0 [some (.inr (.inr 146)), some (.inl n)] [] (encA (s)) _
  have hM0 := hM
  obtain ⟨hM39, hM40, hM41, hM43, hM44, hM36, hM37, hM38, hMc, hMw, hMp, hMt, hMb⟩ := hM
  refine w_ldR rfl rfl rfl ?_
  refine w_ldI rfl rfl ?_
  refine w_push rfl ?_
  refine w_callWI rfl rfl rfl rfl rfl rfl rfl (m_goes_n hD hM0 hC (by omega) hy) (fun v3 s3 p3 => ?_)
  refine w_retI rfl ?_
  exact p3
theorem m_loose_s {d : Nat} {s : mSt} {D : Nat → Int} (hD : s 147 = D) (hM : MOk D) (hC : COk D) {n : Int} (hrn : -2147483648 ≤ n ∧ n < 2147483648) (hy : (1 ≤ n ∧ n ≤ 100) ∧ ¬ D 38 + n ≤ 9999) : CI (d + 8) 228 [.inr (.inr 146), .inl n] (s) (fun r s1 => r = -1000000000 - 3 ∧ s1 = us s 150 3 (s 150 3 + 1)) := by
  refine CI.mk rfl ?_
  show WP (d + 8) 228 0 [some (.inr (.inr 146)), some (.inl n)] [] (encA (s)) _
  have hM0 := hM
  obtain ⟨hM39, hM40, hM41, hM43, hM44, hM36, hM37, hM38, hMc, hMw, hMp, hMt, hMb⟩ := hM
  refine w_ldR rfl rfl rfl ?_
  refine w_ldI rfl rfl ?_
  refine w_push rfl ?_
  refine w_callWI rfl rfl rfl rfl rfl rfl rfl (m_goes_s hD hM0 hC (by omega) hy) (fun v3 s3 p3 => ?_)
  refine w_retI rfl ?_
  exact p3
theorem st_loose {X : Nat → Int} {N : Int} {d : Nat} {s : mSt} {cnt : Int} (hI : Inv X N s cnt) {n : Int} (hrn : -2147483648 ≤ n ∧ n < 2147483648) : Step X N (d + 150) s cnt 119 228 [.inl n] := by
  have hI0 := hI
  obtain ⟨hD, -, -, -, -, hT, -, hX, hU⟩ := hI
  have hD0 := hD
  obtain ⟨⟨hM, hC, hN⟩, hV, h8⟩ := hD
  have hV0 := hV
  have hM0 := hM
  obtain ⟨vc, vpl, vga, vse, vne, veg, vre, vtu, vta, vwa, v36, v37, v39, v40, v42, v41, v43, v44, vl0, vl1, vlm⟩ := hV
  obtain ⟨hM39, hM40, hM41, hM43, hM44, hM36, hM37, hM38, hMc, hMw, hMp, hMt, hMb⟩ := hM
  by_cases hy : 1 ≤ n ∧ n ≤ 100
  · by_cases hz : s 147 38 + n ≤ 9999
    · obtain ⟨r1, s1, k1, hr, hV1, h81, f1⟩ := x_loose_y (d := d + 143) hD0 hrn ⟨hy, hz⟩
      have e : s1 147 = s 147 := f1.at 147 rfl
      obtain ⟨r2, s2, k2, hr2, e2, f2⟩ := m_loose_y (d := d + 142) (s := s1) e hM0 hC hrn ⟨hy, hz⟩
      refine Step.mk (by first | exact ⟨(f1.at 1 rfl).trans hX.2.1, (congrFun (f1.at 0 rfl) 1).trans hX.2.2⟩ | exact ⟨hX.2.1, hX.2.2⟩ | exact ⟨by rw [hs1, us_ne (by decide)]; exact hX.2.1, by rw [hs1, us_ne (by decide)]; exact hX.2.2⟩ | exact ⟨by rw [hs1, us_ne (by decide), us_ne (by decide)]; exact hX.2.1, by rw [hs1, us_ne (by decide), us_ne (by decide)]; exact hX.2.2⟩ | exact ⟨by rw [e1, us_ne (by decide), f1.at 1 rfl]; exact hX.2.1, by rw [e1, us_ne (by decide), f1.at 0 rfl]; exact hX.2.2⟩ | exact ⟨by rw [ft.at 1 rfl, hx 1 (by decide) (by decide)]; exact hX.2.1, by rw [ft.at 0 rfl, et, newL_0, mup_ne (by decide)]; exact hX.2.2⟩) k1 k2 (by rw [hr, hr2]) ?_
      have hg := ngF_ok (lo := 1) n.toNat (s 147) hM0 hC (by omega)
      have hf : Fr [13, 17, 20, 21, 38, 46, 128, 129, 147, 151, 153, 154] s s2 := (Fr.mono rfl f1).tr (Fr.mono rfl f2)
      exact hI0.vil rfl rfl (by omega) hf (IvD.mk e2 hg.1 hg.2.1 (by omega) (hV1.fr rfl f2) (by rw [f2.at 13 rfl]; omega)) (hT.d (fun i hi => by rw [e2]; exact hg.2.2.1 i (by omega) (by omega) (by omega) (by omega)) (hf.at 148 rfl) (hf.at 149 rfl))
    · obtain ⟨r1, s1, k1, hr, hs1⟩ := x_loose_s (d := d + 143) hD0 hrn ⟨hy, hz⟩
      have e : s1 147 = s 147 := by rw [hs1]; exact us_ne (by decide)
      obtain ⟨r2, s2, k2, hr2, hs2⟩ := m_loose_s (d := d + 142) (s := s1) e hM0 hC hrn ⟨hy, hz⟩
      rw [hs2] at k2
      exact Step.mk (by first | exact ⟨(f1.at 1 rfl).trans hX.2.1, (congrFun (f1.at 0 rfl) 1).trans hX.2.2⟩ | exact ⟨hX.2.1, hX.2.2⟩ | exact ⟨by rw [hs1, us_ne (by decide)]; exact hX.2.1, by rw [hs1, us_ne (by decide)]; exact hX.2.2⟩ | exact ⟨by rw [hs1, us_ne (by decide), us_ne (by decide)]; exact hX.2.1, by rw [hs1, us_ne (by decide), us_ne (by decide)]; exact hX.2.2⟩ | exact ⟨by rw [e1, us_ne (by decide), f1.at 1 rfl]; exact hX.2.1, by rw [e1, us_ne (by decide), f1.at 0 rfl]; exact hX.2.2⟩ | exact ⟨by rw [ft.at 1 rfl, hx 1 (by decide) (by decide)]; exact hX.2.1, by rw [ft.at 0 rfl, et, newL_0, mup_ne (by decide)]; exact hX.2.2⟩) k1 k2 (by rw [hr, hr2]) (hI0.err2 hs1)
  · obtain ⟨r1, s1, k1, hr, hs1⟩ := x_loose_n (d := d + 143) hD0 hrn hy
    have e : s1 147 = s 147 := by rw [hs1]; exact us_ne (by decide)
    obtain ⟨r2, s2, k2, hr2, hs2⟩ := m_loose_n (d := d + 142) (s := s1) e hM0 hC hrn hy
    rw [hs2] at k2
    exact Step.mk (by first | exact ⟨(f1.at 1 rfl).trans hX.2.1, (congrFun (f1.at 0 rfl) 1).trans hX.2.2⟩ | exact ⟨hX.2.1, hX.2.2⟩ | exact ⟨by rw [hs1, us_ne (by decide)]; exact hX.2.1, by rw [hs1, us_ne (by decide)]; exact hX.2.2⟩ | exact ⟨by rw [hs1, us_ne (by decide), us_ne (by decide)]; exact hX.2.1, by rw [hs1, us_ne (by decide), us_ne (by decide)]; exact hX.2.2⟩ | exact ⟨by rw [e1, us_ne (by decide), f1.at 1 rfl]; exact hX.2.1, by rw [e1, us_ne (by decide), f1.at 0 rfl]; exact hX.2.2⟩ | exact ⟨by rw [ft.at 1 rfl, hx 1 (by decide) (by decide)]; exact hX.2.1, by rw [ft.at 0 rfl, et, newL_0, mup_ne (by decide)]; exact hX.2.2⟩) k1 k2 (by rw [hr, hr2]) (hI0.err2 hs1)
