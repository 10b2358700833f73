/-! ===== calls that ask (2) ===== -/
theorem k_has11 {d : Nat} {s : mSt} {i : Int} (hi : -2147483648 ≤ i ∧ i < 2147483648) (hs : -2147483648 ≤ s 11 1 ∧ s 11 1 < 2147483648) : Call (d + 0) 62 [.inr (.inr 11), .inl i] (encA (s)) (some (.inl (bI (0 ≤ i ∧ i < s 11 1)))) (encA (s)) := by
  refine CI.ex (CI.mk rfl ?_)
  show WP (d + 0) 62 0 [some (.inr (.inr 11)), some (.inl i)] [] (encA (s)) _
  refine w_ldI rfl rfl ?_
  refine w_irLt0 rfl (by omega) (fun b1 => ?_) (fun b1 => ?_)
  · first
    | (exfalso; omega)
    | (refine w_push rfl ?_
       refine w_retB rfl (by first | exact bI_01 _ | decide | omega) ?_
       refine ⟨?_, rfl⟩
       unfold bI
       first | rw [if_pos (by omega)] | rw [if_neg (by omega)])
  · first
    | (exfalso; omega)
    | (refine w_ldI rfl rfl ?_
       refine w_ldR rfl rfl rfl ?_
       first | refine w_getI rfl rfl rfl rfl rfl ?_ | refine w_getR rfl rfl rfl rfl rfl ?_
       refine w_crGe rfl (by omega) (by omega) (fun b5 => ?_) (fun b5 => ?_)
       · first
         | (exfalso; omega)
         | (refine w_push rfl ?_
            refine w_retB rfl (by first | exact bI_01 _ | decide | omega) ?_
            refine ⟨?_, rfl⟩
            unfold bI
            first | rw [if_pos (by omega)] | rw [if_neg (by omega)])
       · first
         | (exfalso; omega)
         | (refine w_push rfl ?_
            refine w_go rfl ?_
            refine w_retB rfl (by first | exact bI_01 _ | decide | omega) ?_
            refine ⟨?_, rfl⟩
            unfold bI
            first | rw [if_pos (by omega)] | rw [if_neg (by omega)]))
theorem k_at11 {d : Nat} {s : mSt} {i : Int} (hi : -2147483648 ≤ i ∧ i < 2147483648) (hs : 0 ≤ s 11 1 ∧ s 11 1 ≤ 40) : Call (d + 0) 64 [.inr (.inr 11), .inl i] (encA (s)) (some (.inl (rowAt s 11 i))) (encA (s)) := by
  refine CI.ex (CI.mk rfl ?_)
  show WP (d + 0) 64 0 [some (.inr (.inr 11)), some (.inl i)] [] (encA (s)) _
  refine w_ldI rfl rfl ?_
  refine w_irLt0 rfl (by omega) (fun b1 => ?_) (fun b1 => ?_)
  · first
    | (exfalso; omega)
    | (refine w_push rfl ?_
       refine w_retI rfl ?_
       refine ⟨?_, rfl⟩
       unfold rowAt
       first | rw [if_pos (by omega)] | rw [if_neg (by omega)])
  · first
    | (exfalso; omega)
    | (refine w_ldI rfl rfl ?_
       refine w_ldR rfl rfl rfl ?_
       first | refine w_getI rfl rfl rfl rfl rfl ?_ | refine w_getR rfl rfl rfl rfl rfl ?_
       refine w_crGe rfl (by omega) (by omega) (fun b5 => ?_) (fun b5 => ?_)
       · first
         | (exfalso; omega)
         | (refine w_push rfl ?_
            refine w_retI rfl ?_
            refine ⟨?_, rfl⟩
            unfold rowAt
            first | rw [if_pos (by omega)] | rw [if_neg (by omega)])
       · first
         | (exfalso; omega)
         | (refine w_ldR rfl rfl rfl ?_
            first | refine w_getI rfl rfl rfl rfl rfl ?_ | refine w_getR rfl rfl rfl rfl rfl ?_
            refine w_ldI rfl rfl ?_
            refine w_ald rfl rfl rfl (by omega) rfl ?_
            refine w_go rfl ?_
            refine w_retI rfl ?_
            refine ⟨?_, rfl⟩
            unfold rowAt
            first | rw [if_pos (by omega)] | rw [if_neg (by omega)]))
theorem x_trace_y {d : Nat} {s : mSt} (hI : IvD s) {i : Int} (hri : -2147483648 ≤ i ∧ i < 2147483648) (hR : IvR s) (hy : 0 ≤ i ∧ i < s 146 21) : CI (d + 1) 129 [.inr (.inr 10), .inl i] (s) (fun r s1 => r = s 159 i.toNat ∧ s1 = s) := by
  refine CI.mk rfl ?_
  show WP (d + 1) 129 0 [some (.inr (.inr 10)), some (.inl i)] [] (encA (s)) _
  have hI0 := hI
  obtain ⟨⟨hM, hC, hN⟩, hV, h8⟩ := hI
  have hV0 := hV
  have hM0 := hM
  obtain ⟨vc, vpl, vga, vse, vne, veg, vre, vtu, vta, vwa, v36, v37, v39, v40, v42, v41, v43, v44, vl0, vl1, vlm⟩ := hV
  obtain ⟨hM39, hM40, hM41, hM43, hM44, hM36, hM37, hM38, hMc, hMw, hMp, hMt, hMb⟩ := hM
  obtain ⟨hR1, hR2, hR3⟩ := hR
  refine w_ldR rfl rfl rfl ?_
  first | refine w_getI rfl rfl rfl rfl rfl ?_ | refine w_getR rfl rfl rfl rfl rfl ?_
  refine w_ldI rfl rfl ?_
  refine w_callV rfl rfl rfl rfl rfl rfl rfl (k_has11 (by omega) (by omega)) ?_
  refine w_bEq0 rfl (fun b4 => ?_) (fun b4 => ?_)
  · first
    | (exfalso; omega)
    | (refine w_ldR rfl rfl rfl ?_
       refine w_push rfl ?_
       refine w_callWI rfl rfl rfl rfl rfl rfl rfl k_error2 (fun v12 s12 p12 => ?_)
       obtain ⟨rfl, rfl⟩ := p12
       refine w_retI rfl ?_
       exact ⟨by unfold rowAt; rw [if_pos (by omega)]; exact hR3 i (by omega) (by omega), rfl⟩)
  · first
    | (exfalso; omega)
    | (refine w_ldR rfl rfl rfl ?_
       first | refine w_getI rfl rfl rfl rfl rfl ?_ | refine w_getR rfl rfl rfl rfl rfl ?_
       refine w_ldI rfl rfl ?_
       refine w_callV rfl rfl rfl rfl rfl rfl rfl (k_at11 (by omega) (by omega)) ?_
       refine w_go rfl ?_
       refine w_retI rfl ?_
       exact ⟨by unfold rowAt; rw [if_pos (by omega)]; exact hR3 i (by omega) (by omega), rfl⟩)
theorem x_trace_n {d : Nat} {s : mSt} (hI : IvD s) {i : Int} (hri : -2147483648 ≤ i ∧ i < 2147483648) (hR : IvR s) (hy : ¬ (0 ≤ i ∧ i < s 146 21)) : CI (d + 1) 129 [.inr (.inr 10), .inl i] (s) (fun r s1 => r = -1000000000 - 2 ∧ s1 = us s 132 2 (s 132 2 + 1)) := by
  refine CI.mk rfl ?_
  show WP (d + 1) 129 0 [some (.inr (.inr 10)), some (.inl i)] [] (encA (s)) _
  have hI0 := hI
  obtain ⟨⟨hM, hC, hN⟩, hV, h8⟩ := hI
  have hV0 := hV
  have hM0 := hM
  obtain ⟨vc, vpl, vga, vse, vne, veg, vre, vtu, vta, vwa, v36, v37, v39, v40, v42, v41, v43, v44, vl0, vl1, vlm⟩ := hV
  obtain ⟨hM39, hM40, hM41, hM43, hM44, hM36, hM37, hM38, hMc, hMw, hMp, hMt, hMb⟩ := hM
  obtain ⟨hR1, hR2, hR3⟩ := hR
  refine w_ldR rfl rfl rfl ?_
  first | refine w_getI rfl rfl rfl rfl rfl ?_ | refine w_getR rfl rfl rfl rfl rfl ?_
  refine w_ldI rfl rfl ?_
  refine w_callV rfl rfl rfl rfl rfl rfl rfl (k_has11 (by omega) (by omega)) ?_
  refine w_bEq0 rfl (fun b4 => ?_) (fun b4 => ?_)
  · first
    | (exfalso; omega)
    | (refine w_ldR rfl rfl rfl ?_
       refine w_push rfl ?_
       refine w_callWI rfl rfl rfl rfl rfl rfl rfl k_error2 (fun v12 s12 p12 => ?_)
       obtain ⟨rfl, rfl⟩ := p12
       refine w_retI rfl ?_
       exact ⟨rfl, rfl⟩)
  · first
    | (exfalso; omega)
    | (refine w_ldR rfl rfl rfl ?_
       first | refine w_getI rfl rfl rfl rfl rfl ?_ | refine w_getR rfl rfl rfl rfl rfl ?_
       refine w_ldI rfl rfl ?_
       refine w_callV rfl rfl rfl rfl rfl rfl rfl (k_at11 (by omega) (by omega)) ?_
       refine w_go rfl ?_
       refine w_retI rfl ?_
       exact ⟨rfl, rfl⟩)
theorem m_trace_y {d : Nat} {s : mSt} {D : Nat → Int} (hD : s 147 = D) (hM : MOk D) (hC : COk D) {i : Int} (hri : -2147483648 ≤ i ∧ i < 2147483648) (h21 : 0 ≤ s 146 21 ∧ s 146 21 ≤ 40) (hy : 0 ≤ i ∧ i < s 146 21) : CI (d + 1) 252 [.inr (.inr 146), .inl i] (s) (fun r s1 => r = s 159 i.toNat ∧ s1 = s) := by
  refine CI.mk rfl ?_
  show WP (d + 1) 252 0 [some (.inr (.inr 146)), some (.inl i)] [] (encA (s)) _
  have hM0 := hM
  obtain ⟨hM39, hM40, hM41, hM43, hM44, hM36, hM37, hM38, hMc, hMw, hMp, hMt, hMb⟩ := hM
  refine w_ldI rfl rfl ?_
  refine w_i2lr rfl (by omega) ?_
  refine w_push rfl ?_
  refine w_ldR rfl rfl rfl ?_
  first | refine w_getI rfl rfl rfl rfl rfl ?_ | refine w_getR rfl rfl rfl rfl rfl ?_
  try simp only [hD]
  refine w_push rfl ?_
  refine w_sub rfl ?_
  refine w_i2lr rfl (by omega) ?_
  refine w_call rfl rfl rfl (r_in (by omega) (by omega) (by omega)) ?_
  try simp only [hD]
  refine w_bEq0 rfl (fun b9 => ?_) (fun b9 => ?_)
  · first
    | (exfalso; omega)
    | (refine w_ldR rfl rfl rfl ?_
       refine w_push rfl ?_
       refine w_callV rfl rfl rfl rfl rfl rfl rfl r_finds2 ?_
       try simp only [hD]
       refine w_retI rfl ?_
       exact ⟨rfl, rfl⟩)
  · first
    | (exfalso; omega)
    | (refine w_ldR rfl rfl rfl ?_
       first | refine w_getI rfl rfl rfl rfl rfl ?_ | refine w_getR rfl rfl rfl rfl rfl ?_
       try simp only [hD]
       refine w_ldI rfl rfl ?_
       refine w_ald rfl rfl rfl (by omega) rfl ?_
       try simp only [hD]
       refine w_go rfl ?_
       refine w_retI rfl ?_
       exact ⟨rfl, rfl⟩)
theorem m_trace_n {d : Nat} {s : mSt} {D : Nat → Int} (hD : s 147 = D) (hM : MOk D) (hC : COk D) {i : Int} (hri : -2147483648 ≤ i ∧ i < 2147483648) (h21 : 0 ≤ s 146 21 ∧ s 146 21 ≤ 40) (hy : ¬ (0 ≤ i ∧ i < s 146 21)) : CI (d + 1) 252 [.inr (.inr 146), .inl i] (s) (fun r s1 => r = -1000000000 - 2 ∧ s1 = us s 150 2 (s 150 2 + 1)) := by
  refine CI.mk rfl ?_
  show WP (d + 1) 252 0 [some (.inr (.inr 146)), some (.inl i)] [] (encA (s)) _
  have hM0 := hM
  obtain ⟨hM39, hM40, hM41, hM43, hM44, hM36, hM37, hM38, hMc, hMw, hMp, hMt, hMb⟩ := hM
  refine w_ldI rfl rfl ?_
  refine w_i2lr rfl (by omega) ?_
  refine w_push rfl ?_
  refine w_ldR rfl rfl rfl ?_
  first | refine w_getI rfl rfl rfl rfl rfl ?_ | refine w_getR rfl rfl rfl rfl rfl ?_
  try simp only [hD]
  refine w_push rfl ?_
  refine w_sub rfl ?_
  refine w_i2lr rfl (by omega) ?_
  refine w_call rfl rfl rfl (r_in (by omega) (by omega) (by omega)) ?_
  try simp only [hD]
  refine w_bEq0 rfl (fun b9 => ?_) (fun b9 => ?_)
  · first
    | (exfalso; omega)
    | (refine w_ldR rfl rfl rfl ?_
       refine w_push rfl ?_
       refine w_callV rfl rfl rfl rfl rfl rfl rfl r_finds2 ?_
       try simp only [hD]
       refine w_retI rfl ?_
       exact ⟨rfl, rfl⟩)
  · first
    | (exfalso; omega)
    | (refine w_ldR rfl rfl rfl ?_
       first | refine w_getI rfl rfl rfl rfl rfl ?_ | refine w_getR rfl rfl rfl rfl rfl ?_
       try simp only [hD]
       refine w_ldI rfl rfl ?_
       refine w_ald rfl rfl rfl (by omega) rfl ?_
       try simp only [hD]
       refine w_go rfl ?_
       refine w_retI rfl ?_
       exact ⟨rfl, rfl⟩)
theorem st_trace {X : Nat → Int} {N : Int} {d : Nat} {s : mSt} {cnt : Int} (hI : Inv X N s cnt) {i : Int} (hri : -2147483648 ≤ i ∧ i < 2147483648) : Step X N (d + 150) s cnt 129 252 [.inl i] := by
  have hI0 := hI
  obtain ⟨hD, -, -, -, -, hT, -, hX, hU⟩ := hI
  have hD0 := hD
  obtain ⟨⟨hM, hC, hN⟩, hV, h8⟩ := hD
  have hV0 := hV
  have hM0 := hM
  obtain ⟨vc, vpl, vga, vse, vne, veg, vre, vtu, vta, vwa, v36, v37, v39, v40, v42, v41, v43, v44, vl0, vl1, vlm⟩ := hV
  obtain ⟨hM39, hM40, hM41, hM43, hM44, hM36, hM37, hM38, hMc, hMw, hMp, hMt, hMb⟩ := hM
  have hR := hI0.2.2.2.1
  by_cases hy : 0 ≤ i ∧ i < s 146 21
  · obtain ⟨r1, s1, k1, hr, rfl⟩ := x_trace_y (d := d + 149) hD0 hri hR hy
    obtain ⟨r2, s2, k2, hr2, rfl⟩ := m_trace_y (d := d + 149) (s := s1) rfl hM0 hC hri hR.2.1 hy
    exact Step.mk (by first | exact ⟨(f1.at 1 rfl).trans hX.2.1, (congrFun (f1.at 0 rfl) 1).trans hX.2.2⟩ | exact ⟨hX.2.1, hX.2.2⟩ | exact ⟨by rw [hs1, us_ne (by decide)]; exact hX.2.1, by rw [hs1, us_ne (by decide)]; exact hX.2.2⟩ | exact ⟨by rw [hs1, us_ne (by decide), us_ne (by decide)]; exact hX.2.1, by rw [hs1, us_ne (by decide), us_ne (by decide)]; exact hX.2.2⟩ | exact ⟨by rw [e1, us_ne (by decide), f1.at 1 rfl]; exact hX.2.1, by rw [e1, us_ne (by decide), f1.at 0 rfl]; exact hX.2.2⟩ | exact ⟨by rw [ft.at 1 rfl, hx 1 (by decide) (by decide)]; exact hX.2.1, by rw [ft.at 0 rfl, et, newL_0, mup_ne (by decide)]; exact hX.2.2⟩) k1 k2 (by rw [hr, hr2]) (hI0.scr (by omega) Fr.rf)
  · obtain ⟨r1, s1, k1, hr, hs1⟩ := x_trace_n (d := d + 149) hD0 hri hR hy
    have e : s1 147 = s 147 := by rw [hs1]; exact us_ne (by decide)
    obtain ⟨r2, s2, k2, hr2, hs2⟩ := m_trace_n (d := d + 149) (s := s1) e hM0 hC hri (by rw [hs1, us_ne (by decide)]; exact hR.2.1) (by rw [hs1, us_ne (by decide)]; exact hy)
    rw [hs2] at k2
    exact Step.mk (by first | exact ⟨(f1.at 1 rfl).trans hX.2.1, (congrFun (f1.at 0 rfl) 1).trans hX.2.2⟩ | exact ⟨hX.2.1, hX.2.2⟩ | exact ⟨by rw [hs1, us_ne (by decide)]; exact hX.2.1, by rw [hs1, us_ne (by decide)]; exact hX.2.2⟩ | exact ⟨by rw [hs1, us_ne (by decide), us_ne (by decide)]; exact hX.2.1, by rw [hs1, us_ne (by decide), us_ne (by decide)]; exact hX.2.2⟩ | exact ⟨by rw [e1, us_ne (by decide), f1.at 1 rfl]; exact hX.2.1, by rw [e1, us_ne (by decide), f1.at 0 rfl]; exact hX.2.2⟩ | exact ⟨by rw [ft.at 1 rfl, hx 1 (by decide) (by decide)]; exact hX.2.1, by rw [ft.at 0 rfl, et, newL_0, mup_ne (by decide)]; exact hX.2.2⟩) k1 k2 (by rw [hr, hr2]) (hI0.err2 hs1)
def eaF (D : Nat → Int) : Int := sumT (fun p => D (69 + 4 * p + 2)) (D 40).toNat + sumT (fun w => D (45 + 4 * w + 3)) (D 39).toNat
def cnF (D : Nat → Int) (t k : Int) : Int := if k = 0 then D 38 else if k = 1 then D 39 else if k = 2 then D 40 else if k = 3 then D 41 else if k = 4 then roF D else if k = 5 then eaF D else if k = 6 then D 36 else if k = 7 then D 43 else if k = 8 then D 44 else if k = 9 then t else D 42
theorem l_eall2 {d : Nat} {s : mSt} {P : Int → mSt → Prop} {D : Nat → Int} (k : Nat) (i m : Int) (hi : i = (k : Int)) (hm : m = sumT (fun p => D (69 + 4 * p + 2)) (D 40).toNat + sumT (fun w => D (45 + 4 * w + 3)) k) (hV : VN13 s D) (hM : MOk D) (hk : (k : Int) ≤ D 39) (hP : P (eaF D) s) : WP (d + 0) 94 19 [some (.inr (.inr 13)), some (.inl m), some (.inl i)] [] (encA (s)) (QI P) := by
  subst hi
  subst hm
  have hV0 := hV
  have h4 := hM.1
  obtain ⟨vc, vpl, vga, vse, vne, veg, vre, vtu, vta, vwa, v36, v37, v39, v40, v42, v41, v43, v44, vl0, vl1, vlm⟩ := hV
  refine w_ldI rfl rfl ?_
  refine w_ldR rfl rfl rfl ?_
  first | refine w_getI rfl rfl rfl rfl rfl ?_ | refine w_getR rfl rfl rfl rfl rfl ?_
  rw [v39]
  refine w_crGe rfl (by omega) (by omega) (fun b22 => ?_) (fun b22 => ?_)
  · first
    | (exfalso; omega)
    | (refine w_ldI rfl rfl ?_
       refine w_retI rfl ?_
       have e : k = (D 39).toNat := by omega
       subst e
       exact hP)
  · first
    | (exfalso; omega)
    | (refine w_ldI rfl rfl ?_
       refine w_ldR rfl rfl rfl ?_
       first | refine w_getI rfl rfl rfl rfl rfl ?_ | refine w_getR rfl rfl rfl rfl rfl ?_
       refine w_ldI rfl rfl ?_
       refine w_ald rfl rfl rfl (by omega) rfl ?_
       rw [vga _ (by omega) (by omega)]
       refine w_add rfl ?_
       refine w_StI_3_1 rfl rfl ?_
       refine w_inc_3_2 rfl rfl ?_
       refine w_go rfl ?_
       exact l_eall2 (k + 1) ((k : Int) + 1) _ (by omega) (by simp only [sumT]; rw [show (45 + 4 * (k : Int) + 3).toNat = 45 + 4 * k + 3 by omega]; omega) hV0 hM (by omega) hP)
termination_by ((D 39).toNat - k)
decreasing_by all_goals omega
theorem l_eall1 {d : Nat} {s : mSt} {P : Int → mSt → Prop} {D : Nat → Int} (k : Nat) (i m : Int) (hi : i = (k : Int)) (hm : m = sumT (fun p => D (69 + 4 * p + 2)) k) (hV : VN13 s D) (hM : MOk D) (hk : (k : Int) ≤ D 40) (hP : P (eaF D) s) : WP (d + 0) 94 4 [some (.inr (.inr 13)), some (.inl m), some (.inl i)] [] (encA (s)) (QI P) := by
  subst hi
  subst hm
  have hV0 := hV
  have h4 := hM.2.1
  have h3 := hM.1
  obtain ⟨vc, vpl, vga, vse, vne, veg, vre, vtu, vta, vwa, v36, v37, v39, v40, v42, v41, v43, v44, vl0, vl1, vlm⟩ := hV
  refine w_ldI rfl rfl ?_
  refine w_ldR rfl rfl rfl ?_
  first | refine w_getI rfl rfl rfl rfl rfl ?_ | refine w_getR rfl rfl rfl rfl rfl ?_
  rw [v40]
  refine w_crGe rfl (by omega) (by omega) (fun b7 => ?_) (fun b7 => ?_)
  · first
    | (exfalso; omega)
    | (refine w_push rfl ?_
       refine w_StI_3_2 rfl rfl ?_
       have e : k = (D 40).toNat := by omega
       subst e
       exact l_eall2 0 0 (sumT (fun p => D (69 + 4 * p + 2)) (D 40).toNat) rfl (by simp only [sumT]; omega) hV0 hM (by omega) hP)
  · first
    | (exfalso; omega)
    | (refine w_ldI rfl rfl ?_
       refine w_ldR rfl rfl rfl ?_
       first | refine w_getI rfl rfl rfl rfl rfl ?_ | refine w_getR rfl rfl rfl rfl rfl ?_
       refine w_ldI rfl rfl ?_
       refine w_ald rfl rfl rfl (by omega) rfl ?_
       rw [veg _ (by omega) (by omega)]
       refine w_add rfl ?_
       refine w_StI_3_1 rfl rfl ?_
       refine w_inc_3_2 rfl rfl ?_
       refine w_go rfl ?_
       exact l_eall1 (k + 1) ((k : Int) + 1) _ (by omega) (by simp only [sumT]; rw [show (69 + 4 * (k : Int) + 2).toNat = 69 + 4 * k + 2 by omega]) hV0 hM (by omega) hP)
termination_by ((D 40).toNat - k)
decreasing_by all_goals omega
theorem k_eall {d : Nat} {s : mSt} {D : Nat → Int} (hV : VN13 s D) (hM : MOk D) : Call (d + 0) 94 [.inr (.inr 13)] (encA (s)) (some (.inl (eaF D))) (encA (s)) := by
  refine CI.ex (CI.mk rfl ?_)
  show WP (d + 0) 94 0 [some (.inr (.inr 13)), none, none] [] (encA (s)) _
  have h4 := hM.2.1
  refine w_push rfl ?_
  refine w_StI_3_1 rfl rfl ?_
  refine w_push rfl ?_
  refine w_StI_3_2 rfl rfl ?_
  exact l_eall1 0 0 0 rfl rfl hV hM (by omega) ⟨rfl, rfl⟩
theorem l_mea2 {d : Nat} {s : mSt} {P : Int → mSt → Prop} {D : Nat → Int} (k : Nat) (i m : Int) (hi : i = (k : Int)) (hm : m = sumT (fun p => D (69 + 4 * p + 2)) (D 40).toNat + sumT (fun w => D (45 + 4 * w + 3)) k) (hD : s 147 = D) (hM : MOk D) (hk : (k : Int) ≤ D 39) (hP : P (eaF D) s) : WP (d + 1) 263 21 [some (.inr (.inr 146)), some (.inl m), some (.inl i)] [] (encA (s)) (QI P) := by
  subst hi
  subst hm
  have h4 := hM.1
  refine w_ldI rfl rfl ?_
  refine w_ldR rfl rfl rfl ?_
  first | refine w_getI rfl rfl rfl rfl rfl ?_ | refine w_getR rfl rfl rfl rfl rfl ?_
  try simp only [hD]
  refine w_push rfl ?_
  refine w_aldk 39 rfl rfl rfl rfl rfl rfl ?_
  try simp only [hD]
  refine w_crGe rfl (by omega) (by omega) (fun b26 => ?_) (fun b26 => ?_)
  · first
    | (exfalso; omega)
    | (refine w_ldI rfl rfl ?_
       refine w_retI rfl ?_
       have e : k = (D 39).toNat := by omega
       subst e
       exact hP)
  · first
    | (exfalso; omega)
    | (refine w_ldI rfl rfl ?_
       refine w_ldR rfl rfl rfl ?_
       refine w_ldI rfl rfl ?_
       refine w_push rfl ?_
       refine w_callV rfl rfl rfl rfl rfl rfl rfl (r_ofIt (by omega) (by omega)) ?_
       try simp only [hD]
       refine w_add rfl ?_
       refine w_StI_3_1 rfl rfl ?_
       refine w_inc_3_2 rfl rfl ?_
       refine w_go rfl ?_
       exact l_mea2 (k + 1) ((k : Int) + 1) _ (by omega) (by simp only [sumT]; rw [show (45 + 4 * (k : Int) + 3).toNat = 45 + 4 * k + 3 by omega]; omega) hD hM (by omega) hP)
termination_by ((D 39).toNat - k)
decreasing_by all_goals omega
theorem l_mea1 {d : Nat} {s : mSt} {P : Int → mSt → Prop} {D : Nat → Int} (k : Nat) (i m : Int) (hi : i = (k : Int)) (hm : m = sumT (fun p => D (69 + 4 * p + 2)) k) (hD : s 147 = D) (hM : MOk D) (hk : (k : Int) ≤ D 40) (hP : P (eaF D) s) : WP (d + 1) 263 4 [some (.inr (.inr 146)), some (.inl m), some (.inl i)] [] (encA (s)) (QI P) := by
  subst hi
  subst hm
  have h4 := hM.2.1
  have h3 := hM.1
  refine w_ldI rfl rfl ?_
  refine w_ldR rfl rfl rfl ?_
  first | refine w_getI rfl rfl rfl rfl rfl ?_ | refine w_getR rfl rfl rfl rfl rfl ?_
  try simp only [hD]
  refine w_push rfl ?_
  refine w_aldk 40 rfl rfl rfl rfl rfl rfl ?_
  try simp only [hD]
  refine w_crGe rfl (by omega) (by omega) (fun b9 => ?_) (fun b9 => ?_)
  · first
    | (exfalso; omega)
    | (refine w_push rfl ?_
       refine w_StI_3_2 rfl rfl ?_
       have e : k = (D 40).toNat := by omega
       subst e
       exact l_mea2 0 0 (sumT (fun p => D (69 + 4 * p + 2)) (D 40).toNat) rfl (by simp only [sumT]; omega) hD hM (by omega) hP)
  · first
    | (exfalso; omega)
    | (refine w_ldI rfl rfl ?_
       refine w_ldR rfl rfl rfl ?_
       refine w_ldI rfl rfl ?_
       refine w_push rfl ?_
       refine w_callV rfl rfl rfl rfl rfl rfl rfl (r_ofOne (by omega) (by omega)) ?_
       try simp only [hD]
       refine w_add rfl ?_
       refine w_StI_3_1 rfl rfl ?_
       refine w_inc_3_2 rfl rfl ?_
       refine w_go rfl ?_
       exact l_mea1 (k + 1) ((k : Int) + 1) _ (by omega) (by simp only [sumT]; rw [show (69 + 4 * (k : Int) + 2).toNat = 69 + 4 * k + 2 by omega]) hD hM (by omega) hP)
termination_by ((D 40).toNat - k)
decreasing_by all_goals omega
theorem c_allEggs {d : Nat} {s : mSt} {D : Nat → Int} (hD : s 147 = D) (hM : MOk D) : Call (d + 1) 263 [.inr (.inr 146)] (encA (s)) (some (.inl (eaF D))) (encA (s)) := by
  refine CI.ex (CI.mk rfl ?_)
  show WP (d + 1) 263 0 [some (.inr (.inr 146)), none, none] [] (encA (s)) _
  have h4 := hM.2.1
  refine w_push rfl ?_
  refine w_StI_3_1 rfl rfl ?_
  refine w_push rfl ?_
  refine w_StI_3_2 rfl rfl ?_
  exact l_mea1 0 0 0 rfl rfl hD hM (by omega) ⟨rfl, rfl⟩
theorem x_count_y {d : Nat} {s : mSt} (hI : IvD s) {k : Int} (hrk : -2147483648 ≤ k ∧ k < 2147483648) (hy : 0 ≤ k ∧ k ≤ 10) (hR : s 11 1 = s 146 21) : CI (d + 1) 139 [.inr (.inr 10), .inl k] (s) (fun r s1 => r = cnF (s 147) (s 146 21) k ∧ s1 = s) := by
  refine CI.mk rfl ?_
  show WP (d + 1) 139 0 [some (.inr (.inr 10)), some (.inl k)] [] (encA (s)) _
  have hI0 := hI
  obtain ⟨⟨hM, hC, hN⟩, hV, h8⟩ := hI
  have hV0 := hV
  have hM0 := hM
  obtain ⟨vc, vpl, vga, vse, vne, veg, vre, vtu, vta, vwa, v36, v37, v39, v40, v42, v41, v43, v44, vl0, vl1, vlm⟩ := hV
  obtain ⟨hM39, hM40, hM41, hM43, hM44, hM36, hM37, hM38, hMc, hMw, hMp, hMt, hMb⟩ := hM
  refine w_ldI rfl rfl ?_
  obtain b1 | b1 | b1 | b1 | b1 | b1 | b1 | b1 | b1 | b1 | b1 | b1 := (by omega : k = 0 ∨ k = 1 ∨ k = 2 ∨ k = 3 ∨ k = 4 ∨ k = 5 ∨ k = 6 ∨ k = 7 ∨ k = 8 ∨ k = 9 ∨ k = 10 ∨ (k < 0 ∨ 11 ≤ k))
  · first
    | (exfalso; omega)
    | (refine w_sw (tg := 2) rfl (by rw [w32_id (by omega) (by omega), b1]; rfl) ?_
       refine w_ldR rfl rfl rfl ?_
       first | refine w_getI rfl rfl rfl rfl rfl ?_ | refine w_getR rfl rfl rfl rfl rfl ?_
       first | refine w_getI rfl rfl rfl rfl rfl ?_ | refine w_getR rfl rfl rfl rfl rfl ?_
       refine w_retI rfl ?_
       (try rw [h8])
       (try rw [v39])
       (try rw [v40])
       (try rw [v41])
       (try rw [v36])
       (try rw [v43])
       (try rw [v44])
       (try rw [v42])
       (try rw [hR])
       first
       | (rw [b1]; exact ⟨rfl, rfl⟩)
       | (exfalso; omega))
  · first
    | (exfalso; omega)
    | (refine w_sw (tg := 6) rfl (by rw [w32_id (by omega) (by omega), b1]; rfl) ?_
       refine w_ldR rfl rfl rfl ?_
       first | refine w_getI rfl rfl rfl rfl rfl ?_ | refine w_getR rfl rfl rfl rfl rfl ?_
       first | refine w_getI rfl rfl rfl rfl rfl ?_ | refine w_getR rfl rfl rfl rfl rfl ?_
       refine w_retI rfl ?_
       (try rw [h8])
       (try rw [v39])
       (try rw [v40])
       (try rw [v41])
       (try rw [v36])
       (try rw [v43])
       (try rw [v44])
       (try rw [v42])
       (try rw [hR])
       first
       | (rw [b1]; exact ⟨rfl, rfl⟩)
       | (exfalso; omega))
  · first
    | (exfalso; omega)
    | (refine w_sw (tg := 10) rfl (by rw [w32_id (by omega) (by omega), b1]; rfl) ?_
       refine w_ldR rfl rfl rfl ?_
       first | refine w_getI rfl rfl rfl rfl rfl ?_ | refine w_getR rfl rfl rfl rfl rfl ?_
       first | refine w_getI rfl rfl rfl rfl rfl ?_ | refine w_getR rfl rfl rfl rfl rfl ?_
       refine w_retI rfl ?_
       (try rw [h8])
       (try rw [v39])
       (try rw [v40])
       (try rw [v41])
       (try rw [v36])
       (try rw [v43])
       (try rw [v44])
       (try rw [v42])
       (try rw [hR])
       first
       | (rw [b1]; exact ⟨rfl, rfl⟩)
       | (exfalso; omega))
  · first
    | (exfalso; omega)
    | (refine w_sw (tg := 14) rfl (by rw [w32_id (by omega) (by omega), b1]; rfl) ?_
       refine w_ldR rfl rfl rfl ?_
       first | refine w_getI rfl rfl rfl rfl rfl ?_ | refine w_getR rfl rfl rfl rfl rfl ?_
       first | refine w_getI rfl rfl rfl rfl rfl ?_ | refine w_getR rfl rfl rfl rfl rfl ?_
       first | refine w_getI rfl rfl rfl rfl rfl ?_ | refine w_getR rfl rfl rfl rfl rfl ?_
       refine w_retI rfl ?_
       (try rw [h8])
       (try rw [v39])
       (try rw [v40])
       (try rw [v41])
       (try rw [v36])
       (try rw [v43])
       (try rw [v44])
       (try rw [v42])
       (try rw [hR])
       first
       | (rw [b1]; exact ⟨rfl, rfl⟩)
       | (exfalso; omega))
  · first
    | (exfalso; omega)
    | (refine w_sw (tg := 19) rfl (by rw [w32_id (by omega) (by omega), b1]; rfl) ?_
       refine w_ldR rfl rfl rfl ?_
       first | refine w_getI rfl rfl rfl rfl rfl ?_ | refine w_getR rfl rfl rfl rfl rfl ?_
       refine w_callV rfl rfl rfl rfl rfl rfl rfl (k_rall13 hV0 hM0) ?_
       refine w_retI rfl ?_
       (try rw [h8])
       (try rw [v39])
       (try rw [v40])
       (try rw [v41])
       (try rw [v36])
       (try rw [v43])
       (try rw [v44])
       (try rw [v42])
       (try rw [hR])
       first
       | (rw [b1]; exact ⟨rfl, rfl⟩)
       | (exfalso; omega))
  · first
    | (exfalso; omega)
    | (refine w_sw (tg := 23) rfl (by rw [w32_id (by omega) (by omega), b1]; rfl) ?_
       refine w_ldR rfl rfl rfl ?_
       first | refine w_getI rfl rfl rfl rfl rfl ?_ | refine w_getR rfl rfl rfl rfl rfl ?_
       refine w_callV rfl rfl rfl rfl rfl rfl rfl (k_eall hV0 hM0) ?_
       refine w_retI rfl ?_
       (try rw [h8])
       (try rw [v39])
       (try rw [v40])
       (try rw [v41])
       (try rw [v36])
       (try rw [v43])
       (try rw [v44])
       (try rw [v42])
       (try rw [hR])
       first
       | (rw [b1]; exact ⟨rfl, rfl⟩)
       | (exfalso; omega))
  · first
    | (exfalso; omega)
    | (refine w_sw (tg := 27) rfl (by rw [w32_id (by omega) (by omega), b1]; rfl) ?_
       refine w_ldR rfl rfl rfl ?_
       first | refine w_getI rfl rfl rfl rfl rfl ?_ | refine w_getR rfl rfl rfl rfl rfl ?_
       first | refine w_getI rfl rfl rfl rfl rfl ?_ | refine w_getR rfl rfl rfl rfl rfl ?_
       refine w_retI rfl ?_
       (try rw [h8])
       (try rw [v39])
       (try rw [v40])
       (try rw [v41])
       (try rw [v36])
       (try rw [v43])
       (try rw [v44])
       (try rw [v42])
       (try rw [hR])
       first
       | (rw [b1]; exact ⟨rfl, rfl⟩)
       | (exfalso; omega))
  · first
    | (exfalso; omega)
    | (refine w_sw (tg := 31) rfl (by rw [w32_id (by omega) (by omega), b1]; rfl) ?_
       refine w_ldR rfl rfl rfl ?_
       first | refine w_getI rfl rfl rfl rfl rfl ?_ | refine w_getR rfl rfl rfl rfl rfl ?_
       first | refine w_getI rfl rfl rfl rfl rfl ?_ | refine w_getR rfl rfl rfl rfl rfl ?_
       first | refine w_getI rfl rfl rfl rfl rfl ?_ | refine w_getR rfl rfl rfl rfl rfl ?_
       refine w_retI rfl ?_
       (try rw [h8])
       (try rw [v39])
       (try rw [v40])
       (try rw [v41])
       (try rw [v36])
       (try rw [v43])
       (try rw [v44])
       (try rw [v42])
       (try rw [hR])
       first
       | (rw [b1]; exact ⟨rfl, rfl⟩)
       | (exfalso; omega))
  · first
    | (exfalso; omega)
    | (refine w_sw (tg := 36) rfl (by rw [w32_id (by omega) (by omega), b1]; rfl) ?_
       refine w_ldR rfl rfl rfl ?_
       first | refine w_getI rfl rfl rfl rfl rfl ?_ | refine w_getR rfl rfl rfl rfl rfl ?_
       first | refine w_getI rfl rfl rfl rfl rfl ?_ | refine w_getR rfl rfl rfl rfl rfl ?_
       first | refine w_getI rfl rfl rfl rfl rfl ?_ | refine w_getR rfl rfl rfl rfl rfl ?_
       refine w_retI rfl ?_
       (try rw [h8])
       (try rw [v39])
       (try rw [v40])
       (try rw [v41])
       (try rw [v36])
       (try rw [v43])
       (try rw [v44])
       (try rw [v42])
       (try rw [hR])
       first
       | (rw [b1]; exact ⟨rfl, rfl⟩)
       | (exfalso; omega))
  · first
    | (exfalso; omega)
    | (refine w_sw (tg := 41) rfl (by rw [w32_id (by omega) (by omega), b1]; rfl) ?_
       refine w_ldR rfl rfl rfl ?_
       first | refine w_getI rfl rfl rfl rfl rfl ?_ | refine w_getR rfl rfl rfl rfl rfl ?_
       first | refine w_getI rfl rfl rfl rfl rfl ?_ | refine w_getR rfl rfl rfl rfl rfl ?_
       refine w_retI rfl ?_
       (try rw [h8])
       (try rw [v39])
       (try rw [v40])
       (try rw [v41])
       (try rw [v36])
       (try rw [v43])
       (try rw [v44])
       (try rw [v42])
       (try rw [hR])
       first
       | (rw [b1]; exact ⟨rfl, rfl⟩)
       | (exfalso; omega))
  · first
    | (exfalso; omega)
    | (refine w_sw (tg := 45) rfl (by rw [w32_id (by omega) (by omega), b1]; rfl) ?_
       refine w_ldR rfl rfl rfl ?_
       first | refine w_getI rfl rfl rfl rfl rfl ?_ | refine w_getR rfl rfl rfl rfl rfl ?_
       first | refine w_getI rfl rfl rfl rfl rfl ?_ | refine w_getR rfl rfl rfl rfl rfl ?_
       refine w_retI rfl ?_
       (try rw [h8])
       (try rw [v39])
       (try rw [v40])
       (try rw [v41])
       (try rw [v36])
       (try rw [v43])
       (try rw [v44])
       (try rw [v42])
       (try rw [hR])
       first
       | (rw [b1]; exact ⟨rfl, rfl⟩)
       | (exfalso; omega))
  · first
    | (exfalso; omega)
    | (refine w_sw (tg := 49) rfl (mSwT_df (by rw [w32_id (by omega) (by omega)]; exact b1)) ?_
       refine w_ldR rfl rfl rfl ?_
       refine w_push rfl ?_
       refine w_callWI rfl rfl rfl rfl rfl rfl rfl k_error1 (fun v51 s51 p51 => ?_)
       obtain ⟨rfl, rfl⟩ := p51
       refine w_retI rfl ?_
       (try rw [h8])
       (try rw [v39])
       (try rw [v40])
       (try rw [v41])
       (try rw [v36])
       (try rw [v43])
       (try rw [v44])
       (try rw [v42])
       (try rw [hR])
       first
       | (rw [b1]; exact ⟨rfl, rfl⟩)
       | (exfalso; omega))
theorem x_count_n {d : Nat} {s : mSt} (hI : IvD s) {k : Int} (hrk : -2147483648 ≤ k ∧ k < 2147483648) (hy : ¬ (0 ≤ k ∧ k ≤ 10)) : CI (d + 1) 139 [.inr (.inr 10), .inl k] (s) (fun r s1 => r = -1000000000 - 1 ∧ s1 = us s 132 1 (s 132 1 + 1)) := by
  refine CI.mk rfl ?_
  show WP (d + 1) 139 0 [some (.inr (.inr 10)), some (.inl k)] [] (encA (s)) _
  have hI0 := hI
  obtain ⟨⟨hM, hC, hN⟩, hV, h8⟩ := hI
  have hV0 := hV
  have hM0 := hM
  obtain ⟨vc, vpl, vga, vse, vne, veg, vre, vtu, vta, vwa, v36, v37, v39, v40, v42, v41, v43, v44, vl0, vl1, vlm⟩ := hV
  obtain ⟨hM39, hM40, hM41, hM43, hM44, hM36, hM37, hM38, hMc, hMw, hMp, hMt, hMb⟩ := hM
  refine w_ldI rfl rfl ?_
  obtain b1 | b1 | b1 | b1 | b1 | b1 | b1 | b1 | b1 | b1 | b1 | b1 := (by omega : k = 0 ∨ k = 1 ∨ k = 2 ∨ k = 3 ∨ k = 4 ∨ k = 5 ∨ k = 6 ∨ k = 7 ∨ k = 8 ∨ k = 9 ∨ k = 10 ∨ (k < 0 ∨ 11 ≤ k))
  · first
    | (exfalso; omega)
    | (refine w_sw (tg := 2) rfl (by rw [w32_id (by omega) (by omega), b1]; rfl) ?_
       refine w_ldR rfl rfl rfl ?_
       first | refine w_getI rfl rfl rfl rfl rfl ?_ | refine w_getR rfl rfl rfl rfl rfl ?_
       first | refine w_getI rfl rfl rfl rfl rfl ?_ | refine w_getR rfl rfl rfl rfl rfl ?_
       refine w_retI rfl ?_
       exact ⟨rfl, rfl⟩)
  · first
    | (exfalso; omega)
    | (refine w_sw (tg := 6) rfl (by rw [w32_id (by omega) (by omega), b1]; rfl) ?_
       refine w_ldR rfl rfl rfl ?_
       first | refine w_getI rfl rfl rfl rfl rfl ?_ | refine w_getR rfl rfl rfl rfl rfl ?_
       first | refine w_getI rfl rfl rfl rfl rfl ?_ | refine w_getR rfl rfl rfl rfl rfl ?_
       refine w_retI rfl ?_
       exact ⟨rfl, rfl⟩)
  · first
    | (exfalso; omega)
    | (refine w_sw (tg := 10) rfl (by rw [w32_id (by omega) (by omega), b1]; rfl) ?_
       refine w_ldR rfl rfl rfl ?_
       first | refine w_getI rfl rfl rfl rfl rfl ?_ | refine w_getR rfl rfl rfl rfl rfl ?_
       first | refine w_getI rfl rfl rfl rfl rfl ?_ | refine w_getR rfl rfl rfl rfl rfl ?_
       refine w_retI rfl ?_
       exact ⟨rfl, rfl⟩)
  · first
    | (exfalso; omega)
    | (refine w_sw (tg := 14) rfl (by rw [w32_id (by omega) (by omega), b1]; rfl) ?_
       refine w_ldR rfl rfl rfl ?_
       first | refine w_getI rfl rfl rfl rfl rfl ?_ | refine w_getR rfl rfl rfl rfl rfl ?_
       first | refine w_getI rfl rfl rfl rfl rfl ?_ | refine w_getR rfl rfl rfl rfl rfl ?_
       first | refine w_getI rfl rfl rfl rfl rfl ?_ | refine w_getR rfl rfl rfl rfl rfl ?_
       refine w_retI rfl ?_
       exact ⟨rfl, rfl⟩)
  · first
    | (exfalso; omega)
    | (refine w_sw (tg := 19) rfl (by rw [w32_id (by omega) (by omega), b1]; rfl) ?_
       refine w_ldR rfl rfl rfl ?_
       first | refine w_getI rfl rfl rfl rfl rfl ?_ | refine w_getR rfl rfl rfl rfl rfl ?_
       refine w_callV rfl rfl rfl rfl rfl rfl rfl (k_rall13 hV0 hM0) ?_
       refine w_retI rfl ?_
       exact ⟨rfl, rfl⟩)
  · first
    | (exfalso; omega)
    | (refine w_sw (tg := 23) rfl (by rw [w32_id (by omega) (by omega), b1]; rfl) ?_
       refine w_ldR rfl rfl rfl ?_
       first | refine w_getI rfl rfl rfl rfl rfl ?_ | refine w_getR rfl rfl rfl rfl rfl ?_
       refine w_callV rfl rfl rfl rfl rfl rfl rfl (k_eall hV0 hM0) ?_
       refine w_retI rfl ?_
       exact ⟨rfl, rfl⟩)
  · first
    | (exfalso; omega)
    | (refine w_sw (tg := 27) rfl (by rw [w32_id (by omega) (by omega), b1]; rfl) ?_
       refine w_ldR rfl rfl rfl ?_
       first | refine w_getI rfl rfl rfl rfl rfl ?_ | refine w_getR rfl rfl rfl rfl rfl ?_
       first | refine w_getI rfl rfl rfl rfl rfl ?_ | refine w_getR rfl rfl rfl rfl rfl ?_
       refine w_retI rfl ?_
       exact ⟨rfl, rfl⟩)
  · first
    | (exfalso; omega)
    | (refine w_sw (tg := 31) rfl (by rw [w32_id (by omega) (by omega), b1]; rfl) ?_
       refine w_ldR rfl rfl rfl ?_
       first | refine w_getI rfl rfl rfl rfl rfl ?_ | refine w_getR rfl rfl rfl rfl rfl ?_
       first | refine w_getI rfl rfl rfl rfl rfl ?_ | refine w_getR rfl rfl rfl rfl rfl ?_
       first | refine w_getI rfl rfl rfl rfl rfl ?_ | refine w_getR rfl rfl rfl rfl rfl ?_
       refine w_retI rfl ?_
       exact ⟨rfl, rfl⟩)
  · first
    | (exfalso; omega)
    | (refine w_sw (tg := 36) rfl (by rw [w32_id (by omega) (by omega), b1]; rfl) ?_
       refine w_ldR rfl rfl rfl ?_
       first | refine w_getI rfl rfl rfl rfl rfl ?_ | refine w_getR rfl rfl rfl rfl rfl ?_
       first | refine w_getI rfl rfl rfl rfl rfl ?_ | refine w_getR rfl rfl rfl rfl rfl ?_
       first | refine w_getI rfl rfl rfl rfl rfl ?_ | refine w_getR rfl rfl rfl rfl rfl ?_
       refine w_retI rfl ?_
       exact ⟨rfl, rfl⟩)
  · first
    | (exfalso; omega)
    | (refine w_sw (tg := 41) rfl (by rw [w32_id (by omega) (by omega), b1]; rfl) ?_
       refine w_ldR rfl rfl rfl ?_
       first | refine w_getI rfl rfl rfl rfl rfl ?_ | refine w_getR rfl rfl rfl rfl rfl ?_
       first | refine w_getI rfl rfl rfl rfl rfl ?_ | refine w_getR rfl rfl rfl rfl rfl ?_
       refine w_retI rfl ?_
       exact ⟨rfl, rfl⟩)
  · first
    | (exfalso; omega)
    | (refine w_sw (tg := 45) rfl (by rw [w32_id (by omega) (by omega), b1]; rfl) ?_
       refine w_ldR rfl rfl rfl ?_
       first | refine w_getI rfl rfl rfl rfl rfl ?_ | refine w_getR rfl rfl rfl rfl rfl ?_
       first | refine w_getI rfl rfl rfl rfl rfl ?_ | refine w_getR rfl rfl rfl rfl rfl ?_
       refine w_retI rfl ?_
       exact ⟨rfl, rfl⟩)
  · first
    | (exfalso; omega)
    | (refine w_sw (tg := 49) rfl (mSwT_df (by rw [w32_id (by omega) (by omega)]; exact b1)) ?_
       refine w_ldR rfl rfl rfl ?_
       refine w_push rfl ?_
       refine w_callWI rfl rfl rfl rfl rfl rfl rfl k_error1 (fun v51 s51 p51 => ?_)
       obtain ⟨rfl, rfl⟩ := p51
       refine w_retI rfl ?_
       exact ⟨rfl, rfl⟩)
theorem m_count_y {d : Nat} {s : mSt} {D : Nat → Int} (hD : s 147 = D) (hM : MOk D) (hC : COk D) {k : Int} (hrk : -2147483648 ≤ k ∧ k < 2147483648) (hy : 0 ≤ k ∧ k ≤ 10) : CI (d + 2) 264 [.inr (.inr 146), .inl k] (s) (fun r s1 => r = cnF D (s 146 21) k ∧ s1 = s) := by
  refine CI.mk rfl ?_
  show WP (d + 2) 264 0 [some (.inr (.inr 146)), some (.inl k)] [] (encA (s)) _
  have hM0 := hM
  obtain ⟨hM39, hM40, hM41, hM43, hM44, hM36, hM37, hM38, hMc, hMw, hMp, hMt, hMb⟩ := hM
  refine w_ldI rfl rfl ?_
  obtain b1 | b1 | b1 | b1 | b1 | b1 | b1 | b1 | b1 | b1 | b1 | b1 := (by omega : k = 0 ∨ k = 1 ∨ k = 2 ∨ k = 3 ∨ k = 4 ∨ k = 5 ∨ k = 6 ∨ k = 7 ∨ k = 8 ∨ k = 9 ∨ k = 10 ∨ (k < 0 ∨ 11 ≤ k))
  · first
    | (exfalso; omega)
    | (refine w_sw (tg := 2) rfl (by rw [w32_id (by omega) (by omega), b1]; rfl) ?_
       refine w_ldR rfl rfl rfl ?_
       first | refine w_getI rfl rfl rfl rfl rfl ?_ | refine w_getR rfl rfl rfl rfl rfl ?_
       try simp only [hD]
       refine w_push rfl ?_
       refine w_aldk 38 rfl rfl rfl rfl rfl rfl ?_
       try simp only [hD]
       refine w_retI rfl ?_
       rw [b1]
       exact ⟨rfl, rfl⟩)
  · first
    | (exfalso; omega)
    | (refine w_sw (tg := 7) rfl (by rw [w32_id (by omega) (by omega), b1]; rfl) ?_
       refine w_ldR rfl rfl rfl ?_
       first | refine w_getI rfl rfl rfl rfl rfl ?_ | refine w_getR rfl rfl rfl rfl rfl ?_
       try simp only [hD]
       refine w_push rfl ?_
       refine w_aldk 39 rfl rfl rfl rfl rfl rfl ?_
       try simp only [hD]
       refine w_retI rfl ?_
       rw [b1]
       exact ⟨rfl, rfl⟩)
  · first
    | (exfalso; omega)
    | (refine w_sw (tg := 12) rfl (by rw [w32_id (by omega) (by omega), b1]; rfl) ?_
       refine w_ldR rfl rfl rfl ?_
       first | refine w_getI rfl rfl rfl rfl rfl ?_ | refine w_getR rfl rfl rfl rfl rfl ?_
       try simp only [hD]
       refine w_push rfl ?_
       refine w_aldk 40 rfl rfl rfl rfl rfl rfl ?_
       try simp only [hD]
       refine w_retI rfl ?_
       rw [b1]
       exact ⟨rfl, rfl⟩)
  · first
    | (exfalso; omega)
    | (refine w_sw (tg := 17) rfl (by rw [w32_id (by omega) (by omega), b1]; rfl) ?_
       refine w_ldR rfl rfl rfl ?_
       first | refine w_getI rfl rfl rfl rfl rfl ?_ | refine w_getR rfl rfl rfl rfl rfl ?_
       try simp only [hD]
       refine w_push rfl ?_
       refine w_aldk 41 rfl rfl rfl rfl rfl rfl ?_
       try simp only [hD]
       refine w_retI rfl ?_
       rw [b1]
       exact ⟨rfl, rfl⟩)
  · first
    | (exfalso; omega)
    | (refine w_sw (tg := 22) rfl (by rw [w32_id (by omega) (by omega), b1]; rfl) ?_
       refine w_ldR rfl rfl rfl ?_
       refine w_callV rfl rfl rfl rfl rfl rfl rfl (c_readOfAll hD hM0) ?_
       try simp only [hD]
       refine w_retI rfl ?_
       rw [b1]
       exact ⟨rfl, rfl⟩)
  · first
    | (exfalso; omega)
    | (refine w_sw (tg := 25) rfl (by rw [w32_id (by omega) (by omega), b1]; rfl) ?_
       refine w_ldR rfl rfl rfl ?_
       refine w_callV rfl rfl rfl rfl rfl rfl rfl (c_allEggs hD hM0) ?_
       try simp only [hD]
       refine w_retI rfl ?_
       rw [b1]
       exact ⟨rfl, rfl⟩)
  · first
    | (exfalso; omega)
    | (refine w_sw (tg := 28) rfl (by rw [w32_id (by omega) (by omega), b1]; rfl) ?_
       refine w_ldR rfl rfl rfl ?_
       first | refine w_getI rfl rfl rfl rfl rfl ?_ | refine w_getR rfl rfl rfl rfl rfl ?_
       try simp only [hD]
       refine w_push rfl ?_
       refine w_aldk 36 rfl rfl rfl rfl rfl rfl ?_
       try simp only [hD]
       refine w_retI rfl ?_
       rw [b1]
       exact ⟨rfl, rfl⟩)
  · first
    | (exfalso; omega)
    | (refine w_sw (tg := 33) rfl (by rw [w32_id (by omega) (by omega), b1]; rfl) ?_
       refine w_ldR rfl rfl rfl ?_
       first | refine w_getI rfl rfl rfl rfl rfl ?_ | refine w_getR rfl rfl rfl rfl rfl ?_
       try simp only [hD]
       refine w_push rfl ?_
       refine w_aldk 43 rfl rfl rfl rfl rfl rfl ?_
       try simp only [hD]
       refine w_retI rfl ?_
       rw [b1]
       exact ⟨rfl, rfl⟩)
  · first
    | (exfalso; omega)
    | (refine w_sw (tg := 38) rfl (by rw [w32_id (by omega) (by omega), b1]; rfl) ?_
       refine w_ldR rfl rfl rfl ?_
       first | refine w_getI rfl rfl rfl rfl rfl ?_ | refine w_getR rfl rfl rfl rfl rfl ?_
       try simp only [hD]
       refine w_push rfl ?_
       refine w_aldk 44 rfl rfl rfl rfl rfl rfl ?_
       try simp only [hD]
       refine w_retI rfl ?_
       rw [b1]
       exact ⟨rfl, rfl⟩)
  · first
    | (exfalso; omega)
    | (refine w_sw (tg := 43) rfl (by rw [w32_id (by omega) (by omega), b1]; rfl) ?_
       refine w_ldR rfl rfl rfl ?_
       first | refine w_getI rfl rfl rfl rfl rfl ?_ | refine w_getR rfl rfl rfl rfl rfl ?_
       try simp only [hD]
       refine w_retI rfl ?_
       rw [b1]
       exact ⟨rfl, rfl⟩)
  · first
    | (exfalso; omega)
    | (refine w_sw (tg := 46) rfl (by rw [w32_id (by omega) (by omega), b1]; rfl) ?_
       refine w_ldR rfl rfl rfl ?_
       first | refine w_getI rfl rfl rfl rfl rfl ?_ | refine w_getR rfl rfl rfl rfl rfl ?_
       try simp only [hD]
       refine w_push rfl ?_
       refine w_aldk 42 rfl rfl rfl rfl rfl rfl ?_
       try simp only [hD]
       refine w_retI rfl ?_
       rw [b1]
       exact ⟨rfl, rfl⟩)
  · first
    | (exfalso; omega)
    | (refine w_sw (tg := 51) rfl (mSwT_df (by rw [w32_id (by omega) (by omega)]; exact b1)) ?_
       refine w_ldR rfl rfl rfl ?_
       refine w_push rfl ?_
       refine w_callV rfl rfl rfl rfl rfl rfl rfl r_finds1 ?_
       try simp only [hD]
       refine w_retI rfl ?_
       rw [b1]
       exact ⟨rfl, rfl⟩)
theorem m_count_n {d : Nat} {s : mSt} {D : Nat → Int} (hD : s 147 = D) (hM : MOk D) (hC : COk D) {k : Int} (hrk : -2147483648 ≤ k ∧ k < 2147483648) (hy : ¬ (0 ≤ k ∧ k ≤ 10)) : CI (d + 2) 264 [.inr (.inr 146), .inl k] (s) (fun r s1 => r = -1000000000 - 1 ∧ s1 = us s 150 1 (s 150 1 + 1)) := by
  refine CI.mk rfl ?_
  show WP (d + 2) 264 0 [some (.inr (.inr 146)), some (.inl k)] [] (encA (s)) _
  have hM0 := hM
  obtain ⟨hM39, hM40, hM41, hM43, hM44, hM36, hM37, hM38, hMc, hMw, hMp, hMt, hMb⟩ := hM
  refine w_ldI rfl rfl ?_
  obtain b1 | b1 | b1 | b1 | b1 | b1 | b1 | b1 | b1 | b1 | b1 | b1 := (by omega : k = 0 ∨ k = 1 ∨ k = 2 ∨ k = 3 ∨ k = 4 ∨ k = 5 ∨ k = 6 ∨ k = 7 ∨ k = 8 ∨ k = 9 ∨ k = 10 ∨ (k < 0 ∨ 11 ≤ k))
  · first
    | (exfalso; omega)
    | (refine w_sw (tg := 2) rfl (by rw [w32_id (by omega) (by omega), b1]; rfl) ?_
       refine w_ldR rfl rfl rfl ?_
       first | refine w_getI rfl rfl rfl rfl rfl ?_ | refine w_getR rfl rfl rfl rfl rfl ?_
       try simp only [hD]
       refine w_push rfl ?_
       refine w_aldk 38 rfl rfl rfl rfl rfl rfl ?_
       try simp only [hD]
       refine w_retI rfl ?_
       exact ⟨rfl, rfl⟩)
  · first
    | (exfalso; omega)
    | (refine w_sw (tg := 7) rfl (by rw [w32_id (by omega) (by omega), b1]; rfl) ?_
       refine w_ldR rfl rfl rfl ?_
       first | refine w_getI rfl rfl rfl rfl rfl ?_ | refine w_getR rfl rfl rfl rfl rfl ?_
       try simp only [hD]
       refine w_push rfl ?_
       refine w_aldk 39 rfl rfl rfl rfl rfl rfl ?_
       try simp only [hD]
       refine w_retI rfl ?_
       exact ⟨rfl, rfl⟩)
  · first
    | (exfalso; omega)
    | (refine w_sw (tg := 12) rfl (by rw [w32_id (by omega) (by omega), b1]; rfl) ?_
       refine w_ldR rfl rfl rfl ?_
       first | refine w_getI rfl rfl rfl rfl rfl ?_ | refine w_getR rfl rfl rfl rfl rfl ?_
       try simp only [hD]
       refine w_push rfl ?_
       refine w_aldk 40 rfl rfl rfl rfl rfl rfl ?_
       try simp only [hD]
       refine w_retI rfl ?_
       exact ⟨rfl, rfl⟩)
  · first
    | (exfalso; omega)
    | (refine w_sw (tg := 17) rfl (by rw [w32_id (by omega) (by omega), b1]; rfl) ?_
       refine w_ldR rfl rfl rfl ?_
       first | refine w_getI rfl rfl rfl rfl rfl ?_ | refine w_getR rfl rfl rfl rfl rfl ?_
       try simp only [hD]
       refine w_push rfl ?_
       refine w_aldk 41 rfl rfl rfl rfl rfl rfl ?_
       try simp only [hD]
       refine w_retI rfl ?_
       exact ⟨rfl, rfl⟩)
  · first
    | (exfalso; omega)
    | (refine w_sw (tg := 22) rfl (by rw [w32_id (by omega) (by omega), b1]; rfl) ?_
       refine w_ldR rfl rfl rfl ?_
       refine w_callV rfl rfl rfl rfl rfl rfl rfl (c_readOfAll hD hM0) ?_
       try simp only [hD]
       refine w_retI rfl ?_
       exact ⟨rfl, rfl⟩)
  · first
    | (exfalso; omega)
    | (refine w_sw (tg := 25) rfl (by rw [w32_id (by omega) (by omega), b1]; rfl) ?_
       refine w_ldR rfl rfl rfl ?_
       refine w_callV rfl rfl rfl rfl rfl rfl rfl (c_allEggs hD hM0) ?_
       try simp only [hD]
       refine w_retI rfl ?_
       exact ⟨rfl, rfl⟩)
  · first
    | (exfalso; omega)
    | (refine w_sw (tg := 28) rfl (by rw [w32_id (by omega) (by omega), b1]; rfl) ?_
       refine w_ldR rfl rfl rfl ?_
       first | refine w_getI rfl rfl rfl rfl rfl ?_ | refine w_getR rfl rfl rfl rfl rfl ?_
       try simp only [hD]
       refine w_push rfl ?_
       refine w_aldk 36 rfl rfl rfl rfl rfl rfl ?_
       try simp only [hD]
       refine w_retI rfl ?_
       exact ⟨rfl, rfl⟩)
  · first
    | (exfalso; omega)
    | (refine w_sw (tg := 33) rfl (by rw [w32_id (by omega) (by omega), b1]; rfl) ?_
       refine w_ldR rfl rfl rfl ?_
       first | refine w_getI rfl rfl rfl rfl rfl ?_ | refine w_getR rfl rfl rfl rfl rfl ?_
       try simp only [hD]
       refine w_push rfl ?_
       refine w_aldk 43 rfl rfl rfl rfl rfl rfl ?_
       try simp only [hD]
       refine w_retI rfl ?_
       exact ⟨rfl, rfl⟩)
  · first
    | (exfalso; omega)
    | (refine w_sw (tg := 38) rfl (by rw [w32_id (by omega) (by omega), b1]; rfl) ?_
       refine w_ldR rfl rfl rfl ?_
       first | refine w_getI rfl rfl rfl rfl rfl ?_ | refine w_getR rfl rfl rfl rfl rfl ?_
       try simp only [hD]
       refine w_push rfl ?_
       refine w_aldk 44 rfl rfl rfl rfl rfl rfl ?_
       try simp only [hD]
       refine w_retI rfl ?_
       exact ⟨rfl, rfl⟩)
  · first
    | (exfalso; omega)
    | (refine w_sw (tg := 43) rfl (by rw [w32_id (by omega) (by omega), b1]; rfl) ?_
       refine w_ldR rfl rfl rfl ?_
       first | refine w_getI rfl rfl rfl rfl rfl ?_ | refine w_getR rfl rfl rfl rfl rfl ?_
       try simp only [hD]
       refine w_retI rfl ?_
       exact ⟨rfl, rfl⟩)
  · first
    | (exfalso; omega)
    | (refine w_sw (tg := 46) rfl (by rw [w32_id (by omega) (by omega), b1]; rfl) ?_
       refine w_ldR rfl rfl rfl ?_
       first | refine w_getI rfl rfl rfl rfl rfl ?_ | refine w_getR rfl rfl rfl rfl rfl ?_
       try simp only [hD]
       refine w_push rfl ?_
       refine w_aldk 42 rfl rfl rfl rfl rfl rfl ?_
       try simp only [hD]
       refine w_retI rfl ?_
       exact ⟨rfl, rfl⟩)
  · first
    | (exfalso; omega)
    | (refine w_sw (tg := 51) rfl (mSwT_df (by rw [w32_id (by omega) (by omega)]; exact b1)) ?_
       refine w_ldR rfl rfl rfl ?_
       refine w_push rfl ?_
       refine w_callV rfl rfl rfl rfl rfl rfl rfl r_finds1 ?_
       try simp only [hD]
       refine w_retI rfl ?_
       exact ⟨rfl, rfl⟩)
theorem st_count {X : Nat → Int} {N : Int} {d : Nat} {s : mSt} {cnt : Int} (hI : Inv X N s cnt) {k : Int} (hrk : -2147483648 ≤ k ∧ k < 2147483648) : Step X N (d + 150) s cnt 139 264 [.inl k] := by
  have hI0 := hI
  obtain ⟨hD, -, -, -, -, hT, -, hX, hU⟩ := hI
  have hD0 := hD
  obtain ⟨⟨hM, hC, hN⟩, hV, h8⟩ := hD
  have hV0 := hV
  have hM0 := hM
  obtain ⟨vc, vpl, vga, vse, vne, veg, vre, vtu, vta, vwa, v36, v37, v39, v40, v42, v41, v43, v44, vl0, vl1, vlm⟩ := hV
  obtain ⟨hM39, hM40, hM41, hM43, hM44, hM36, hM37, hM38, hMc, hMw, hMp, hMt, hMb⟩ := hM
  have hR := hI0.2.2.2.1
  by_cases hy : 0 ≤ k ∧ k ≤ 10
  · obtain ⟨r1, s1, k1, hr, rfl⟩ := x_count_y (d := d + 149) hD0 hrk hy hR.1
    obtain ⟨r2, s2, k2, hr2, rfl⟩ := m_count_y (d := d + 148) (s := s1) rfl hM0 hC hrk hy
    exact Step.mk (by first | exact ⟨(f1.at 1 rfl).trans hX.2.1, (congrFun (f1.at 0 rfl) 1).trans hX.2.2⟩ | exact ⟨hX.2.1, hX.2.2⟩ | exact ⟨by rw [hs1, us_ne (by decide)]; exact hX.2.1, by rw [hs1, us_ne (by decide)]; exact hX.2.2⟩ | exact ⟨by rw [hs1, us_ne (by decide), us_ne (by decide)]; exact hX.2.1, by rw [hs1, us_ne (by decide), us_ne (by decide)]; exact hX.2.2⟩ | exact ⟨by rw [e1, us_ne (by decide), f1.at 1 rfl]; exact hX.2.1, by rw [e1, us_ne (by decide), f1.at 0 rfl]; exact hX.2.2⟩ | exact ⟨by rw [ft.at 1 rfl, hx 1 (by decide) (by decide)]; exact hX.2.1, by rw [ft.at 0 rfl, et, newL_0, mup_ne (by decide)]; exact hX.2.2⟩) k1 k2 (by rw [hr, hr2]) (hI0.scr (by omega) Fr.rf)
  · obtain ⟨r1, s1, k1, hr, hs1⟩ := x_count_n (d := d + 149) hD0 hrk hy
    have e : s1 147 = s 147 := by rw [hs1]; exact us_ne (by decide)
    obtain ⟨r2, s2, k2, hr2, hs2⟩ := m_count_n (d := d + 148) (s := s1) e hM0 hC hrk hy
    rw [hs2] at k2
    exact Step.mk (by first | exact ⟨(f1.at 1 rfl).trans hX.2.1, (congrFun (f1.at 0 rfl) 1).trans hX.2.2⟩ | exact ⟨hX.2.1, hX.2.2⟩ | exact ⟨by rw [hs1, us_ne (by decide)]; exact hX.2.1, by rw [hs1, us_ne (by decide)]; exact hX.2.2⟩ | exact ⟨by rw [hs1, us_ne (by decide), us_ne (by decide)]; exact hX.2.1, by rw [hs1, us_ne (by decide), us_ne (by decide)]; exact hX.2.2⟩ | exact ⟨by rw [e1, us_ne (by decide), f1.at 1 rfl]; exact hX.2.1, by rw [e1, us_ne (by decide), f1.at 0 rfl]; exact hX.2.2⟩ | exact ⟨by rw [ft.at 1 rfl, hx 1 (by decide) (by decide)]; exact hX.2.1, by rw [ft.at 0 rfl, et, newL_0, mup_ne (by decide)]; exact hX.2.2⟩) k1 k2 (by rw [hr, hr2]) (hI0.err2 hs1)
def owF (D : Nat → Int) (w q : Int) : Int := if q < 4 then D (45 + 4 * w + q).toNat else if q = 4 then shn D w else if q = 5 then dms D w else pcF (mtW D w)
theorem x_ofWindow_y {d : Nat} {s : mSt} (hI : IvD s) {w q : Int} (hrw : -2147483648 ≤ w ∧ w < 2147483648) (hrq : -2147483648 ≤ q ∧ q < 2147483648) (hy : (0 ≤ w ∧ w ≤ s 147 39 - 1) ∧ 0 ≤ q ∧ q ≤ 6) : CI (d + 5) 104 [.inr (.inr 10), .inl w, .inl q] (s) (fun r s1 => r = owF (s 147) w q ∧ Fr [38, 46, 128, 129] s s1) := by
  refine CI.mk rfl ?_
  show WP (d + 5) 104 0 [some (.inr (.inr 10)), some (.inl w), some (.inl q)] [] (encA (s)) _
  have hI0 := hI
  obtain ⟨⟨hM, hC, hN⟩, hV, h8⟩ := hI
  have hV0 := hV
  have hM0 := hM
  obtain ⟨vc, vpl, vga, vse, vne, veg, vre, vtu, vta, vwa, v36, v37, v39, v40, v42, v41, v43, v44, vl0, vl1, vlm⟩ := hV
  obtain ⟨hM39, hM40, hM41, hM43, hM44, hM36, hM37, hM38, hMc, hMw, hMp, hMt, hMb⟩ := hM
  refine w_ldR rfl rfl rfl ?_
  refine w_ldI rfl rfl ?_
  refine w_callV rfl rfl rfl rfl rfl rfl rfl (k_isWindow (by omega) (by omega)) ?_
  refine w_bEq0 rfl (fun b3 => ?_) (fun b3 => ?_)
  · first
    | (exfalso; omega)
    | (refine w_ldR rfl rfl rfl ?_
       refine w_push rfl ?_
       refine w_callWI rfl rfl rfl rfl rfl rfl rfl k_error1 (fun v11 s11 p11 => ?_)
       obtain ⟨rfl, rfl⟩ := p11
       refine w_retI rfl ?_
       first
       | (rw [b14]; exact ⟨rfl, Fr.rf⟩)
       | (exact ⟨by unfold owF; rw [if_neg (by omega), if_neg (by omega), if_neg (by omega)], f68⟩))
  · first
    | (exfalso; omega)
    | (refine w_ldI rfl rfl ?_
       refine w_irLt0 rfl (by omega) (fun b5 => ?_) (fun b5 => ?_)
       · first
         | (exfalso; omega)
         | (refine w_ldR rfl rfl rfl ?_
            refine w_push rfl ?_
            refine w_callWI rfl rfl rfl rfl rfl rfl rfl k_error1 (fun v11 s11 p11 => ?_)
            obtain ⟨rfl, rfl⟩ := p11
            refine w_retI rfl ?_
            first
            | (rw [b14]; exact ⟨rfl, Fr.rf⟩)
            | (exact ⟨by unfold owF; rw [if_neg (by omega), if_neg (by omega), if_neg (by omega)], f68⟩))
       · first
         | (exfalso; omega)
         | (refine w_ldI rfl rfl ?_
            refine w_push rfl ?_
            refine w_crLe rfl (by omega) (by omega) (fun b8 => ?_) (fun b8 => ?_)
            · first
              | (exfalso; omega)
              | (have hMW := MOk_w hM0 (w := w) (by omega)
                 obtain ⟨la, hr, had, hLa⟩ := vlm w (by omega) (by omega)
                 have hla := hLa.1
                 have hsh := shn_rng hM0 (w := w) (by omega)
                 refine w_ldI rfl rfl ?_
                 obtain b14 | b14 | b14 | b14 | b14 | b14 | b14 := (by omega : q = 0 ∨ q = 1 ∨ q = 2 ∨ q = 3 ∨ q = 4 ∨ q = 5 ∨ (q < 0 ∨ 6 ≤ q))
                 · first
                   | (exfalso; omega)
                   | (refine w_sw (tg := 15) rfl (by rw [w32_id (by omega) (by omega), b14]; rfl) ?_
                      refine w_ldR rfl rfl rfl ?_
                      first | refine w_getI rfl rfl rfl rfl rfl ?_ | refine w_getR rfl rfl rfl rfl rfl ?_
                      first | refine w_getI rfl rfl rfl rfl rfl ?_ | refine w_getR rfl rfl rfl rfl rfl ?_
                      refine w_ldI rfl rfl ?_
                      refine w_rldL rfl rfl rfl (by omega) rfl ?_
                      rw [hr, Int.toNat_natCast]
                      obtain ⟨c4, m4, g4, t4, k4⟩ := @k_kind (d := d + 4) s la _ _ _ hLa hMW.1
                      refine w_callV0 rfl rfl rfl rfl hla g4 t4 k4 ?_
                      refine w_retI rfl ?_
                      first
                      | (rw [b14]; exact ⟨rfl, Fr.rf⟩)
                      | (exact ⟨by unfold owF; rw [if_neg (by omega), if_neg (by omega), if_neg (by omega)], f68⟩))
                 · first
                   | (exfalso; omega)
                   | (refine w_sw (tg := 22) rfl (by rw [w32_id (by omega) (by omega), b14]; rfl) ?_
                      refine w_ldR rfl rfl rfl ?_
                      first | refine w_getI rfl rfl rfl rfl rfl ?_ | refine w_getR rfl rfl rfl rfl rfl ?_
                      first | refine w_getI rfl rfl rfl rfl rfl ?_ | refine w_getR rfl rfl rfl rfl rfl ?_
                      refine w_ldI rfl rfl ?_
                      refine w_rldL rfl rfl rfl (by omega) rfl ?_
                      rw [hr, Int.toNat_natCast]
                      refine w_get0 rfl hla hLa.2 (kc_all _) rfl ?_
                      refine w_retI rfl ?_
                      first
                      | (rw [b14]; exact ⟨rfl, Fr.rf⟩)
                      | (exact ⟨by unfold owF; rw [if_neg (by omega), if_neg (by omega), if_neg (by omega)], f68⟩))
                 · first
                   | (exfalso; omega)
                   | (refine w_sw (tg := 29) rfl (by rw [w32_id (by omega) (by omega), b14]; rfl) ?_
                      refine w_ldR rfl rfl rfl ?_
                      first | refine w_getI rfl rfl rfl rfl rfl ?_ | refine w_getR rfl rfl rfl rfl rfl ?_
                      first | refine w_getI rfl rfl rfl rfl rfl ?_ | refine w_getR rfl rfl rfl rfl rfl ?_
                      refine w_ldI rfl rfl ?_
                      refine w_ald rfl rfl rfl (by omega) rfl ?_
                      rw [vpl _ (by omega) (by omega)]
                      refine w_retI rfl ?_
                      first
                      | (rw [b14]; exact ⟨rfl, Fr.rf⟩)
                      | (exact ⟨by unfold owF; rw [if_neg (by omega), if_neg (by omega), if_neg (by omega)], f68⟩))
                 · first
                   | (exfalso; omega)
                   | (refine w_sw (tg := 35) rfl (by rw [w32_id (by omega) (by omega), b14]; rfl) ?_
                      refine w_ldR rfl rfl rfl ?_
                      first | refine w_getI rfl rfl rfl rfl rfl ?_ | refine w_getR rfl rfl rfl rfl rfl ?_
                      first | refine w_getI rfl rfl rfl rfl rfl ?_ | refine w_getR rfl rfl rfl rfl rfl ?_
                      refine w_ldI rfl rfl ?_
                      refine w_ald rfl rfl rfl (by omega) rfl ?_
                      rw [vga _ (by omega) (by omega)]
                      refine w_retI rfl ?_
                      first
                      | (rw [b14]; exact ⟨rfl, Fr.rf⟩)
                      | (exact ⟨by unfold owF; rw [if_neg (by omega), if_neg (by omega), if_neg (by omega)], f68⟩))
                 · first
                   | (exfalso; omega)
                   | (refine w_sw (tg := 41) rfl (by rw [w32_id (by omega) (by omega), b14]; rfl) ?_
                      refine w_push rfl ?_
                      refine w_ldR rfl rfl rfl ?_
                      first | refine w_getI rfl rfl rfl rfl rfl ?_ | refine w_getR rfl rfl rfl rfl rfl ?_
                      first | refine w_getI rfl rfl rfl rfl rfl ?_ | refine w_getR rfl rfl rfl rfl rfl ?_
                      refine w_ldI rfl rfl ?_
                      refine w_rldL rfl rfl rfl (by omega) rfl ?_
                      rw [hr, Int.toNat_natCast]
                      refine w_ldR rfl rfl rfl ?_
                      first | refine w_getI rfl rfl rfl rfl rfl ?_ | refine w_getR rfl rfl rfl rfl rfl ?_
                      first | refine w_getI rfl rfl rfl rfl rfl ?_ | refine w_getR rfl rfl rfl rfl rfl ?_
                      rw [h8]
                      obtain ⟨c4, m4, g4, t4, k4⟩ := @k_glows (d := d + 2) s la _ _ _ hLa hMW.1 hMW.2.1 (s 147 38) (by omega)
                      refine w_callV0 rfl rfl rfl rfl hla g4 t4 k4 ?_
                      rw [show shK (s 147 (45 + 4 * w + 0).toNat) (s 147 (45 + 4 * w + 1).toNat) (s 147 38) = shn (s 147) w from rfl]
                      refine w_m2 rfl rfl ?_
                      rw [m_max_id (by omega) (by omega), show max 0 (shn (s 147) w) = shn (s 147) w by omega]
                      refine w_retI rfl ?_
                      first
                      | (rw [b14]; exact ⟨rfl, Fr.rf⟩)
                      | (exact ⟨by unfold owF; rw [if_neg (by omega), if_neg (by omega), if_neg (by omega)], f68⟩))
                 · first
                   | (exfalso; omega)
                   | (refine w_sw (tg := 53) rfl (by rw [w32_id (by omega) (by omega), b14]; rfl) ?_
                      refine w_ldR rfl rfl rfl ?_
                      first | refine w_getI rfl rfl rfl rfl rfl ?_ | refine w_getR rfl rfl rfl rfl rfl ?_
                      first | refine w_getI rfl rfl rfl rfl rfl ?_ | refine w_getR rfl rfl rfl rfl rfl ?_
                      refine w_ldI rfl rfl ?_
                      refine w_rldL rfl rfl rfl (by omega) rfl ?_
                      rw [hr, Int.toNat_natCast]
                      obtain ⟨c4, m4, g4, t4, k4⟩ := @k_dims (d := d + 3) s la _ _ _ hLa hMW.1
                      refine w_callV0 rfl rfl rfl rfl hla g4 t4 k4 ?_
                      refine w_retI rfl ?_
                      first
                      | (rw [b14]; exact ⟨rfl, Fr.rf⟩)
                      | (exact ⟨by unfold owF; rw [if_neg (by omega), if_neg (by omega), if_neg (by omega)], f68⟩))
                 · first
                   | (exfalso; omega)
                   | (refine w_sw (tg := 60) rfl (mSwT_df (by rw [w32_id (by omega) (by omega)]; exact b14)) ?_
                      refine w_ldR rfl rfl rfl ?_
                      first | refine w_getI rfl rfl rfl rfl rfl ?_ | refine w_getR rfl rfl rfl rfl rfl ?_
                      refine w_ldI rfl rfl ?_
                      refine w_ldR rfl rfl rfl ?_
                      first | refine w_getI rfl rfl rfl rfl rfl ?_ | refine w_getR rfl rfl rfl rfl rfl ?_
                      first | refine w_getI rfl rfl rfl rfl rfl ?_ | refine w_getR rfl rfl rfl rfl rfl ?_
                      refine w_ldR rfl rfl rfl ?_
                      first | refine w_getI rfl rfl rfl rfl rfl ?_ | refine w_getR rfl rfl rfl rfl rfl ?_
                      refine w_callWI rfl rfl rfl rfl rfl rfl rfl (k_metBy13 hV0 hM0 hC (by omega) h8) (fun v68 s68 p68 => ?_)
                      obtain ⟨rfl, f68⟩ := p68
                      refine w_call rfl rfl rfl (k_bitCount (mtW_1024 hM0 w)) ?_
                      refine w_retI rfl ?_
                      first
                      | (rw [b14]; exact ⟨rfl, Fr.rf⟩)
                      | (exact ⟨by unfold owF; rw [if_neg (by omega), if_neg (by omega), if_neg (by omega)], f68⟩)))
            · first
              | (exfalso; omega)
              | (refine w_ldR rfl rfl rfl ?_
                 refine w_push rfl ?_
                 refine w_callWI rfl rfl rfl rfl rfl rfl rfl k_error1 (fun v11 s11 p11 => ?_)
                 obtain ⟨rfl, rfl⟩ := p11
                 refine w_retI rfl ?_
                 first
                 | (rw [b14]; exact ⟨rfl, Fr.rf⟩)
                 | (exact ⟨by unfold owF; rw [if_neg (by omega), if_neg (by omega), if_neg (by omega)], f68⟩))))
theorem x_ofWindow_n {d : Nat} {s : mSt} (hI : IvD s) {w q : Int} (hrw : -2147483648 ≤ w ∧ w < 2147483648) (hrq : -2147483648 ≤ q ∧ q < 2147483648) (hy : ¬ ((0 ≤ w ∧ w ≤ s 147 39 - 1) ∧ 0 ≤ q ∧ q ≤ 6)) : CI (d + 5) 104 [.inr (.inr 10), .inl w, .inl q] (s) (fun r s1 => r = -1000000000 - 1 ∧ s1 = us s 132 1 (s 132 1 + 1)) := by
  refine CI.mk rfl ?_
  show WP (d + 5) 104 0 [some (.inr (.inr 10)), some (.inl w), some (.inl q)] [] (encA (s)) _
  have hI0 := hI
  obtain ⟨⟨hM, hC, hN⟩, hV, h8⟩ := hI
  have hV0 := hV
  have hM0 := hM
  obtain ⟨vc, vpl, vga, vse, vne, veg, vre, vtu, vta, vwa, v36, v37, v39, v40, v42, v41, v43, v44, vl0, vl1, vlm⟩ := hV
  obtain ⟨hM39, hM40, hM41, hM43, hM44, hM36, hM37, hM38, hMc, hMw, hMp, hMt, hMb⟩ := hM
  refine w_ldR rfl rfl rfl ?_
  refine w_ldI rfl rfl ?_
  refine w_callV rfl rfl rfl rfl rfl rfl rfl (k_isWindow (by omega) (by omega)) ?_
  refine w_bEq0 rfl (fun b3 => ?_) (fun b3 => ?_)
  · first
    | (exfalso; omega)
    | (refine w_ldR rfl rfl rfl ?_
       refine w_push rfl ?_
       refine w_callWI rfl rfl rfl rfl rfl rfl rfl k_error1 (fun v11 s11 p11 => ?_)
       obtain ⟨rfl, rfl⟩ := p11
       refine w_retI rfl ?_
       exact ⟨rfl, rfl⟩)
  · first
    | (exfalso; omega)
    | (refine w_ldI rfl rfl ?_
       refine w_irLt0 rfl (by omega) (fun b5 => ?_) (fun b5 => ?_)
       · first
         | (exfalso; omega)
         | (refine w_ldR rfl rfl rfl ?_
            refine w_push rfl ?_
            refine w_callWI rfl rfl rfl rfl rfl rfl rfl k_error1 (fun v11 s11 p11 => ?_)
            obtain ⟨rfl, rfl⟩ := p11
            refine w_retI rfl ?_
            exact ⟨rfl, rfl⟩)
       · first
         | (exfalso; omega)
         | (refine w_ldI rfl rfl ?_
            refine w_push rfl ?_
            refine w_crLe rfl (by omega) (by omega) (fun b8 => ?_) (fun b8 => ?_)
            · first
              | (exfalso; omega)
              | (exfalso; omega)
            · first
              | (exfalso; omega)
              | (refine w_ldR rfl rfl rfl ?_
                 refine w_push rfl ?_
                 refine w_callWI rfl rfl rfl rfl rfl rfl rfl k_error1 (fun v11 s11 p11 => ?_)
                 obtain ⟨rfl, rfl⟩ := p11
                 refine w_retI rfl ?_
                 exact ⟨rfl, rfl⟩)))
theorem m_ofWindow_y {d : Nat} {s : mSt} {D : Nat → Int} (hD : s 147 = D) (hM : MOk D) (hC : COk D) {w q : Int} (hrw : -2147483648 ≤ w ∧ w < 2147483648) (hrq : -2147483648 ≤ q ∧ q < 2147483648) (hy : (0 ≤ w ∧ w ≤ D 39 - 1) ∧ 0 ≤ q ∧ q ≤ 6) : CI (d + 6) 208 [.inr (.inr 146), .inl w, .inl q] (s) (fun r s1 => r = owF D w q ∧ Fr [151, 153, 154] s s1) := by
  refine CI.mk rfl ?_
  show WP (d + 6) 208 0 [some (.inr (.inr 146)), some (.inl w), some (.inl q)] [] (encA (s)) _
  have hM0 := hM
  obtain ⟨hM39, hM40, hM41, hM43, hM44, hM36, hM37, hM38, hMc, hMw, hMp, hMt, hMb⟩ := hM
  refine w_ldR rfl rfl rfl ?_
  refine w_ldI rfl rfl ?_
  refine w_callV rfl rfl rfl rfl rfl rfl rfl (r_isWindow (by omega) (by rw [hD]; omega)) ?_
  rw [hD]
  try simp only [hD]
  refine w_bEq0 rfl (fun b3 => ?_) (fun b3 => ?_)
  · first
    | (exfalso; omega)
    | (refine w_ldR rfl rfl rfl ?_
       refine w_push rfl ?_
       refine w_callV rfl rfl rfl rfl rfl rfl rfl r_finds1 ?_
       try simp only [hD]
       refine w_retI rfl ?_
       first
       | exact ⟨by unfold owF; rw [if_pos (by omega)], Fr.rf⟩
       | exact ⟨by unfold owF; rw [if_neg (by omega), if_pos (by omega)], Fr.rf⟩
       | exact ⟨by unfold owF; rw [if_neg (by omega), if_neg (by omega), if_pos (by omega)], Fr.rf⟩
       | exact ⟨by unfold owF; rw [if_neg (by omega), if_neg (by omega), if_neg (by omega)], f38⟩)
  · first
    | (exfalso; omega)
    | (refine w_ldI rfl rfl ?_
       refine w_i2lr rfl (by omega) ?_
       refine w_push rfl ?_
       refine w_push rfl ?_
       refine w_call rfl rfl rfl (r_in (by omega) (by omega) (by omega)) ?_
       try simp only [hD]
       refine w_bNe0 rfl (fun b9 => ?_) (fun b9 => ?_)
       · first
         | (exfalso; omega)
         | (refine w_ldI rfl rfl ?_
            refine w_push rfl ?_
            refine w_crGe rfl (by omega) (by omega) (fun b16 => ?_) (fun b16 => ?_)
            · first
              | (exfalso; omega)
              | (refine w_ldI rfl rfl ?_
                 refine w_push rfl ?_
                 refine w_crNe rfl (by omega) (by omega) (fun b24 => ?_) (fun b24 => ?_)
                 · first
                   | (exfalso; omega)
                   | (refine w_ldI rfl rfl ?_
                      refine w_push rfl ?_
                      refine w_crNe rfl (by omega) (by omega) (fun b31 => ?_) (fun b31 => ?_)
                      · first
                        | (exfalso; omega)
                        | (refine w_ldR rfl rfl rfl ?_
                           refine w_ldI rfl rfl ?_
                           refine w_callWI rfl rfl rfl rfl rfl rfl rfl (c_metBy hD hM0 hC (by omega)) (fun v38 s38 p38 => ?_)
                           obtain ⟨rfl, f38⟩ := p38
                           refine w_call rfl rfl rfl (c_ones (mtW_1024 hM0 w)) ?_
                           try simp only [hD]
                           refine w_retI rfl ?_
                           first
                           | exact ⟨by unfold owF; rw [if_pos (by omega)], Fr.rf⟩
                           | exact ⟨by unfold owF; rw [if_neg (by omega), if_pos (by omega)], Fr.rf⟩
                           | exact ⟨by unfold owF; rw [if_neg (by omega), if_neg (by omega), if_pos (by omega)], Fr.rf⟩
                           | exact ⟨by unfold owF; rw [if_neg (by omega), if_neg (by omega), if_neg (by omega)], f38⟩)
                      · first
                        | (exfalso; omega)
                        | (refine w_ldR rfl rfl rfl ?_
                           refine w_ldI rfl rfl ?_
                           refine w_callV rfl rfl rfl rfl rfl rfl rfl (r_dimsOf (by rw [hD]; exact hM0) (by omega)) ?_
                           try simp only [hD]
                           refine w_go rfl ?_
                           refine w_retI rfl ?_
                           first
                           | exact ⟨by unfold owF; rw [if_pos (by omega)], Fr.rf⟩
                           | exact ⟨by unfold owF; rw [if_neg (by omega), if_pos (by omega)], Fr.rf⟩
                           | exact ⟨by unfold owF; rw [if_neg (by omega), if_neg (by omega), if_pos (by omega)], Fr.rf⟩
                           | exact ⟨by unfold owF; rw [if_neg (by omega), if_neg (by omega), if_neg (by omega)], f38⟩))
                 · first
                   | (exfalso; omega)
                   | (refine w_ldR rfl rfl rfl ?_
                      refine w_ldI rfl rfl ?_
                      refine w_callV rfl rfl rfl rfl rfl rfl rfl (r_shinesOf (by rw [hD]; exact hM0) (by omega)) ?_
                      try simp only [hD]
                      refine w_go rfl ?_
                      refine w_retI rfl ?_
                      first
                      | exact ⟨by unfold owF; rw [if_pos (by omega)], Fr.rf⟩
                      | exact ⟨by unfold owF; rw [if_neg (by omega), if_pos (by omega)], Fr.rf⟩
                      | exact ⟨by unfold owF; rw [if_neg (by omega), if_neg (by omega), if_pos (by omega)], Fr.rf⟩
                      | exact ⟨by unfold owF; rw [if_neg (by omega), if_neg (by omega), if_neg (by omega)], f38⟩))
            · first
              | (exfalso; omega)
              | (refine w_ldR rfl rfl rfl ?_
                 refine w_ldI rfl rfl ?_
                 refine w_ldI rfl rfl ?_
                 refine w_callV rfl rfl rfl rfl rfl rfl rfl (r_ofIt (by omega) (by omega)) ?_
                 try simp only [hD]
                 refine w_go rfl ?_
                 refine w_retI rfl ?_
                 first
                 | exact ⟨by unfold owF; rw [if_pos (by omega)], Fr.rf⟩
                 | exact ⟨by unfold owF; rw [if_neg (by omega), if_pos (by omega)], Fr.rf⟩
                 | exact ⟨by unfold owF; rw [if_neg (by omega), if_neg (by omega), if_pos (by omega)], Fr.rf⟩
                 | exact ⟨by unfold owF; rw [if_neg (by omega), if_neg (by omega), if_neg (by omega)], f38⟩))
       · first
         | (exfalso; omega)
         | (refine w_ldR rfl rfl rfl ?_
            refine w_push rfl ?_
            refine w_callV rfl rfl rfl rfl rfl rfl rfl r_finds1 ?_
            try simp only [hD]
            refine w_retI rfl ?_
            first
            | exact ⟨by unfold owF; rw [if_pos (by omega)], Fr.rf⟩
            | exact ⟨by unfold owF; rw [if_neg (by omega), if_pos (by omega)], Fr.rf⟩
            | exact ⟨by unfold owF; rw [if_neg (by omega), if_neg (by omega), if_pos (by omega)], Fr.rf⟩
            | exact ⟨by unfold owF; rw [if_neg (by omega), if_neg (by omega), if_neg (by omega)], f38⟩))
theorem m_ofWindow_n {d : Nat} {s : mSt} {D : Nat → Int} (hD : s 147 = D) (hM : MOk D) (hC : COk D) {w q : Int} (hrw : -2147483648 ≤ w ∧ w < 2147483648) (hrq : -2147483648 ≤ q ∧ q < 2147483648) (hy : ¬ ((0 ≤ w ∧ w ≤ D 39 - 1) ∧ 0 ≤ q ∧ q ≤ 6)) : CI (d + 6) 208 [.inr (.inr 146), .inl w, .inl q] (s) (fun r s1 => r = -1000000000 - 1 ∧ s1 = us s 150 1 (s 150 1 + 1)) := by
  refine CI.mk rfl ?_
  show WP (d + 6) 208 0 [some (.inr (.inr 146)), some (.inl w), some (.inl q)] [] (encA (s)) _
  have hM0 := hM
  obtain ⟨hM39, hM40, hM41, hM43, hM44, hM36, hM37, hM38, hMc, hMw, hMp, hMt, hMb⟩ := hM
  refine w_ldR rfl rfl rfl ?_
  refine w_ldI rfl rfl ?_
  refine w_callV rfl rfl rfl rfl rfl rfl rfl (r_isWindow (by omega) (by rw [hD]; omega)) ?_
  rw [hD]
  try simp only [hD]
  refine w_bEq0 rfl (fun b3 => ?_) (fun b3 => ?_)
  · first
    | (exfalso; omega)
    | (refine w_ldR rfl rfl rfl ?_
       refine w_push rfl ?_
       refine w_callV rfl rfl rfl rfl rfl rfl rfl r_finds1 ?_
       try simp only [hD]
       refine w_retI rfl ?_
       exact ⟨rfl, rfl⟩)
  · first
    | (exfalso; omega)
    | (refine w_ldI rfl rfl ?_
       refine w_i2lr rfl (by omega) ?_
       refine w_push rfl ?_
       refine w_push rfl ?_
       refine w_call rfl rfl rfl (r_in (by omega) (by omega) (by omega)) ?_
       try simp only [hD]
       refine w_bNe0 rfl (fun b9 => ?_) (fun b9 => ?_)
       · first
         | (exfalso; omega)
         | (exfalso; omega)
       · first
         | (exfalso; omega)
         | (refine w_ldR rfl rfl rfl ?_
            refine w_push rfl ?_
            refine w_callV rfl rfl rfl rfl rfl rfl rfl r_finds1 ?_
            try simp only [hD]
            refine w_retI rfl ?_
            exact ⟨rfl, rfl⟩))
theorem st_ofWindow {X : Nat → Int} {N : Int} {d : Nat} {s : mSt} {cnt : Int} (hI : Inv X N s cnt) {w q : Int} (hrw : -2147483648 ≤ w ∧ w < 2147483648) (hrq : -2147483648 ≤ q ∧ q < 2147483648) : Step X N (d + 150) s cnt 104 208 [.inl w, .inl q] := by
  have hI0 := hI
  obtain ⟨hD, -, -, -, -, hT, -, hX, hU⟩ := hI
  have hD0 := hD
  obtain ⟨⟨hM, hC, hN⟩, hV, h8⟩ := hD
  have hV0 := hV
  have hM0 := hM
  obtain ⟨vc, vpl, vga, vse, vne, veg, vre, vtu, vta, vwa, v36, v37, v39, v40, v42, v41, v43, v44, vl0, vl1, vlm⟩ := hV
  obtain ⟨hM39, hM40, hM41, hM43, hM44, hM36, hM37, hM38, hMc, hMw, hMp, hMt, hMb⟩ := hM
  by_cases hy : (0 ≤ w ∧ w ≤ s 147 39 - 1) ∧ 0 ≤ q ∧ q ≤ 6
  · obtain ⟨r1, s1, k1, hr, f1⟩ := x_ofWindow_y (d := d + 145) hD0 hrw hrq hy
    have e : s1 147 = s 147 := f1.at 147 rfl
    obtain ⟨r2, s2, k2, hr2, f2⟩ := m_ofWindow_y (d := d + 144) (s := s1) e hM0 hC hrw hrq hy
    exact Step.mk (by first | exact ⟨(f1.at 1 rfl).trans hX.2.1, (congrFun (f1.at 0 rfl) 1).trans hX.2.2⟩ | exact ⟨hX.2.1, hX.2.2⟩ | exact ⟨by rw [hs1, us_ne (by decide)]; exact hX.2.1, by rw [hs1, us_ne (by decide)]; exact hX.2.2⟩ | exact ⟨by rw [hs1, us_ne (by decide), us_ne (by decide)]; exact hX.2.1, by rw [hs1, us_ne (by decide), us_ne (by decide)]; exact hX.2.2⟩ | exact ⟨by rw [e1, us_ne (by decide), f1.at 1 rfl]; exact hX.2.1, by rw [e1, us_ne (by decide), f1.at 0 rfl]; exact hX.2.2⟩ | exact ⟨by rw [ft.at 1 rfl, hx 1 (by decide) (by decide)]; exact hX.2.1, by rw [ft.at 0 rfl, et, newL_0, mup_ne (by decide)]; exact hX.2.2⟩) k1 k2 (by rw [hr, hr2]) (hI0.scr (by omega) ((Fr.mono rfl f1).tr (Fr.mono rfl f2)))
  · obtain ⟨r1, s1, k1, hr, hs1⟩ := x_ofWindow_n (d := d + 145) hD0 hrw hrq hy
    have e : s1 147 = s 147 := by rw [hs1]; exact us_ne (by decide)
    obtain ⟨r2, s2, k2, hr2, hs2⟩ := m_ofWindow_n (d := d + 144) (s := s1) e hM0 hC hrw hrq hy
    rw [hs2] at k2
    exact Step.mk (by first | exact ⟨(f1.at 1 rfl).trans hX.2.1, (congrFun (f1.at 0 rfl) 1).trans hX.2.2⟩ | exact ⟨hX.2.1, hX.2.2⟩ | exact ⟨by rw [hs1, us_ne (by decide)]; exact hX.2.1, by rw [hs1, us_ne (by decide)]; exact hX.2.2⟩ | exact ⟨by rw [hs1, us_ne (by decide), us_ne (by decide)]; exact hX.2.1, by rw [hs1, us_ne (by decide), us_ne (by decide)]; exact hX.2.2⟩ | exact ⟨by rw [e1, us_ne (by decide), f1.at 1 rfl]; exact hX.2.1, by rw [e1, us_ne (by decide), f1.at 0 rfl]; exact hX.2.2⟩ | exact ⟨by rw [ft.at 1 rfl, hx 1 (by decide) (by decide)]; exact hX.2.1, by rw [ft.at 0 rfl, et, newL_0, mup_ne (by decide)]; exact hX.2.2⟩) k1 k2 (by rw [hr, hr2]) (hI0.err2 hs1)
def seF (D L : Nat → Int) : Nat → Int
  | 0 => -1
  | k + 1 => if D k = 0 ∧ (seF D L k < 0 ∨ L (seF D L k).toNat < L k) then (k : Int) else seF D L k
theorem seF_rng (D L : Nat → Int) : ∀ k : Nat, -1 ≤ seF D L k ∧ seF D L k < (k : Int)
  | 0 => by unfold seF; omega
  | k + 1 => by
    have := seF_rng D L k
    unfold seF
    split <;> omega
theorem seF_y {D L : Nat → Int} {k : Nat} (h : D k = 0) (h2 : seF D L k < 0 ∨ L (seF D L k).toNat < L k) : (k : Int) = seF D L (k + 1) := by
  unfold seF
  rw [if_pos ⟨h, h2⟩]
theorem seF_n {D L : Nat → Int} {k : Nat} (h : ¬ (D k = 0 ∧ (seF D L k < 0 ∨ L (seF D L k).toNat < L k))) : seF D L k = seF D L (k + 1) := by
  conv => rhs; unfold seF
  rw [if_neg h]
theorem l_seat {d : Nat} {s : mSt} {Q : mQ} {w : Int} {D : Nat → Int} (k : Nat) (i b : Int) (hi : i = (k : Int)) (hb : b = seF D (liW D w) k) (hV : VN13 s D) (hM : MOk D) (hw : 0 ≤ w ∧ w < 6) (hl : ∀ i, i < 36 → s 129 i = liW D w i) (hk : k ≤ 36) (kk : WP (d + 4) 123 45 [some (.inr (.inr 10)), some (.inl w), some (.inl (seF D (liW D w) 36)), some (.inl 36)] [] (encA (s)) (Q)) : WP (d + 4) 123 21 [some (.inr (.inr 10)), some (.inl w), some (.inl b), some (.inl i)] [] (encA (s)) (Q) := by
  subst hi
  subst hb
  have hV0 := hV
  have hse := seF_rng D (liW D w) k
  have hLL := liW_L hM hw
  obtain ⟨vc, vpl, vga, vse, vne, veg, vre, vtu, vta, vwa, v36, v37, v39, v40, v42, v41, v43, v44, vl0, vl1, vlm⟩ := hV
  refine w_ldI rfl rfl ?_
  refine w_push rfl ?_
  refine w_crGe rfl (by omega) (by omega) (fun b23 => ?_) (fun b23 => ?_)
  · first
    | (exfalso; omega)
    | (obtain rfl : k = 36 := by omega
       exact kk)
  · first
    | (exfalso; omega)
    | (have hcc := MOk_cell hM k (by omega)
       have hl1 := hLL k (by omega)
       refine w_ldR rfl rfl rfl ?_
       first | refine w_getI rfl rfl rfl rfl rfl ?_ | refine w_getR rfl rfl rfl rfl rfl ?_
       first | refine w_getI rfl rfl rfl rfl rfl ?_ | refine w_getR rfl rfl rfl rfl rfl ?_
       refine w_ldI rfl rfl ?_
       refine w_ald rfl rfl rfl (by omega) rfl ?_
       rw [vc _ (by omega) (by omega), Int.toNat_natCast]
       refine w_irNe0 rfl (by omega) (fun b29 => ?_) (fun b29 => ?_)
       · first
         | (exfalso; omega)
         | (refine w_inc_4_3 rfl rfl ?_
            refine w_go rfl ?_
            first
            | exact l_seat (k + 1) ((k : Int) + 1) _ (by omega) (seF_y (by omega) (by omega)) hV0 hM hw hl (by omega) kk
            | exact l_seat (k + 1) ((k : Int) + 1) _ (by omega) (seF_n (by omega)) hV0 hM hw hl (by omega) kk)
       · first
         | (exfalso; omega)
         | (refine w_ldI rfl rfl ?_
            refine w_irLt0 rfl (by omega) (fun b31 => ?_) (fun b31 => ?_)
            · first
              | (exfalso; omega)
              | (refine w_ldI rfl rfl ?_
                 refine w_StI_4_2 rfl rfl ?_
                 refine w_inc_4_3 rfl rfl ?_
                 refine w_go rfl ?_
                 first
                 | exact l_seat (k + 1) ((k : Int) + 1) _ (by omega) (seF_y (by omega) (by omega)) hV0 hM hw hl (by omega) kk
                 | exact l_seat (k + 1) ((k : Int) + 1) _ (by omega) (seF_n (by omega)) hV0 hM hw hl (by omega) kk)
            · first
              | (exfalso; omega)
              | (refine w_ldR rfl rfl rfl ?_
                 first | refine w_getI rfl rfl rfl rfl rfl ?_ | refine w_getR rfl rfl rfl rfl rfl ?_
                 refine w_ldI rfl rfl ?_
                 refine w_callV rfl rfl rfl rfl rfl rfl rfl (k_lightIn (by omega)) ?_
                 rw [if_pos (by omega), hl _ (by omega), Int.toNat_natCast]
                 refine w_ldR rfl rfl rfl ?_
                 first | refine w_getI rfl rfl rfl rfl rfl ?_ | refine w_getR rfl rfl rfl rfl rfl ?_
                 refine w_ldI rfl rfl ?_
                 refine w_callV rfl rfl rfl rfl rfl rfl rfl (k_lightIn (by omega)) ?_
                 have hl2 := hLL (seF D (liW D w) k).toNat (by omega)
                 rw [if_pos (by omega), hl _ (by omega)]
                 refine w_crLe rfl (by omega) (by omega) (fun b40 => ?_) (fun b40 => ?_)
                 · first
                   | (exfalso; omega)
                   | (refine w_inc_4_3 rfl rfl ?_
                      refine w_go rfl ?_
                      first
                      | exact l_seat (k + 1) ((k : Int) + 1) _ (by omega) (seF_y (by omega) (by omega)) hV0 hM hw hl (by omega) kk
                      | exact l_seat (k + 1) ((k : Int) + 1) _ (by omega) (seF_n (by omega)) hV0 hM hw hl (by omega) kk)
                 · first
                   | (exfalso; omega)
                   | (refine w_ldI rfl rfl ?_
                      refine w_StI_4_2 rfl rfl ?_
                      refine w_inc_4_3 rfl rfl ?_
                      refine w_go rfl ?_
                      first
                      | exact l_seat (k + 1) ((k : Int) + 1) _ (by omega) (seF_y (by omega) (by omega)) hV0 hM hw hl (by omega) kk
                      | exact l_seat (k + 1) ((k : Int) + 1) _ (by omega) (seF_n (by omega)) hV0 hM hw hl (by omega) kk))))
termination_by 36 - k
decreasing_by all_goals omega
theorem l_mseat {d : Nat} {s : mSt} {Q : mQ} {w : Int} {D : Nat → Int} (k : Nat) (i b : Int) (hi : i = (k : Int)) (hb : b = seF D (liW D w) k) (hD : s 147 = D) (hM : MOk D) (hw : 0 ≤ w ∧ w < 6) (hl : ∀ i, i < 36 → s 154 i = liW D w i) (hk : k ≤ 36) (kk : WP (d + 5) 234 40 [some (.inr (.inr 146)), some (.inl w), some (.inl (seF D (liW D w) 36)), some (.inl 36)] [] (encA (s)) (Q)) : WP (d + 5) 234 15 [some (.inr (.inr 146)), some (.inl w), some (.inl b), some (.inl i)] [] (encA (s)) (Q) := by
  subst hi
  subst hb
  have hse := seF_rng D (liW D w) k
  have hLL := liW_L hM hw
  refine w_ldI rfl rfl ?_
  refine w_push rfl ?_
  refine w_crGe rfl (by omega) (by omega) (fun b17 => ?_) (fun b17 => ?_)
  · first
    | (exfalso; omega)
    | (obtain rfl : k = 36 := by omega
       exact kk)
  · first
    | (exfalso; omega)
    | (have hcc := MOk_cell hM k (by omega)
       have hl1 := hLL k (by omega)
       refine w_ldR rfl rfl rfl ?_
       first | refine w_getI rfl rfl rfl rfl rfl ?_ | refine w_getR rfl rfl rfl rfl rfl ?_
       refine w_push rfl ?_
       refine w_ldI rfl rfl ?_
       refine w_add rfl ?_
       refine w_ald rfl rfl rfl (by omega) rfl ?_
       rw [hD, show (0 + (k : Int)).toNat = k by omega]
       refine w_irNe0 rfl (by omega) (fun b24 => ?_) (fun b24 => ?_)
       · first
         | (exfalso; omega)
         | (refine w_inc_4_3 rfl rfl ?_
            refine w_go rfl ?_
            first
            | exact l_mseat (k + 1) ((k : Int) + 1) _ (by omega) (seF_y (by omega) (by omega)) hD hM hw hl (by omega) kk
            | exact l_mseat (k + 1) ((k : Int) + 1) _ (by omega) (seF_n (by omega)) hD hM hw hl (by omega) kk)
       · first
         | (exfalso; omega)
         | (refine w_ldI rfl rfl ?_
            refine w_irLt0 rfl (by omega) (fun b26 => ?_) (fun b26 => ?_)
            · first
              | (exfalso; omega)
              | (refine w_ldI rfl rfl ?_
                 refine w_StI_4_2 rfl rfl ?_
                 refine w_inc_4_3 rfl rfl ?_
                 refine w_go rfl ?_
                 first
                 | exact l_mseat (k + 1) ((k : Int) + 1) _ (by omega) (seF_y (by omega) (by omega)) hD hM hw hl (by omega) kk
                 | exact l_mseat (k + 1) ((k : Int) + 1) _ (by omega) (seF_n (by omega)) hD hM hw hl (by omega) kk)
            · first
              | (exfalso; omega)
              | (refine w_ldR rfl rfl rfl ?_
                 first | refine w_getI rfl rfl rfl rfl rfl ?_ | refine w_getR rfl rfl rfl rfl rfl ?_
                 refine w_ldI rfl rfl ?_
                 refine w_ald rfl rfl rfl (by omega) rfl ?_
                 rw [hl _ (by omega), Int.toNat_natCast]
                 refine w_ldR rfl rfl rfl ?_
                 first | refine w_getI rfl rfl rfl rfl rfl ?_ | refine w_getR rfl rfl rfl rfl rfl ?_
                 refine w_ldI rfl rfl ?_
                 refine w_ald rfl rfl rfl (by omega) rfl ?_
                 have hl2 := hLL (seF D (liW D w) k).toNat (by omega)
                 rw [hl _ (by omega)]
                 refine w_crLe rfl (by omega) (by omega) (fun b35 => ?_) (fun b35 => ?_)
                 · first
                   | (exfalso; omega)
                   | (refine w_inc_4_3 rfl rfl ?_
                      refine w_go rfl ?_
                      first
                      | exact l_mseat (k + 1) ((k : Int) + 1) _ (by omega) (seF_y (by omega) (by omega)) hD hM hw hl (by omega) kk
                      | exact l_mseat (k + 1) ((k : Int) + 1) _ (by omega) (seF_n (by omega)) hD hM hw hl (by omega) kk)
                 · first
                   | (exfalso; omega)
                   | (refine w_ldI rfl rfl ?_
                      refine w_StI_4_2 rfl rfl ?_
                      refine w_inc_4_3 rfl rfl ?_
                      refine w_go rfl ?_
                      first
                      | exact l_mseat (k + 1) ((k : Int) + 1) _ (by omega) (seF_y (by omega) (by omega)) hD hM hw hl (by omega) kk
                      | exact l_mseat (k + 1) ((k : Int) + 1) _ (by omega) (seF_n (by omega)) hD hM hw hl (by omega) kk))))
termination_by 36 - k
decreasing_by all_goals omega
theorem z_seat_y {d : Nat} {s s0 : mSt} {w : Int} {D : Nat → Int} (f0 : Fr [38, 46, 128, 129] s0 s) (hb : 0 ≤ seF D (liW D w) 36) : WP (d + 4) 123 45 [some (.inr (.inr 10)), some (.inl w), some (.inl (seF D (liW D w) 36)), some (.inl 36)] [] (encA (s)) (QI (fun r s1 => r = seF D (liW D w) 36 ∧ Fr [38, 46, 128, 129] s0 s1)) := by
  have hse := seF_rng D (liW D w) 36
  refine w_ldI rfl rfl ?_
  refine w_irGe0 rfl (by omega) (fun b46 => ?_) (fun b46 => ?_)
  · first
    | (exfalso; omega)
    | (refine w_ldI rfl rfl ?_
       refine w_retI rfl ?_
       exact ⟨rfl, Fr.mono rfl f0⟩)
  · first
    | (exfalso; omega)
    | (refine w_ldR rfl rfl rfl ?_
       refine w_push rfl ?_
       refine w_callWI rfl rfl rfl rfl rfl rfl rfl k_error2 (fun v49 s49 p49 => ?_)
       obtain ⟨rfl, rfl⟩ := p49
       refine w_go rfl ?_
       refine w_retI rfl ?_
       exact ⟨rfl, Fr.mono rfl f0⟩)
theorem z_mseat_y {d : Nat} {s s0 : mSt} {w : Int} {D : Nat → Int} (f0 : Fr [151, 153, 154] s0 s) (hb : 0 ≤ seF D (liW D w) 36) : WP (d + 5) 234 40 [some (.inr (.inr 146)), some (.inl w), some (.inl (seF D (liW D w) 36)), some (.inl 36)] [] (encA (s)) (QI (fun r s1 => r = seF D (liW D w) 36 ∧ Fr [151, 153, 154] s0 s1)) := by
  have hse := seF_rng D (liW D w) 36
  refine w_ldI rfl rfl ?_
  refine w_irGe0 rfl (by omega) (fun b41 => ?_) (fun b41 => ?_)
  · first
    | (exfalso; omega)
    | (refine w_ldI rfl rfl ?_
       refine w_retI rfl ?_
       exact ⟨rfl, Fr.mono rfl f0⟩)
  · first
    | (exfalso; omega)
    | (refine w_ldR rfl rfl rfl ?_
       refine w_push rfl ?_
       refine w_callV rfl rfl rfl rfl rfl rfl rfl r_finds2 ?_
       refine w_go rfl ?_
       refine w_retI rfl ?_
       exact ⟨rfl, Fr.mono rfl f0⟩)
theorem x_seat_y {d : Nat} {s : mSt} (hI : IvD s) {w : Int} (hrw : -2147483648 ≤ w ∧ w < 2147483648) (hy : 0 ≤ w ∧ w ≤ s 147 39 - 1) (hb : 0 ≤ seF (s 147) (liW (s 147) w) 36) : CI (d + 4) 123 [.inr (.inr 10), .inl w] (s) (fun r s1 => r = seF (s 147) (liW (s 147) w) 36 ∧ Fr [38, 46, 128, 129] s s1) := by
  refine CI.mk rfl ?_
  show WP (d + 4) 123 0 [some (.inr (.inr 10)), some (.inl w), none, none] [] (encA (s)) _
  have hI0 := hI
  obtain ⟨⟨hM, hC, hN⟩, hV, h8⟩ := hI
  have hV0 := hV
  have hM0 := hM
  obtain ⟨vc, vpl, vga, vse, vne, veg, vre, vtu, vta, vwa, v36, v37, v39, v40, v42, v41, v43, v44, vl0, vl1, vlm⟩ := hV
  obtain ⟨hM39, hM40, hM41, hM43, hM44, hM36, hM37, hM38, hMc, hMw, hMp, hMt, hMb⟩ := hM
  refine w_ldR rfl rfl rfl ?_
  refine w_ldI rfl rfl ?_
  refine w_callV rfl rfl rfl rfl rfl rfl rfl (k_isWindow (by omega) (by omega)) ?_
  refine w_bNe0 rfl (fun b3 => ?_) (fun b3 => ?_)
  · first
    | (exfalso; omega)
    | (refine w_ldR rfl rfl rfl ?_
       first | refine w_getI rfl rfl rfl rfl rfl ?_ | refine w_getR rfl rfl rfl rfl rfl ?_
       refine w_ldR rfl rfl rfl ?_
       first | refine w_getI rfl rfl rfl rfl rfl ?_ | refine w_getR rfl rfl rfl rfl rfl ?_
       refine w_ldI rfl rfl ?_
       refine w_ldR rfl rfl rfl ?_
       first | refine w_getI rfl rfl rfl rfl rfl ?_ | refine w_getR rfl rfl rfl rfl rfl ?_
       first | refine w_getI rfl rfl rfl rfl rfl ?_ | refine w_getR rfl rfl rfl rfl rfl ?_
       refine w_callWN rfl rfl rfl rfl rfl rfl rfl (k_cast13 hV0 hM0 hC (by omega) h8) (fun s16 p16 => ?_)
       refine w_push rfl ?_
       refine w_StI_4_2 rfl rfl ?_
       refine w_push rfl ?_
       refine w_StI_4_3 rfl rfl ?_
       exact l_seat 0 0 (-1) rfl rfl (VN13.fr rfl p16.1 hV0) hM0 (by omega) p16.2.1 (by omega) (z_seat_y (Fr.mono rfl p16.1) hb))
  · first
    | (exfalso; omega)
    | (refine w_ldR rfl rfl rfl ?_
       refine w_push rfl ?_
       refine w_callWI rfl rfl rfl rfl rfl rfl rfl k_error1 (fun v6 s6 p6 => ?_)
       obtain ⟨rfl, rfl⟩ := p6
       refine w_retI rfl ?_
       exact ⟨rfl, rfl⟩)
theorem m_seat_y {d : Nat} {s : mSt} {D : Nat → Int} (hD : s 147 = D) (hM : MOk D) (hC : COk D) {w : Int} (hrw : -2147483648 ≤ w ∧ w < 2147483648) (hy : 0 ≤ w ∧ w ≤ D 39 - 1) (hb : 0 ≤ seF D (liW D w) 36) : CI (d + 5) 234 [.inr (.inr 146), .inl w] (s) (fun r s1 => r = seF D (liW D w) 36 ∧ Fr [151, 153, 154] s s1) := by
  refine CI.mk rfl ?_
  show WP (d + 5) 234 0 [some (.inr (.inr 146)), some (.inl w), none, none] [] (encA (s)) _
  have hM0 := hM
  obtain ⟨hM39, hM40, hM41, hM43, hM44, hM36, hM37, hM38, hMc, hMw, hMp, hMt, hMb⟩ := hM
  refine w_ldR rfl rfl rfl ?_
  refine w_ldI rfl rfl ?_
  refine w_callV rfl rfl rfl rfl rfl rfl rfl (r_isWindow (by omega) (by rw [hD]; omega)) ?_
  rw [hD]
  try simp only [hD]
  refine w_bNe0 rfl (fun b3 => ?_) (fun b3 => ?_)
  · first
    | (exfalso; omega)
    | (refine w_ldR rfl rfl rfl ?_
       refine w_ldI rfl rfl ?_
       refine w_callWN rfl rfl rfl rfl rfl rfl rfl (c_shine hD hM0 hC (by omega)) (fun s10 p10 => ?_)
       refine w_push rfl ?_
       refine w_StI_4_2 rfl rfl ?_
       refine w_push rfl ?_
       refine w_StI_4_3 rfl rfl ?_
       exact l_mseat 0 0 (-1) rfl rfl ((p10.1.at 147 rfl).trans hD) hM0 (by omega) p10.2 (by omega) (z_mseat_y p10.1 hb))
  · first
    | (exfalso; omega)
    | (refine w_ldR rfl rfl rfl ?_
       refine w_push rfl ?_
       refine w_callV rfl rfl rfl rfl rfl rfl rfl r_finds1 ?_
       try simp only [hD]
       refine w_retI rfl ?_
       exact ⟨rfl, rfl⟩)
theorem z_seat_f {d : Nat} {s s0 : mSt} {w : Int} {D : Nat → Int} (f0 : Fr [38, 46, 128, 129] s0 s) (hb : ¬ 0 ≤ seF D (liW D w) 36) : WP (d + 4) 123 45 [some (.inr (.inr 10)), some (.inl w), some (.inl (seF D (liW D w) 36)), some (.inl 36)] [] (encA (s)) (QI (fun r s1 => r = -1000000000 - 2 ∧ ∃ s2, Fr [38, 46, 128, 129] s0 s2 ∧ s1 = us s2 132 2 (s2 132 2 + 1))) := by
  have hse := seF_rng D (liW D w) 36
  refine w_ldI rfl rfl ?_
  refine w_irGe0 rfl (by omega) (fun b46 => ?_) (fun b46 => ?_)
  · first
    | (exfalso; omega)
    | (refine w_ldI rfl rfl ?_
       refine w_retI rfl ?_
       exact ⟨rfl, s, Fr.mono rfl f0, rfl⟩)
  · first
    | (exfalso; omega)
    | (refine w_ldR rfl rfl rfl ?_
       refine w_push rfl ?_
       refine w_callWI rfl rfl rfl rfl rfl rfl rfl k_error2 (fun v49 s49 p49 => ?_)
       obtain ⟨rfl, rfl⟩ := p49
       refine w_go rfl ?_
       refine w_retI rfl ?_
       exact ⟨rfl, s, Fr.mono rfl f0, rfl⟩)
theorem z_mseat_f {d : Nat} {s s0 : mSt} {w : Int} {D : Nat → Int} (f0 : Fr [151, 153, 154] s0 s) (hb : ¬ 0 ≤ seF D (liW D w) 36) : WP (d + 5) 234 40 [some (.inr (.inr 146)), some (.inl w), some (.inl (seF D (liW D w) 36)), some (.inl 36)] [] (encA (s)) (QI (fun r s1 => r = -1000000000 - 2 ∧ ∃ s2, Fr [151, 153, 154] s0 s2 ∧ s1 = us s2 150 2 (s2 150 2 + 1))) := by
  have hse := seF_rng D (liW D w) 36
  refine w_ldI rfl rfl ?_
  refine w_irGe0 rfl (by omega) (fun b41 => ?_) (fun b41 => ?_)
  · first
    | (exfalso; omega)
    | (refine w_ldI rfl rfl ?_
       refine w_retI rfl ?_
       exact ⟨rfl, s, Fr.mono rfl f0, rfl⟩)
  · first
    | (exfalso; omega)
    | (refine w_ldR rfl rfl rfl ?_
       refine w_push rfl ?_
       refine w_callV rfl rfl rfl rfl rfl rfl rfl r_finds2 ?_
       refine w_go rfl ?_
       refine w_retI rfl ?_
       exact ⟨rfl, s, Fr.mono rfl f0, rfl⟩)
theorem x_seat_f {d : Nat} {s : mSt} (hI : IvD s) {w : Int} (hrw : -2147483648 ≤ w ∧ w < 2147483648) (hy : 0 ≤ w ∧ w ≤ s 147 39 - 1) (hb : ¬ 0 ≤ seF (s 147) (liW (s 147) w) 36) : CI (d + 4) 123 [.inr (.inr 10), .inl w] (s) (fun r s1 => r = -1000000000 - 2 ∧ ∃ s2, Fr [38, 46, 128, 129] s s2 ∧ s1 = us s2 132 2 (s2 132 2 + 1)) := by
  refine CI.mk rfl ?_
  show WP (d + 4) 123 0 [some (.inr (.inr 10)), some (.inl w), none, none] [] (encA (s)) _
  have hI0 := hI
  obtain ⟨⟨hM, hC, hN⟩, hV, h8⟩ := hI
  have hV0 := hV
  have hM0 := hM
  obtain ⟨vc, vpl, vga, vse, vne, veg, vre, vtu, vta, vwa, v36, v37, v39, v40, v42, v41, v43, v44, vl0, vl1, vlm⟩ := hV
  obtain ⟨hM39, hM40, hM41, hM43, hM44, hM36, hM37, hM38, hMc, hMw, hMp, hMt, hMb⟩ := hM
  refine w_ldR rfl rfl rfl ?_
  refine w_ldI rfl rfl ?_
  refine w_callV rfl rfl rfl rfl rfl rfl rfl (k_isWindow (by omega) (by omega)) ?_
  refine w_bNe0 rfl (fun b3 => ?_) (fun b3 => ?_)
  · first
    | (exfalso; omega)
    | (refine w_ldR rfl rfl rfl ?_
       first | refine w_getI rfl rfl rfl rfl rfl ?_ | refine w_getR rfl rfl rfl rfl rfl ?_
       refine w_ldR rfl rfl rfl ?_
       first | refine w_getI rfl rfl rfl rfl rfl ?_ | refine w_getR rfl rfl rfl rfl rfl ?_
       refine w_ldI rfl rfl ?_
       refine w_ldR rfl rfl rfl ?_
       first | refine w_getI rfl rfl rfl rfl rfl ?_ | refine w_getR rfl rfl rfl rfl rfl ?_
       first | refine w_getI rfl rfl rfl rfl rfl ?_ | refine w_getR rfl rfl rfl rfl rfl ?_
       refine w_callWN rfl rfl rfl rfl rfl rfl rfl (k_cast13 hV0 hM0 hC (by omega) h8) (fun s16 p16 => ?_)
       refine w_push rfl ?_
       refine w_StI_4_2 rfl rfl ?_
       refine w_push rfl ?_
       refine w_StI_4_3 rfl rfl ?_
       exact l_seat 0 0 (-1) rfl rfl (VN13.fr rfl p16.1 hV0) hM0 (by omega) p16.2.1 (by omega) (z_seat_f (Fr.mono rfl p16.1) hb))
  · first
    | (exfalso; omega)
    | (refine w_ldR rfl rfl rfl ?_
       refine w_push rfl ?_
       refine w_callWI rfl rfl rfl rfl rfl rfl rfl k_error1 (fun v6 s6 p6 => ?_)
       obtain ⟨rfl, rfl⟩ := p6
       refine w_retI rfl ?_
       exact ⟨rfl, rfl⟩)
theorem m_seat_f {d : Nat} {s : mSt} {D : Nat → Int} (hD : s 147 = D) (hM : MOk D) (hC : COk D) {w : Int} (hrw : -2147483648 ≤ w ∧ w < 2147483648) (hy : 0 ≤ w ∧ w ≤ D 39 - 1) (hb : ¬ 0 ≤ seF D (liW D w) 36) : CI (d + 5) 234 [.inr (.inr 146), .inl w] (s) (fun r s1 => r = -1000000000 - 2 ∧ ∃ s2, Fr [151, 153, 154] s s2 ∧ s1 = us s2 150 2 (s2 150 2 + 1)) := by
  refine CI.mk rfl ?_
  show WP (d + 5) 234 0 [some (.inr (.inr 146)), some (.inl w), none, none] [] (encA (s)) _
  have hM0 := hM
  obtain ⟨hM39, hM40, hM41, hM43, hM44, hM36, hM37, hM38, hMc, hMw, hMp, hMt, hMb⟩ := hM
  refine w_ldR rfl rfl rfl ?_
  refine w_ldI rfl rfl ?_
  refine w_callV rfl rfl rfl rfl rfl rfl rfl (r_isWindow (by omega) (by rw [hD]; omega)) ?_
  rw [hD]
  try simp only [hD]
  refine w_bNe0 rfl (fun b3 => ?_) (fun b3 => ?_)
  · first
    | (exfalso; omega)
    | (refine w_ldR rfl rfl rfl ?_
       refine w_ldI rfl rfl ?_
       refine w_callWN rfl rfl rfl rfl rfl rfl rfl (c_shine hD hM0 hC (by omega)) (fun s10 p10 => ?_)
       refine w_push rfl ?_
       refine w_StI_4_2 rfl rfl ?_
       refine w_push rfl ?_
       refine w_StI_4_3 rfl rfl ?_
       exact l_mseat 0 0 (-1) rfl rfl ((p10.1.at 147 rfl).trans hD) hM0 (by omega) p10.2 (by omega) (z_mseat_f p10.1 hb))
  · first
    | (exfalso; omega)
    | (refine w_ldR rfl rfl rfl ?_
       refine w_push rfl ?_
       refine w_callV rfl rfl rfl rfl rfl rfl rfl r_finds1 ?_
       try simp only [hD]
       refine w_retI rfl ?_
       exact ⟨rfl, rfl⟩)
theorem x_seat_n {d : Nat} {s : mSt} (hI : IvD s) {w : Int} (hrw : -2147483648 ≤ w ∧ w < 2147483648) (hy : ¬ (0 ≤ w ∧ w ≤ s 147 39 - 1)) : CI (d + 4) 123 [.inr (.inr 10), .inl w] (s) (fun r s1 => r = -1000000000 - 1 ∧ s1 = us s 132 1 (s 132 1 + 1)) := by
  refine CI.mk rfl ?_
  show WP (d + 4) 123 0 [some (.inr (.inr 10)), some (.inl w), none, none] [] (encA (s)) _
  have hI0 := hI
  obtain ⟨⟨hM, hC, hN⟩, hV, h8⟩ := hI
  have hV0 := hV
  have hM0 := hM
  obtain ⟨vc, vpl, vga, vse, vne, veg, vre, vtu, vta, vwa, v36, v37, v39, v40, v42, v41, v43, v44, vl0, vl1, vlm⟩ := hV
  obtain ⟨hM39, hM40, hM41, hM43, hM44, hM36, hM37, hM38, hMc, hMw, hMp, hMt, hMb⟩ := hM
  refine w_ldR rfl rfl rfl ?_
  refine w_ldI rfl rfl ?_
  refine w_callV rfl rfl rfl rfl rfl rfl rfl (k_isWindow (by omega) (by omega)) ?_
  refine w_bNe0 rfl (fun b3 => ?_) (fun b3 => ?_)
  · first
    | (exfalso; omega)
    | (exfalso; omega)
  · first
    | (exfalso; omega)
    | (refine w_ldR rfl rfl rfl ?_
       refine w_push rfl ?_
       refine w_callWI rfl rfl rfl rfl rfl rfl rfl k_error1 (fun v6 s6 p6 => ?_)
       obtain ⟨rfl, rfl⟩ := p6
       refine w_retI rfl ?_
       exact ⟨rfl, rfl⟩)
theorem m_seat_n {d : Nat} {s : mSt} {D : Nat → Int} (hD : s 147 = D) (hM : MOk D) (hC : COk D) {w : Int} (hrw : -2147483648 ≤ w ∧ w < 2147483648) (hy : ¬ (0 ≤ w ∧ w ≤ D 39 - 1)) : CI (d + 5) 234 [.inr (.inr 146), .inl w] (s) (fun r s1 => r = -1000000000 - 1 ∧ s1 = us s 150 1 (s 150 1 + 1)) := by
  refine CI.mk rfl ?_
  show WP (d + 5) 234 0 [some (.inr (.inr 146)), some (.inl w), none, none] [] (encA (s)) _
  have hM0 := hM
  obtain ⟨hM39, hM40, hM41, hM43, hM44, hM36, hM37, hM38, hMc, hMw, hMp, hMt, hMb⟩ := hM
  refine w_ldR rfl rfl rfl ?_
  refine w_ldI rfl rfl ?_
  refine w_callV rfl rfl rfl rfl rfl rfl rfl (r_isWindow (by omega) (by rw [hD]; omega)) ?_
  rw [hD]
  try simp only [hD]
  refine w_bNe0 rfl (fun b3 => ?_) (fun b3 => ?_)
  · first
    | (exfalso; omega)
    | (exfalso; omega)
  · first
    | (exfalso; omega)
    | (refine w_ldR rfl rfl rfl ?_
       refine w_push rfl ?_
       refine w_callV rfl rfl rfl rfl rfl rfl rfl r_finds1 ?_
       try simp only [hD]
       refine w_retI rfl ?_
       exact ⟨rfl, rfl⟩)
theorem inv_err3 {s s1 s2 t1 t2 : mSt} {X : Nat → Int} {N : Int} {cnt : Int} {k : Nat} {A B : List Nat} (h : Inv X N s cnt) (hA : A.all (fun x => scr.contains x) = true) (hB : B.all (fun x => scr.contains x) = true) (f1 : Fr A s t1) (e1 : s1 = us t1 132 k (t1 132 k + 1)) (f2 : Fr B s1 t2) (e2 : s2 = us t2 150 k (t2 150 k + 1)) : Inv X N s2 (cnt + 1) := by
  have h1 : Inv X N t1 cnt := h.scr (by omega) (Fr.mono hA f1)
  have f3 := Fr.mono hB f2
  have h2 : Inv X N (us t1 150 k (t1 150 k + 1)) cnt ∨ True := Or.inr trivial
  have e3 : t2 150 = t1 150 := by rw [f3.at 150 rfl, e1]; exact us_ne (by decide)
  have e4 : t2 132 = us t1 132 k (t1 132 k + 1) 132 := by rw [f3.at 132 rfl, e1]
  have h3 := Inv.err (cnt1 := cnt + 1) (k := k) (by omega) h1
  refine Inv.scr (cnt := cnt + 1) (by omega) ?_ h3
  intro x hx
  rw [e2, e3]
  by_cases h0 : x = 150
  · subst h0
    rw [us_eq, us_eq, us_ne (show (150 : Nat) ≠ 132 by decide), e3]
  · rw [us_ne h0, us_ne h0, f3 x hx, e1]
theorem st_seat {X : Nat → Int} {N : Int} {d : Nat} {s : mSt} {cnt : Int} (hI : Inv X N s cnt) {w : Int} (hrw : -2147483648 ≤ w ∧ w < 2147483648) : Step X N (d + 150) s cnt 123 234 [.inl w] := by
  have hI0 := hI
  obtain ⟨hD, -, -, -, -, hT, -, hX, hU⟩ := hI
  have hD0 := hD
  obtain ⟨⟨hM, hC, hN⟩, hV, h8⟩ := hD
  have hV0 := hV
  have hM0 := hM
  obtain ⟨vc, vpl, vga, vse, vne, veg, vre, vtu, vta, vwa, v36, v37, v39, v40, v42, v41, v43, v44, vl0, vl1, vlm⟩ := hV
  obtain ⟨hM39, hM40, hM41, hM43, hM44, hM36, hM37, hM38, hMc, hMw, hMp, hMt, hMb⟩ := hM
  by_cases hy : 0 ≤ w ∧ w ≤ s 147 39 - 1
  · by_cases hb : 0 ≤ seF (s 147) (liW (s 147) w) 36
    · obtain ⟨r1, s1, k1, hr, f1⟩ := x_seat_y (d := d + 146) hD0 hrw hy hb
      have e : s1 147 = s 147 := f1.at 147 rfl
      obtain ⟨r2, s2, k2, hr2, f2⟩ := m_seat_y (d := d + 145) (s := s1) e hM0 hC hrw hy hb
      exact Step.mk (by first | exact ⟨(f1.at 1 rfl).trans hX.2.1, (congrFun (f1.at 0 rfl) 1).trans hX.2.2⟩ | exact ⟨hX.2.1, hX.2.2⟩ | exact ⟨by rw [hs1, us_ne (by decide)]; exact hX.2.1, by rw [hs1, us_ne (by decide)]; exact hX.2.2⟩ | exact ⟨by rw [hs1, us_ne (by decide), us_ne (by decide)]; exact hX.2.1, by rw [hs1, us_ne (by decide), us_ne (by decide)]; exact hX.2.2⟩ | exact ⟨by rw [e1, us_ne (by decide), f1.at 1 rfl]; exact hX.2.1, by rw [e1, us_ne (by decide), f1.at 0 rfl]; exact hX.2.2⟩ | exact ⟨by rw [ft.at 1 rfl, hx 1 (by decide) (by decide)]; exact hX.2.1, by rw [ft.at 0 rfl, et, newL_0, mup_ne (by decide)]; exact hX.2.2⟩) k1 k2 (by rw [hr, hr2]) (hI0.scr (by omega) ((Fr.mono rfl f1).tr (Fr.mono rfl f2)))
    · obtain ⟨r1, s1, k1, hr, t1, f1, e1⟩ := x_seat_f (d := d + 146) hD0 hrw hy hb
      have e : s1 147 = s 147 := by rw [e1, us_ne (by decide)]; exact f1.at 147 rfl
      obtain ⟨r2, s2, k2, hr2, t2, f2, e2⟩ := m_seat_f (d := d + 145) (s := s1) e hM0 hC hrw hy hb
      exact Step.mk (by first | exact ⟨(f1.at 1 rfl).trans hX.2.1, (congrFun (f1.at 0 rfl) 1).trans hX.2.2⟩ | exact ⟨hX.2.1, hX.2.2⟩ | exact ⟨by rw [hs1, us_ne (by decide)]; exact hX.2.1, by rw [hs1, us_ne (by decide)]; exact hX.2.2⟩ | exact ⟨by rw [hs1, us_ne (by decide), us_ne (by decide)]; exact hX.2.1, by rw [hs1, us_ne (by decide), us_ne (by decide)]; exact hX.2.2⟩ | exact ⟨by rw [e1, us_ne (by decide), f1.at 1 rfl]; exact hX.2.1, by rw [e1, us_ne (by decide), f1.at 0 rfl]; exact hX.2.2⟩ | exact ⟨by rw [ft.at 1 rfl, hx 1 (by decide) (by decide)]; exact hX.2.1, by rw [ft.at 0 rfl, et, newL_0, mup_ne (by decide)]; exact hX.2.2⟩) k1 k2 (by rw [hr, hr2]) (inv_err3 hI0 rfl rfl f1 e1 f2 e2)
  · obtain ⟨r1, s1, k1, hr, hs1⟩ := x_seat_n (d := d + 146) hD0 hrw hy
    have e : s1 147 = s 147 := by rw [hs1]; exact us_ne (by decide)
    obtain ⟨r2, s2, k2, hr2, hs2⟩ := m_seat_n (d := d + 145) (s := s1) e hM0 hC hrw hy
    rw [hs2] at k2
    exact Step.mk (by first | exact ⟨(f1.at 1 rfl).trans hX.2.1, (congrFun (f1.at 0 rfl) 1).trans hX.2.2⟩ | exact ⟨hX.2.1, hX.2.2⟩ | exact ⟨by rw [hs1, us_ne (by decide)]; exact hX.2.1, by rw [hs1, us_ne (by decide)]; exact hX.2.2⟩ | exact ⟨by rw [hs1, us_ne (by decide), us_ne (by decide)]; exact hX.2.1, by rw [hs1, us_ne (by decide), us_ne (by decide)]; exact hX.2.2⟩ | exact ⟨by rw [e1, us_ne (by decide), f1.at 1 rfl]; exact hX.2.1, by rw [e1, us_ne (by decide), f1.at 0 rfl]; exact hX.2.2⟩ | exact ⟨by rw [ft.at 1 rfl, hx 1 (by decide) (by decide)]; exact hX.2.1, by rw [ft.at 0 rfl, et, newL_0, mup_ne (by decide)]; exact hX.2.2⟩) k1 k2 (by rw [hr, hr2]) (hI0.err2 hs1)
def whS (D : Nat → Int) (q : Int) : Nat → Int
  | 0 => 0
  | k + 1 => whS D q k + (if mtW D k = q then 2 ^ k else 0)
theorem whS_rng (D : Nat → Int) (q : Int) : ∀ n : Nat, 0 ≤ whS D q n ∧ whS D q n < 2 ^ n
  | 0 => by unfold whS; omega
  | n + 1 => by
    have ih := whS_rng D q n
    have h2 : (2 : Int) ^ (n + 1) = 2 * 2 ^ n := by rw [Int.pow_succ]; omega
    unfold whS
    split <;> omega
theorem shl_all : ∀ n : Fin 11, m_shl 1 (n.val : Int) = ((2 ^ n.val : Nat) : Int) := by decide +kernel
theorem m_shl_1 {n : Int} (h : 0 ≤ n ∧ n ≤ 10) : m_shl 1 n = ((2 ^ n.toNat : Nat) : Int) := by
  obtain ⟨b, rfl⟩ : ∃ b : Nat, n = (b : Int) := ⟨n.toNat, by omega⟩
  rw [Int.toNat_natCast]
  exact shl_all ⟨b, by omega⟩
theorem pow_10 {n : Int} (h : 0 ≤ n ∧ n ≤ 10) : 1 ≤ 2 ^ n.toNat ∧ 2 ^ n.toNat ≤ 1024 := ⟨Nat.one_le_two_pow, Nat.le_trans (Nat.pow_le_pow_right (by decide) (show n.toNat ≤ 10 by omega)) (by decide)⟩
theorem l_whose {d : Nat} {s : mSt} {P : Int → mSt → Prop} {q : Int} {D : Nat → Int} (hq : 0 ≤ q ∧ q < 1024) (k : Nat) (i m : Int) (hi : i = (k : Int)) (hm : m = whS D q k) (hV : VN13 s D) (hM : MOk D) (hC : COk D) (h8 : s 13 1 = D 38) (hk : (k : Int) ≤ D 39) (hP : ∀ s1, Fr [38, 46, 128, 129] s s1 → P (whS D q (D 39).toNat) s1) : WP (d + 5) 126 17 [some (.inr (.inr 10)), some (.inl q), some (.inl m), some (.inl i)] [] (encA (s)) (QI P) := by
  subst hi
  subst hm
  have hV0 := hV
  have h39 := hM.1
  have hwr := whS_rng D q k
  have hmt := mtW_1024 hM k
  obtain ⟨vc, vpl, vga, vse, vne, veg, vre, vtu, vta, vwa, v36, v37, v39, v40, v42, v41, v43, v44, vl0, vl1, vlm⟩ := hV
  refine w_ldI rfl rfl ?_
  refine w_ldR rfl rfl rfl ?_
  first | refine w_getI rfl rfl rfl rfl rfl ?_ | refine w_getR rfl rfl rfl rfl rfl ?_
  first | refine w_getI rfl rfl rfl rfl rfl ?_ | refine w_getR rfl rfl rfl rfl rfl ?_
  rw [v39]
  refine w_crGe rfl (by omega) (by omega) (fun b21 => ?_) (fun b21 => ?_)
  · first
    | (exfalso; omega)
    | (refine w_ldI rfl rfl ?_
       refine w_retI rfl ?_
       have e : whS D q k = whS D q (D 39).toNat := by rw [show k = (D 39).toNat by omega]
       rw [e]
       exact hP s Fr.rf)
  · first
    | (exfalso; omega)
    | (refine w_ldR rfl rfl rfl ?_
       first | refine w_getI rfl rfl rfl rfl rfl ?_ | refine w_getR rfl rfl rfl rfl rfl ?_
       refine w_ldI rfl rfl ?_
       refine w_ldR rfl rfl rfl ?_
       first | refine w_getI rfl rfl rfl rfl rfl ?_ | refine w_getR rfl rfl rfl rfl rfl ?_
       first | refine w_getI rfl rfl rfl rfl rfl ?_ | refine w_getR rfl rfl rfl rfl rfl ?_
       refine w_ldR rfl rfl rfl ?_
       first | refine w_getI rfl rfl rfl rfl rfl ?_ | refine w_getR rfl rfl rfl rfl rfl ?_
       refine w_callWI rfl rfl rfl rfl rfl rfl rfl (k_metBy13 hV0 hM hC (by omega) h8) (fun v30 s30 p30 => ?_)
       obtain ⟨rfl, f30⟩ := p30
       refine w_ldI rfl rfl ?_
       refine w_crNe rfl (by omega) (by omega) (fun b32 => ?_) (fun b32 => ?_)
       · first
         | (exfalso; omega)
         | (refine w_inc_4_3 rfl rfl ?_
            refine w_go rfl ?_
            exact l_whose hq (k + 1) ((k : Int) + 1) _ (by omega) (by first | (rw [m_or_bit (by omega) hwr, whS, if_pos (by omega)]; done) | (rw [whS, if_neg (by omega)]; omega)) (VN13.fr rfl f30 hV0) hM hC (by rw [f30.at 13 rfl]; exact h8) (by omega) (fun s1 hf => hP s1 (f30.tr hf)))
       · first
         | (exfalso; omega)
         | (refine w_ldI rfl rfl ?_
            refine w_push rfl ?_
            refine w_ldI rfl rfl ?_
            refine w_bin rfl ?_
            refine w_bin rfl ?_
            refine w_StI_4_2 rfl rfl ?_
            refine w_inc_4_3 rfl rfl ?_
            refine w_go rfl ?_
            exact l_whose hq (k + 1) ((k : Int) + 1) _ (by omega) (by first | (rw [m_or_bit (by omega) hwr, whS, if_pos (by omega)]; done) | (rw [whS, if_neg (by omega)]; omega)) (VN13.fr rfl f30 hV0) hM hC (by rw [f30.at 13 rfl]; exact h8) (by omega) (fun s1 hf => hP s1 (f30.tr hf))))
termination_by ((D 39).toNat - k)
decreasing_by all_goals omega
theorem l_mwhose {d : Nat} {s : mSt} {P : Int → mSt → Prop} {q : Int} {D : Nat → Int} (hq : 0 ≤ q ∧ q < 1024) (k : Nat) (i m : Int) (hi : i = (k : Int)) (hm : m = whS D q k) (hD : s 147 = D) (hM : MOk D) (hC : COk D) (hk : (k : Int) ≤ D 39) (hP : ∀ s1, Fr [151, 153, 154] s s1 → P (whS D q (D 39).toNat) s1) : WP (d + 6) 243 22 [some (.inr (.inr 146)), some (.inl q), some (.inl m), some (.inl i)] [] (encA (s)) (QI P) := by
  subst hi
  subst hm
  have h39 := hM.1
  have hwr := whS_rng D q k
  have hw64 : whS D q k < 1024 := by
    have h2 : (2 : Nat) ^ k ≤ 2 ^ 6 := Nat.pow_le_pow_right (by decide) (by omega)
    have h3 : (2 : Int) ^ k = ((2 ^ k : Nat) : Int) := by norm_cast
    omega
  have hmt := mtW_1024 hM k
  refine w_ldI rfl rfl ?_
  refine w_ldR rfl rfl rfl ?_
  first | refine w_getI rfl rfl rfl rfl rfl ?_ | refine w_getR rfl rfl rfl rfl rfl ?_
  try simp only [hD]
  refine w_push rfl ?_
  refine w_aldk 39 rfl rfl rfl rfl rfl rfl ?_
  try simp only [hD]
  refine w_crGe rfl (by omega) (by omega) (fun b27 => ?_) (fun b27 => ?_)
  · first
    | (exfalso; omega)
    | (refine w_ldI rfl rfl ?_
       refine w_retI rfl ?_
       have e : whS D q k = whS D q (D 39).toNat := by rw [show k = (D 39).toNat by omega]
       rw [e]
       exact hP s Fr.rf)
  · first
    | (exfalso; omega)
    | (refine w_ldI rfl rfl ?_
       refine w_ldR rfl rfl rfl ?_
       refine w_ldI rfl rfl ?_
       refine w_callWI rfl rfl rfl rfl rfl rfl rfl (c_metBy hD hM hC (by omega)) (fun v31 s31 p31 => ?_)
       obtain ⟨rfl, f31⟩ := p31
       refine w_ldI rfl rfl ?_
       refine w_crNe rfl (by omega) (by omega) (fun b33 => ?_) (fun b33 => ?_)
       · first
         | (exfalso; omega)
         | (refine w_push rfl ?_
            refine w_bin rfl ?_
            refine w_StI_4_2 rfl rfl ?_
            refine w_inc_4_3 rfl rfl ?_
            refine w_go rfl ?_
            exact l_mwhose hq (k + 1) ((k : Int) + 1) _ (by omega) (by first | (rw [m_or_bit (by omega) hwr, whS, if_pos (by omega)]; done) | (rw [m_or_no (by omega), whS, if_neg (by omega)]; omega)) ((f31.at 147 rfl).trans hD) hM hC (by omega) (fun s1 hf => hP s1 (f31.tr hf)))
       · first
         | (exfalso; omega)
         | (refine w_push rfl ?_
            refine w_ldI rfl rfl ?_
            refine w_bin rfl ?_
            refine w_go rfl ?_
            refine w_bin rfl ?_
            refine w_StI_4_2 rfl rfl ?_
            refine w_inc_4_3 rfl rfl ?_
            refine w_go rfl ?_
            exact l_mwhose hq (k + 1) ((k : Int) + 1) _ (by omega) (by first | (rw [m_or_bit (by omega) hwr, whS, if_pos (by omega)]; done) | (rw [m_or_no (by omega), whS, if_neg (by omega)]; omega)) ((f31.at 147 rfl).trans hD) hM hC (by omega) (fun s1 hf => hP s1 (f31.tr hf))))
termination_by ((D 39).toNat - k)
decreasing_by all_goals omega
theorem x_whose_y {d : Nat} {s : mSt} (hI : IvD s) {q : Int} (hrq : -2147483648 ≤ q ∧ q < 2147483648) (hy : 0 ≤ q ∧ q < ((2 ^ (s 147 40).toNat : Nat) : Int)) : CI (d + 5) 126 [.inr (.inr 10), .inl q] (s) (fun r s1 => r = whS (s 147) q (s 147 39).toNat ∧ Fr [38, 46, 128, 129] s s1) := by
  refine CI.mk rfl ?_
  show WP (d + 5) 126 0 [some (.inr (.inr 10)), some (.inl q), none, none] [] (encA (s)) _
  have hI0 := hI
  obtain ⟨⟨hM, hC, hN⟩, hV, h8⟩ := hI
  have hV0 := hV
  have hM0 := hM
  obtain ⟨vc, vpl, vga, vse, vne, veg, vre, vtu, vta, vwa, v36, v37, v39, v40, v42, v41, v43, v44, vl0, vl1, vlm⟩ := hV
  obtain ⟨hM39, hM40, hM41, hM43, hM44, hM36, hM37, hM38, hMc, hMw, hMp, hMt, hMb⟩ := hM
  have hpw := pow_10 hM40
  have hsl := m_shl_1 hM40
  refine w_ldI rfl rfl ?_
  refine w_irLt0 rfl (by omega) (fun b1 => ?_) (fun b1 => ?_)
  · first
    | (exfalso; omega)
    | (refine w_ldR rfl rfl rfl ?_
       refine w_push rfl ?_
       refine w_callWI rfl rfl rfl rfl rfl rfl rfl k_error1 (fun v11 s11 p11 => ?_)
       obtain ⟨rfl, rfl⟩ := p11
       refine w_retI rfl ?_
       exact ⟨rfl, rfl⟩)
  · first
    | (exfalso; omega)
    | (refine w_ldI rfl rfl ?_
       refine w_push rfl ?_
       refine w_ldR rfl rfl rfl ?_
       first | refine w_getI rfl rfl rfl rfl rfl ?_ | refine w_getR rfl rfl rfl rfl rfl ?_
       first | refine w_getI rfl rfl rfl rfl rfl ?_ | refine w_getR rfl rfl rfl rfl rfl ?_
       refine w_bin rfl ?_
       rw [v40, hsl]
       refine w_crLt rfl (by omega) (by omega) (fun b8 => ?_) (fun b8 => ?_)
       · first
         | (exfalso; omega)
         | (refine w_push rfl ?_
            refine w_StI_4_2 rfl rfl ?_
            refine w_push rfl ?_
            refine w_StI_4_3 rfl rfl ?_
            exact l_whose (by omega) 0 0 0 rfl rfl hV0 hM0 hC h8 (by omega) (fun s1 hf => ⟨rfl, hf⟩))
       · first
         | (exfalso; omega)
         | (refine w_ldR rfl rfl rfl ?_
            refine w_push rfl ?_
            refine w_callWI rfl rfl rfl rfl rfl rfl rfl k_error1 (fun v11 s11 p11 => ?_)
            obtain ⟨rfl, rfl⟩ := p11
            refine w_retI rfl ?_
            exact ⟨rfl, rfl⟩))
theorem x_whose_n {d : Nat} {s : mSt} (hI : IvD s) {q : Int} (hrq : -2147483648 ≤ q ∧ q < 2147483648) (hy : ¬ (0 ≤ q ∧ q < ((2 ^ (s 147 40).toNat : Nat) : Int))) : CI (d + 5) 126 [.inr (.inr 10), .inl q] (s) (fun r s1 => r = -1000000000 - 1 ∧ s1 = us s 132 1 (s 132 1 + 1)) := by
  refine CI.mk rfl ?_
  show WP (d + 5) 126 0 [some (.inr (.inr 10)), some (.inl q), none, none] [] (encA (s)) _
  have hI0 := hI
  obtain ⟨⟨hM, hC, hN⟩, hV, h8⟩ := hI
  have hV0 := hV
  have hM0 := hM
  obtain ⟨vc, vpl, vga, vse, vne, veg, vre, vtu, vta, vwa, v36, v37, v39, v40, v42, v41, v43, v44, vl0, vl1, vlm⟩ := hV
  obtain ⟨hM39, hM40, hM41, hM43, hM44, hM36, hM37, hM38, hMc, hMw, hMp, hMt, hMb⟩ := hM
  have hpw := pow_10 hM40
  have hsl := m_shl_1 hM40
  refine w_ldI rfl rfl ?_
  refine w_irLt0 rfl (by omega) (fun b1 => ?_) (fun b1 => ?_)
  · first
    | (exfalso; omega)
    | (refine w_ldR rfl rfl rfl ?_
       refine w_push rfl ?_
       refine w_callWI rfl rfl rfl rfl rfl rfl rfl k_error1 (fun v11 s11 p11 => ?_)
       obtain ⟨rfl, rfl⟩ := p11
       refine w_retI rfl ?_
       exact ⟨rfl, rfl⟩)
  · first
    | (exfalso; omega)
    | (refine w_ldI rfl rfl ?_
       refine w_push rfl ?_
       refine w_ldR rfl rfl rfl ?_
       first | refine w_getI rfl rfl rfl rfl rfl ?_ | refine w_getR rfl rfl rfl rfl rfl ?_
       first | refine w_getI rfl rfl rfl rfl rfl ?_ | refine w_getR rfl rfl rfl rfl rfl ?_
       refine w_bin rfl ?_
       rw [v40, hsl]
       refine w_crLt rfl (by omega) (by omega) (fun b8 => ?_) (fun b8 => ?_)
       · first
         | (exfalso; omega)
         | (exfalso; omega)
       · first
         | (exfalso; omega)
         | (refine w_ldR rfl rfl rfl ?_
            refine w_push rfl ?_
            refine w_callWI rfl rfl rfl rfl rfl rfl rfl k_error1 (fun v11 s11 p11 => ?_)
            obtain ⟨rfl, rfl⟩ := p11
            refine w_retI rfl ?_
            exact ⟨rfl, rfl⟩))
theorem m_whose_y {d : Nat} {s : mSt} {D : Nat → Int} (hD : s 147 = D) (hM : MOk D) (hC : COk D) {q : Int} (hrq : -2147483648 ≤ q ∧ q < 2147483648) (hy : 0 ≤ q ∧ q < ((2 ^ (D 40).toNat : Nat) : Int)) : CI (d + 6) 243 [.inr (.inr 146), .inl q] (s) (fun r s1 => r = whS D q (D 39).toNat ∧ Fr [151, 153, 154] s s1) := by
  refine CI.mk rfl ?_
  show WP (d + 6) 243 0 [some (.inr (.inr 146)), some (.inl q), none, none] [] (encA (s)) _
  have hM0 := hM
  obtain ⟨hM39, hM40, hM41, hM43, hM44, hM36, hM37, hM38, hMc, hMw, hMp, hMt, hMb⟩ := hM
  have hpw := pow_10 hM40
  have hsl := m_shl_1 hM40
  refine w_ldI rfl rfl ?_
  refine w_i2lr rfl (by omega) ?_
  refine w_push rfl ?_
  refine w_push rfl ?_
  refine w_ldR rfl rfl rfl ?_
  first | refine w_getI rfl rfl rfl rfl rfl ?_ | refine w_getR rfl rfl rfl rfl rfl ?_
  try simp only [hD]
  refine w_push rfl ?_
  refine w_aldk 40 rfl rfl rfl rfl rfl rfl ?_
  try simp only [hD]
  refine w_bin rfl ?_
  rw [hsl]
  refine w_push rfl ?_
  refine w_sub rfl ?_
  refine w_i2lr rfl (by omega) ?_
  refine w_call rfl rfl rfl (r_in (by omega) (by omega) (by omega)) ?_
  try simp only [hD]
  refine w_bNe0 rfl (fun b13 => ?_) (fun b13 => ?_)
  · first
    | (exfalso; omega)
    | (refine w_push rfl ?_
       refine w_StI_4_2 rfl rfl ?_
       refine w_push rfl ?_
       refine w_StI_4_3 rfl rfl ?_
       exact l_mwhose (by omega) 0 0 0 rfl rfl hD hM0 hC (by omega) (fun s1 hf => ⟨rfl, hf⟩))
  · first
    | (exfalso; omega)
    | (refine w_ldR rfl rfl rfl ?_
       refine w_push rfl ?_
       refine w_callV rfl rfl rfl rfl rfl rfl rfl r_finds1 ?_
       try simp only [hD]
       refine w_retI rfl ?_
       exact ⟨rfl, rfl⟩)
theorem m_whose_n {d : Nat} {s : mSt} {D : Nat → Int} (hD : s 147 = D) (hM : MOk D) (hC : COk D) {q : Int} (hrq : -2147483648 ≤ q ∧ q < 2147483648) (hy : ¬ (0 ≤ q ∧ q < ((2 ^ (D 40).toNat : Nat) : Int))) : CI (d + 6) 243 [.inr (.inr 146), .inl q] (s) (fun r s1 => r = -1000000000 - 1 ∧ s1 = us s 150 1 (s 150 1 + 1)) := by
  refine CI.mk rfl ?_
  show WP (d + 6) 243 0 [some (.inr (.inr 146)), some (.inl q), none, none] [] (encA (s)) _
  have hM0 := hM
  obtain ⟨hM39, hM40, hM41, hM43, hM44, hM36, hM37, hM38, hMc, hMw, hMp, hMt, hMb⟩ := hM
  have hpw := pow_10 hM40
  have hsl := m_shl_1 hM40
  refine w_ldI rfl rfl ?_
  refine w_i2lr rfl (by omega) ?_
  refine w_push rfl ?_
  refine w_push rfl ?_
  refine w_ldR rfl rfl rfl ?_
  first | refine w_getI rfl rfl rfl rfl rfl ?_ | refine w_getR rfl rfl rfl rfl rfl ?_
  try simp only [hD]
  refine w_push rfl ?_
  refine w_aldk 40 rfl rfl rfl rfl rfl rfl ?_
  try simp only [hD]
  refine w_bin rfl ?_
  rw [hsl]
  refine w_push rfl ?_
  refine w_sub rfl ?_
  refine w_i2lr rfl (by omega) ?_
  refine w_call rfl rfl rfl (r_in (by omega) (by omega) (by omega)) ?_
  try simp only [hD]
  refine w_bNe0 rfl (fun b13 => ?_) (fun b13 => ?_)
  · first
    | (exfalso; omega)
    | (exfalso; omega)
  · first
    | (exfalso; omega)
    | (refine w_ldR rfl rfl rfl ?_
       refine w_push rfl ?_
       refine w_callV rfl rfl rfl rfl rfl rfl rfl r_finds1 ?_
       try simp only [hD]
       refine w_retI rfl ?_
       exact ⟨rfl, rfl⟩)
theorem st_whose {X : Nat → Int} {N : Int} {d : Nat} {s : mSt} {cnt : Int} (hI : Inv X N s cnt) {q : Int} (hrq : -2147483648 ≤ q ∧ q < 2147483648) : Step X N (d + 150) s cnt 126 243 [.inl q] := by
  have hI0 := hI
  obtain ⟨hD, -, -, -, -, hT, -, hX, hU⟩ := hI
  have hD0 := hD
  obtain ⟨⟨hM, hC, hN⟩, hV, h8⟩ := hD
  have hV0 := hV
  have hM0 := hM
  obtain ⟨vc, vpl, vga, vse, vne, veg, vre, vtu, vta, vwa, v36, v37, v39, v40, v42, v41, v43, v44, vl0, vl1, vlm⟩ := hV
  obtain ⟨hM39, hM40, hM41, hM43, hM44, hM36, hM37, hM38, hMc, hMw, hMp, hMt, hMb⟩ := hM
  by_cases hy : 0 ≤ q ∧ q < ((2 ^ (s 147 40).toNat : Nat) : Int)
  · obtain ⟨r1, s1, k1, hr, f1⟩ := x_whose_y (d := d + 145) hD0 hrq hy
    have e : s1 147 = s 147 := f1.at 147 rfl
    obtain ⟨r2, s2, k2, hr2, f2⟩ := m_whose_y (d := d + 144) (s := s1) e hM0 hC hrq hy
    exact Step.mk (by first | exact ⟨(f1.at 1 rfl).trans hX.2.1, (congrFun (f1.at 0 rfl) 1).trans hX.2.2⟩ | exact ⟨hX.2.1, hX.2.2⟩ | exact ⟨by rw [hs1, us_ne (by decide)]; exact hX.2.1, by rw [hs1, us_ne (by decide)]; exact hX.2.2⟩ | exact ⟨by rw [hs1, us_ne (by decide), us_ne (by decide)]; exact hX.2.1, by rw [hs1, us_ne (by decide), us_ne (by decide)]; exact hX.2.2⟩ | exact ⟨by rw [e1, us_ne (by decide), f1.at 1 rfl]; exact hX.2.1, by rw [e1, us_ne (by decide), f1.at 0 rfl]; exact hX.2.2⟩ | exact ⟨by rw [ft.at 1 rfl, hx 1 (by decide) (by decide)]; exact hX.2.1, by rw [ft.at 0 rfl, et, newL_0, mup_ne (by decide)]; exact hX.2.2⟩) k1 k2 (by rw [hr, hr2]) (hI0.scr (by omega) ((Fr.mono rfl f1).tr (Fr.mono rfl f2)))
  · obtain ⟨r1, s1, k1, hr, hs1⟩ := x_whose_n (d := d + 145) hD0 hrq hy
    have e : s1 147 = s 147 := by rw [hs1]; exact us_ne (by decide)
    obtain ⟨r2, s2, k2, hr2, hs2⟩ := m_whose_n (d := d + 144) (s := s1) e hM0 hC hrq hy
    rw [hs2] at k2
    exact Step.mk (by first | exact ⟨(f1.at 1 rfl).trans hX.2.1, (congrFun (f1.at 0 rfl) 1).trans hX.2.2⟩ | exact ⟨hX.2.1, hX.2.2⟩ | exact ⟨by rw [hs1, us_ne (by decide)]; exact hX.2.1, by rw [hs1, us_ne (by decide)]; exact hX.2.2⟩ | exact ⟨by rw [hs1, us_ne (by decide), us_ne (by decide)]; exact hX.2.1, by rw [hs1, us_ne (by decide), us_ne (by decide)]; exact hX.2.2⟩ | exact ⟨by rw [e1, us_ne (by decide), f1.at 1 rfl]; exact hX.2.1, by rw [e1, us_ne (by decide), f1.at 0 rfl]; exact hX.2.2⟩ | exact ⟨by rw [ft.at 1 rfl, hx 1 (by decide) (by decide)]; exact hX.2.1, by rw [ft.at 0 rfl, et, newL_0, mup_ne (by decide)]; exact hX.2.2⟩) k1 k2 (by rw [hr, hr2]) (hI0.err2 hs1)
