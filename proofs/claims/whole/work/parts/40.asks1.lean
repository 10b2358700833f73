/-! ===== calls that ask ===== -/
def bcE (x : Int) : Int :=
  let a := x - m_and (m_ushr x 1) 1431655765
  let b := m_and a 858993459 + m_and (m_ushr a 2) 858993459
  let c := m_and (b + m_ushr b 4) 252645135
  let e := c + m_ushr c 8
  let f := e + m_ushr e 16
  m_and f 63
def pcS (x : Int) : Nat → Int
  | 0 => 0
  | k + 1 => pcS x k + bitN x k
/-- how many bits of ten are set -/
def pcF (x : Int) : Int := pcS x 10
theorem bc_all : ∀ x : Fin 1024, bcE (x.val : Int) = pcF (x.val : Int) := by decide +kernel
theorem bc_pc {x : Int} (hx : 0 ≤ x ∧ x < 1024) : bcE x = pcF x := by
  obtain ⟨b, rfl⟩ : ∃ b : Nat, x = (b : Int) := ⟨x.toNat, by omega⟩
  exact bc_all ⟨b, by omega⟩
theorem pcS_rng (x : Int) : ∀ k : Nat, 0 ≤ pcS x k ∧ pcS x k ≤ k
  | 0 => by unfold pcS; omega
  | k + 1 => by
    have := pcS_rng x k
    have := bitN_rng x k
    unfold pcS
    omega
theorem pcF_rng (x : Int) : 0 ≤ pcF x ∧ pcF x ≤ 10 := pcS_rng x 10
theorem k_bitCount {d : Nat} {s : mSt} {x : Int} (hx : 0 ≤ x ∧ x < 1024) : Call (d + 0) 1 [.inl x] (encA (s)) (some (.inl (pcF x))) (encA (s)) := by
  refine CI.ex (CI.mk rfl ?_)
  show WP (d + 0) 1 0 [some (.inl x)] [] (encA (s)) _
  refine w_ldI rfl rfl ?_
  refine w_ldI rfl rfl ?_
  refine w_push rfl ?_
  refine w_bin rfl ?_
  refine w_push rfl ?_
  refine w_bin rfl ?_
  refine w_sub rfl ?_
  refine w_StI_1_0 rfl ?_
  refine w_ldI rfl rfl ?_
  refine w_push rfl ?_
  refine w_bin rfl ?_
  refine w_ldI rfl rfl ?_
  refine w_push rfl ?_
  refine w_bin rfl ?_
  refine w_push rfl ?_
  refine w_bin rfl ?_
  refine w_add rfl ?_
  refine w_StI_1_0 rfl ?_
  refine w_ldI rfl rfl ?_
  refine w_ldI rfl rfl ?_
  refine w_push rfl ?_
  refine w_bin rfl ?_
  refine w_add rfl ?_
  refine w_push rfl ?_
  refine w_bin rfl ?_
  refine w_StI_1_0 rfl ?_
  refine w_ldI rfl rfl ?_
  refine w_ldI rfl rfl ?_
  refine w_push rfl ?_
  refine w_bin rfl ?_
  refine w_add rfl ?_
  refine w_StI_1_0 rfl ?_
  refine w_ldI rfl rfl ?_
  refine w_ldI rfl rfl ?_
  refine w_push rfl ?_
  refine w_bin rfl ?_
  refine w_add rfl ?_
  refine w_StI_1_0 rfl ?_
  refine w_ldI rfl rfl ?_
  refine w_push rfl ?_
  refine w_bin rfl ?_
  refine w_retI rfl ?_
  exact ⟨bc_pc hx, rfl⟩
theorem l_ones {d : Nat} {s : mSt} {P : Int → mSt → Prop} {x : Int} (hx : 0 ≤ x ∧ x < 1024) (k : Nat) (i m : Int) (hi : i = (k : Int)) (hm : m = pcS x k) (hk : k ≤ 10) (hP : P (pcF x) s) : WP (d + 0) 207 4 [some (.inl x), some (.inl m), some (.inl i)] [] (encA (s)) (QI P) := by
  subst hi
  subst hm
  refine w_ldI rfl rfl ?_
  refine w_push rfl ?_
  refine w_crGe rfl (by omega) (by omega) (fun b6 => ?_) (fun b6 => ?_)
  · first
    | (exfalso; omega)
    | (refine w_ldI rfl rfl ?_
       refine w_retI rfl ?_
       obtain rfl : k = 10 := by omega
       exact hP)
  · first
    | (exfalso; omega)
    | (refine w_ldI rfl rfl ?_
       refine w_ldI rfl rfl ?_
       refine w_ldI rfl rfl ?_
       refine w_bin rfl ?_
       refine w_push rfl ?_
       refine w_bin rfl ?_
       refine w_add rfl ?_
       refine w_StI_3_1 rfl rfl ?_
       refine w_inc_3_2 rfl rfl ?_
       refine w_go rfl ?_
       exact l_ones hx (k + 1) ((k : Int) + 1) _ (by omega) (by rw [m_bit (by omega) hx]; rfl) (by omega) hP)
termination_by 10 - k
decreasing_by all_goals omega
theorem c_ones {d : Nat} {s : mSt} {x : Int} (hx : 0 ≤ x ∧ x < 1024) : Call (d + 0) 207 [.inl x] (encA (s)) (some (.inl (pcF x))) (encA (s)) := by
  refine CI.ex (CI.mk rfl ?_)
  show WP (d + 0) 207 0 [some (.inl x), none, none] [] (encA (s)) _
  refine w_push rfl ?_
  refine w_StI_3_1 rfl rfl ?_
  refine w_push rfl ?_
  refine w_StI_3_2 rfl rfl ?_
  exact l_ones hx 0 0 0 rfl rfl (by omega) ⟨rfl, rfl⟩
theorem mtW_1024 {D : Nat → Int} (hM : MOk D) (w : Int) : 0 ≤ mtW D w ∧ mtW D w < 1024 := mtF_1024 (by have := hM.2.1; omega)
theorem x_met_y {d : Nat} {s : mSt} (hI : IvD s) {w : Int} (hrw : -2147483648 ≤ w ∧ w < 2147483648) (hy : 0 ≤ w ∧ w ≤ s 147 39 - 1) : CI (d + 5) 111 [.inr (.inr 10), .inl w] (s) (fun r s1 => r = mtW (s 147) w ∧ Fr [38, 46, 128, 129] s s1) := by
  refine CI.mk rfl ?_
  show WP (d + 5) 111 0 [some (.inr (.inr 10)), some (.inl w)] [] (encA (s)) _
  have hI0 := hI
  obtain ⟨⟨hM, hC, hN⟩, hV, h8⟩ := hI
  have hV0 := hV
  have hM0 := hM
  obtain ⟨vc, vpl, vga, vse, vne, veg, vre, vtu, vta, vwa, v36, v37, v39, v40, v42, v41, v43, v44, vl0, vl1, vlm⟩ := hV
  obtain ⟨hM39, hM40, hM41, hM43, hM44, hM36, hM37, hM38, hMc, hMw, hMp, hMt, hMb⟩ := hM
  refine w_ldR rfl rfl rfl ?_
  refine w_ldI rfl rfl ?_
  refine w_callV rfl rfl rfl rfl rfl rfl rfl (k_isWindow (by omega) (by omega)) ?_
  refine w_bNe0 rfl (fun b3 => ?_) (fun b3 => ?_)
  · first
    | (exfalso; omega)
    | (refine w_ldR rfl rfl rfl ?_
       first | refine w_getI rfl rfl rfl rfl rfl ?_ | refine w_getR rfl rfl rfl rfl rfl ?_
       refine w_ldI rfl rfl ?_
       refine w_ldR rfl rfl rfl ?_
       first | refine w_getI rfl rfl rfl rfl rfl ?_ | refine w_getR rfl rfl rfl rfl rfl ?_
       first | refine w_getI rfl rfl rfl rfl rfl ?_ | refine w_getR rfl rfl rfl rfl rfl ?_
       refine w_ldR rfl rfl rfl ?_
       first | refine w_getI rfl rfl rfl rfl rfl ?_ | refine w_getR rfl rfl rfl rfl rfl ?_
       refine w_callWI rfl rfl rfl rfl rfl rfl rfl (k_metBy13 hV0 hM0 hC (by omega) h8) (fun v16 s16 p16 => ?_)
       refine w_retI rfl ?_
       exact p16)
  · first
    | (exfalso; omega)
    | (refine w_ldR rfl rfl rfl ?_
       refine w_push rfl ?_
       refine w_callWI rfl rfl rfl rfl rfl rfl rfl k_error1 (fun v6 s6 p6 => ?_)
       obtain ⟨rfl, rfl⟩ := p6
       refine w_retI rfl ?_
       exact p16)
theorem x_met_n {d : Nat} {s : mSt} (hI : IvD s) {w : Int} (hrw : -2147483648 ≤ w ∧ w < 2147483648) (hy : ¬ (0 ≤ w ∧ w ≤ s 147 39 - 1)) : CI (d + 5) 111 [.inr (.inr 10), .inl w] (s) (fun r s1 => r = -1000000000 - 1 ∧ s1 = us s 132 1 (s 132 1 + 1)) := by
  refine CI.mk rfl ?_
  show WP (d + 5) 111 0 [some (.inr (.inr 10)), some (.inl w)] [] (encA (s)) _
  have hI0 := hI
  obtain ⟨⟨hM, hC, hN⟩, hV, h8⟩ := hI
  have hV0 := hV
  have hM0 := hM
  obtain ⟨vc, vpl, vga, vse, vne, veg, vre, vtu, vta, vwa, v36, v37, v39, v40, v42, v41, v43, v44, vl0, vl1, vlm⟩ := hV
  obtain ⟨hM39, hM40, hM41, hM43, hM44, hM36, hM37, hM38, hMc, hMw, hMp, hMt, hMb⟩ := hM
  refine w_ldR rfl rfl rfl ?_
  refine w_ldI rfl rfl ?_
  refine w_callV rfl rfl rfl rfl rfl rfl rfl (k_isWindow (by omega) (by omega)) ?_
  refine w_bNe0 rfl (fun b3 => ?_) (fun b3 => ?_)
  · first
    | (exfalso; omega)
    | (refine w_ldR rfl rfl rfl ?_
       first | refine w_getI rfl rfl rfl rfl rfl ?_ | refine w_getR rfl rfl rfl rfl rfl ?_
       refine w_ldI rfl rfl ?_
       refine w_ldR rfl rfl rfl ?_
       first | refine w_getI rfl rfl rfl rfl rfl ?_ | refine w_getR rfl rfl rfl rfl rfl ?_
       first | refine w_getI rfl rfl rfl rfl rfl ?_ | refine w_getR rfl rfl rfl rfl rfl ?_
       refine w_ldR rfl rfl rfl ?_
       first | refine w_getI rfl rfl rfl rfl rfl ?_ | refine w_getR rfl rfl rfl rfl rfl ?_
       refine w_callWI rfl rfl rfl rfl rfl rfl rfl (k_metBy13 hV0 hM0 hC (by omega) h8) (fun v16 s16 p16 => ?_)
       refine w_retI rfl ?_
       exact ⟨rfl, rfl⟩)
  · first
    | (exfalso; omega)
    | (refine w_ldR rfl rfl rfl ?_
       refine w_push rfl ?_
       refine w_callWI rfl rfl rfl rfl rfl rfl rfl k_error1 (fun v6 s6 p6 => ?_)
       obtain ⟨rfl, rfl⟩ := p6
       refine w_retI rfl ?_
       exact ⟨rfl, rfl⟩)
theorem m_met_y {d : Nat} {s : mSt} {D : Nat → Int} (hD : s 147 = D) (hM : MOk D) (hC : COk D) {w : Int} (hrw : -2147483648 ≤ w ∧ w < 2147483648) (hy : 0 ≤ w ∧ w ≤ D 39 - 1) : CI (d + 6) 217 [.inr (.inr 146), .inl w] (s) (fun r s1 => r = mtW D w ∧ Fr [151, 153, 154] s s1) := by
  refine CI.mk rfl ?_
  show WP (d + 6) 217 0 [some (.inr (.inr 146)), some (.inl w)] [] (encA (s)) _
  have hM0 := hM
  obtain ⟨hM39, hM40, hM41, hM43, hM44, hM36, hM37, hM38, hMc, hMw, hMp, hMt, hMb⟩ := hM
  refine w_ldR rfl rfl rfl ?_
  refine w_ldI rfl rfl ?_
  refine w_callV rfl rfl rfl rfl rfl rfl rfl (r_isWindow (by omega) (by rw [hD]; omega)) ?_
  rw [hD]
  try simp only [hD]
  refine w_bEq0 rfl (fun b3 => ?_) (fun b3 => ?_)
  · first
    | (exfalso; omega)
    | (refine w_ldR rfl rfl rfl ?_
       refine w_push rfl ?_
       refine w_callV rfl rfl rfl rfl rfl rfl rfl r_finds1 ?_
       try simp only [hD]
       refine w_retI rfl ?_
       exact p6)
  · first
    | (exfalso; omega)
    | (refine w_ldR rfl rfl rfl ?_
       refine w_ldI rfl rfl ?_
       refine w_callWI rfl rfl rfl rfl rfl rfl rfl (c_metBy hD hM0 hC (by omega)) (fun v6 s6 p6 => ?_)
       refine w_go rfl ?_
       refine w_retI rfl ?_
       exact p6)
theorem m_met_n {d : Nat} {s : mSt} {D : Nat → Int} (hD : s 147 = D) (hM : MOk D) (hC : COk D) {w : Int} (hrw : -2147483648 ≤ w ∧ w < 2147483648) (hy : ¬ (0 ≤ w ∧ w ≤ D 39 - 1)) : CI (d + 6) 217 [.inr (.inr 146), .inl w] (s) (fun r s1 => r = -1000000000 - 1 ∧ s1 = us s 150 1 (s 150 1 + 1)) := by
  refine CI.mk rfl ?_
  show WP (d + 6) 217 0 [some (.inr (.inr 146)), some (.inl w)] [] (encA (s)) _
  have hM0 := hM
  obtain ⟨hM39, hM40, hM41, hM43, hM44, hM36, hM37, hM38, hMc, hMw, hMp, hMt, hMb⟩ := hM
  refine w_ldR rfl rfl rfl ?_
  refine w_ldI rfl rfl ?_
  refine w_callV rfl rfl rfl rfl rfl rfl rfl (r_isWindow (by omega) (by rw [hD]; omega)) ?_
  rw [hD]
  try simp only [hD]
  refine w_bEq0 rfl (fun b3 => ?_) (fun b3 => ?_)
  · first
    | (exfalso; omega)
    | (refine w_ldR rfl rfl rfl ?_
       refine w_push rfl ?_
       refine w_callV rfl rfl rfl rfl rfl rfl rfl r_finds1 ?_
       try simp only [hD]
       refine w_retI rfl ?_
       exact ⟨rfl, rfl⟩)
  · first
    | (exfalso; omega)
    | (refine w_ldR rfl rfl rfl ?_
       refine w_ldI rfl rfl ?_
       refine w_callWI rfl rfl rfl rfl rfl rfl rfl (c_metBy hD hM0 hC (by omega)) (fun v6 s6 p6 => ?_)
       refine w_go rfl ?_
       refine w_retI rfl ?_
       exact ⟨rfl, rfl⟩)
theorem st_met {X : Nat → Int} {N : Int} {d : Nat} {s : mSt} {cnt : Int} (hI : Inv X N s cnt) {w : Int} (hrw : -2147483648 ≤ w ∧ w < 2147483648) : Step X N (d + 150) s cnt 111 217 [.inl w] := by
  have hI0 := hI
  obtain ⟨hD, -, -, -, -, hT, -, hX, hU⟩ := hI
  have hD0 := hD
  obtain ⟨⟨hM, hC, hN⟩, hV, h8⟩ := hD
  have hV0 := hV
  have hM0 := hM
  obtain ⟨vc, vpl, vga, vse, vne, veg, vre, vtu, vta, vwa, v36, v37, v39, v40, v42, v41, v43, v44, vl0, vl1, vlm⟩ := hV
  obtain ⟨hM39, hM40, hM41, hM43, hM44, hM36, hM37, hM38, hMc, hMw, hMp, hMt, hMb⟩ := hM
  by_cases hy : 0 ≤ w ∧ w ≤ s 147 39 - 1
  · obtain ⟨r1, s1, k1, hr, f1⟩ := x_met_y (d := d + 145) hD0 hrw hy
    have e : s1 147 = s 147 := f1.at 147 rfl
    obtain ⟨r2, s2, k2, hr2, f2⟩ := m_met_y (d := d + 144) (s := s1) e hM0 hC hrw hy
    exact Step.mk (by first | exact ⟨(f1.at 1 rfl).trans hX.2.1, (congrFun (f1.at 0 rfl) 1).trans hX.2.2⟩ | exact ⟨hX.2.1, hX.2.2⟩ | exact ⟨by rw [hs1, us_ne (by decide)]; exact hX.2.1, by rw [hs1, us_ne (by decide)]; exact hX.2.2⟩ | exact ⟨by rw [hs1, us_ne (by decide), us_ne (by decide)]; exact hX.2.1, by rw [hs1, us_ne (by decide), us_ne (by decide)]; exact hX.2.2⟩ | exact ⟨by rw [e1, us_ne (by decide), f1.at 1 rfl]; exact hX.2.1, by rw [e1, us_ne (by decide), f1.at 0 rfl]; exact hX.2.2⟩ | exact ⟨by rw [ft.at 1 rfl, hx 1 (by decide) (by decide)]; exact hX.2.1, by rw [ft.at 0 rfl, et, newL_0, mup_ne (by decide)]; exact hX.2.2⟩) k1 k2 (by rw [hr, hr2]) (hI0.scr (by omega) ((Fr.mono rfl f1).tr (Fr.mono rfl f2)))
  · obtain ⟨r1, s1, k1, hr, hs1⟩ := x_met_n (d := d + 145) hD0 hrw hy
    have e : s1 147 = s 147 := by rw [hs1]; exact us_ne (by decide)
    obtain ⟨r2, s2, k2, hr2, hs2⟩ := m_met_n (d := d + 144) (s := s1) e hM0 hC hrw hy
    rw [hs2] at k2
    exact Step.mk (by first | exact ⟨(f1.at 1 rfl).trans hX.2.1, (congrFun (f1.at 0 rfl) 1).trans hX.2.2⟩ | exact ⟨hX.2.1, hX.2.2⟩ | exact ⟨by rw [hs1, us_ne (by decide)]; exact hX.2.1, by rw [hs1, us_ne (by decide)]; exact hX.2.2⟩ | exact ⟨by rw [hs1, us_ne (by decide), us_ne (by decide)]; exact hX.2.1, by rw [hs1, us_ne (by decide), us_ne (by decide)]; exact hX.2.2⟩ | exact ⟨by rw [e1, us_ne (by decide), f1.at 1 rfl]; exact hX.2.1, by rw [e1, us_ne (by decide), f1.at 0 rfl]; exact hX.2.2⟩ | exact ⟨by rw [ft.at 1 rfl, hx 1 (by decide) (by decide)]; exact hX.2.1, by rw [ft.at 0 rfl, et, newL_0, mup_ne (by decide)]; exact hX.2.2⟩) k1 k2 (by rw [hr, hr2]) (hI0.err2 hs1)
theorem x_light_y {d : Nat} {s : mSt} (hI : IvD s) {w c : Int} (hrw : -2147483648 ≤ w ∧ w < 2147483648) (hrc : -2147483648 ≤ c ∧ c < 2147483648) (hy : (0 ≤ w ∧ w ≤ s 147 39 - 1) ∧ 0 ≤ c ∧ c ≤ 35) : CI (d + 4) 107 [.inr (.inr 10), .inl w, .inl c] (s) (fun r s1 => r = liW (s 147) w c.toNat ∧ Fr [38, 46, 128, 129] s s1) := by
  refine CI.mk rfl ?_
  show WP (d + 4) 107 0 [some (.inr (.inr 10)), some (.inl w), some (.inl c)] [] (encA (s)) _
  have hI0 := hI
  obtain ⟨⟨hM, hC, hN⟩, hV, h8⟩ := hI
  have hV0 := hV
  have hM0 := hM
  obtain ⟨vc, vpl, vga, vse, vne, veg, vre, vtu, vta, vwa, v36, v37, v39, v40, v42, v41, v43, v44, vl0, vl1, vlm⟩ := hV
  obtain ⟨hM39, hM40, hM41, hM43, hM44, hM36, hM37, hM38, hMc, hMw, hMp, hMt, hMb⟩ := hM
  refine w_ldR rfl rfl rfl ?_
  refine w_ldI rfl rfl ?_
  refine w_callV rfl rfl rfl rfl rfl rfl rfl (k_isWindow (by omega) (by omega)) ?_
  refine w_bEq0 rfl (fun b3 => ?_) (fun b3 => ?_)
  · first
    | (exfalso; omega)
    | (refine w_ldR rfl rfl rfl ?_
       refine w_push rfl ?_
       refine w_callWI rfl rfl rfl rfl rfl rfl rfl k_error1 (fun v9 s9 p9 => ?_)
       obtain ⟨rfl, rfl⟩ := p9
       refine w_retI rfl ?_
       exact ⟨by rw [if_pos (by omega)]; exact p19.2.1 c.toNat (by omega), Fr.mono rfl p19.1⟩)
  · first
    | (exfalso; omega)
    | (refine w_ldI rfl rfl ?_
       refine w_call rfl rfl rfl (k_isCell (by omega)) ?_
       refine w_bNe0 rfl (fun b6 => ?_) (fun b6 => ?_)
       · first
         | (exfalso; omega)
         | (refine w_ldR rfl rfl rfl ?_
            first | refine w_getI rfl rfl rfl rfl rfl ?_ | refine w_getR rfl rfl rfl rfl rfl ?_
            refine w_ldR rfl rfl rfl ?_
            first | refine w_getI rfl rfl rfl rfl rfl ?_ | refine w_getR rfl rfl rfl rfl rfl ?_
            refine w_ldI rfl rfl ?_
            refine w_ldR rfl rfl rfl ?_
            first | refine w_getI rfl rfl rfl rfl rfl ?_ | refine w_getR rfl rfl rfl rfl rfl ?_
            first | refine w_getI rfl rfl rfl rfl rfl ?_ | refine w_getR rfl rfl rfl rfl rfl ?_
            refine w_callWN rfl rfl rfl rfl rfl rfl rfl (k_cast13 hV0 hM0 hC (by omega) h8) (fun s19 p19 => ?_)
            refine w_ldR rfl rfl rfl ?_
            first | refine w_getI rfl rfl rfl rfl rfl ?_ | refine w_getR rfl rfl rfl rfl rfl ?_
            refine w_ldI rfl rfl ?_
            refine w_callV rfl rfl rfl rfl rfl rfl rfl (k_lightIn (by omega)) ?_
            refine w_retI rfl ?_
            exact ⟨by rw [if_pos (by omega)]; exact p19.2.1 c.toNat (by omega), Fr.mono rfl p19.1⟩)
       · first
         | (exfalso; omega)
         | (refine w_ldR rfl rfl rfl ?_
            refine w_push rfl ?_
            refine w_callWI rfl rfl rfl rfl rfl rfl rfl k_error1 (fun v9 s9 p9 => ?_)
            obtain ⟨rfl, rfl⟩ := p9
            refine w_retI rfl ?_
            exact ⟨by rw [if_pos (by omega)]; exact p19.2.1 c.toNat (by omega), Fr.mono rfl p19.1⟩))
theorem x_light_n {d : Nat} {s : mSt} (hI : IvD s) {w c : Int} (hrw : -2147483648 ≤ w ∧ w < 2147483648) (hrc : -2147483648 ≤ c ∧ c < 2147483648) (hy : ¬ ((0 ≤ w ∧ w ≤ s 147 39 - 1) ∧ 0 ≤ c ∧ c ≤ 35)) : CI (d + 4) 107 [.inr (.inr 10), .inl w, .inl c] (s) (fun r s1 => r = -1000000000 - 1 ∧ s1 = us s 132 1 (s 132 1 + 1)) := by
  refine CI.mk rfl ?_
  show WP (d + 4) 107 0 [some (.inr (.inr 10)), some (.inl w), some (.inl c)] [] (encA (s)) _
  have hI0 := hI
  obtain ⟨⟨hM, hC, hN⟩, hV, h8⟩ := hI
  have hV0 := hV
  have hM0 := hM
  obtain ⟨vc, vpl, vga, vse, vne, veg, vre, vtu, vta, vwa, v36, v37, v39, v40, v42, v41, v43, v44, vl0, vl1, vlm⟩ := hV
  obtain ⟨hM39, hM40, hM41, hM43, hM44, hM36, hM37, hM38, hMc, hMw, hMp, hMt, hMb⟩ := hM
  refine w_ldR rfl rfl rfl ?_
  refine w_ldI rfl rfl ?_
  refine w_callV rfl rfl rfl rfl rfl rfl rfl (k_isWindow (by omega) (by omega)) ?_
  refine w_bEq0 rfl (fun b3 => ?_) (fun b3 => ?_)
  · first
    | (exfalso; omega)
    | (refine w_ldR rfl rfl rfl ?_
       refine w_push rfl ?_
       refine w_callWI rfl rfl rfl rfl rfl rfl rfl k_error1 (fun v9 s9 p9 => ?_)
       obtain ⟨rfl, rfl⟩ := p9
       refine w_retI rfl ?_
       exact ⟨rfl, rfl⟩)
  · first
    | (exfalso; omega)
    | (refine w_ldI rfl rfl ?_
       refine w_call rfl rfl rfl (k_isCell (by omega)) ?_
       refine w_bNe0 rfl (fun b6 => ?_) (fun b6 => ?_)
       · first
         | (exfalso; omega)
         | (refine w_ldR rfl rfl rfl ?_
            first | refine w_getI rfl rfl rfl rfl rfl ?_ | refine w_getR rfl rfl rfl rfl rfl ?_
            refine w_ldR rfl rfl rfl ?_
            first | refine w_getI rfl rfl rfl rfl rfl ?_ | refine w_getR rfl rfl rfl rfl rfl ?_
            refine w_ldI rfl rfl ?_
            refine w_ldR rfl rfl rfl ?_
            first | refine w_getI rfl rfl rfl rfl rfl ?_ | refine w_getR rfl rfl rfl rfl rfl ?_
            first | refine w_getI rfl rfl rfl rfl rfl ?_ | refine w_getR rfl rfl rfl rfl rfl ?_
            refine w_callWN rfl rfl rfl rfl rfl rfl rfl (k_cast13 hV0 hM0 hC (by omega) h8) (fun s19 p19 => ?_)
            refine w_ldR rfl rfl rfl ?_
            first | refine w_getI rfl rfl rfl rfl rfl ?_ | refine w_getR rfl rfl rfl rfl rfl ?_
            refine w_ldI rfl rfl ?_
            refine w_callV rfl rfl rfl rfl rfl rfl rfl (k_lightIn (by omega)) ?_
            refine w_retI rfl ?_
            exact ⟨rfl, rfl⟩)
       · first
         | (exfalso; omega)
         | (refine w_ldR rfl rfl rfl ?_
            refine w_push rfl ?_
            refine w_callWI rfl rfl rfl rfl rfl rfl rfl k_error1 (fun v9 s9 p9 => ?_)
            obtain ⟨rfl, rfl⟩ := p9
            refine w_retI rfl ?_
            exact ⟨rfl, rfl⟩))
theorem m_light_y {d : Nat} {s : mSt} {D : Nat → Int} (hD : s 147 = D) (hM : MOk D) (hC : COk D) {w c : Int} (hrw : -2147483648 ≤ w ∧ w < 2147483648) (hrc : -2147483648 ≤ c ∧ c < 2147483648) (hy : (0 ≤ w ∧ w ≤ D 39 - 1) ∧ 0 ≤ c ∧ c ≤ 35) : CI (d + 5) 212 [.inr (.inr 146), .inl w, .inl c] (s) (fun r s1 => r = liW D w c.toNat ∧ Fr [151, 153, 154] s s1) := by
  refine CI.mk rfl ?_
  show WP (d + 5) 212 0 [some (.inr (.inr 146)), some (.inl w), some (.inl c)] [] (encA (s)) _
  have hM0 := hM
  obtain ⟨hM39, hM40, hM41, hM43, hM44, hM36, hM37, hM38, hMc, hMw, hMp, hMt, hMb⟩ := hM
  refine w_ldR rfl rfl rfl ?_
  refine w_ldI rfl rfl ?_
  refine w_callV rfl rfl rfl rfl rfl rfl rfl (r_isWindow (by omega) (by rw [hD]; omega)) ?_
  rw [hD]
  try simp only [hD]
  refine w_bEq0 rfl (fun b3 => ?_) (fun b3 => ?_)
  · first
    | (exfalso; omega)
    | (refine w_ldR rfl rfl rfl ?_
       refine w_push rfl ?_
       refine w_callV rfl rfl rfl rfl rfl rfl rfl r_finds1 ?_
       try simp only [hD]
       refine w_retI rfl ?_
       exact ⟨p13.2 c.toNat (by omega), p13.1⟩)
  · first
    | (exfalso; omega)
    | (refine w_ldI rfl rfl ?_
       refine w_call rfl rfl rfl (r_isCell (by omega)) ?_
       try simp only [hD]
       refine w_bNe0 rfl (fun b6 => ?_) (fun b6 => ?_)
       · first
         | (exfalso; omega)
         | (refine w_ldR rfl rfl rfl ?_
            refine w_ldI rfl rfl ?_
            refine w_callWN rfl rfl rfl rfl rfl rfl rfl (c_shine hD hM0 hC (by omega)) (fun s13 p13 => ?_)
            refine w_ldR rfl rfl rfl ?_
            first | refine w_getI rfl rfl rfl rfl rfl ?_ | refine w_getR rfl rfl rfl rfl rfl ?_
            try simp only [hD]
            refine w_ldI rfl rfl ?_
            refine w_ald rfl rfl rfl (by omega) rfl ?_
            try simp only [hD]
            refine w_retI rfl ?_
            exact ⟨p13.2 c.toNat (by omega), p13.1⟩)
       · first
         | (exfalso; omega)
         | (refine w_ldR rfl rfl rfl ?_
            refine w_push rfl ?_
            refine w_callV rfl rfl rfl rfl rfl rfl rfl r_finds1 ?_
            try simp only [hD]
            refine w_retI rfl ?_
            exact ⟨p13.2 c.toNat (by omega), p13.1⟩))
theorem m_light_n {d : Nat} {s : mSt} {D : Nat → Int} (hD : s 147 = D) (hM : MOk D) (hC : COk D) {w c : Int} (hrw : -2147483648 ≤ w ∧ w < 2147483648) (hrc : -2147483648 ≤ c ∧ c < 2147483648) (hy : ¬ ((0 ≤ w ∧ w ≤ D 39 - 1) ∧ 0 ≤ c ∧ c ≤ 35)) : CI (d + 5) 212 [.inr (.inr 146), .inl w, .inl c] (s) (fun r s1 => r = -1000000000 - 1 ∧ s1 = us s 150 1 (s 150 1 + 1)) := by
  refine CI.mk rfl ?_
  show WP (d + 5) 212 0 [some (.inr (.inr 146)), some (.inl w), some (.inl c)] [] (encA (s)) _
  have hM0 := hM
  obtain ⟨hM39, hM40, hM41, hM43, hM44, hM36, hM37, hM38, hMc, hMw, hMp, hMt, hMb⟩ := hM
  refine w_ldR rfl rfl rfl ?_
  refine w_ldI rfl rfl ?_
  refine w_callV rfl rfl rfl rfl rfl rfl rfl (r_isWindow (by omega) (by rw [hD]; omega)) ?_
  rw [hD]
  try simp only [hD]
  refine w_bEq0 rfl (fun b3 => ?_) (fun b3 => ?_)
  · first
    | (exfalso; omega)
    | (refine w_ldR rfl rfl rfl ?_
       refine w_push rfl ?_
       refine w_callV rfl rfl rfl rfl rfl rfl rfl r_finds1 ?_
       try simp only [hD]
       refine w_retI rfl ?_
       exact ⟨rfl, rfl⟩)
  · first
    | (exfalso; omega)
    | (refine w_ldI rfl rfl ?_
       refine w_call rfl rfl rfl (r_isCell (by omega)) ?_
       try simp only [hD]
       refine w_bNe0 rfl (fun b6 => ?_) (fun b6 => ?_)
       · first
         | (exfalso; omega)
         | (refine w_ldR rfl rfl rfl ?_
            refine w_ldI rfl rfl ?_
            refine w_callWN rfl rfl rfl rfl rfl rfl rfl (c_shine hD hM0 hC (by omega)) (fun s13 p13 => ?_)
            refine w_ldR rfl rfl rfl ?_
            first | refine w_getI rfl rfl rfl rfl rfl ?_ | refine w_getR rfl rfl rfl rfl rfl ?_
            try simp only [hD]
            refine w_ldI rfl rfl ?_
            refine w_ald rfl rfl rfl (by omega) rfl ?_
            try simp only [hD]
            refine w_retI rfl ?_
            exact ⟨rfl, rfl⟩)
       · first
         | (exfalso; omega)
         | (refine w_ldR rfl rfl rfl ?_
            refine w_push rfl ?_
            refine w_callV rfl rfl rfl rfl rfl rfl rfl r_finds1 ?_
            try simp only [hD]
            refine w_retI rfl ?_
            exact ⟨rfl, rfl⟩))
theorem st_light {X : Nat → Int} {N : Int} {d : Nat} {s : mSt} {cnt : Int} (hI : Inv X N s cnt) {w c : Int} (hrw : -2147483648 ≤ w ∧ w < 2147483648) (hrc : -2147483648 ≤ c ∧ c < 2147483648) : Step X N (d + 150) s cnt 107 212 [.inl w, .inl c] := by
  have hI0 := hI
  obtain ⟨hD, -, -, -, -, hT, -, hX, hU⟩ := hI
  have hD0 := hD
  obtain ⟨⟨hM, hC, hN⟩, hV, h8⟩ := hD
  have hV0 := hV
  have hM0 := hM
  obtain ⟨vc, vpl, vga, vse, vne, veg, vre, vtu, vta, vwa, v36, v37, v39, v40, v42, v41, v43, v44, vl0, vl1, vlm⟩ := hV
  obtain ⟨hM39, hM40, hM41, hM43, hM44, hM36, hM37, hM38, hMc, hMw, hMp, hMt, hMb⟩ := hM
  by_cases hy : (0 ≤ w ∧ w ≤ s 147 39 - 1) ∧ 0 ≤ c ∧ c ≤ 35
  · obtain ⟨r1, s1, k1, hr, f1⟩ := x_light_y (d := d + 146) hD0 hrw hrc hy
    have e : s1 147 = s 147 := f1.at 147 rfl
    obtain ⟨r2, s2, k2, hr2, f2⟩ := m_light_y (d := d + 145) (s := s1) e hM0 hC hrw hrc hy
    exact Step.mk (by first | exact ⟨(f1.at 1 rfl).trans hX.2.1, (congrFun (f1.at 0 rfl) 1).trans hX.2.2⟩ | exact ⟨hX.2.1, hX.2.2⟩ | exact ⟨by rw [hs1, us_ne (by decide)]; exact hX.2.1, by rw [hs1, us_ne (by decide)]; exact hX.2.2⟩ | exact ⟨by rw [hs1, us_ne (by decide), us_ne (by decide)]; exact hX.2.1, by rw [hs1, us_ne (by decide), us_ne (by decide)]; exact hX.2.2⟩ | exact ⟨by rw [e1, us_ne (by decide), f1.at 1 rfl]; exact hX.2.1, by rw [e1, us_ne (by decide), f1.at 0 rfl]; exact hX.2.2⟩ | exact ⟨by rw [ft.at 1 rfl, hx 1 (by decide) (by decide)]; exact hX.2.1, by rw [ft.at 0 rfl, et, newL_0, mup_ne (by decide)]; exact hX.2.2⟩) k1 k2 (by rw [hr, hr2]) (hI0.scr (by omega) ((Fr.mono rfl f1).tr (Fr.mono rfl f2)))
  · obtain ⟨r1, s1, k1, hr, hs1⟩ := x_light_n (d := d + 146) hD0 hrw hrc hy
    have e : s1 147 = s 147 := by rw [hs1]; exact us_ne (by decide)
    obtain ⟨r2, s2, k2, hr2, hs2⟩ := m_light_n (d := d + 145) (s := s1) e hM0 hC hrw hrc hy
    rw [hs2] at k2
    exact Step.mk (by first | exact ⟨(f1.at 1 rfl).trans hX.2.1, (congrFun (f1.at 0 rfl) 1).trans hX.2.2⟩ | exact ⟨hX.2.1, hX.2.2⟩ | exact ⟨by rw [hs1, us_ne (by decide)]; exact hX.2.1, by rw [hs1, us_ne (by decide)]; exact hX.2.2⟩ | exact ⟨by rw [hs1, us_ne (by decide), us_ne (by decide)]; exact hX.2.1, by rw [hs1, us_ne (by decide), us_ne (by decide)]; exact hX.2.2⟩ | exact ⟨by rw [e1, us_ne (by decide), f1.at 1 rfl]; exact hX.2.1, by rw [e1, us_ne (by decide), f1.at 0 rfl]; exact hX.2.2⟩ | exact ⟨by rw [ft.at 1 rfl, hx 1 (by decide) (by decide)]; exact hX.2.1, by rw [ft.at 0 rfl, et, newL_0, mup_ne (by decide)]; exact hX.2.2⟩) k1 k2 (by rw [hr, hr2]) (hI0.err2 hs1)
theorem m_isAs {d : Nat} {s : mSt} {D : Nat → Int} (hD : s 147 = D) (hM : MOk D) (hC : COk D) {p w : Int} (hp : 0 ≤ p ∧ p < 10) (hw : 0 ≤ w ∧ w ≤ 4) : CI (d + 4) 214 [.inr (.inr 146), .inl p, .inl w] (s) (fun r s1 => r = faF D p w ∧ Fr [151, 153] s s1) := by
  refine CI.mk rfl ?_
  show WP (d + 4) 214 0 [some (.inr (.inr 146)), some (.inl p), some (.inl w)] [] (encA (s)) _
  refine w_ldI rfl rfl ?_
  refine w_push rfl ?_
  refine w_crGe rfl (by omega) (by omega) (fun b2 => ?_) (fun b2 => ?_)
  · first
    | (exfalso; omega)
    | (refine w_ldR rfl rfl rfl ?_
       refine w_ldI rfl rfl ?_
       refine w_callWI rfl rfl rfl rfl rfl rfl rfl (c_wantsOf hp hD hC) (fun v10 s10 p10 => ?_)
       refine w_retI rfl ?_
       first
       | exact ⟨by unfold faF; rw [if_pos (by omega)], Fr.rf⟩
       | exact ⟨by unfold faF; rw [if_neg (by omega)]; exact p10.1, p10.2⟩)
  · first
    | (exfalso; omega)
    | (refine w_ldR rfl rfl rfl ?_
       refine w_ldI rfl rfl ?_
       refine w_ldI rfl rfl ?_
       refine w_callV rfl rfl rfl rfl rfl rfl rfl (r_ofOne (by omega) (by omega)) ?_
       rw [hD]
       refine w_go rfl ?_
       refine w_retI rfl ?_
       first
       | exact ⟨by unfold faF; rw [if_pos (by omega)], Fr.rf⟩
       | exact ⟨by unfold faF; rw [if_neg (by omega)]; exact p10.1, p10.2⟩)
theorem x_ofPerson_y {d : Nat} {s : mSt} (hI : IvD s) {p w : Int} (hrp : -2147483648 ≤ p ∧ p < 2147483648) (hrw : -2147483648 ≤ w ∧ w < 2147483648) (hy : (0 ≤ p ∧ p ≤ s 147 40 - 1) ∧ 0 ≤ w ∧ w ≤ 4) : CI (d + 4) 109 [.inr (.inr 10), .inl p, .inl w] (s) (fun r s1 => r = faF (s 147) p w ∧ Fr [38, 46, 128, 129] s s1) := by
  refine CI.mk rfl ?_
  show WP (d + 4) 109 0 [some (.inr (.inr 10)), some (.inl p), some (.inl w)] [] (encA (s)) _
  have hI0 := hI
  obtain ⟨⟨hM, hC, hN⟩, hV, h8⟩ := hI
  have hV0 := hV
  have hM0 := hM
  obtain ⟨vc, vpl, vga, vse, vne, veg, vre, vtu, vta, vwa, v36, v37, v39, v40, v42, v41, v43, v44, vl0, vl1, vlm⟩ := hV
  obtain ⟨hM39, hM40, hM41, hM43, hM44, hM36, hM37, hM38, hMc, hMw, hMp, hMt, hMb⟩ := hM
  refine w_ldR rfl rfl rfl ?_
  refine w_ldI rfl rfl ?_
  refine w_callV rfl rfl rfl rfl rfl rfl rfl (k_isPerson (by omega) (by omega)) ?_
  refine w_bEq0 rfl (fun b3 => ?_) (fun b3 => ?_)
  · first
    | (exfalso; omega)
    | (refine w_ldR rfl rfl rfl ?_
       refine w_push rfl ?_
       refine w_callWI rfl rfl rfl rfl rfl rfl rfl k_error1 (fun v11 s11 p11 => ?_)
       obtain ⟨rfl, rfl⟩ := p11
       refine w_retI rfl ?_
       exact ⟨p17.1, Fr.mono rfl p17.2⟩)
  · first
    | (exfalso; omega)
    | (refine w_ldI rfl rfl ?_
       refine w_irLt0 rfl (by omega) (fun b5 => ?_) (fun b5 => ?_)
       · first
         | (exfalso; omega)
         | (refine w_ldR rfl rfl rfl ?_
            refine w_push rfl ?_
            refine w_callWI rfl rfl rfl rfl rfl rfl rfl k_error1 (fun v11 s11 p11 => ?_)
            obtain ⟨rfl, rfl⟩ := p11
            refine w_retI rfl ?_
            exact ⟨p17.1, Fr.mono rfl p17.2⟩)
       · first
         | (exfalso; omega)
         | (refine w_ldI rfl rfl ?_
            refine w_push rfl ?_
            refine w_crLe rfl (by omega) (by omega) (fun b8 => ?_) (fun b8 => ?_)
            · first
              | (exfalso; omega)
              | (refine w_ldR rfl rfl rfl ?_
                 first | refine w_getI rfl rfl rfl rfl rfl ?_ | refine w_getR rfl rfl rfl rfl rfl ?_
                 refine w_ldI rfl rfl ?_
                 refine w_ldI rfl rfl ?_
                 refine w_callWI rfl rfl rfl rfl rfl rfl rfl (k_factOf13 hV0 hM0 hC (by omega) (by omega) h8) (fun v17 s17 p17 => ?_)
                 refine w_retI rfl ?_
                 exact ⟨p17.1, Fr.mono rfl p17.2⟩)
            · first
              | (exfalso; omega)
              | (refine w_ldR rfl rfl rfl ?_
                 refine w_push rfl ?_
                 refine w_callWI rfl rfl rfl rfl rfl rfl rfl k_error1 (fun v11 s11 p11 => ?_)
                 obtain ⟨rfl, rfl⟩ := p11
                 refine w_retI rfl ?_
                 exact ⟨p17.1, Fr.mono rfl p17.2⟩)))
theorem x_ofPerson_n {d : Nat} {s : mSt} (hI : IvD s) {p w : Int} (hrp : -2147483648 ≤ p ∧ p < 2147483648) (hrw : -2147483648 ≤ w ∧ w < 2147483648) (hy : ¬ ((0 ≤ p ∧ p ≤ s 147 40 - 1) ∧ 0 ≤ w ∧ w ≤ 4)) : CI (d + 4) 109 [.inr (.inr 10), .inl p, .inl w] (s) (fun r s1 => r = -1000000000 - 1 ∧ s1 = us s 132 1 (s 132 1 + 1)) := by
  refine CI.mk rfl ?_
  show WP (d + 4) 109 0 [some (.inr (.inr 10)), some (.inl p), some (.inl w)] [] (encA (s)) _
  have hI0 := hI
  obtain ⟨⟨hM, hC, hN⟩, hV, h8⟩ := hI
  have hV0 := hV
  have hM0 := hM
  obtain ⟨vc, vpl, vga, vse, vne, veg, vre, vtu, vta, vwa, v36, v37, v39, v40, v42, v41, v43, v44, vl0, vl1, vlm⟩ := hV
  obtain ⟨hM39, hM40, hM41, hM43, hM44, hM36, hM37, hM38, hMc, hMw, hMp, hMt, hMb⟩ := hM
  refine w_ldR rfl rfl rfl ?_
  refine w_ldI rfl rfl ?_
  refine w_callV rfl rfl rfl rfl rfl rfl rfl (k_isPerson (by omega) (by omega)) ?_
  refine w_bEq0 rfl (fun b3 => ?_) (fun b3 => ?_)
  · first
    | (exfalso; omega)
    | (refine w_ldR rfl rfl rfl ?_
       refine w_push rfl ?_
       refine w_callWI rfl rfl rfl rfl rfl rfl rfl k_error1 (fun v11 s11 p11 => ?_)
       obtain ⟨rfl, rfl⟩ := p11
       refine w_retI rfl ?_
       exact ⟨rfl, rfl⟩)
  · first
    | (exfalso; omega)
    | (refine w_ldI rfl rfl ?_
       refine w_irLt0 rfl (by omega) (fun b5 => ?_) (fun b5 => ?_)
       · first
         | (exfalso; omega)
         | (refine w_ldR rfl rfl rfl ?_
            refine w_push rfl ?_
            refine w_callWI rfl rfl rfl rfl rfl rfl rfl k_error1 (fun v11 s11 p11 => ?_)
            obtain ⟨rfl, rfl⟩ := p11
            refine w_retI rfl ?_
            exact ⟨rfl, rfl⟩)
       · first
         | (exfalso; omega)
         | (refine w_ldI rfl rfl ?_
            refine w_push rfl ?_
            refine w_crLe rfl (by omega) (by omega) (fun b8 => ?_) (fun b8 => ?_)
            · first
              | (exfalso; omega)
              | (refine w_ldR rfl rfl rfl ?_
                 first | refine w_getI rfl rfl rfl rfl rfl ?_ | refine w_getR rfl rfl rfl rfl rfl ?_
                 refine w_ldI rfl rfl ?_
                 refine w_ldI rfl rfl ?_
                 refine w_callWI rfl rfl rfl rfl rfl rfl rfl (k_factOf13 hV0 hM0 hC (by omega) (by omega) h8) (fun v17 s17 p17 => ?_)
                 refine w_retI rfl ?_
                 exact ⟨rfl, rfl⟩)
            · first
              | (exfalso; omega)
              | (refine w_ldR rfl rfl rfl ?_
                 refine w_push rfl ?_
                 refine w_callWI rfl rfl rfl rfl rfl rfl rfl k_error1 (fun v11 s11 p11 => ?_)
                 obtain ⟨rfl, rfl⟩ := p11
                 refine w_retI rfl ?_
                 exact ⟨rfl, rfl⟩)))
theorem m_ofPerson_y {d : Nat} {s : mSt} {D : Nat → Int} (hD : s 147 = D) (hM : MOk D) (hC : COk D) {p w : Int} (hrp : -2147483648 ≤ p ∧ p < 2147483648) (hrw : -2147483648 ≤ w ∧ w < 2147483648) (hy : (0 ≤ p ∧ p ≤ D 40 - 1) ∧ 0 ≤ w ∧ w ≤ 4) : CI (d + 5) 215 [.inr (.inr 146), .inl p, .inl w] (s) (fun r s1 => r = faF D p w ∧ Fr [151, 153, 154] s s1) := by
  refine CI.mk rfl ?_
  show WP (d + 5) 215 0 [some (.inr (.inr 146)), some (.inl p), some (.inl w)] [] (encA (s)) _
  have hM0 := hM
  obtain ⟨hM39, hM40, hM41, hM43, hM44, hM36, hM37, hM38, hMc, hMw, hMp, hMt, hMb⟩ := hM
  refine w_ldR rfl rfl rfl ?_
  refine w_ldI rfl rfl ?_
  refine w_callV rfl rfl rfl rfl rfl rfl rfl (r_isPerson (by omega) (by rw [hD]; omega)) ?_
  rw [hD]
  try simp only [hD]
  refine w_bEq0 rfl (fun b3 => ?_) (fun b3 => ?_)
  · first
    | (exfalso; omega)
    | (refine w_ldR rfl rfl rfl ?_
       refine w_push rfl ?_
       refine w_callV rfl rfl rfl rfl rfl rfl rfl r_finds1 ?_
       try simp only [hD]
       refine w_retI rfl ?_
       exact ⟨p13.1, Fr.mono rfl p13.2⟩)
  · first
    | (exfalso; omega)
    | (refine w_ldI rfl rfl ?_
       refine w_i2lr rfl (by omega) ?_
       refine w_push rfl ?_
       refine w_push rfl ?_
       refine w_call rfl rfl rfl (r_in (by omega) (by omega) (by omega)) ?_
       try simp only [hD]
       refine w_bEq0 rfl (fun b9 => ?_) (fun b9 => ?_)
       · first
         | (exfalso; omega)
         | (refine w_ldR rfl rfl rfl ?_
            refine w_push rfl ?_
            refine w_callV rfl rfl rfl rfl rfl rfl rfl r_finds1 ?_
            try simp only [hD]
            refine w_retI rfl ?_
            exact ⟨p13.1, Fr.mono rfl p13.2⟩)
       · first
         | (exfalso; omega)
         | (refine w_ldR rfl rfl rfl ?_
            refine w_ldI rfl rfl ?_
            refine w_ldI rfl rfl ?_
            refine w_callWI rfl rfl rfl rfl rfl rfl rfl (m_isAs hD hM0 hC (by omega) (by omega)) (fun v13 s13 p13 => ?_)
            refine w_go rfl ?_
            refine w_retI rfl ?_
            exact ⟨p13.1, Fr.mono rfl p13.2⟩))
theorem m_ofPerson_n {d : Nat} {s : mSt} {D : Nat → Int} (hD : s 147 = D) (hM : MOk D) (hC : COk D) {p w : Int} (hrp : -2147483648 ≤ p ∧ p < 2147483648) (hrw : -2147483648 ≤ w ∧ w < 2147483648) (hy : ¬ ((0 ≤ p ∧ p ≤ D 40 - 1) ∧ 0 ≤ w ∧ w ≤ 4)) : CI (d + 5) 215 [.inr (.inr 146), .inl p, .inl w] (s) (fun r s1 => r = -1000000000 - 1 ∧ s1 = us s 150 1 (s 150 1 + 1)) := by
  refine CI.mk rfl ?_
  show WP (d + 5) 215 0 [some (.inr (.inr 146)), some (.inl p), some (.inl w)] [] (encA (s)) _
  have hM0 := hM
  obtain ⟨hM39, hM40, hM41, hM43, hM44, hM36, hM37, hM38, hMc, hMw, hMp, hMt, hMb⟩ := hM
  refine w_ldR rfl rfl rfl ?_
  refine w_ldI rfl rfl ?_
  refine w_callV rfl rfl rfl rfl rfl rfl rfl (r_isPerson (by omega) (by rw [hD]; omega)) ?_
  rw [hD]
  try simp only [hD]
  refine w_bEq0 rfl (fun b3 => ?_) (fun b3 => ?_)
  · first
    | (exfalso; omega)
    | (refine w_ldR rfl rfl rfl ?_
       refine w_push rfl ?_
       refine w_callV rfl rfl rfl rfl rfl rfl rfl r_finds1 ?_
       try simp only [hD]
       refine w_retI rfl ?_
       exact ⟨rfl, rfl⟩)
  · first
    | (exfalso; omega)
    | (refine w_ldI rfl rfl ?_
       refine w_i2lr rfl (by omega) ?_
       refine w_push rfl ?_
       refine w_push rfl ?_
       refine w_call rfl rfl rfl (r_in (by omega) (by omega) (by omega)) ?_
       try simp only [hD]
       refine w_bEq0 rfl (fun b9 => ?_) (fun b9 => ?_)
       · first
         | (exfalso; omega)
         | (refine w_ldR rfl rfl rfl ?_
            refine w_push rfl ?_
            refine w_callV rfl rfl rfl rfl rfl rfl rfl r_finds1 ?_
            try simp only [hD]
            refine w_retI rfl ?_
            exact ⟨rfl, rfl⟩)
       · first
         | (exfalso; omega)
         | (refine w_ldR rfl rfl rfl ?_
            refine w_ldI rfl rfl ?_
            refine w_ldI rfl rfl ?_
            refine w_callWI rfl rfl rfl rfl rfl rfl rfl (m_isAs hD hM0 hC (by omega) (by omega)) (fun v13 s13 p13 => ?_)
            refine w_go rfl ?_
            refine w_retI rfl ?_
            exact ⟨rfl, rfl⟩))
theorem st_ofPerson {X : Nat → Int} {N : Int} {d : Nat} {s : mSt} {cnt : Int} (hI : Inv X N s cnt) {p w : Int} (hrp : -2147483648 ≤ p ∧ p < 2147483648) (hrw : -2147483648 ≤ w ∧ w < 2147483648) : Step X N (d + 150) s cnt 109 215 [.inl p, .inl w] := by
  have hI0 := hI
  obtain ⟨hD, -, -, -, -, hT, -, hX, hU⟩ := hI
  have hD0 := hD
  obtain ⟨⟨hM, hC, hN⟩, hV, h8⟩ := hD
  have hV0 := hV
  have hM0 := hM
  obtain ⟨vc, vpl, vga, vse, vne, veg, vre, vtu, vta, vwa, v36, v37, v39, v40, v42, v41, v43, v44, vl0, vl1, vlm⟩ := hV
  obtain ⟨hM39, hM40, hM41, hM43, hM44, hM36, hM37, hM38, hMc, hMw, hMp, hMt, hMb⟩ := hM
  by_cases hy : (0 ≤ p ∧ p ≤ s 147 40 - 1) ∧ 0 ≤ w ∧ w ≤ 4
  · obtain ⟨r1, s1, k1, hr, f1⟩ := x_ofPerson_y (d := d + 146) hD0 hrp hrw hy
    have e : s1 147 = s 147 := f1.at 147 rfl
    obtain ⟨r2, s2, k2, hr2, f2⟩ := m_ofPerson_y (d := d + 145) (s := s1) e hM0 hC hrp hrw hy
    exact Step.mk (by first | exact ⟨(f1.at 1 rfl).trans hX.2.1, (congrFun (f1.at 0 rfl) 1).trans hX.2.2⟩ | exact ⟨hX.2.1, hX.2.2⟩ | exact ⟨by rw [hs1, us_ne (by decide)]; exact hX.2.1, by rw [hs1, us_ne (by decide)]; exact hX.2.2⟩ | exact ⟨by rw [hs1, us_ne (by decide), us_ne (by decide)]; exact hX.2.1, by rw [hs1, us_ne (by decide), us_ne (by decide)]; exact hX.2.2⟩ | exact ⟨by rw [e1, us_ne (by decide), f1.at 1 rfl]; exact hX.2.1, by rw [e1, us_ne (by decide), f1.at 0 rfl]; exact hX.2.2⟩ | exact ⟨by rw [ft.at 1 rfl, hx 1 (by decide) (by decide)]; exact hX.2.1, by rw [ft.at 0 rfl, et, newL_0, mup_ne (by decide)]; exact hX.2.2⟩) k1 k2 (by rw [hr, hr2]) (hI0.scr (by omega) ((Fr.mono rfl f1).tr (Fr.mono rfl f2)))
  · obtain ⟨r1, s1, k1, hr, hs1⟩ := x_ofPerson_n (d := d + 146) hD0 hrp hrw hy
    have e : s1 147 = s 147 := by rw [hs1]; exact us_ne (by decide)
    obtain ⟨r2, s2, k2, hr2, hs2⟩ := m_ofPerson_n (d := d + 145) (s := s1) e hM0 hC hrp hrw hy
    rw [hs2] at k2
    exact Step.mk (by first | exact ⟨(f1.at 1 rfl).trans hX.2.1, (congrFun (f1.at 0 rfl) 1).trans hX.2.2⟩ | exact ⟨hX.2.1, hX.2.2⟩ | exact ⟨by rw [hs1, us_ne (by decide)]; exact hX.2.1, by rw [hs1, us_ne (by decide)]; exact hX.2.2⟩ | exact ⟨by rw [hs1, us_ne (by decide), us_ne (by decide)]; exact hX.2.1, by rw [hs1, us_ne (by decide), us_ne (by decide)]; exact hX.2.2⟩ | exact ⟨by rw [e1, us_ne (by decide), f1.at 1 rfl]; exact hX.2.1, by rw [e1, us_ne (by decide), f1.at 0 rfl]; exact hX.2.2⟩ | exact ⟨by rw [ft.at 1 rfl, hx 1 (by decide) (by decide)]; exact hX.2.1, by rw [ft.at 0 rfl, et, newL_0, mup_ne (by decide)]; exact hX.2.2⟩) k1 k2 (by rw [hr, hr2]) (hI0.err2 hs1)
theorem x_law_0 {d : Nat} {s : mSt} (hI : IvD s) {u a b c e : Int} (hru : -2147483648 ≤ u ∧ u < 2147483648) (hy : u = 0) : CI (d + 2) 117 [.inr (.inr 10), .inl u, .inl a, .inl b, .inl c, .inl e] (s) (fun r s1 => r = gv (s 147) u a b c e ∧ Fr [38, 46, 128, 129] s s1) := by
  refine CI.mk rfl ?_
  show WP (d + 2) 117 0 [some (.inr (.inr 10)), some (.inl u), some (.inl a), some (.inl b), some (.inl c), some (.inl e)] [] (encA (s)) _
  have hI0 := hI
  obtain ⟨⟨hM, hC, hN⟩, hV, h8⟩ := hI
  have hV0 := hV
  have hM0 := hM
  obtain ⟨vc, vpl, vga, vse, vne, veg, vre, vtu, vta, vwa, v36, v37, v39, v40, v42, v41, v43, v44, vl0, vl1, vlm⟩ := hV
  obtain ⟨hM39, hM40, hM41, hM43, hM44, hM36, hM37, hM38, hMc, hMw, hMp, hMt, hMb⟩ := hM
  refine w_ldI rfl rfl ?_
  refine w_call rfl rfl rfl (k_isUse (by omega)) ?_
  refine w_bNe0 rfl (fun b2 => ?_) (fun b2 => ?_)
  · first
    | (exfalso; omega)
    | (refine w_ldR rfl rfl rfl ?_
       first | refine w_getI rfl rfl rfl rfl rfl ?_ | refine w_getR rfl rfl rfl rfl rfl ?_
       first | refine w_getI rfl rfl rfl rfl rfl ?_ | refine w_getR rfl rfl rfl rfl rfl ?_
       refine w_ldI rfl rfl ?_
       subst hy
       refine w_rld rfl rfl rfl (by omega) rfl ?_
       show WP _ _ _ _ (.inr (.inr 35) :: _) _ _
       refine w_ldI rfl rfl ?_
       refine w_ldI rfl rfl ?_
       refine w_ldI rfl rfl ?_
       refine w_ldI rfl rfl ?_
       refine w_callWI rfl rfl rfl rfl rfl rfl rfl (k_gives35 (use := 0) (by omega) vl0 hC) (fun v16 s16 p16 => ?_)
       refine w_retI rfl ?_
       exact ⟨p16.1, Fr.mono rfl p16.2⟩)
  · first
    | (exfalso; omega)
    | (refine w_ldR rfl rfl rfl ?_
       refine w_push rfl ?_
       refine w_callWI rfl rfl rfl rfl rfl rfl rfl k_error1 (fun v5 s5 p5 => ?_)
       obtain ⟨rfl, rfl⟩ := p5
       refine w_retI rfl ?_
       exact ⟨p16.1, Fr.mono rfl p16.2⟩)
theorem x_law_1 {d : Nat} {s : mSt} (hI : IvD s) {u a b c e : Int} (hru : -2147483648 ≤ u ∧ u < 2147483648) (hy : u = 1) : CI (d + 2) 117 [.inr (.inr 10), .inl u, .inl a, .inl b, .inl c, .inl e] (s) (fun r s1 => r = gv (s 147) u a b c e ∧ Fr [38, 46, 128, 129] s s1) := by
  refine CI.mk rfl ?_
  show WP (d + 2) 117 0 [some (.inr (.inr 10)), some (.inl u), some (.inl a), some (.inl b), some (.inl c), some (.inl e)] [] (encA (s)) _
  have hI0 := hI
  obtain ⟨⟨hM, hC, hN⟩, hV, h8⟩ := hI
  have hV0 := hV
  have hM0 := hM
  obtain ⟨vc, vpl, vga, vse, vne, veg, vre, vtu, vta, vwa, v36, v37, v39, v40, v42, v41, v43, v44, vl0, vl1, vlm⟩ := hV
  obtain ⟨hM39, hM40, hM41, hM43, hM44, hM36, hM37, hM38, hMc, hMw, hMp, hMt, hMb⟩ := hM
  refine w_ldI rfl rfl ?_
  refine w_call rfl rfl rfl (k_isUse (by omega)) ?_
  refine w_bNe0 rfl (fun b2 => ?_) (fun b2 => ?_)
  · first
    | (exfalso; omega)
    | (refine w_ldR rfl rfl rfl ?_
       first | refine w_getI rfl rfl rfl rfl rfl ?_ | refine w_getR rfl rfl rfl rfl rfl ?_
       first | refine w_getI rfl rfl rfl rfl rfl ?_ | refine w_getR rfl rfl rfl rfl rfl ?_
       refine w_ldI rfl rfl ?_
       subst hy
       refine w_rld rfl rfl rfl (by omega) rfl ?_
       show WP _ _ _ _ (.inr (.inr 43) :: _) _ _
       refine w_ldI rfl rfl ?_
       refine w_ldI rfl rfl ?_
       refine w_ldI rfl rfl ?_
       refine w_ldI rfl rfl ?_
       refine w_callWI rfl rfl rfl rfl rfl rfl rfl (k_gives43 (use := 1) (by omega) vl1 hC) (fun v16 s16 p16 => ?_)
       refine w_retI rfl ?_
       exact ⟨p16.1, Fr.mono rfl p16.2⟩)
  · first
    | (exfalso; omega)
    | (refine w_ldR rfl rfl rfl ?_
       refine w_push rfl ?_
       refine w_callWI rfl rfl rfl rfl rfl rfl rfl k_error1 (fun v5 s5 p5 => ?_)
       obtain ⟨rfl, rfl⟩ := p5
       refine w_retI rfl ?_
       exact ⟨p16.1, Fr.mono rfl p16.2⟩)
theorem x_law_n {d : Nat} {s : mSt} (hI : IvD s) {u a b c e : Int} (hru : -2147483648 ≤ u ∧ u < 2147483648) (hy : ¬ (0 ≤ u ∧ u ≤ 1)) : CI (d + 2) 117 [.inr (.inr 10), .inl u, .inl a, .inl b, .inl c, .inl e] (s) (fun r s1 => r = -1000000000 - 1 ∧ s1 = us s 132 1 (s 132 1 + 1)) := by
  refine CI.mk rfl ?_
  show WP (d + 2) 117 0 [some (.inr (.inr 10)), some (.inl u), some (.inl a), some (.inl b), some (.inl c), some (.inl e)] [] (encA (s)) _
  have hI0 := hI
  obtain ⟨⟨hM, hC, hN⟩, hV, h8⟩ := hI
  have hV0 := hV
  have hM0 := hM
  obtain ⟨vc, vpl, vga, vse, vne, veg, vre, vtu, vta, vwa, v36, v37, v39, v40, v42, v41, v43, v44, vl0, vl1, vlm⟩ := hV
  obtain ⟨hM39, hM40, hM41, hM43, hM44, hM36, hM37, hM38, hMc, hMw, hMp, hMt, hMb⟩ := hM
  refine w_ldI rfl rfl ?_
  refine w_call rfl rfl rfl (k_isUse (by omega)) ?_
  refine w_bNe0 rfl (fun b2 => ?_) (fun b2 => ?_)
  · first
    | (exfalso; omega)
    | (refine w_ldR rfl rfl rfl ?_
       first | refine w_getI rfl rfl rfl rfl rfl ?_ | refine w_getR rfl rfl rfl rfl rfl ?_
       first | refine w_getI rfl rfl rfl rfl rfl ?_ | refine w_getR rfl rfl rfl rfl rfl ?_
       refine w_ldI rfl rfl ?_
       first | refine w_rld rfl rfl rfl (by omega) rfl ?_ | refine w_rldL rfl rfl rfl (by omega) rfl ?_
       refine w_ldI rfl rfl ?_
       refine w_ldI rfl rfl ?_
       refine w_ldI rfl rfl ?_
       refine w_ldI rfl rfl ?_
       refine w_callV rfl rfl rfl rfl rfl rfl rfl trivial ?_
       refine w_retI rfl ?_
       exact ⟨rfl, rfl⟩)
  · first
    | (exfalso; omega)
    | (refine w_ldR rfl rfl rfl ?_
       refine w_push rfl ?_
       refine w_callWI rfl rfl rfl rfl rfl rfl rfl k_error1 (fun v5 s5 p5 => ?_)
       obtain ⟨rfl, rfl⟩ := p5
       refine w_retI rfl ?_
       exact ⟨rfl, rfl⟩)
theorem m_law_y {d : Nat} {s : mSt} {D : Nat → Int} (hD : s 147 = D) (hM : MOk D) (hC : COk D) {u a b c e : Int} (hru : -2147483648 ≤ u ∧ u < 2147483648) (hy : 0 ≤ u ∧ u ≤ 1) : CI (d + 3) 194 [.inr (.inr 146), .inl u, .inl a, .inl b, .inl c, .inl e] (s) (fun r s1 => r = gv D u a b c e ∧ Fr [151, 153, 154] s s1) := by
  refine CI.mk rfl ?_
  show WP (d + 3) 194 0 [some (.inr (.inr 146)), some (.inl u), some (.inl a), some (.inl b), some (.inl c), some (.inl e)] [] (encA (s)) _
  have hM0 := hM
  obtain ⟨hM39, hM40, hM41, hM43, hM44, hM36, hM37, hM38, hMc, hMw, hMp, hMt, hMb⟩ := hM
  refine w_ldI rfl rfl ?_
  refine w_i2lr rfl (by omega) ?_
  refine w_push rfl ?_
  refine w_push rfl ?_
  refine w_call rfl rfl rfl (r_in (by omega) (by omega) (by omega)) ?_
  try simp only [hD]
  refine w_bEq0 rfl (fun b5 => ?_) (fun b5 => ?_)
  · first
    | (exfalso; omega)
    | (refine w_ldR rfl rfl rfl ?_
       refine w_push rfl ?_
       refine w_callV rfl rfl rfl rfl rfl rfl rfl r_finds1 ?_
       try simp only [hD]
       refine w_retI rfl ?_
       exact ⟨p12.1, Fr.mono rfl p12.2⟩)
  · first
    | (exfalso; omega)
    | (refine w_ldR rfl rfl rfl ?_
       refine w_ldI rfl rfl ?_
       refine w_ldI rfl rfl ?_
       refine w_ldI rfl rfl ?_
       refine w_ldI rfl rfl ?_
       refine w_ldI rfl rfl ?_
       refine w_callWI rfl rfl rfl rfl rfl rfl rfl (c_gives hy hD hC) (fun v12 s12 p12 => ?_)
       refine w_go rfl ?_
       refine w_retI rfl ?_
       exact ⟨p12.1, Fr.mono rfl p12.2⟩)
theorem m_law_n {d : Nat} {s : mSt} {D : Nat → Int} (hD : s 147 = D) (hM : MOk D) (hC : COk D) {u a b c e : Int} (hru : -2147483648 ≤ u ∧ u < 2147483648) (hy : ¬ (0 ≤ u ∧ u ≤ 1)) : CI (d + 3) 194 [.inr (.inr 146), .inl u, .inl a, .inl b, .inl c, .inl e] (s) (fun r s1 => r = -1000000000 - 1 ∧ s1 = us s 150 1 (s 150 1 + 1)) := by
  refine CI.mk rfl ?_
  show WP (d + 3) 194 0 [some (.inr (.inr 146)), some (.inl u), some (.inl a), some (.inl b), some (.inl c), some (.inl e)] [] (encA (s)) _
  have hM0 := hM
  obtain ⟨hM39, hM40, hM41, hM43, hM44, hM36, hM37, hM38, hMc, hMw, hMp, hMt, hMb⟩ := hM
  refine w_ldI rfl rfl ?_
  refine w_i2lr rfl (by omega) ?_
  refine w_push rfl ?_
  refine w_push rfl ?_
  refine w_call rfl rfl rfl (r_in (by omega) (by omega) (by omega)) ?_
  try simp only [hD]
  refine w_bEq0 rfl (fun b5 => ?_) (fun b5 => ?_)
  · first
    | (exfalso; omega)
    | (refine w_ldR rfl rfl rfl ?_
       refine w_push rfl ?_
       refine w_callV rfl rfl rfl rfl rfl rfl rfl r_finds1 ?_
       try simp only [hD]
       refine w_retI rfl ?_
       exact ⟨rfl, rfl⟩)
  · first
    | (exfalso; omega)
    | (refine w_ldR rfl rfl rfl ?_
       refine w_ldI rfl rfl ?_
       refine w_ldI rfl rfl ?_
       refine w_ldI rfl rfl ?_
       refine w_ldI rfl rfl ?_
       refine w_ldI rfl rfl ?_
       refine w_callWI rfl rfl rfl rfl rfl rfl rfl (c_gives (by omega) hD hC) (fun v12 s12 p12 => ?_)
       refine w_go rfl ?_
       refine w_retI rfl ?_
       exact ⟨rfl, rfl⟩)
theorem st_law {X : Nat → Int} {N : Int} {d : Nat} {s : mSt} {cnt : Int} (hI : Inv X N s cnt) {u a b c e : Int} (hru : -2147483648 ≤ u ∧ u < 2147483648) : Step X N (d + 150) s cnt 117 194 [.inl u, .inl a, .inl b, .inl c, .inl e] := by
  have hI0 := hI
  obtain ⟨hD, -, -, -, -, hT, -, hX, hU⟩ := hI
  have hD0 := hD
  obtain ⟨⟨hM, hC, hN⟩, hV, h8⟩ := hD
  have hV0 := hV
  have hM0 := hM
  obtain ⟨vc, vpl, vga, vse, vne, veg, vre, vtu, vta, vwa, v36, v37, v39, v40, v42, v41, v43, v44, vl0, vl1, vlm⟩ := hV
  obtain ⟨hM39, hM40, hM41, hM43, hM44, hM36, hM37, hM38, hMc, hMw, hMp, hMt, hMb⟩ := hM
  by_cases hy : 0 ≤ u ∧ u ≤ 1
  · by_cases h0 : u = 0
    · obtain ⟨r1, s1, k1, hr, f1⟩ := x_law_0 (d := d + 148) hD0 hru h0
      have e9 : s1 147 = s 147 := f1.at 147 rfl
      obtain ⟨r2, s2, k2, hr2, f2⟩ := m_law_y (d := d + 147) (s := s1) e9 hM0 hC hru hy
      exact Step.mk (by first | exact ⟨(f1.at 1 rfl).trans hX.2.1, (congrFun (f1.at 0 rfl) 1).trans hX.2.2⟩ | exact ⟨hX.2.1, hX.2.2⟩ | exact ⟨by rw [hs1, us_ne (by decide)]; exact hX.2.1, by rw [hs1, us_ne (by decide)]; exact hX.2.2⟩ | exact ⟨by rw [hs1, us_ne (by decide), us_ne (by decide)]; exact hX.2.1, by rw [hs1, us_ne (by decide), us_ne (by decide)]; exact hX.2.2⟩ | exact ⟨by rw [e1, us_ne (by decide), f1.at 1 rfl]; exact hX.2.1, by rw [e1, us_ne (by decide), f1.at 0 rfl]; exact hX.2.2⟩ | exact ⟨by rw [ft.at 1 rfl, hx 1 (by decide) (by decide)]; exact hX.2.1, by rw [ft.at 0 rfl, et, newL_0, mup_ne (by decide)]; exact hX.2.2⟩) k1 k2 (by rw [hr, hr2]) (hI0.scr (by omega) ((Fr.mono rfl f1).tr (Fr.mono rfl f2)))
    · obtain ⟨r1, s1, k1, hr, f1⟩ := x_law_1 (d := d + 148) hD0 hru (by omega)
      have e9 : s1 147 = s 147 := f1.at 147 rfl
      obtain ⟨r2, s2, k2, hr2, f2⟩ := m_law_y (d := d + 147) (s := s1) e9 hM0 hC hru hy
      exact Step.mk (by first | exact ⟨(f1.at 1 rfl).trans hX.2.1, (congrFun (f1.at 0 rfl) 1).trans hX.2.2⟩ | exact ⟨hX.2.1, hX.2.2⟩ | exact ⟨by rw [hs1, us_ne (by decide)]; exact hX.2.1, by rw [hs1, us_ne (by decide)]; exact hX.2.2⟩ | exact ⟨by rw [hs1, us_ne (by decide), us_ne (by decide)]; exact hX.2.1, by rw [hs1, us_ne (by decide), us_ne (by decide)]; exact hX.2.2⟩ | exact ⟨by rw [e1, us_ne (by decide), f1.at 1 rfl]; exact hX.2.1, by rw [e1, us_ne (by decide), f1.at 0 rfl]; exact hX.2.2⟩ | exact ⟨by rw [ft.at 1 rfl, hx 1 (by decide) (by decide)]; exact hX.2.1, by rw [ft.at 0 rfl, et, newL_0, mup_ne (by decide)]; exact hX.2.2⟩) k1 k2 (by rw [hr, hr2]) (hI0.scr (by omega) ((Fr.mono rfl f1).tr (Fr.mono rfl f2)))
  · obtain ⟨r1, s1, k1, hr, hs1⟩ := x_law_n (d := d + 148) hD0 (a := a) (b := b) (c := c) (e := e) hru hy
    have e9 : s1 147 = s 147 := by rw [hs1]; exact us_ne (by decide)
    obtain ⟨r2, s2, k2, hr2, hs2⟩ := m_law_n (d := d + 147) (s := s1) e9 hM0 hC (a := a) (b := b) (c := c) (e := e) hru hy
    rw [hs2] at k2
    exact Step.mk (by first | exact ⟨(f1.at 1 rfl).trans hX.2.1, (congrFun (f1.at 0 rfl) 1).trans hX.2.2⟩ | exact ⟨hX.2.1, hX.2.2⟩ | exact ⟨by rw [hs1, us_ne (by decide)]; exact hX.2.1, by rw [hs1, us_ne (by decide)]; exact hX.2.2⟩ | exact ⟨by rw [hs1, us_ne (by decide), us_ne (by decide)]; exact hX.2.1, by rw [hs1, us_ne (by decide), us_ne (by decide)]; exact hX.2.2⟩ | exact ⟨by rw [e1, us_ne (by decide), f1.at 1 rfl]; exact hX.2.1, by rw [e1, us_ne (by decide), f1.at 0 rfl]; exact hX.2.2⟩ | exact ⟨by rw [ft.at 1 rfl, hx 1 (by decide) (by decide)]; exact hX.2.1, by rw [ft.at 0 rfl, et, newL_0, mup_ne (by decide)]; exact hX.2.2⟩) k1 k2 (by rw [hr, hr2]) (hI0.err2 hs1)
theorem x_lit_y {d : Nat} {s : mSt} (hI : IvD s)  (hy : 0 ≤ litW (s 147)) : CI (d + 2) 114 [.inr (.inr 10)] (s) (fun r s1 => r = litW (s 147) ∧ Fr [] s s1) := by
  refine CI.mk rfl ?_
  show WP (d + 2) 114 0 [some (.inr (.inr 10)), none] [] (encA (s)) _
  have hI0 := hI
  obtain ⟨⟨hM, hC, hN⟩, hV, h8⟩ := hI
  have hV0 := hV
  have hM0 := hM
  obtain ⟨vc, vpl, vga, vse, vne, veg, vre, vtu, vta, vwa, v36, v37, v39, v40, v42, v41, v43, v44, vl0, vl1, vlm⟩ := hV
  obtain ⟨hM39, hM40, hM41, hM43, hM44, hM36, hM37, hM38, hMc, hMw, hMp, hMt, hMb⟩ := hM
  have hl := litW_rng hM0
  refine w_ldR rfl rfl rfl ?_
  first | refine w_getI rfl rfl rfl rfl rfl ?_ | refine w_getR rfl rfl rfl rfl rfl ?_
  refine w_callV rfl rfl rfl rfl rfl rfl rfl (k_litT13 hV0 hM0 h8) ?_
  refine w_StI_2_1 rfl rfl ?_
  refine w_ldI rfl rfl ?_
  refine w_irGe0 rfl (by omega) (fun b5 => ?_) (fun b5 => ?_)
  · first
    | (exfalso; omega)
    | (refine w_ldI rfl rfl ?_
       refine w_retI rfl ?_
       exact ⟨rfl, Fr.rf⟩)
  · first
    | (exfalso; omega)
    | (refine w_ldR rfl rfl rfl ?_
       refine w_push rfl ?_
       refine w_callWI rfl rfl rfl rfl rfl rfl rfl k_error2 (fun v8 s8 p8 => ?_)
       obtain ⟨rfl, rfl⟩ := p8
       refine w_go rfl ?_
       refine w_retI rfl ?_
       exact ⟨rfl, Fr.rf⟩)
theorem x_lit_n {d : Nat} {s : mSt} (hI : IvD s)  (hy : ¬ 0 ≤ litW (s 147)) : CI (d + 2) 114 [.inr (.inr 10)] (s) (fun r s1 => r = -1000000000 - 2 ∧ s1 = us s 132 2 (s 132 2 + 1)) := by
  refine CI.mk rfl ?_
  show WP (d + 2) 114 0 [some (.inr (.inr 10)), none] [] (encA (s)) _
  have hI0 := hI
  obtain ⟨⟨hM, hC, hN⟩, hV, h8⟩ := hI
  have hV0 := hV
  have hM0 := hM
  obtain ⟨vc, vpl, vga, vse, vne, veg, vre, vtu, vta, vwa, v36, v37, v39, v40, v42, v41, v43, v44, vl0, vl1, vlm⟩ := hV
  obtain ⟨hM39, hM40, hM41, hM43, hM44, hM36, hM37, hM38, hMc, hMw, hMp, hMt, hMb⟩ := hM
  have hl := litW_rng hM0
  refine w_ldR rfl rfl rfl ?_
  first | refine w_getI rfl rfl rfl rfl rfl ?_ | refine w_getR rfl rfl rfl rfl rfl ?_
  refine w_callV rfl rfl rfl rfl rfl rfl rfl (k_litT13 hV0 hM0 h8) ?_
  refine w_StI_2_1 rfl rfl ?_
  refine w_ldI rfl rfl ?_
  refine w_irGe0 rfl (by omega) (fun b5 => ?_) (fun b5 => ?_)
  · first
    | (exfalso; omega)
    | (refine w_ldI rfl rfl ?_
       refine w_retI rfl ?_
       exact ⟨rfl, rfl⟩)
  · first
    | (exfalso; omega)
    | (refine w_ldR rfl rfl rfl ?_
       refine w_push rfl ?_
       refine w_callWI rfl rfl rfl rfl rfl rfl rfl k_error2 (fun v8 s8 p8 => ?_)
       obtain ⟨rfl, rfl⟩ := p8
       refine w_go rfl ?_
       refine w_retI rfl ?_
       exact ⟨rfl, rfl⟩)
theorem m_lit_y {d : Nat} {s : mSt} {D : Nat → Int} (hD : s 147 = D) (hM : MOk D) (hC : COk D)  (hy : 0 ≤ litW D) : CI (d + 1) 221 [.inr (.inr 146)] (s) (fun r s1 => r = litW D ∧ Fr [] s s1) := by
  refine CI.mk rfl ?_
  show WP (d + 1) 221 0 [some (.inr (.inr 146)), none] [] (encA (s)) _
  have hM0 := hM
  obtain ⟨hM39, hM40, hM41, hM43, hM44, hM36, hM37, hM38, hMc, hMw, hMp, hMt, hMb⟩ := hM
  have hl := litW_rng hM0
  refine w_ldR rfl rfl rfl ?_
  refine w_callV rfl rfl rfl rfl rfl rfl rfl (r_litNow (by rw [hD]; exact hM0)) ?_
  rw [hD]
  try simp only [hD]
  refine w_StI_2_1 rfl rfl ?_
  refine w_ldI rfl rfl ?_
  refine w_irGe0 rfl (by omega) (fun b4 => ?_) (fun b4 => ?_)
  · first
    | (exfalso; omega)
    | (refine w_ldI rfl rfl ?_
       refine w_retI rfl ?_
       exact ⟨rfl, Fr.rf⟩)
  · first
    | (exfalso; omega)
    | (refine w_ldR rfl rfl rfl ?_
       refine w_push rfl ?_
       refine w_callV rfl rfl rfl rfl rfl rfl rfl r_finds2 ?_
       try simp only [hD]
       refine w_go rfl ?_
       refine w_retI rfl ?_
       exact ⟨rfl, Fr.rf⟩)
theorem m_lit_n {d : Nat} {s : mSt} {D : Nat → Int} (hD : s 147 = D) (hM : MOk D) (hC : COk D)  (hy : ¬ 0 ≤ litW D) : CI (d + 1) 221 [.inr (.inr 146)] (s) (fun r s1 => r = -1000000000 - 2 ∧ s1 = us s 150 2 (s 150 2 + 1)) := by
  refine CI.mk rfl ?_
  show WP (d + 1) 221 0 [some (.inr (.inr 146)), none] [] (encA (s)) _
  have hM0 := hM
  obtain ⟨hM39, hM40, hM41, hM43, hM44, hM36, hM37, hM38, hMc, hMw, hMp, hMt, hMb⟩ := hM
  have hl := litW_rng hM0
  refine w_ldR rfl rfl rfl ?_
  refine w_callV rfl rfl rfl rfl rfl rfl rfl (r_litNow (by rw [hD]; exact hM0)) ?_
  rw [hD]
  try simp only [hD]
  refine w_StI_2_1 rfl rfl ?_
  refine w_ldI rfl rfl ?_
  refine w_irGe0 rfl (by omega) (fun b4 => ?_) (fun b4 => ?_)
  · first
    | (exfalso; omega)
    | (refine w_ldI rfl rfl ?_
       refine w_retI rfl ?_
       exact ⟨rfl, rfl⟩)
  · first
    | (exfalso; omega)
    | (refine w_ldR rfl rfl rfl ?_
       refine w_push rfl ?_
       refine w_callV rfl rfl rfl rfl rfl rfl rfl r_finds2 ?_
       try simp only [hD]
       refine w_go rfl ?_
       refine w_retI rfl ?_
       exact ⟨rfl, rfl⟩)
theorem st_lit {X : Nat → Int} {N : Int} {d : Nat} {s : mSt} {cnt : Int} (hI : Inv X N s cnt)  : Step X N (d + 150) s cnt 114 221 [] := by
  have hI0 := hI
  obtain ⟨hD, -, -, -, -, hT, -, hX, hU⟩ := hI
  have hD0 := hD
  obtain ⟨⟨hM, hC, hN⟩, hV, h8⟩ := hD
  have hV0 := hV
  have hM0 := hM
  obtain ⟨vc, vpl, vga, vse, vne, veg, vre, vtu, vta, vwa, v36, v37, v39, v40, v42, v41, v43, v44, vl0, vl1, vlm⟩ := hV
  obtain ⟨hM39, hM40, hM41, hM43, hM44, hM36, hM37, hM38, hMc, hMw, hMp, hMt, hMb⟩ := hM
  by_cases hy : 0 ≤ litW (s 147)
  · obtain ⟨r1, s1, k1, hr, f1⟩ := x_lit_y (d := d + 148) hD0 hy
    have e : s1 147 = s 147 := f1.at 147 rfl
    obtain ⟨r2, s2, k2, hr2, f2⟩ := m_lit_y (d := d + 149) (s := s1) e hM0 hC hy
    exact Step.mk (by first | exact ⟨(f1.at 1 rfl).trans hX.2.1, (congrFun (f1.at 0 rfl) 1).trans hX.2.2⟩ | exact ⟨hX.2.1, hX.2.2⟩ | exact ⟨by rw [hs1, us_ne (by decide)]; exact hX.2.1, by rw [hs1, us_ne (by decide)]; exact hX.2.2⟩ | exact ⟨by rw [hs1, us_ne (by decide), us_ne (by decide)]; exact hX.2.1, by rw [hs1, us_ne (by decide), us_ne (by decide)]; exact hX.2.2⟩ | exact ⟨by rw [e1, us_ne (by decide), f1.at 1 rfl]; exact hX.2.1, by rw [e1, us_ne (by decide), f1.at 0 rfl]; exact hX.2.2⟩ | exact ⟨by rw [ft.at 1 rfl, hx 1 (by decide) (by decide)]; exact hX.2.1, by rw [ft.at 0 rfl, et, newL_0, mup_ne (by decide)]; exact hX.2.2⟩) k1 k2 (by rw [hr, hr2]) (hI0.scr (by omega) ((Fr.mono rfl f1).tr (Fr.mono rfl f2)))
  · obtain ⟨r1, s1, k1, hr, hs1⟩ := x_lit_n (d := d + 148) hD0 hy
    have e : s1 147 = s 147 := by rw [hs1]; exact us_ne (by decide)
    obtain ⟨r2, s2, k2, hr2, hs2⟩ := m_lit_n (d := d + 149) (s := s1) e hM0 hC hy
    rw [hs2] at k2
    exact Step.mk (by first | exact ⟨(f1.at 1 rfl).trans hX.2.1, (congrFun (f1.at 0 rfl) 1).trans hX.2.2⟩ | exact ⟨hX.2.1, hX.2.2⟩ | exact ⟨by rw [hs1, us_ne (by decide)]; exact hX.2.1, by rw [hs1, us_ne (by decide)]; exact hX.2.2⟩ | exact ⟨by rw [hs1, us_ne (by decide), us_ne (by decide)]; exact hX.2.1, by rw [hs1, us_ne (by decide), us_ne (by decide)]; exact hX.2.2⟩ | exact ⟨by rw [e1, us_ne (by decide), f1.at 1 rfl]; exact hX.2.1, by rw [e1, us_ne (by decide), f1.at 0 rfl]; exact hX.2.2⟩ | exact ⟨by rw [ft.at 1 rfl, hx 1 (by decide) (by decide)]; exact hX.2.1, by rw [ft.at 0 rfl, et, newL_0, mup_ne (by decide)]; exact hX.2.2⟩) k1 k2 (by rw [hr, hr2]) (hI0.err2 hs1)
theorem kc_all (k : Int) : [0, 1, 2, 3, 7, 8, 10].contains (kc k) = true := by
  unfold kc
  repeat' split
  all_goals rfl
theorem x_as_y {d : Nat} {s : mSt} (hI : IvD s) {w q : Int} (hrw : -2147483648 ≤ w ∧ w < 2147483648) (hrq : -2147483648 ≤ q ∧ q < 2147483648) (hy : (0 ≤ w ∧ w ≤ s 147 39 - 1) ∧ 0 ≤ q ∧ q ≤ 6) (hq : q = 0 ∨ q = s 147 (45 + 4 * w + 0).toNat ∨ q = abv (s 147 (45 + 4 * w + 0).toNat)) : CI (d + 3) 106 [.inr (.inr 10), .inl w, .inl q] (s) (fun r s1 => r = s 147 (45 + 4 * w + 1).toNat ∧ Fr [] s s1) := by
  refine CI.mk rfl ?_
  show WP (d + 3) 106 0 [some (.inr (.inr 10)), some (.inl w), some (.inl q)] [] (encA (s)) _
  have hI0 := hI
  obtain ⟨⟨hM, hC, hN⟩, hV, h8⟩ := hI
  have hV0 := hV
  have hM0 := hM
  obtain ⟨vc, vpl, vga, vse, vne, veg, vre, vtu, vta, vwa, v36, v37, v39, v40, v42, v41, v43, v44, vl0, vl1, vlm⟩ := hV
  obtain ⟨hM39, hM40, hM41, hM43, hM44, hM36, hM37, hM38, hMc, hMw, hMp, hMt, hMb⟩ := hM
  refine w_ldR rfl rfl rfl ?_
  refine w_ldI rfl rfl ?_
  refine w_callV rfl rfl rfl rfl rfl rfl rfl (k_isWindow (by omega) (by omega)) ?_
  refine w_bEq0 rfl (fun b3 => ?_) (fun b3 => ?_)
  · first
    | (exfalso; omega)
    | (refine w_ldR rfl rfl rfl ?_
       refine w_push rfl ?_
       refine w_callWI rfl rfl rfl rfl rfl rfl rfl k_error1 (fun v11 s11 p11 => ?_)
       obtain ⟨rfl, rfl⟩ := p11
       refine w_retI rfl ?_
       exact ⟨rfl, Fr.rf⟩)
  · first
    | (exfalso; omega)
    | (refine w_ldI rfl rfl ?_
       refine w_irLt0 rfl (by omega) (fun b5 => ?_) (fun b5 => ?_)
       · first
         | (exfalso; omega)
         | (refine w_ldR rfl rfl rfl ?_
            refine w_push rfl ?_
            refine w_callWI rfl rfl rfl rfl rfl rfl rfl k_error1 (fun v11 s11 p11 => ?_)
            obtain ⟨rfl, rfl⟩ := p11
            refine w_retI rfl ?_
            exact ⟨rfl, Fr.rf⟩)
       · first
         | (exfalso; omega)
         | (refine w_ldI rfl rfl ?_
            refine w_push rfl ?_
            refine w_crLt rfl (by omega) (by omega) (fun b8 => ?_) (fun b8 => ?_)
            · first
              | (exfalso; omega)
              | (have hMW := MOk_w hM0 (w := w) (by omega)
                 obtain ⟨la, hr, had, hLa⟩ := vlm w (by omega) (by omega)
                 have hla := hLa.1
                 refine w_ldR rfl rfl rfl ?_
                 first | refine w_getI rfl rfl rfl rfl rfl ?_ | refine w_getR rfl rfl rfl rfl rfl ?_
                 first | refine w_getI rfl rfl rfl rfl rfl ?_ | refine w_getR rfl rfl rfl rfl rfl ?_
                 refine w_ldI rfl rfl ?_
                 refine w_rldL rfl rfl rfl (by omega) rfl ?_
                 rw [hr, Int.toNat_natCast]
                 refine w_ldI rfl rfl ?_
                 obtain ⟨c19, m19, g19, t19, k19⟩ := @k_isOf (d := d + 0) s la _ _ _ hLa hMW.1 q (by omega)
                 refine w_callV0 rfl rfl rfl rfl hla g19 t19 k19 ?_
                 refine w_bNe0 rfl (fun b20 => ?_) (fun b20 => ?_)
                 · first
                   | (exfalso; omega)
                   | (refine w_ldR rfl rfl rfl ?_
                      first | refine w_getI rfl rfl rfl rfl rfl ?_ | refine w_getR rfl rfl rfl rfl rfl ?_
                      first | refine w_getI rfl rfl rfl rfl rfl ?_ | refine w_getR rfl rfl rfl rfl rfl ?_
                      refine w_ldI rfl rfl ?_
                      refine w_rldL rfl rfl rfl (by omega) rfl ?_
                      rw [hr, Int.toNat_natCast]
                      refine w_get0 rfl hla hLa.2 (kc_all _) rfl ?_
                      refine w_retI rfl ?_
                      exact ⟨rfl, Fr.rf⟩)
                 · first
                   | (exfalso; omega)
                   | (refine w_ldR rfl rfl rfl ?_
                      refine w_push rfl ?_
                      refine w_callWI rfl rfl rfl rfl rfl rfl rfl k_error1 (fun v23 s23 p23 => ?_)
                      obtain ⟨rfl, rfl⟩ := p23
                      refine w_retI rfl ?_
                      exact ⟨rfl, Fr.rf⟩))
            · first
              | (exfalso; omega)
              | (refine w_ldR rfl rfl rfl ?_
                 refine w_push rfl ?_
                 refine w_callWI rfl rfl rfl rfl rfl rfl rfl k_error1 (fun v11 s11 p11 => ?_)
                 obtain ⟨rfl, rfl⟩ := p11
                 refine w_retI rfl ?_
                 exact ⟨rfl, Fr.rf⟩)))
theorem x_as_k {d : Nat} {s : mSt} (hI : IvD s) {w q : Int} (hrw : -2147483648 ≤ w ∧ w < 2147483648) (hrq : -2147483648 ≤ q ∧ q < 2147483648) (hy : (0 ≤ w ∧ w ≤ s 147 39 - 1) ∧ 0 ≤ q ∧ q ≤ 6) (hq : ¬ (q = 0 ∨ q = s 147 (45 + 4 * w + 0).toNat ∨ q = abv (s 147 (45 + 4 * w + 0).toNat))) : CI (d + 3) 106 [.inr (.inr 10), .inl w, .inl q] (s) (fun r s1 => r = -1000000000 - 5 ∧ s1 = us s 132 5 (s 132 5 + 1)) := by
  refine CI.mk rfl ?_
  show WP (d + 3) 106 0 [some (.inr (.inr 10)), some (.inl w), some (.inl q)] [] (encA (s)) _
  have hI0 := hI
  obtain ⟨⟨hM, hC, hN⟩, hV, h8⟩ := hI
  have hV0 := hV
  have hM0 := hM
  obtain ⟨vc, vpl, vga, vse, vne, veg, vre, vtu, vta, vwa, v36, v37, v39, v40, v42, v41, v43, v44, vl0, vl1, vlm⟩ := hV
  obtain ⟨hM39, hM40, hM41, hM43, hM44, hM36, hM37, hM38, hMc, hMw, hMp, hMt, hMb⟩ := hM
  refine w_ldR rfl rfl rfl ?_
  refine w_ldI rfl rfl ?_
  refine w_callV rfl rfl rfl rfl rfl rfl rfl (k_isWindow (by omega) (by omega)) ?_
  refine w_bEq0 rfl (fun b3 => ?_) (fun b3 => ?_)
  · first
    | (exfalso; omega)
    | (refine w_ldR rfl rfl rfl ?_
       refine w_push rfl ?_
       refine w_callWI rfl rfl rfl rfl rfl rfl rfl k_error5 (fun v11 s11 p11 => ?_)
       obtain ⟨rfl, rfl⟩ := p11
       refine w_retI rfl ?_
       exact ⟨rfl, rfl⟩)
  · first
    | (exfalso; omega)
    | (refine w_ldI rfl rfl ?_
       refine w_irLt0 rfl (by omega) (fun b5 => ?_) (fun b5 => ?_)
       · first
         | (exfalso; omega)
         | (refine w_ldR rfl rfl rfl ?_
            refine w_push rfl ?_
            refine w_callWI rfl rfl rfl rfl rfl rfl rfl k_error5 (fun v11 s11 p11 => ?_)
            obtain ⟨rfl, rfl⟩ := p11
            refine w_retI rfl ?_
            exact ⟨rfl, rfl⟩)
       · first
         | (exfalso; omega)
         | (refine w_ldI rfl rfl ?_
            refine w_push rfl ?_
            refine w_crLt rfl (by omega) (by omega) (fun b8 => ?_) (fun b8 => ?_)
            · first
              | (exfalso; omega)
              | (have hMW := MOk_w hM0 (w := w) (by omega)
                 obtain ⟨la, hr, had, hLa⟩ := vlm w (by omega) (by omega)
                 have hla := hLa.1
                 refine w_ldR rfl rfl rfl ?_
                 first | refine w_getI rfl rfl rfl rfl rfl ?_ | refine w_getR rfl rfl rfl rfl rfl ?_
                 first | refine w_getI rfl rfl rfl rfl rfl ?_ | refine w_getR rfl rfl rfl rfl rfl ?_
                 refine w_ldI rfl rfl ?_
                 refine w_rldL rfl rfl rfl (by omega) rfl ?_
                 rw [hr, Int.toNat_natCast]
                 refine w_ldI rfl rfl ?_
                 obtain ⟨c19, m19, g19, t19, k19⟩ := @k_isOf (d := d + 0) s la _ _ _ hLa hMW.1 q (by omega)
                 refine w_callV0 rfl rfl rfl rfl hla g19 t19 k19 ?_
                 refine w_bNe0 rfl (fun b20 => ?_) (fun b20 => ?_)
                 · first
                   | (exfalso; omega)
                   | (refine w_ldR rfl rfl rfl ?_
                      first | refine w_getI rfl rfl rfl rfl rfl ?_ | refine w_getR rfl rfl rfl rfl rfl ?_
                      first | refine w_getI rfl rfl rfl rfl rfl ?_ | refine w_getR rfl rfl rfl rfl rfl ?_
                      refine w_ldI rfl rfl ?_
                      refine w_rldL rfl rfl rfl (by omega) rfl ?_
                      rw [hr, Int.toNat_natCast]
                      refine w_get0 rfl hla hLa.2 (kc_all _) rfl ?_
                      refine w_retI rfl ?_
                      exact ⟨rfl, rfl⟩)
                 · first
                   | (exfalso; omega)
                   | (refine w_ldR rfl rfl rfl ?_
                      refine w_push rfl ?_
                      refine w_callWI rfl rfl rfl rfl rfl rfl rfl k_error5 (fun v23 s23 p23 => ?_)
                      obtain ⟨rfl, rfl⟩ := p23
                      refine w_retI rfl ?_
                      exact ⟨rfl, rfl⟩))
            · first
              | (exfalso; omega)
              | (refine w_ldR rfl rfl rfl ?_
                 refine w_push rfl ?_
                 refine w_callWI rfl rfl rfl rfl rfl rfl rfl k_error5 (fun v11 s11 p11 => ?_)
                 obtain ⟨rfl, rfl⟩ := p11
                 refine w_retI rfl ?_
                 exact ⟨rfl, rfl⟩)))
theorem x_as_n {d : Nat} {s : mSt} (hI : IvD s) {w q : Int} (hrw : -2147483648 ≤ w ∧ w < 2147483648) (hrq : -2147483648 ≤ q ∧ q < 2147483648) (hy : ¬ ((0 ≤ w ∧ w ≤ s 147 39 - 1) ∧ 0 ≤ q ∧ q ≤ 6)) : CI (d + 3) 106 [.inr (.inr 10), .inl w, .inl q] (s) (fun r s1 => r = -1000000000 - 1 ∧ s1 = us s 132 1 (s 132 1 + 1)) := by
  refine CI.mk rfl ?_
  show WP (d + 3) 106 0 [some (.inr (.inr 10)), some (.inl w), some (.inl q)] [] (encA (s)) _
  have hI0 := hI
  obtain ⟨⟨hM, hC, hN⟩, hV, h8⟩ := hI
  have hV0 := hV
  have hM0 := hM
  obtain ⟨vc, vpl, vga, vse, vne, veg, vre, vtu, vta, vwa, v36, v37, v39, v40, v42, v41, v43, v44, vl0, vl1, vlm⟩ := hV
  obtain ⟨hM39, hM40, hM41, hM43, hM44, hM36, hM37, hM38, hMc, hMw, hMp, hMt, hMb⟩ := hM
  refine w_ldR rfl rfl rfl ?_
  refine w_ldI rfl rfl ?_
  refine w_callV rfl rfl rfl rfl rfl rfl rfl (k_isWindow (by omega) (by omega)) ?_
  refine w_bEq0 rfl (fun b3 => ?_) (fun b3 => ?_)
  · first
    | (exfalso; omega)
    | (refine w_ldR rfl rfl rfl ?_
       refine w_push rfl ?_
       refine w_callWI rfl rfl rfl rfl rfl rfl rfl k_error1 (fun v11 s11 p11 => ?_)
       obtain ⟨rfl, rfl⟩ := p11
       refine w_retI rfl ?_
       exact ⟨rfl, rfl⟩)
  · first
    | (exfalso; omega)
    | (refine w_ldI rfl rfl ?_
       refine w_irLt0 rfl (by omega) (fun b5 => ?_) (fun b5 => ?_)
       · first
         | (exfalso; omega)
         | (refine w_ldR rfl rfl rfl ?_
            refine w_push rfl ?_
            refine w_callWI rfl rfl rfl rfl rfl rfl rfl k_error1 (fun v11 s11 p11 => ?_)
            obtain ⟨rfl, rfl⟩ := p11
            refine w_retI rfl ?_
            exact ⟨rfl, rfl⟩)
       · first
         | (exfalso; omega)
         | (refine w_ldI rfl rfl ?_
            refine w_push rfl ?_
            refine w_crLt rfl (by omega) (by omega) (fun b8 => ?_) (fun b8 => ?_)
            · first
              | (exfalso; omega)
              | (exfalso; omega)
            · first
              | (exfalso; omega)
              | (refine w_ldR rfl rfl rfl ?_
                 refine w_push rfl ?_
                 refine w_callWI rfl rfl rfl rfl rfl rfl rfl k_error1 (fun v11 s11 p11 => ?_)
                 obtain ⟨rfl, rfl⟩ := p11
                 refine w_retI rfl ?_
                 exact ⟨rfl, rfl⟩)))
theorem m_as_y {d : Nat} {s : mSt} {D : Nat → Int} (hD : s 147 = D) (hM : MOk D) (hC : COk D) {w q : Int} (hrw : -2147483648 ≤ w ∧ w < 2147483648) (hrq : -2147483648 ≤ q ∧ q < 2147483648) (hy : (0 ≤ w ∧ w ≤ D 39 - 1) ∧ 0 ≤ q ∧ q ≤ 6) (hq : q = 0 ∨ q = D (45 + 4 * w + 0).toNat ∨ q = abv (D (45 + 4 * w + 0).toNat)) : CI (d + 2) 211 [.inr (.inr 146), .inl w, .inl q] (s) (fun r s1 => r = D (45 + 4 * w + 1).toNat ∧ Fr [] s s1) := by
  refine CI.mk rfl ?_
  show WP (d + 2) 211 0 [some (.inr (.inr 146)), some (.inl w), some (.inl q), none] [] (encA (s)) _
  have hM0 := hM
  obtain ⟨hM39, hM40, hM41, hM43, hM44, hM36, hM37, hM38, hMc, hMw, hMp, hMt, hMb⟩ := hM
  have hab : ∀ k, 0 ≤ k → k ≤ 6 → 0 ≤ abv k ∧ abv k ≤ 3 := fun k _ _ => by unfold abv; split <;> omega
  refine w_ldR rfl rfl rfl ?_
  refine w_ldI rfl rfl ?_
  refine w_callV rfl rfl rfl rfl rfl rfl rfl (r_isWindow (by omega) (by rw [hD]; omega)) ?_
  rw [hD]
  try simp only [hD]
  refine w_bEq0 rfl (fun b3 => ?_) (fun b3 => ?_)
  · first
    | (exfalso; omega)
    | (refine w_ldR rfl rfl rfl ?_
       refine w_push rfl ?_
       refine w_callV rfl rfl rfl rfl rfl rfl rfl r_finds1 ?_
       try simp only [hD]
       refine w_retI rfl ?_
       exact ⟨rfl, Fr.rf⟩)
  · first
    | (exfalso; omega)
    | (refine w_ldI rfl rfl ?_
       refine w_i2lr rfl (by omega) ?_
       refine w_push rfl ?_
       refine w_push rfl ?_
       refine w_call rfl rfl rfl (r_in (by omega) (by omega) (by omega)) ?_
       try simp only [hD]
       refine w_bNe0 rfl (fun b9 => ?_) (fun b9 => ?_)
       · first
         | (exfalso; omega)
         | (have hMW := MOk_w hM0 (w := w) (by omega)
            refine w_ldR rfl rfl rfl ?_
            refine w_ldI rfl rfl ?_
            refine w_push rfl ?_
            refine w_callV rfl rfl rfl rfl rfl rfl rfl (r_ofIt (by omega) (by omega)) ?_
            try simp only [hD]
            refine w_StI_4_3 rfl rfl ?_
            refine w_ldI rfl rfl ?_
            refine w_irEq0 rfl (by omega) (fun b20 => ?_) (fun b20 => ?_)
            · first
              | (exfalso; omega)
              | (refine w_ldR rfl rfl rfl ?_
                 refine w_ldI rfl rfl ?_
                 refine w_push rfl ?_
                 refine w_callV rfl rfl rfl rfl rfl rfl rfl (r_ofIt (by omega) (by omega)) ?_
                 try simp only [hD]
                 refine w_go rfl ?_
                 refine w_retI rfl ?_
                 exact ⟨rfl, Fr.rf⟩)
            · first
              | (exfalso; omega)
              | (refine w_ldI rfl rfl ?_
                 refine w_ldI rfl rfl ?_
                 refine w_crEq rfl (by omega) (by omega) (fun b23 => ?_) (fun b23 => ?_)
                 · first
                   | (exfalso; omega)
                   | (refine w_ldR rfl rfl rfl ?_
                      refine w_ldI rfl rfl ?_
                      refine w_push rfl ?_
                      refine w_callV rfl rfl rfl rfl rfl rfl rfl (r_ofIt (by omega) (by omega)) ?_
                      try simp only [hD]
                      refine w_go rfl ?_
                      refine w_retI rfl ?_
                      exact ⟨rfl, Fr.rf⟩)
                 · first
                   | (exfalso; omega)
                   | (refine w_ldI rfl rfl ?_
                      refine w_ldI rfl rfl ?_
                      refine w_call rfl rfl rfl (r_above (by omega)) ?_
                      try simp only [hD]
                      refine w_crNe rfl (by omega) (by have := hab _ hMW.1.1 hMW.1.2; omega) (fun b27 => ?_) (fun b27 => ?_)
                      · first
                        | (exfalso; omega)
                        | (refine w_ldR rfl rfl rfl ?_
                           refine w_push rfl ?_
                           refine w_callV rfl rfl rfl rfl rfl rfl rfl r_finds1 ?_
                           try simp only [hD]
                           refine w_retI rfl ?_
                           exact ⟨rfl, Fr.rf⟩)
                      · first
                        | (exfalso; omega)
                        | (refine w_ldR rfl rfl rfl ?_
                           refine w_ldI rfl rfl ?_
                           refine w_push rfl ?_
                           refine w_callV rfl rfl rfl rfl rfl rfl rfl (r_ofIt (by omega) (by omega)) ?_
                           try simp only [hD]
                           refine w_go rfl ?_
                           refine w_retI rfl ?_
                           exact ⟨rfl, Fr.rf⟩))))
       · first
         | (exfalso; omega)
         | (refine w_ldR rfl rfl rfl ?_
            refine w_push rfl ?_
            refine w_callV rfl rfl rfl rfl rfl rfl rfl r_finds1 ?_
            try simp only [hD]
            refine w_retI rfl ?_
            exact ⟨rfl, Fr.rf⟩))
theorem m_as_k {d : Nat} {s : mSt} {D : Nat → Int} (hD : s 147 = D) (hM : MOk D) (hC : COk D) {w q : Int} (hrw : -2147483648 ≤ w ∧ w < 2147483648) (hrq : -2147483648 ≤ q ∧ q < 2147483648) (hy : (0 ≤ w ∧ w ≤ D 39 - 1) ∧ 0 ≤ q ∧ q ≤ 6) (hq : ¬ (q = 0 ∨ q = D (45 + 4 * w + 0).toNat ∨ q = abv (D (45 + 4 * w + 0).toNat))) : CI (d + 2) 211 [.inr (.inr 146), .inl w, .inl q] (s) (fun r s1 => r = -1000000000 - 5 ∧ s1 = us s 150 5 (s 150 5 + 1)) := by
  refine CI.mk rfl ?_
  show WP (d + 2) 211 0 [some (.inr (.inr 146)), some (.inl w), some (.inl q), none] [] (encA (s)) _
  have hM0 := hM
  obtain ⟨hM39, hM40, hM41, hM43, hM44, hM36, hM37, hM38, hMc, hMw, hMp, hMt, hMb⟩ := hM
  have hab : ∀ k, 0 ≤ k → k ≤ 6 → 0 ≤ abv k ∧ abv k ≤ 3 := fun k _ _ => by unfold abv; split <;> omega
  refine w_ldR rfl rfl rfl ?_
  refine w_ldI rfl rfl ?_
  refine w_callV rfl rfl rfl rfl rfl rfl rfl (r_isWindow (by omega) (by rw [hD]; omega)) ?_
  rw [hD]
  try simp only [hD]
  refine w_bEq0 rfl (fun b3 => ?_) (fun b3 => ?_)
  · first
    | (exfalso; omega)
    | (refine w_ldR rfl rfl rfl ?_
       refine w_push rfl ?_
       refine w_callV rfl rfl rfl rfl rfl rfl rfl r_finds5 ?_
       try simp only [hD]
       refine w_retI rfl ?_
       exact ⟨rfl, rfl⟩)
  · first
    | (exfalso; omega)
    | (refine w_ldI rfl rfl ?_
       refine w_i2lr rfl (by omega) ?_
       refine w_push rfl ?_
       refine w_push rfl ?_
       refine w_call rfl rfl rfl (r_in (by omega) (by omega) (by omega)) ?_
       try simp only [hD]
       refine w_bNe0 rfl (fun b9 => ?_) (fun b9 => ?_)
       · first
         | (exfalso; omega)
         | (have hMW := MOk_w hM0 (w := w) (by omega)
            refine w_ldR rfl rfl rfl ?_
            refine w_ldI rfl rfl ?_
            refine w_push rfl ?_
            refine w_callV rfl rfl rfl rfl rfl rfl rfl (r_ofIt (by omega) (by omega)) ?_
            try simp only [hD]
            refine w_StI_4_3 rfl rfl ?_
            refine w_ldI rfl rfl ?_
            refine w_irEq0 rfl (by omega) (fun b20 => ?_) (fun b20 => ?_)
            · first
              | (exfalso; omega)
              | (refine w_ldR rfl rfl rfl ?_
                 refine w_ldI rfl rfl ?_
                 refine w_push rfl ?_
                 refine w_callV rfl rfl rfl rfl rfl rfl rfl (r_ofIt (by omega) (by omega)) ?_
                 try simp only [hD]
                 refine w_go rfl ?_
                 refine w_retI rfl ?_
                 exact ⟨rfl, rfl⟩)
            · first
              | (exfalso; omega)
              | (refine w_ldI rfl rfl ?_
                 refine w_ldI rfl rfl ?_
                 refine w_crEq rfl (by omega) (by omega) (fun b23 => ?_) (fun b23 => ?_)
                 · first
                   | (exfalso; omega)
                   | (refine w_ldR rfl rfl rfl ?_
                      refine w_ldI rfl rfl ?_
                      refine w_push rfl ?_
                      refine w_callV rfl rfl rfl rfl rfl rfl rfl (r_ofIt (by omega) (by omega)) ?_
                      try simp only [hD]
                      refine w_go rfl ?_
                      refine w_retI rfl ?_
                      exact ⟨rfl, rfl⟩)
                 · first
                   | (exfalso; omega)
                   | (refine w_ldI rfl rfl ?_
                      refine w_ldI rfl rfl ?_
                      refine w_call rfl rfl rfl (r_above (by omega)) ?_
                      try simp only [hD]
                      refine w_crNe rfl (by omega) (by have := hab _ hMW.1.1 hMW.1.2; omega) (fun b27 => ?_) (fun b27 => ?_)
                      · first
                        | (exfalso; omega)
                        | (refine w_ldR rfl rfl rfl ?_
                           refine w_push rfl ?_
                           refine w_callV rfl rfl rfl rfl rfl rfl rfl r_finds5 ?_
                           try simp only [hD]
                           refine w_retI rfl ?_
                           exact ⟨rfl, rfl⟩)
                      · first
                        | (exfalso; omega)
                        | (refine w_ldR rfl rfl rfl ?_
                           refine w_ldI rfl rfl ?_
                           refine w_push rfl ?_
                           refine w_callV rfl rfl rfl rfl rfl rfl rfl (r_ofIt (by omega) (by omega)) ?_
                           try simp only [hD]
                           refine w_go rfl ?_
                           refine w_retI rfl ?_
                           exact ⟨rfl, rfl⟩))))
       · first
         | (exfalso; omega)
         | (refine w_ldR rfl rfl rfl ?_
            refine w_push rfl ?_
            refine w_callV rfl rfl rfl rfl rfl rfl rfl r_finds5 ?_
            try simp only [hD]
            refine w_retI rfl ?_
            exact ⟨rfl, rfl⟩))
theorem m_as_n {d : Nat} {s : mSt} {D : Nat → Int} (hD : s 147 = D) (hM : MOk D) (hC : COk D) {w q : Int} (hrw : -2147483648 ≤ w ∧ w < 2147483648) (hrq : -2147483648 ≤ q ∧ q < 2147483648) (hy : ¬ ((0 ≤ w ∧ w ≤ D 39 - 1) ∧ 0 ≤ q ∧ q ≤ 6)) : CI (d + 2) 211 [.inr (.inr 146), .inl w, .inl q] (s) (fun r s1 => r = -1000000000 - 1 ∧ s1 = us s 150 1 (s 150 1 + 1)) := by
  refine CI.mk rfl ?_
  show WP (d + 2) 211 0 [some (.inr (.inr 146)), some (.inl w), some (.inl q), none] [] (encA (s)) _
  have hM0 := hM
  obtain ⟨hM39, hM40, hM41, hM43, hM44, hM36, hM37, hM38, hMc, hMw, hMp, hMt, hMb⟩ := hM
  refine w_ldR rfl rfl rfl ?_
  refine w_ldI rfl rfl ?_
  refine w_callV rfl rfl rfl rfl rfl rfl rfl (r_isWindow (by omega) (by rw [hD]; omega)) ?_
  rw [hD]
  try simp only [hD]
  refine w_bEq0 rfl (fun b3 => ?_) (fun b3 => ?_)
  · first
    | (exfalso; omega)
    | (refine w_ldR rfl rfl rfl ?_
       refine w_push rfl ?_
       refine w_callV rfl rfl rfl rfl rfl rfl rfl r_finds1 ?_
       try simp only [hD]
       refine w_retI rfl ?_
       exact ⟨rfl, rfl⟩)
  · first
    | (exfalso; omega)
    | (refine w_ldI rfl rfl ?_
       refine w_i2lr rfl (by omega) ?_
       refine w_push rfl ?_
       refine w_push rfl ?_
       refine w_call rfl rfl rfl (r_in (by omega) (by omega) (by omega)) ?_
       try simp only [hD]
       refine w_bNe0 rfl (fun b9 => ?_) (fun b9 => ?_)
       · first
         | (exfalso; omega)
         | (exfalso; omega)
       · first
         | (exfalso; omega)
         | (refine w_ldR rfl rfl rfl ?_
            refine w_push rfl ?_
            refine w_callV rfl rfl rfl rfl rfl rfl rfl r_finds1 ?_
            try simp only [hD]
            refine w_retI rfl ?_
            exact ⟨rfl, rfl⟩))
theorem st_as {X : Nat → Int} {N : Int} {d : Nat} {s : mSt} {cnt : Int} (hI : Inv X N s cnt) {w q : Int} (hrw : -2147483648 ≤ w ∧ w < 2147483648) (hrq : -2147483648 ≤ q ∧ q < 2147483648) : Step X N (d + 150) s cnt 106 211 [.inl w, .inl q] := by
  have hI0 := hI
  obtain ⟨hD, -, -, -, -, hT, -, hX, hU⟩ := hI
  have hD0 := hD
  obtain ⟨⟨hM, hC, hN⟩, hV, h8⟩ := hD
  have hV0 := hV
  have hM0 := hM
  obtain ⟨vc, vpl, vga, vse, vne, veg, vre, vtu, vta, vwa, v36, v37, v39, v40, v42, v41, v43, v44, vl0, vl1, vlm⟩ := hV
  obtain ⟨hM39, hM40, hM41, hM43, hM44, hM36, hM37, hM38, hMc, hMw, hMp, hMt, hMb⟩ := hM
  by_cases hy : (0 ≤ w ∧ w ≤ s 147 39 - 1) ∧ 0 ≤ q ∧ q ≤ 6
  · by_cases hq : q = 0 ∨ q = s 147 (45 + 4 * w + 0).toNat ∨ q = abv (s 147 (45 + 4 * w + 0).toNat)
    · obtain ⟨r1, s1, k1, hr, f1⟩ := x_as_y (d := d + 147) hD0 hrw hrq hy hq
      have e : s1 147 = s 147 := f1.at 147 rfl
      obtain ⟨r2, s2, k2, hr2, f2⟩ := m_as_y (d := d + 148) (s := s1) e hM0 hC hrw hrq hy hq
      exact Step.mk (by first | exact ⟨(f1.at 1 rfl).trans hX.2.1, (congrFun (f1.at 0 rfl) 1).trans hX.2.2⟩ | exact ⟨hX.2.1, hX.2.2⟩ | exact ⟨by rw [hs1, us_ne (by decide)]; exact hX.2.1, by rw [hs1, us_ne (by decide)]; exact hX.2.2⟩ | exact ⟨by rw [hs1, us_ne (by decide), us_ne (by decide)]; exact hX.2.1, by rw [hs1, us_ne (by decide), us_ne (by decide)]; exact hX.2.2⟩ | exact ⟨by rw [e1, us_ne (by decide), f1.at 1 rfl]; exact hX.2.1, by rw [e1, us_ne (by decide), f1.at 0 rfl]; exact hX.2.2⟩ | exact ⟨by rw [ft.at 1 rfl, hx 1 (by decide) (by decide)]; exact hX.2.1, by rw [ft.at 0 rfl, et, newL_0, mup_ne (by decide)]; exact hX.2.2⟩) k1 k2 (by rw [hr, hr2]) (hI0.scr (by omega) ((Fr.mono rfl f1).tr (Fr.mono rfl f2)))
    · obtain ⟨r1, s1, k1, hr, hs1⟩ := x_as_k (d := d + 147) hD0 hrw hrq hy hq
      have e : s1 147 = s 147 := by rw [hs1]; exact us_ne (by decide)
      obtain ⟨r2, s2, k2, hr2, hs2⟩ := m_as_k (d := d + 148) (s := s1) e hM0 hC hrw hrq hy hq
      rw [hs2] at k2
      exact Step.mk (by first | exact ⟨(f1.at 1 rfl).trans hX.2.1, (congrFun (f1.at 0 rfl) 1).trans hX.2.2⟩ | exact ⟨hX.2.1, hX.2.2⟩ | exact ⟨by rw [hs1, us_ne (by decide)]; exact hX.2.1, by rw [hs1, us_ne (by decide)]; exact hX.2.2⟩ | exact ⟨by rw [hs1, us_ne (by decide), us_ne (by decide)]; exact hX.2.1, by rw [hs1, us_ne (by decide), us_ne (by decide)]; exact hX.2.2⟩ | exact ⟨by rw [e1, us_ne (by decide), f1.at 1 rfl]; exact hX.2.1, by rw [e1, us_ne (by decide), f1.at 0 rfl]; exact hX.2.2⟩ | exact ⟨by rw [ft.at 1 rfl, hx 1 (by decide) (by decide)]; exact hX.2.1, by rw [ft.at 0 rfl, et, newL_0, mup_ne (by decide)]; exact hX.2.2⟩) k1 k2 (by rw [hr, hr2]) (hI0.err2 hs1)
  · obtain ⟨r1, s1, k1, hr, hs1⟩ := x_as_n (d := d + 147) hD0 hrw hrq hy
    have e : s1 147 = s 147 := by rw [hs1]; exact us_ne (by decide)
    obtain ⟨r2, s2, k2, hr2, hs2⟩ := m_as_n (d := d + 148) (s := s1) e hM0 hC hrw hrq hy
    rw [hs2] at k2
    exact Step.mk (by first | exact ⟨(f1.at 1 rfl).trans hX.2.1, (congrFun (f1.at 0 rfl) 1).trans hX.2.2⟩ | exact ⟨hX.2.1, hX.2.2⟩ | exact ⟨by rw [hs1, us_ne (by decide)]; exact hX.2.1, by rw [hs1, us_ne (by decide)]; exact hX.2.2⟩ | exact ⟨by rw [hs1, us_ne (by decide), us_ne (by decide)]; exact hX.2.1, by rw [hs1, us_ne (by decide), us_ne (by decide)]; exact hX.2.2⟩ | exact ⟨by rw [e1, us_ne (by decide), f1.at 1 rfl]; exact hX.2.1, by rw [e1, us_ne (by decide), f1.at 0 rfl]; exact hX.2.2⟩ | exact ⟨by rw [ft.at 1 rfl, hx 1 (by decide) (by decide)]; exact hX.2.1, by rw [ft.at 0 rfl, et, newL_0, mup_ne (by decide)]; exact hX.2.2⟩) k1 k2 (by rw [hr, hr2]) (hI0.err2 hs1)
