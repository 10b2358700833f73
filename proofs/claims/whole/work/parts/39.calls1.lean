/-! ===== the class: calls that set and ask; their steps ===== -/
theorem Step.mk {X : Nat → Int} {N : Int} {d : Nat} {s : mSt} {cnt : Int} {mx mm : Nat} {as : List mAV} {r r2 : Int} {s1 s2 : mSt} (hx : s1 1 = X ∧ s1 0 1 = N) (h1 : Call d mx (.inr (.inr 10) :: as) (encA s) (some (.inl r)) (encA s1)) (h2 : Call d mm (.inr (.inr 146) :: as) (encA s1) (some (.inl r2)) (encA s2)) (e : r2 = r) (hI : Inv X N s2 (cnt + 1)) : Step X N d s cnt mx mm as := ⟨r, s1, s2, h1, hx, e ▸ h2, hI⟩
theorem Inv.err2 {s s1 : mSt} {X : Nat → Int} {N : Int} {cnt : Int} {k : Nat} (h : Inv X N s cnt) (hs : s1 = us s 132 k (s 132 k + 1)) : Inv X N (us s1 150 k (s1 150 k + 1)) (cnt + 1) := by
  subst hs
  rw [show us s 132 k (s 132 k + 1) 150 = s 150 from us_ne (by decide)]
  exact Inv.err (by omega) h
theorem IvD.mk {s : mSt} {D : Nat → Int} (e : s 147 = D) (hM : MOk D) (hC : COk D) (hN : D 38 ≤ 9999) (hV : VN13 s D) (h8 : s 13 1 = D 38) : IvD s := by
  unfold IvD
  rw [e]
  exact ⟨⟨hM, hC, hN⟩, hV, h8⟩
theorem COk_set2 {d : Nat → Int} {i : Nat} {v : Int} (hi : i < 121 ∨ (123 ≤ i ∧ i < 143) ∨ 243 ≤ i) (hC : COk d) : COk (mup d i v) := by
  unfold COk
  rw [mup_ne (by omega), mup_ne (by omega)]
  exact ⟨CodeOk_congr (by decide) (fun j h1 h2 => mup_ne (by omega)) hC.1, CodeOk_congr (by decide) (fun j h1 h2 => mup_ne (by omega)) hC.2⟩
theorem IvT.d {s s1 : mSt} (h : IvT s) (h1 : ∀ i, 300 ≤ i → s1 147 i = s 147 i) (h2 : s1 148 = s 148) (h3 : s1 149 = s 149) : IvT s1 := fun i hi => by
  rw [h1 i hi, h2, h3]
  exact h i hi
theorem k_add22 {d : Nat} {s : mSt} {v : Int} (hs : 0 ≤ s 22 1 ∧ s 22 1 ≤ 12) : CI (d + 0) 65 [.inr (.inr 22), .inl v] (s) (fun q s1 => q = bI (s 22 1 < 12) ∧ s1 = (if s 22 1 < 12 then us (us s 23 (s 22 1).toNat v) 22 1 (s 22 1 + 1) else s)) := by
  refine CI.mk rfl ?_
  show WP (d + 0) 65 0 [some (.inr (.inr 22)), some (.inl v)] [] (encA (s)) _
  refine w_ldR rfl rfl rfl ?_
  first | refine w_getI rfl rfl rfl rfl rfl ?_ | refine w_getR rfl rfl rfl rfl rfl ?_
  refine w_ldR rfl rfl rfl ?_
  first | refine w_getI rfl rfl rfl rfl rfl ?_ | refine w_getR rfl rfl rfl rfl rfl ?_
  refine w_alen rfl rfl rfl ?_
  refine w_crLt rfl (by omega) (by omega) (fun b5 => ?_) (fun b5 => ?_)
  · first
    | (exfalso; omega)
    | (refine w_ldR rfl rfl rfl ?_
       first | refine w_getI rfl rfl rfl rfl rfl ?_ | refine w_getR rfl rfl rfl rfl rfl ?_
       refine w_ldR rfl rfl rfl ?_
       first | refine w_getI rfl rfl rfl rfl rfl ?_ | refine w_getR rfl rfl rfl rfl rfl ?_
       refine w_ldI rfl rfl ?_
       refine w_ast rfl rfl rfl (by omega) rfl ?_
       refine w_ldR rfl rfl rfl ?_
       first | refine w_dupI rfl ?_ | refine w_dupR rfl ?_
       first | refine w_getI rfl rfl rfl rfl rfl ?_ | refine w_getR rfl rfl rfl rfl rfl ?_
       rw [us_ne (by decide)]
       refine w_push rfl ?_
       refine w_add rfl ?_
       refine w_putI rfl rfl rfl rfl rfl rfl rfl ?_
       refine w_push rfl ?_
       refine w_retB rfl (by first | exact bI_01 _ | decide | omega) ?_
       unfold bI
       first | (rw [if_pos (by omega), if_pos (by omega)]; exact ⟨rfl, rfl⟩) | (rw [if_neg (by omega), if_neg (by omega)]; exact ⟨rfl, rfl⟩))
  · first
    | (exfalso; omega)
    | (refine w_push rfl ?_
       refine w_retB rfl (by first | exact bI_01 _ | decide | omega) ?_
       unfold bI
       first | (rw [if_pos (by omega), if_pos (by omega)]; exact ⟨rfl, rfl⟩) | (rw [if_neg (by omega), if_neg (by omega)]; exact ⟨rfl, rfl⟩))
theorem k_empty22 {d : Nat} {s : mSt}  : CV (d + 0) 69 [.inr (.inr 22)] (s) (fun s1 => s1 = us s 22 1 0) := by
  refine CV.mk rfl ?_
  show WP (d + 0) 69 0 [some (.inr (.inr 22))] [] (encA (s)) _
  refine w_ldR rfl rfl rfl ?_
  refine w_push rfl ?_
  refine w_putI rfl rfl rfl rfl rfl rfl rfl ?_
  refine w_retV rfl ?_
  rfl
theorem k_add26 {d : Nat} {s : mSt} {v : Int} (hs : 0 ≤ s 26 1 ∧ s 26 1 ≤ 20) : CI (d + 0) 65 [.inr (.inr 26), .inl v] (s) (fun q s1 => q = bI (s 26 1 < 20) ∧ s1 = (if s 26 1 < 20 then us (us s 27 (s 26 1).toNat v) 26 1 (s 26 1 + 1) else s)) := by
  refine CI.mk rfl ?_
  show WP (d + 0) 65 0 [some (.inr (.inr 26)), some (.inl v)] [] (encA (s)) _
  refine w_ldR rfl rfl rfl ?_
  first | refine w_getI rfl rfl rfl rfl rfl ?_ | refine w_getR rfl rfl rfl rfl rfl ?_
  refine w_ldR rfl rfl rfl ?_
  first | refine w_getI rfl rfl rfl rfl rfl ?_ | refine w_getR rfl rfl rfl rfl rfl ?_
  refine w_alen rfl rfl rfl ?_
  refine w_crLt rfl (by omega) (by omega) (fun b5 => ?_) (fun b5 => ?_)
  · first
    | (exfalso; omega)
    | (refine w_ldR rfl rfl rfl ?_
       first | refine w_getI rfl rfl rfl rfl rfl ?_ | refine w_getR rfl rfl rfl rfl rfl ?_
       refine w_ldR rfl rfl rfl ?_
       first | refine w_getI rfl rfl rfl rfl rfl ?_ | refine w_getR rfl rfl rfl rfl rfl ?_
       refine w_ldI rfl rfl ?_
       refine w_ast rfl rfl rfl (by omega) rfl ?_
       refine w_ldR rfl rfl rfl ?_
       first | refine w_dupI rfl ?_ | refine w_dupR rfl ?_
       first | refine w_getI rfl rfl rfl rfl rfl ?_ | refine w_getR rfl rfl rfl rfl rfl ?_
       rw [us_ne (by decide)]
       refine w_push rfl ?_
       refine w_add rfl ?_
       refine w_putI rfl rfl rfl rfl rfl rfl rfl ?_
       refine w_push rfl ?_
       refine w_retB rfl (by first | exact bI_01 _ | decide | omega) ?_
       unfold bI
       first | (rw [if_pos (by omega), if_pos (by omega)]; exact ⟨rfl, rfl⟩) | (rw [if_neg (by omega), if_neg (by omega)]; exact ⟨rfl, rfl⟩))
  · first
    | (exfalso; omega)
    | (refine w_push rfl ?_
       refine w_retB rfl (by first | exact bI_01 _ | decide | omega) ?_
       unfold bI
       first | (rw [if_pos (by omega), if_pos (by omega)]; exact ⟨rfl, rfl⟩) | (rw [if_neg (by omega), if_neg (by omega)]; exact ⟨rfl, rfl⟩))
theorem k_empty26 {d : Nat} {s : mSt}  : CV (d + 0) 69 [.inr (.inr 26)] (s) (fun s1 => s1 = us s 26 1 0) := by
  refine CV.mk rfl ?_
  show WP (d + 0) 69 0 [some (.inr (.inr 26))] [] (encA (s)) _
  refine w_ldR rfl rfl rfl ?_
  refine w_push rfl ?_
  refine w_putI rfl rfl rfl rfl rfl rfl rfl ?_
  refine w_retV rfl ?_
  rfl
theorem k_add24 {d : Nat} {s : mSt} {v : Int} (hs : 0 ≤ s 24 1 ∧ s 24 1 ≤ 50) : CI (d + 0) 65 [.inr (.inr 24), .inl v] (s) (fun q s1 => q = bI (s 24 1 < 50) ∧ s1 = (if s 24 1 < 50 then us (us s 25 (s 24 1).toNat v) 24 1 (s 24 1 + 1) else s)) := by
  refine CI.mk rfl ?_
  show WP (d + 0) 65 0 [some (.inr (.inr 24)), some (.inl v)] [] (encA (s)) _
  refine w_ldR rfl rfl rfl ?_
  first | refine w_getI rfl rfl rfl rfl rfl ?_ | refine w_getR rfl rfl rfl rfl rfl ?_
  refine w_ldR rfl rfl rfl ?_
  first | refine w_getI rfl rfl rfl rfl rfl ?_ | refine w_getR rfl rfl rfl rfl rfl ?_
  refine w_alen rfl rfl rfl ?_
  refine w_crLt rfl (by omega) (by omega) (fun b5 => ?_) (fun b5 => ?_)
  · first
    | (exfalso; omega)
    | (refine w_ldR rfl rfl rfl ?_
       first | refine w_getI rfl rfl rfl rfl rfl ?_ | refine w_getR rfl rfl rfl rfl rfl ?_
       refine w_ldR rfl rfl rfl ?_
       first | refine w_getI rfl rfl rfl rfl rfl ?_ | refine w_getR rfl rfl rfl rfl rfl ?_
       refine w_ldI rfl rfl ?_
       refine w_ast rfl rfl rfl (by omega) rfl ?_
       refine w_ldR rfl rfl rfl ?_
       first | refine w_dupI rfl ?_ | refine w_dupR rfl ?_
       first | refine w_getI rfl rfl rfl rfl rfl ?_ | refine w_getR rfl rfl rfl rfl rfl ?_
       rw [us_ne (by decide)]
       refine w_push rfl ?_
       refine w_add rfl ?_
       refine w_putI rfl rfl rfl rfl rfl rfl rfl ?_
       refine w_push rfl ?_
       refine w_retB rfl (by first | exact bI_01 _ | decide | omega) ?_
       unfold bI
       first | (rw [if_pos (by omega), if_pos (by omega)]; exact ⟨rfl, rfl⟩) | (rw [if_neg (by omega), if_neg (by omega)]; exact ⟨rfl, rfl⟩))
  · first
    | (exfalso; omega)
    | (refine w_push rfl ?_
       refine w_retB rfl (by first | exact bI_01 _ | decide | omega) ?_
       unfold bI
       first | (rw [if_pos (by omega), if_pos (by omega)]; exact ⟨rfl, rfl⟩) | (rw [if_neg (by omega), if_neg (by omega)]; exact ⟨rfl, rfl⟩))
theorem k_empty24 {d : Nat} {s : mSt}  : CV (d + 0) 69 [.inr (.inr 24)] (s) (fun s1 => s1 = us s 24 1 0) := by
  refine CV.mk rfl ?_
  show WP (d + 0) 69 0 [some (.inr (.inr 24))] [] (encA (s)) _
  refine w_ldR rfl rfl rfl ?_
  refine w_push rfl ?_
  refine w_putI rfl rfl rfl rfl rfl rfl rfl ?_
  refine w_retV rfl ?_
  rfl
theorem k_add11 {d : Nat} {s : mSt} {v : Int} (hs : 0 ≤ s 11 1 ∧ s 11 1 ≤ 40) : CI (d + 0) 65 [.inr (.inr 11), .inl v] (s) (fun q s1 => q = bI (s 11 1 < 40) ∧ s1 = (if s 11 1 < 40 then us (us s 12 (s 11 1).toNat v) 11 1 (s 11 1 + 1) else s)) := by
  refine CI.mk rfl ?_
  show WP (d + 0) 65 0 [some (.inr (.inr 11)), some (.inl v)] [] (encA (s)) _
  refine w_ldR rfl rfl rfl ?_
  first | refine w_getI rfl rfl rfl rfl rfl ?_ | refine w_getR rfl rfl rfl rfl rfl ?_
  refine w_ldR rfl rfl rfl ?_
  first | refine w_getI rfl rfl rfl rfl rfl ?_ | refine w_getR rfl rfl rfl rfl rfl ?_
  refine w_alen rfl rfl rfl ?_
  refine w_crLt rfl (by omega) (by omega) (fun b5 => ?_) (fun b5 => ?_)
  · first
    | (exfalso; omega)
    | (refine w_ldR rfl rfl rfl ?_
       first | refine w_getI rfl rfl rfl rfl rfl ?_ | refine w_getR rfl rfl rfl rfl rfl ?_
       refine w_ldR rfl rfl rfl ?_
       first | refine w_getI rfl rfl rfl rfl rfl ?_ | refine w_getR rfl rfl rfl rfl rfl ?_
       refine w_ldI rfl rfl ?_
       refine w_ast rfl rfl rfl (by omega) rfl ?_
       refine w_ldR rfl rfl rfl ?_
       first | refine w_dupI rfl ?_ | refine w_dupR rfl ?_
       first | refine w_getI rfl rfl rfl rfl rfl ?_ | refine w_getR rfl rfl rfl rfl rfl ?_
       rw [us_ne (by decide)]
       refine w_push rfl ?_
       refine w_add rfl ?_
       refine w_putI rfl rfl rfl rfl rfl rfl rfl ?_
       refine w_push rfl ?_
       refine w_retB rfl (by first | exact bI_01 _ | decide | omega) ?_
       unfold bI
       first | (rw [if_pos (by omega), if_pos (by omega)]; exact ⟨rfl, rfl⟩) | (rw [if_neg (by omega), if_neg (by omega)]; exact ⟨rfl, rfl⟩))
  · first
    | (exfalso; omega)
    | (refine w_push rfl ?_
       refine w_retB rfl (by first | exact bI_01 _ | decide | omega) ?_
       unfold bI
       first | (rw [if_pos (by omega), if_pos (by omega)]; exact ⟨rfl, rfl⟩) | (rw [if_neg (by omega), if_neg (by omega)]; exact ⟨rfl, rfl⟩))
theorem k_empty11 {d : Nat} {s : mSt}  : CV (d + 0) 69 [.inr (.inr 11)] (s) (fun s1 => s1 = us s 11 1 0) := by
  refine CV.mk rfl ?_
  show WP (d + 0) 69 0 [some (.inr (.inr 11))] [] (encA (s)) _
  refine w_ldR rfl rfl rfl ?_
  refine w_push rfl ?_
  refine w_putI rfl rfl rfl rfl rfl rfl rfl ?_
  refine w_retV rfl ?_
  rfl
theorem x_cell_y {d : Nat} {s : mSt} (hI : IvD s) {c v : Int} (hrc : -2147483648 ≤ c ∧ c < 2147483648) (hrv : -2147483648 ≤ v ∧ v < 2147483648) (hy : (0 ≤ c ∧ c ≤ 35) ∧ 0 ≤ v ∧ v ≤ 3) : CI (d + 1) 101 [.inr (.inr 10), .inl c, .inl v] (s) (fun r s1 => r = s 14 c.toNat ∧ s1 = us s 14 c.toNat v) := by
  refine CI.mk rfl ?_
  show WP (d + 1) 101 0 [some (.inr (.inr 10)), some (.inl c), some (.inl v), none] [] (encA (s)) _
  have hI0 := hI
  obtain ⟨⟨hM, hC, hN⟩, hV, h8⟩ := hI
  have hV0 := hV
  have hM0 := hM
  obtain ⟨vc, vpl, vga, vse, vne, veg, vre, vtu, vta, vwa, v36, v37, v39, v40, v42, v41, v43, v44, vl0, vl1, vlm⟩ := hV
  obtain ⟨hM39, hM40, hM41, hM43, hM44, hM36, hM37, hM38, hMc, hMw, hMp, hMt, hMb⟩ := hM
  refine w_ldI rfl rfl ?_
  refine w_call rfl rfl rfl (k_isCell (by omega)) ?_
  refine w_bEq0 rfl (fun b2 => ?_) (fun b2 => ?_)
  · first
    | (exfalso; omega)
    | (refine w_ldR rfl rfl rfl ?_
       refine w_push rfl ?_
       refine w_callWI rfl rfl rfl rfl rfl rfl rfl k_error1 (fun v10 s10 p10 => ?_)
       obtain ⟨rfl, rfl⟩ := p10
       refine w_retI rfl ?_
       exact ⟨rfl, rfl⟩)
  · first
    | (exfalso; omega)
    | (refine w_ldI rfl rfl ?_
       refine w_irLt0 rfl (by omega) (fun b4 => ?_) (fun b4 => ?_)
       · first
         | (exfalso; omega)
         | (refine w_ldR rfl rfl rfl ?_
            refine w_push rfl ?_
            refine w_callWI rfl rfl rfl rfl rfl rfl rfl k_error1 (fun v10 s10 p10 => ?_)
            obtain ⟨rfl, rfl⟩ := p10
            refine w_retI rfl ?_
            exact ⟨rfl, rfl⟩)
       · first
         | (exfalso; omega)
         | (refine w_ldI rfl rfl ?_
            refine w_push rfl ?_
            refine w_crLe rfl (by omega) (by omega) (fun b7 => ?_) (fun b7 => ?_)
            · first
              | (exfalso; omega)
              | (refine w_ldR rfl rfl rfl ?_
                 first | refine w_getI rfl rfl rfl rfl rfl ?_ | refine w_getR rfl rfl rfl rfl rfl ?_
                 first | refine w_getI rfl rfl rfl rfl rfl ?_ | refine w_getR rfl rfl rfl rfl rfl ?_
                 refine w_ldI rfl rfl ?_
                 refine w_ald rfl rfl rfl (by omega) rfl ?_
                 refine w_StI_4_3 rfl rfl ?_
                 refine w_ldR rfl rfl rfl ?_
                 first | refine w_getI rfl rfl rfl rfl rfl ?_ | refine w_getR rfl rfl rfl rfl rfl ?_
                 first | refine w_getI rfl rfl rfl rfl rfl ?_ | refine w_getR rfl rfl rfl rfl rfl ?_
                 refine w_ldI rfl rfl ?_
                 refine w_ldI rfl rfl ?_
                 refine w_ast rfl rfl rfl (by omega) rfl ?_
                 refine w_ldI rfl rfl ?_
                 refine w_retI rfl ?_
                 exact ⟨rfl, rfl⟩)
            · first
              | (exfalso; omega)
              | (refine w_ldR rfl rfl rfl ?_
                 refine w_push rfl ?_
                 refine w_callWI rfl rfl rfl rfl rfl rfl rfl k_error1 (fun v10 s10 p10 => ?_)
                 obtain ⟨rfl, rfl⟩ := p10
                 refine w_retI rfl ?_
                 exact ⟨rfl, rfl⟩)))
theorem x_cell_n {d : Nat} {s : mSt} (hI : IvD s) {c v : Int} (hrc : -2147483648 ≤ c ∧ c < 2147483648) (hrv : -2147483648 ≤ v ∧ v < 2147483648) (hy : ¬ ((0 ≤ c ∧ c ≤ 35) ∧ 0 ≤ v ∧ v ≤ 3)) : CI (d + 1) 101 [.inr (.inr 10), .inl c, .inl v] (s) (fun r s1 => r = -1000000000 - 1 ∧ s1 = us s 132 1 (s 132 1 + 1)) := by
  refine CI.mk rfl ?_
  show WP (d + 1) 101 0 [some (.inr (.inr 10)), some (.inl c), some (.inl v), none] [] (encA (s)) _
  have hI0 := hI
  obtain ⟨⟨hM, hC, hN⟩, hV, h8⟩ := hI
  have hV0 := hV
  have hM0 := hM
  obtain ⟨vc, vpl, vga, vse, vne, veg, vre, vtu, vta, vwa, v36, v37, v39, v40, v42, v41, v43, v44, vl0, vl1, vlm⟩ := hV
  obtain ⟨hM39, hM40, hM41, hM43, hM44, hM36, hM37, hM38, hMc, hMw, hMp, hMt, hMb⟩ := hM
  refine w_ldI rfl rfl ?_
  refine w_call rfl rfl rfl (k_isCell (by omega)) ?_
  refine w_bEq0 rfl (fun b2 => ?_) (fun b2 => ?_)
  · first
    | (exfalso; omega)
    | (refine w_ldR rfl rfl rfl ?_
       refine w_push rfl ?_
       refine w_callWI rfl rfl rfl rfl rfl rfl rfl k_error1 (fun v10 s10 p10 => ?_)
       obtain ⟨rfl, rfl⟩ := p10
       refine w_retI rfl ?_
       exact ⟨rfl, rfl⟩)
  · first
    | (exfalso; omega)
    | (refine w_ldI rfl rfl ?_
       refine w_irLt0 rfl (by omega) (fun b4 => ?_) (fun b4 => ?_)
       · first
         | (exfalso; omega)
         | (refine w_ldR rfl rfl rfl ?_
            refine w_push rfl ?_
            refine w_callWI rfl rfl rfl rfl rfl rfl rfl k_error1 (fun v10 s10 p10 => ?_)
            obtain ⟨rfl, rfl⟩ := p10
            refine w_retI rfl ?_
            exact ⟨rfl, rfl⟩)
       · first
         | (exfalso; omega)
         | (refine w_ldI rfl rfl ?_
            refine w_push rfl ?_
            refine w_crLe rfl (by omega) (by omega) (fun b7 => ?_) (fun b7 => ?_)
            · first
              | (exfalso; omega)
              | (refine w_ldR rfl rfl rfl ?_
                 first | refine w_getI rfl rfl rfl rfl rfl ?_ | refine w_getR rfl rfl rfl rfl rfl ?_
                 first | refine w_getI rfl rfl rfl rfl rfl ?_ | refine w_getR rfl rfl rfl rfl rfl ?_
                 refine w_ldI rfl rfl ?_
                 refine w_ald rfl rfl rfl (by omega) rfl ?_
                 refine w_StI_4_3 rfl rfl ?_
                 refine w_ldR rfl rfl rfl ?_
                 first | refine w_getI rfl rfl rfl rfl rfl ?_ | refine w_getR rfl rfl rfl rfl rfl ?_
                 first | refine w_getI rfl rfl rfl rfl rfl ?_ | refine w_getR rfl rfl rfl rfl rfl ?_
                 refine w_ldI rfl rfl ?_
                 refine w_ldI rfl rfl ?_
                 refine w_ast rfl rfl rfl (by omega) rfl ?_
                 refine w_ldI rfl rfl ?_
                 refine w_retI rfl ?_
                 exact ⟨rfl, rfl⟩)
            · first
              | (exfalso; omega)
              | (refine w_ldR rfl rfl rfl ?_
                 refine w_push rfl ?_
                 refine w_callWI rfl rfl rfl rfl rfl rfl rfl k_error1 (fun v10 s10 p10 => ?_)
                 obtain ⟨rfl, rfl⟩ := p10
                 refine w_retI rfl ?_
                 exact ⟨rfl, rfl⟩)))
theorem st_cell {X : Nat → Int} {N : Int} {d : Nat} {s : mSt} {cnt : Int} (hI : Inv X N s cnt) {c v : Int} (hrc : -2147483648 ≤ c ∧ c < 2147483648) (hrv : -2147483648 ≤ v ∧ v < 2147483648) : Step X N (d + 150) s cnt 101 195 [.inl c, .inl v] := by
  have hI0 := hI
  obtain ⟨hD, -, -, -, -, hT, -, hX, hU⟩ := hI
  have hD0 := hD
  obtain ⟨⟨hM, hC, hN⟩, hV, h8⟩ := hD
  have hV0 := hV
  have hM0 := hM
  obtain ⟨vc, vpl, vga, vse, vne, veg, vre, vtu, vta, vwa, v36, v37, v39, v40, v42, v41, v43, v44, vl0, vl1, vlm⟩ := hV
  obtain ⟨hM39, hM40, hM41, hM43, hM44, hM36, hM37, hM38, hMc, hMw, hMp, hMt, hMb⟩ := hM
  by_cases hy : (0 ≤ c ∧ c ≤ 35) ∧ 0 ≤ v ∧ v ≤ 3
  · obtain ⟨r1, s1, k1, hr, hs1⟩ := x_cell_y (d := d + 149) hD0 hrc hrv hy
    have e : s1 147 = s 147 := by rw [hs1]; exact us_ne (by decide)
    have k2 := r_cell_y (d := d + 148) (s := s1) (by rw [e]; exact hM0) hrc hrv hy
    rw [show (0 + c).toNat = c.toNat by omega] at k2
    refine Step.mk (by first | exact ⟨(f1.at 1 rfl).trans hX.2.1, (congrFun (f1.at 0 rfl) 1).trans hX.2.2⟩ | exact ⟨hX.2.1, hX.2.2⟩ | exact ⟨by rw [hs1, us_ne (by decide)]; exact hX.2.1, by rw [hs1, us_ne (by decide)]; exact hX.2.2⟩ | exact ⟨by rw [hs1, us_ne (by decide), us_ne (by decide)]; exact hX.2.1, by rw [hs1, us_ne (by decide), us_ne (by decide)]; exact hX.2.2⟩ | exact ⟨by rw [e1, us_ne (by decide), f1.at 1 rfl]; exact hX.2.1, by rw [e1, us_ne (by decide), f1.at 0 rfl]; exact hX.2.2⟩ | exact ⟨by rw [ft.at 1 rfl, hx 1 (by decide) (by decide)]; exact hX.2.1, by rw [ft.at 0 rfl, et, newL_0, mup_ne (by decide)]; exact hX.2.2⟩) k1 k2 (by rw [hr, e]; exact (vc c (by omega) (by omega)).symm) ?_
    have hf : Fr [14, 147] s (us s1 147 c.toNat v) := by rw [hs1]; exact (Fr.us rfl).tr (Fr.us rfl)
    have e2 : us s1 147 c.toNat v 147 = mup (s 147) c.toNat v := by rw [us_eq, e]
    refine hI0.vil rfl rfl (by omega) hf (IvD.mk e2 (MOk_set hM0 ⟨by omega, by omega, by omega, by omega, by omega, by omega, by omega, by omega, by omega, fun w hw => ⟨by omega, by omega, by omega, by omega⟩, fun p hp => ⟨by omega, by omega, by omega, by omega⟩, fun j hj => by omega, fun j hj => by omega⟩) (COk_set2 (by omega) hC) (by rw [mup_ne (by omega)]; exact hN) ((hV0.set_vc (by omega)).fr (A := [147]) rfl (by rw [hs1]; exact Fr.us rfl)) (by rw [hf.at 13 rfl, mup_ne (by omega)]; exact h8)) (hT.d (fun i hi => by rw [e2, mup_ne (by omega)]) (hf.at 148 rfl) (hf.at 149 rfl))
  · obtain ⟨r1, s1, k1, hr, hs1⟩ := x_cell_n (d := d + 149) hD0 hrc hrv hy
    have e : s1 147 = s 147 := by rw [hs1]; exact us_ne (by decide)
    have k2 := r_cell_n (d := d + 148) (s := s1) (by rw [e]; exact hM0) hrc hrv hy
    exact Step.mk (by first | exact ⟨(f1.at 1 rfl).trans hX.2.1, (congrFun (f1.at 0 rfl) 1).trans hX.2.2⟩ | exact ⟨hX.2.1, hX.2.2⟩ | exact ⟨by rw [hs1, us_ne (by decide)]; exact hX.2.1, by rw [hs1, us_ne (by decide)]; exact hX.2.2⟩ | exact ⟨by rw [hs1, us_ne (by decide), us_ne (by decide)]; exact hX.2.1, by rw [hs1, us_ne (by decide), us_ne (by decide)]; exact hX.2.2⟩ | exact ⟨by rw [e1, us_ne (by decide), f1.at 1 rfl]; exact hX.2.1, by rw [e1, us_ne (by decide), f1.at 0 rfl]; exact hX.2.2⟩ | exact ⟨by rw [ft.at 1 rfl, hx 1 (by decide) (by decide)]; exact hX.2.1, by rw [ft.at 0 rfl, et, newL_0, mup_ne (by decide)]; exact hX.2.2⟩) k1 k2 (by rw [hr]) (hI0.err2 hs1)
theorem x_set_0 {d : Nat} {s : mSt} (hI : IvD s) {w v : Int} (hrw : -2147483648 ≤ w ∧ w < 2147483648) (hrv : -2147483648 ≤ v ∧ v < 2147483648) (hy : w = 0 ∧ 0 ≤ v ∧ v ≤ 9) : CI (d + 1) 102 [.inr (.inr 10), .inl w, .inl v] (s) (fun r s1 => r = s 13 2 ∧ s1 = us s 13 2 v) := by
  refine CI.mk rfl ?_
  show WP (d + 1) 102 0 [some (.inr (.inr 10)), some (.inl w), some (.inl v), none] [] (encA (s)) _
  have hI0 := hI
  obtain ⟨⟨hM, hC, hN⟩, hV, h8⟩ := hI
  have hV0 := hV
  have hM0 := hM
  obtain ⟨vc, vpl, vga, vse, vne, veg, vre, vtu, vta, vwa, v36, v37, v39, v40, v42, v41, v43, v44, vl0, vl1, vlm⟩ := hV
  obtain ⟨hM39, hM40, hM41, hM43, hM44, hM36, hM37, hM38, hMc, hMw, hMp, hMt, hMb⟩ := hM
  refine w_ldI rfl rfl ?_
  refine w_irLt0 rfl (by omega) (fun b1 => ?_) (fun b1 => ?_)
  · first
    | (exfalso; omega)
    | (refine w_ldR rfl rfl rfl ?_
       refine w_push rfl ?_
       refine w_callWI rfl rfl rfl rfl rfl rfl rfl k_error1 (fun v12 s12 p12 => ?_)
       obtain ⟨rfl, rfl⟩ := p12
       refine w_retI rfl ?_
       exact ⟨rfl, rfl⟩)
  · first
    | (exfalso; omega)
    | (refine w_ldI rfl rfl ?_
       refine w_push rfl ?_
       refine w_crGt rfl (by omega) (by omega) (fun b4 => ?_) (fun b4 => ?_)
       · first
         | (exfalso; omega)
         | (refine w_ldR rfl rfl rfl ?_
            refine w_push rfl ?_
            refine w_callWI rfl rfl rfl rfl rfl rfl rfl k_error1 (fun v12 s12 p12 => ?_)
            obtain ⟨rfl, rfl⟩ := p12
            refine w_retI rfl ?_
            exact ⟨rfl, rfl⟩)
       · first
         | (exfalso; omega)
         | (refine w_ldI rfl rfl ?_
            refine w_irLt0 rfl (by omega) (fun b6 => ?_) (fun b6 => ?_)
            · first
              | (exfalso; omega)
              | (refine w_ldR rfl rfl rfl ?_
                 refine w_push rfl ?_
                 refine w_callWI rfl rfl rfl rfl rfl rfl rfl k_error1 (fun v12 s12 p12 => ?_)
                 obtain ⟨rfl, rfl⟩ := p12
                 refine w_retI rfl ?_
                 exact ⟨rfl, rfl⟩)
            · first
              | (exfalso; omega)
              | (refine w_ldI rfl rfl ?_
                 refine w_push rfl ?_
                 refine w_crLe rfl (by omega) (by omega) (fun b9 => ?_) (fun b9 => ?_)
                 · first
                   | (exfalso; omega)
                   | (refine w_ldI rfl rfl ?_
                      refine w_irNe0 rfl (by omega) (fun b15 => ?_) (fun b15 => ?_)
                      · first
                        | (exfalso; omega)
                        | (refine w_ldR rfl rfl rfl ?_
                           first | refine w_getI rfl rfl rfl rfl rfl ?_ | refine w_getR rfl rfl rfl rfl rfl ?_
                           first | refine w_getI rfl rfl rfl rfl rfl ?_ | refine w_getR rfl rfl rfl rfl rfl ?_
                           refine w_StI_4_3 rfl rfl ?_
                           refine w_ldR rfl rfl rfl ?_
                           first | refine w_getI rfl rfl rfl rfl rfl ?_ | refine w_getR rfl rfl rfl rfl rfl ?_
                           refine w_ldI rfl rfl ?_
                           refine w_putI rfl rfl rfl rfl rfl rfl rfl ?_
                           refine w_ldI rfl rfl ?_
                           refine w_retI rfl ?_
                           exact ⟨rfl, rfl⟩)
                      · first
                        | (exfalso; omega)
                        | (refine w_ldR rfl rfl rfl ?_
                           first | refine w_getI rfl rfl rfl rfl rfl ?_ | refine w_getR rfl rfl rfl rfl rfl ?_
                           first | refine w_getI rfl rfl rfl rfl rfl ?_ | refine w_getR rfl rfl rfl rfl rfl ?_
                           refine w_StI_4_3 rfl rfl ?_
                           refine w_ldR rfl rfl rfl ?_
                           first | refine w_getI rfl rfl rfl rfl rfl ?_ | refine w_getR rfl rfl rfl rfl rfl ?_
                           refine w_ldI rfl rfl ?_
                           refine w_putI rfl rfl rfl rfl rfl rfl rfl ?_
                           refine w_go rfl ?_
                           refine w_ldI rfl rfl ?_
                           refine w_retI rfl ?_
                           exact ⟨rfl, rfl⟩))
                 · first
                   | (exfalso; omega)
                   | (refine w_ldR rfl rfl rfl ?_
                      refine w_push rfl ?_
                      refine w_callWI rfl rfl rfl rfl rfl rfl rfl k_error1 (fun v12 s12 p12 => ?_)
                      obtain ⟨rfl, rfl⟩ := p12
                      refine w_retI rfl ?_
                      exact ⟨rfl, rfl⟩))))
theorem x_set_1 {d : Nat} {s : mSt} (hI : IvD s) {w v : Int} (hrw : -2147483648 ≤ w ∧ w < 2147483648) (hrv : -2147483648 ≤ v ∧ v < 2147483648) (hy : w = 1 ∧ 0 ≤ v ∧ v ≤ 9) : CI (d + 1) 102 [.inr (.inr 10), .inl w, .inl v] (s) (fun r s1 => r = s 13 3 ∧ s1 = us s 13 3 v) := by
  refine CI.mk rfl ?_
  show WP (d + 1) 102 0 [some (.inr (.inr 10)), some (.inl w), some (.inl v), none] [] (encA (s)) _
  have hI0 := hI
  obtain ⟨⟨hM, hC, hN⟩, hV, h8⟩ := hI
  have hV0 := hV
  have hM0 := hM
  obtain ⟨vc, vpl, vga, vse, vne, veg, vre, vtu, vta, vwa, v36, v37, v39, v40, v42, v41, v43, v44, vl0, vl1, vlm⟩ := hV
  obtain ⟨hM39, hM40, hM41, hM43, hM44, hM36, hM37, hM38, hMc, hMw, hMp, hMt, hMb⟩ := hM
  refine w_ldI rfl rfl ?_
  refine w_irLt0 rfl (by omega) (fun b1 => ?_) (fun b1 => ?_)
  · first
    | (exfalso; omega)
    | (refine w_ldR rfl rfl rfl ?_
       refine w_push rfl ?_
       refine w_callWI rfl rfl rfl rfl rfl rfl rfl k_error1 (fun v12 s12 p12 => ?_)
       obtain ⟨rfl, rfl⟩ := p12
       refine w_retI rfl ?_
       exact ⟨rfl, rfl⟩)
  · first
    | (exfalso; omega)
    | (refine w_ldI rfl rfl ?_
       refine w_push rfl ?_
       refine w_crGt rfl (by omega) (by omega) (fun b4 => ?_) (fun b4 => ?_)
       · first
         | (exfalso; omega)
         | (refine w_ldR rfl rfl rfl ?_
            refine w_push rfl ?_
            refine w_callWI rfl rfl rfl rfl rfl rfl rfl k_error1 (fun v12 s12 p12 => ?_)
            obtain ⟨rfl, rfl⟩ := p12
            refine w_retI rfl ?_
            exact ⟨rfl, rfl⟩)
       · first
         | (exfalso; omega)
         | (refine w_ldI rfl rfl ?_
            refine w_irLt0 rfl (by omega) (fun b6 => ?_) (fun b6 => ?_)
            · first
              | (exfalso; omega)
              | (refine w_ldR rfl rfl rfl ?_
                 refine w_push rfl ?_
                 refine w_callWI rfl rfl rfl rfl rfl rfl rfl k_error1 (fun v12 s12 p12 => ?_)
                 obtain ⟨rfl, rfl⟩ := p12
                 refine w_retI rfl ?_
                 exact ⟨rfl, rfl⟩)
            · first
              | (exfalso; omega)
              | (refine w_ldI rfl rfl ?_
                 refine w_push rfl ?_
                 refine w_crLe rfl (by omega) (by omega) (fun b9 => ?_) (fun b9 => ?_)
                 · first
                   | (exfalso; omega)
                   | (refine w_ldI rfl rfl ?_
                      refine w_irNe0 rfl (by omega) (fun b15 => ?_) (fun b15 => ?_)
                      · first
                        | (exfalso; omega)
                        | (refine w_ldR rfl rfl rfl ?_
                           first | refine w_getI rfl rfl rfl rfl rfl ?_ | refine w_getR rfl rfl rfl rfl rfl ?_
                           first | refine w_getI rfl rfl rfl rfl rfl ?_ | refine w_getR rfl rfl rfl rfl rfl ?_
                           refine w_StI_4_3 rfl rfl ?_
                           refine w_ldR rfl rfl rfl ?_
                           first | refine w_getI rfl rfl rfl rfl rfl ?_ | refine w_getR rfl rfl rfl rfl rfl ?_
                           refine w_ldI rfl rfl ?_
                           refine w_putI rfl rfl rfl rfl rfl rfl rfl ?_
                           refine w_ldI rfl rfl ?_
                           refine w_retI rfl ?_
                           exact ⟨rfl, rfl⟩)
                      · first
                        | (exfalso; omega)
                        | (refine w_ldR rfl rfl rfl ?_
                           first | refine w_getI rfl rfl rfl rfl rfl ?_ | refine w_getR rfl rfl rfl rfl rfl ?_
                           first | refine w_getI rfl rfl rfl rfl rfl ?_ | refine w_getR rfl rfl rfl rfl rfl ?_
                           refine w_StI_4_3 rfl rfl ?_
                           refine w_ldR rfl rfl rfl ?_
                           first | refine w_getI rfl rfl rfl rfl rfl ?_ | refine w_getR rfl rfl rfl rfl rfl ?_
                           refine w_ldI rfl rfl ?_
                           refine w_putI rfl rfl rfl rfl rfl rfl rfl ?_
                           refine w_go rfl ?_
                           refine w_ldI rfl rfl ?_
                           refine w_retI rfl ?_
                           exact ⟨rfl, rfl⟩))
                 · first
                   | (exfalso; omega)
                   | (refine w_ldR rfl rfl rfl ?_
                      refine w_push rfl ?_
                      refine w_callWI rfl rfl rfl rfl rfl rfl rfl k_error1 (fun v12 s12 p12 => ?_)
                      obtain ⟨rfl, rfl⟩ := p12
                      refine w_retI rfl ?_
                      exact ⟨rfl, rfl⟩))))
theorem x_set_n {d : Nat} {s : mSt} (hI : IvD s) {w v : Int} (hrw : -2147483648 ≤ w ∧ w < 2147483648) (hrv : -2147483648 ≤ v ∧ v < 2147483648) (hy : ¬ ((0 ≤ w ∧ w ≤ 1) ∧ 0 ≤ v ∧ v ≤ 9)) : CI (d + 1) 102 [.inr (.inr 10), .inl w, .inl v] (s) (fun r s1 => r = -1000000000 - 1 ∧ s1 = us s 132 1 (s 132 1 + 1)) := by
  refine CI.mk rfl ?_
  show WP (d + 1) 102 0 [some (.inr (.inr 10)), some (.inl w), some (.inl v), none] [] (encA (s)) _
  have hI0 := hI
  obtain ⟨⟨hM, hC, hN⟩, hV, h8⟩ := hI
  have hV0 := hV
  have hM0 := hM
  obtain ⟨vc, vpl, vga, vse, vne, veg, vre, vtu, vta, vwa, v36, v37, v39, v40, v42, v41, v43, v44, vl0, vl1, vlm⟩ := hV
  obtain ⟨hM39, hM40, hM41, hM43, hM44, hM36, hM37, hM38, hMc, hMw, hMp, hMt, hMb⟩ := hM
  refine w_ldI rfl rfl ?_
  refine w_irLt0 rfl (by omega) (fun b1 => ?_) (fun b1 => ?_)
  · first
    | (exfalso; omega)
    | (refine w_ldR rfl rfl rfl ?_
       refine w_push rfl ?_
       refine w_callWI rfl rfl rfl rfl rfl rfl rfl k_error1 (fun v12 s12 p12 => ?_)
       obtain ⟨rfl, rfl⟩ := p12
       refine w_retI rfl ?_
       exact ⟨rfl, rfl⟩)
  · first
    | (exfalso; omega)
    | (refine w_ldI rfl rfl ?_
       refine w_push rfl ?_
       refine w_crGt rfl (by omega) (by omega) (fun b4 => ?_) (fun b4 => ?_)
       · first
         | (exfalso; omega)
         | (refine w_ldR rfl rfl rfl ?_
            refine w_push rfl ?_
            refine w_callWI rfl rfl rfl rfl rfl rfl rfl k_error1 (fun v12 s12 p12 => ?_)
            obtain ⟨rfl, rfl⟩ := p12
            refine w_retI rfl ?_
            exact ⟨rfl, rfl⟩)
       · first
         | (exfalso; omega)
         | (refine w_ldI rfl rfl ?_
            refine w_irLt0 rfl (by omega) (fun b6 => ?_) (fun b6 => ?_)
            · first
              | (exfalso; omega)
              | (refine w_ldR rfl rfl rfl ?_
                 refine w_push rfl ?_
                 refine w_callWI rfl rfl rfl rfl rfl rfl rfl k_error1 (fun v12 s12 p12 => ?_)
                 obtain ⟨rfl, rfl⟩ := p12
                 refine w_retI rfl ?_
                 exact ⟨rfl, rfl⟩)
            · first
              | (exfalso; omega)
              | (refine w_ldI rfl rfl ?_
                 refine w_push rfl ?_
                 refine w_crLe rfl (by omega) (by omega) (fun b9 => ?_) (fun b9 => ?_)
                 · first
                   | (exfalso; omega)
                   | (refine w_ldI rfl rfl ?_
                      refine w_irNe0 rfl (by omega) (fun b15 => ?_) (fun b15 => ?_)
                      · first
                        | (exfalso; omega)
                        | (refine w_ldR rfl rfl rfl ?_
                           first | refine w_getI rfl rfl rfl rfl rfl ?_ | refine w_getR rfl rfl rfl rfl rfl ?_
                           first | refine w_getI rfl rfl rfl rfl rfl ?_ | refine w_getR rfl rfl rfl rfl rfl ?_
                           refine w_StI_4_3 rfl rfl ?_
                           refine w_ldR rfl rfl rfl ?_
                           first | refine w_getI rfl rfl rfl rfl rfl ?_ | refine w_getR rfl rfl rfl rfl rfl ?_
                           refine w_ldI rfl rfl ?_
                           refine w_putI rfl rfl rfl rfl rfl rfl rfl ?_
                           refine w_ldI rfl rfl ?_
                           refine w_retI rfl ?_
                           exact ⟨rfl, rfl⟩)
                      · first
                        | (exfalso; omega)
                        | (refine w_ldR rfl rfl rfl ?_
                           first | refine w_getI rfl rfl rfl rfl rfl ?_ | refine w_getR rfl rfl rfl rfl rfl ?_
                           first | refine w_getI rfl rfl rfl rfl rfl ?_ | refine w_getR rfl rfl rfl rfl rfl ?_
                           refine w_StI_4_3 rfl rfl ?_
                           refine w_ldR rfl rfl rfl ?_
                           first | refine w_getI rfl rfl rfl rfl rfl ?_ | refine w_getR rfl rfl rfl rfl rfl ?_
                           refine w_ldI rfl rfl ?_
                           refine w_putI rfl rfl rfl rfl rfl rfl rfl ?_
                           refine w_go rfl ?_
                           refine w_ldI rfl rfl ?_
                           refine w_retI rfl ?_
                           exact ⟨rfl, rfl⟩))
                 · first
                   | (exfalso; omega)
                   | (refine w_ldR rfl rfl rfl ?_
                      refine w_push rfl ?_
                      refine w_callWI rfl rfl rfl rfl rfl rfl rfl k_error1 (fun v12 s12 p12 => ?_)
                      obtain ⟨rfl, rfl⟩ := p12
                      refine w_retI rfl ?_
                      exact ⟨rfl, rfl⟩))))
theorem st_set {X : Nat → Int} {N : Int} {d : Nat} {s : mSt} {cnt : Int} (hI : Inv X N s cnt) {w v : Int} (hrw : -2147483648 ≤ w ∧ w < 2147483648) (hrv : -2147483648 ≤ v ∧ v < 2147483648) : Step X N (d + 150) s cnt 102 196 [.inl w, .inl v] := by
  have hI0 := hI
  obtain ⟨hD, -, -, -, -, hT, -, hX, hU⟩ := hI
  have hD0 := hD
  obtain ⟨⟨hM, hC, hN⟩, hV, h8⟩ := hD
  have hV0 := hV
  have hM0 := hM
  obtain ⟨vc, vpl, vga, vse, vne, veg, vre, vtu, vta, vwa, v36, v37, v39, v40, v42, v41, v43, v44, vl0, vl1, vlm⟩ := hV
  obtain ⟨hM39, hM40, hM41, hM43, hM44, hM36, hM37, hM38, hMc, hMw, hMp, hMt, hMb⟩ := hM
  by_cases hy : (0 ≤ w ∧ w ≤ 1) ∧ 0 ≤ v ∧ v ≤ 9
  · by_cases h0 : w = 0
    · obtain ⟨r1, s1, k1, hr, hs1⟩ := x_set_0 (d := d + 149) hD0 hrw hrv ⟨h0, hy.2⟩
      have e : s1 147 = s 147 := by rw [hs1]; exact us_ne (by decide)
      have k2 := r_set_y (d := d + 149) (s := s1) (by rw [e]; exact hM0) hrw hrv hy
      rw [show (36 + w).toNat = 36 by omega] at k2
      refine Step.mk (by first | exact ⟨(f1.at 1 rfl).trans hX.2.1, (congrFun (f1.at 0 rfl) 1).trans hX.2.2⟩ | exact ⟨hX.2.1, hX.2.2⟩ | exact ⟨by rw [hs1, us_ne (by decide)]; exact hX.2.1, by rw [hs1, us_ne (by decide)]; exact hX.2.2⟩ | exact ⟨by rw [hs1, us_ne (by decide), us_ne (by decide)]; exact hX.2.1, by rw [hs1, us_ne (by decide), us_ne (by decide)]; exact hX.2.2⟩ | exact ⟨by rw [e1, us_ne (by decide), f1.at 1 rfl]; exact hX.2.1, by rw [e1, us_ne (by decide), f1.at 0 rfl]; exact hX.2.2⟩ | exact ⟨by rw [ft.at 1 rfl, hx 1 (by decide) (by decide)]; exact hX.2.1, by rw [ft.at 0 rfl, et, newL_0, mup_ne (by decide)]; exact hX.2.2⟩) k1 k2 (by rw [hr, e]; exact v36.symm) ?_
      have hf : Fr [13, 147] s (us s1 147 36 v) := by rw [hs1]; exact (Fr.us rfl).tr (Fr.us rfl)
      have e2 : us s1 147 36 v 147 = mup (s 147) 36 v := by rw [us_eq, e]
      refine hI0.vil rfl rfl (by omega) hf (IvD.mk e2 (MOk_set hM0 ⟨by omega, by omega, by omega, by omega, by omega, by omega, by omega, by omega, by omega, fun w hw => ⟨by omega, by omega, by omega, by omega⟩, fun p hp => ⟨by omega, by omega, by omega, by omega⟩, fun j hj => by omega, fun j hj => by omega⟩) (COk_set2 (by omega) hC) (by rw [mup_ne (by omega)]; exact hN) (hV0.set_v36.fr (A := [147]) rfl (by rw [hs1]; exact Fr.us rfl)) (by rw [us_ne (by decide), hs1, us_eq, mup_ne (by decide), mup_ne (by decide)]; exact h8)) (hT.d (fun i hi => by rw [e2, mup_ne (by omega)]) (hf.at 148 rfl) (hf.at 149 rfl))
    · obtain ⟨r1, s1, k1, hr, hs1⟩ := x_set_1 (d := d + 149) hD0 hrw hrv ⟨by omega, hy.2⟩
      have e : s1 147 = s 147 := by rw [hs1]; exact us_ne (by decide)
      have k2 := r_set_y (d := d + 149) (s := s1) (by rw [e]; exact hM0) hrw hrv hy
      rw [show (36 + w).toNat = 37 by omega] at k2
      refine Step.mk (by first | exact ⟨(f1.at 1 rfl).trans hX.2.1, (congrFun (f1.at 0 rfl) 1).trans hX.2.2⟩ | exact ⟨hX.2.1, hX.2.2⟩ | exact ⟨by rw [hs1, us_ne (by decide)]; exact hX.2.1, by rw [hs1, us_ne (by decide)]; exact hX.2.2⟩ | exact ⟨by rw [hs1, us_ne (by decide), us_ne (by decide)]; exact hX.2.1, by rw [hs1, us_ne (by decide), us_ne (by decide)]; exact hX.2.2⟩ | exact ⟨by rw [e1, us_ne (by decide), f1.at 1 rfl]; exact hX.2.1, by rw [e1, us_ne (by decide), f1.at 0 rfl]; exact hX.2.2⟩ | exact ⟨by rw [ft.at 1 rfl, hx 1 (by decide) (by decide)]; exact hX.2.1, by rw [ft.at 0 rfl, et, newL_0, mup_ne (by decide)]; exact hX.2.2⟩) k1 k2 (by rw [hr, e]; exact v37.symm) ?_
      have hf : Fr [13, 147] s (us s1 147 37 v) := by rw [hs1]; exact (Fr.us rfl).tr (Fr.us rfl)
      have e2 : us s1 147 37 v 147 = mup (s 147) 37 v := by rw [us_eq, e]
      refine hI0.vil rfl rfl (by omega) hf (IvD.mk e2 (MOk_set hM0 ⟨by omega, by omega, by omega, by omega, by omega, by omega, by omega, by omega, by omega, fun w hw => ⟨by omega, by omega, by omega, by omega⟩, fun p hp => ⟨by omega, by omega, by omega, by omega⟩, fun j hj => by omega, fun j hj => by omega⟩) (COk_set2 (by omega) hC) (by rw [mup_ne (by omega)]; exact hN) (hV0.set_v37.fr (A := [147]) rfl (by rw [hs1]; exact Fr.us rfl)) (by rw [us_ne (by decide), hs1, us_eq, mup_ne (by decide), mup_ne (by decide)]; exact h8)) (hT.d (fun i hi => by rw [e2, mup_ne (by omega)]) (hf.at 148 rfl) (hf.at 149 rfl))
  · obtain ⟨r1, s1, k1, hr, hs1⟩ := x_set_n (d := d + 149) hD0 hrw hrv hy
    have e : s1 147 = s 147 := by rw [hs1]; exact us_ne (by decide)
    have k2 := r_set_n (d := d + 149) (s := s1) (by rw [e]; exact hM0) hrw hrv hy
    exact Step.mk (by first | exact ⟨(f1.at 1 rfl).trans hX.2.1, (congrFun (f1.at 0 rfl) 1).trans hX.2.2⟩ | exact ⟨hX.2.1, hX.2.2⟩ | exact ⟨by rw [hs1, us_ne (by decide)]; exact hX.2.1, by rw [hs1, us_ne (by decide)]; exact hX.2.2⟩ | exact ⟨by rw [hs1, us_ne (by decide), us_ne (by decide)]; exact hX.2.1, by rw [hs1, us_ne (by decide), us_ne (by decide)]; exact hX.2.2⟩ | exact ⟨by rw [e1, us_ne (by decide), f1.at 1 rfl]; exact hX.2.1, by rw [e1, us_ne (by decide), f1.at 0 rfl]; exact hX.2.2⟩ | exact ⟨by rw [ft.at 1 rfl, hx 1 (by decide) (by decide)]; exact hX.2.1, by rw [ft.at 0 rfl, et, newL_0, mup_ne (by decide)]; exact hX.2.2⟩) k1 k2 (by rw [hr]) (hI0.err2 hs1)
theorem x_seed {d : Nat} {s : mSt} (hI : IvD s) {v : Int}  : CI (d + 0) 127 [.inr (.inr 10), .inl v] (s) (fun r s1 => r = s 13 4 ∧ s1 = us s 13 4 v) := by
  refine CI.mk rfl ?_
  show WP (d + 0) 127 0 [some (.inr (.inr 10)), some (.inl v), none] [] (encA (s)) _
  have hI0 := hI
  obtain ⟨⟨hM, hC, hN⟩, hV, h8⟩ := hI
  have hV0 := hV
  have hM0 := hM
  obtain ⟨vc, vpl, vga, vse, vne, veg, vre, vtu, vta, vwa, v36, v37, v39, v40, v42, v41, v43, v44, vl0, vl1, vlm⟩ := hV
  obtain ⟨hM39, hM40, hM41, hM43, hM44, hM36, hM37, hM38, hMc, hMw, hMp, hMt, hMb⟩ := hM
  refine w_ldR rfl rfl rfl ?_
  first | refine w_getI rfl rfl rfl rfl rfl ?_ | refine w_getR rfl rfl rfl rfl rfl ?_
  first | refine w_getI rfl rfl rfl rfl rfl ?_ | refine w_getR rfl rfl rfl rfl rfl ?_
  refine w_StI_3_2 rfl rfl ?_
  refine w_ldR rfl rfl rfl ?_
  first | refine w_getI rfl rfl rfl rfl rfl ?_ | refine w_getR rfl rfl rfl rfl rfl ?_
  refine w_ldI rfl rfl ?_
  refine w_putI rfl rfl rfl rfl rfl rfl rfl ?_
  refine w_ldI rfl rfl ?_
  refine w_retI rfl ?_
  exact ⟨rfl, rfl⟩
theorem st_seed {X : Nat → Int} {N : Int} {d : Nat} {s : mSt} {cnt : Int} (hI : Inv X N s cnt) {v : Int} : Step X N (d + 150) s cnt 127 244 [.inl v] := by
  have hI0 := hI
  obtain ⟨hD, -, -, -, -, hT, -, hX, hU⟩ := hI
  have hD0 := hD
  obtain ⟨⟨hM, hC, hN⟩, hV, h8⟩ := hD
  have hV0 := hV
  have hM0 := hM
  obtain ⟨vc, vpl, vga, vse, vne, veg, vre, vtu, vta, vwa, v36, v37, v39, v40, v42, v41, v43, v44, vl0, vl1, vlm⟩ := hV
  obtain ⟨hM39, hM40, hM41, hM43, hM44, hM36, hM37, hM38, hMc, hMw, hMp, hMt, hMb⟩ := hM
  obtain ⟨r1, s1, k1, hr, hs1⟩ := x_seed (d := d + 150) hD0 (v := v)
  have e : s1 147 = s 147 := by rw [hs1]; exact us_ne (by decide)
  have k2 := r_seed (d := d + 150) (s := s1) (by rw [e]; exact hM0) (v := v)
  refine Step.mk (by first | exact ⟨(f1.at 1 rfl).trans hX.2.1, (congrFun (f1.at 0 rfl) 1).trans hX.2.2⟩ | exact ⟨hX.2.1, hX.2.2⟩ | exact ⟨by rw [hs1, us_ne (by decide)]; exact hX.2.1, by rw [hs1, us_ne (by decide)]; exact hX.2.2⟩ | exact ⟨by rw [hs1, us_ne (by decide), us_ne (by decide)]; exact hX.2.1, by rw [hs1, us_ne (by decide), us_ne (by decide)]; exact hX.2.2⟩ | exact ⟨by rw [e1, us_ne (by decide), f1.at 1 rfl]; exact hX.2.1, by rw [e1, us_ne (by decide), f1.at 0 rfl]; exact hX.2.2⟩ | exact ⟨by rw [ft.at 1 rfl, hx 1 (by decide) (by decide)]; exact hX.2.1, by rw [ft.at 0 rfl, et, newL_0, mup_ne (by decide)]; exact hX.2.2⟩) k1 k2 (by rw [hr, e]; exact v42.symm) ?_
  have hf : Fr [13, 147] s (us s1 147 42 v) := by rw [hs1]; exact (Fr.us rfl).tr (Fr.us rfl)
  have e2 : us s1 147 42 v 147 = mup (s 147) 42 v := by rw [us_eq, e]
  refine hI0.vil rfl rfl (by omega) hf (IvD.mk e2 (MOk_set hM0 ⟨by omega, by omega, by omega, by omega, by omega, by omega, by omega, by omega, by omega, fun w hw => ⟨by omega, by omega, by omega, by omega⟩, fun p hp => ⟨by omega, by omega, by omega, by omega⟩, fun j hj => by omega, fun j hj => by omega⟩) (COk_set2 (by omega) hC) (by rw [mup_ne (by omega)]; exact hN) (hV0.set_v42.fr (A := [147]) rfl (by rw [hs1]; exact Fr.us rfl)) (by rw [us_ne (by decide), hs1, us_eq, mup_ne (by decide), mup_ne (by decide)]; exact h8)) (hT.d (fun i hi => by rw [e2, mup_ne (by omega)]) (hf.at 148 rfl) (hf.at 149 rfl))
theorem VN13.clear {s : mSt} {D : Nat → Int} (hV : VN13 s D) : VN13 (us s 22 1 0) (mup D 41 0) := by
  obtain ⟨vc, vpl, vga, vse, vne, veg, vre, vtu, vta, vwa, v36, v37, v39, v40, v42, v41, v43, v44, vl0, vl1, vlm⟩ := hV
  exact ⟨fun i h1 h2 => by rw [us_ne (by decide), mup_ne (by omega)]; exact vc i h1 h2,
    fun i h1 h2 => by rw [us_ne (by decide), mup_ne (by omega)]; exact vpl i h1 h2,
    fun i h1 h2 => by rw [us_ne (by decide), mup_ne (by omega)]; exact vga i h1 h2,
    fun i h1 h2 => by rw [us_ne (by decide), mup_ne (by omega)]; exact vse i h1 h2,
    fun i h1 h2 => by rw [us_ne (by decide), mup_ne (by omega)]; exact vne i h1 h2,
    fun i h1 h2 => by rw [us_ne (by decide), mup_ne (by omega)]; exact veg i h1 h2,
    fun i h1 h2 => by rw [us_ne (by decide), mup_ne (by omega)]; exact vre i h1 h2,
    fun i h1 h2 => by rw [mup_eq] at h2; omega,
    fun i h1 h2 => by rw [mup_ne (by omega)] at h2; rw [us_ne (by decide), mup_ne (by omega)]; exact vta i h1 h2,
    fun i h1 h2 => by rw [mup_ne (by omega)] at h2; rw [us_ne (by decide), mup_ne (by omega)]; exact vwa i h1 h2,
    by rw [us_ne (by decide), mup_ne (by omega)]; exact v36,
    by rw [us_ne (by decide), mup_ne (by omega)]; exact v37,
    by rw [us_ne (by decide), mup_ne (by omega)]; exact v39,
    by rw [us_ne (by decide), mup_ne (by omega)]; exact v40,
    by rw [us_ne (by decide), mup_ne (by omega)]; exact v42,
    by rw [us_eq, mup_eq, mup_eq],
    by rw [us_ne (by decide), mup_ne (by omega)]; exact v43,
    by rw [us_ne (by decide), mup_ne (by omega)]; exact v44,
    vl0.cg (by omega) (us_ne (by decide)) (us_ne (by decide)) (us_ne (by decide)) (fun j h1 h2 h3 => mup_ne (by omega)),
    vl1.cg (by omega) (us_ne (by decide)) (us_ne (by decide)) (us_ne (by decide)) (fun j h1 h2 h3 => mup_ne (by omega)),
    fun i h1 h2 => by rw [us_ne (by decide), mup_ne (by omega), mup_ne (by omega)]; exact LampAt.fr rfl (Fr.us (A := [22]) rfl) (vlm i h1 h2)⟩
theorem x_clear {d : Nat} {s : mSt} (hI : IvD s)   : CI (d + 1) 113 [.inr (.inr 10)] (s) (fun r s1 => r = s 22 1 ∧ s1 = us s 22 1 0) := by
  refine CI.mk rfl ?_
  show WP (d + 1) 113 0 [some (.inr (.inr 10)), none] [] (encA (s)) _
  have hI0 := hI
  obtain ⟨⟨hM, hC, hN⟩, hV, h8⟩ := hI
  have hV0 := hV
  have hM0 := hM
  obtain ⟨vc, vpl, vga, vse, vne, veg, vre, vtu, vta, vwa, v36, v37, v39, v40, v42, v41, v43, v44, vl0, vl1, vlm⟩ := hV
  obtain ⟨hM39, hM40, hM41, hM43, hM44, hM36, hM37, hM38, hMc, hMw, hMp, hMt, hMb⟩ := hM
  refine w_ldR rfl rfl rfl ?_
  first | refine w_getI rfl rfl rfl rfl rfl ?_ | refine w_getR rfl rfl rfl rfl rfl ?_
  first | refine w_getI rfl rfl rfl rfl rfl ?_ | refine w_getR rfl rfl rfl rfl rfl ?_
  first | refine w_getI rfl rfl rfl rfl rfl ?_ | refine w_getR rfl rfl rfl rfl rfl ?_
  refine w_StI_2_1 rfl rfl ?_
  refine w_ldR rfl rfl rfl ?_
  first | refine w_getI rfl rfl rfl rfl rfl ?_ | refine w_getR rfl rfl rfl rfl rfl ?_
  first | refine w_getI rfl rfl rfl rfl rfl ?_ | refine w_getR rfl rfl rfl rfl rfl ?_
  refine w_callWN rfl rfl rfl rfl rfl rfl rfl k_empty22 (fun s8 p8 => ?_)
  subst p8
  refine w_ldI rfl rfl ?_
  refine w_retI rfl ?_
  exact ⟨rfl, rfl⟩
theorem st_clear {X : Nat → Int} {N : Int} {d : Nat} {s : mSt} {cnt : Int} (hI : Inv X N s cnt)  : Step X N (d + 150) s cnt 113 219 [] := by
  have hI0 := hI
  obtain ⟨hD, -, -, -, -, hT, -, hX, hU⟩ := hI
  have hD0 := hD
  obtain ⟨⟨hM, hC, hN⟩, hV, h8⟩ := hD
  have hV0 := hV
  have hM0 := hM
  obtain ⟨vc, vpl, vga, vse, vne, veg, vre, vtu, vta, vwa, v36, v37, v39, v40, v42, v41, v43, v44, vl0, vl1, vlm⟩ := hV
  obtain ⟨hM39, hM40, hM41, hM43, hM44, hM36, hM37, hM38, hMc, hMw, hMp, hMt, hMb⟩ := hM
  obtain ⟨r1, s1, k1, hr, hs1⟩ := x_clear (d := d + 149) hD0 
  have e : s1 147 = s 147 := by rw [hs1]; exact us_ne (by decide)
  have k2 := r_clear (d := d + 150) (s := s1) (by rw [e]; exact hM0) 
  refine Step.mk (by first | exact ⟨(f1.at 1 rfl).trans hX.2.1, (congrFun (f1.at 0 rfl) 1).trans hX.2.2⟩ | exact ⟨hX.2.1, hX.2.2⟩ | exact ⟨by rw [hs1, us_ne (by decide)]; exact hX.2.1, by rw [hs1, us_ne (by decide)]; exact hX.2.2⟩ | exact ⟨by rw [hs1, us_ne (by decide), us_ne (by decide)]; exact hX.2.1, by rw [hs1, us_ne (by decide), us_ne (by decide)]; exact hX.2.2⟩ | exact ⟨by rw [e1, us_ne (by decide), f1.at 1 rfl]; exact hX.2.1, by rw [e1, us_ne (by decide), f1.at 0 rfl]; exact hX.2.2⟩ | exact ⟨by rw [ft.at 1 rfl, hx 1 (by decide) (by decide)]; exact hX.2.1, by rw [ft.at 0 rfl, et, newL_0, mup_ne (by decide)]; exact hX.2.2⟩) k1 k2 (by rw [hr, e]; exact v41.symm) ?_
  have hf : Fr [22, 147] s (us s1 147 41 0) := by rw [hs1]; exact (Fr.us rfl).tr (Fr.us rfl)
  have e2 : us s1 147 41 0 147 = mup (s 147) 41 0 := by rw [us_eq, e]
  refine hI0.vil rfl rfl (by omega) hf (IvD.mk e2 (MOk_set hM0 ⟨by omega, by omega, by omega, by omega, by omega, by omega, by omega, by omega, by omega, fun w hw => ⟨by omega, by omega, by omega, by omega⟩, fun p hp => ⟨by omega, by omega, by omega, by omega⟩, fun j hj => by omega, fun j hj => by omega⟩) (COk_set2 (by omega) hC) (by rw [mup_ne (by omega)]; exact hN) (hV0.clear.fr (A := [147]) rfl (by rw [hs1]; exact Fr.us rfl)) (by rw [hf.at 13 rfl, mup_ne (by decide)]; exact h8)) (hT.d (fun i hi => by rw [e2, mup_ne (by omega)]) (hf.at 148 rfl) (hf.at 149 rfl))
theorem x_told_y {d : Nat} {s : mSt} (hI : IvD s) {k : Int} (hrk : -2147483648 ≤ k ∧ k < 2147483648) (hy : 1 ≤ k ∧ k ≤ 5) : CI (d + 1) 140 [.inr (.inr 10), .inl k] (s) (fun r s1 => r = s 132 k.toNat ∧ s1 = s) := by
  refine CI.mk rfl ?_
  show WP (d + 1) 140 0 [some (.inr (.inr 10)), some (.inl k)] [] (encA (s)) _
  have hI0 := hI
  obtain ⟨⟨hM, hC, hN⟩, hV, h8⟩ := hI
  have hV0 := hV
  have hM0 := hM
  obtain ⟨vc, vpl, vga, vse, vne, veg, vre, vtu, vta, vwa, v36, v37, v39, v40, v42, v41, v43, v44, vl0, vl1, vlm⟩ := hV
  obtain ⟨hM39, hM40, hM41, hM43, hM44, hM36, hM37, hM38, hMc, hMw, hMp, hMt, hMb⟩ := hM
  refine w_ldI rfl rfl ?_
  refine w_push rfl ?_
  refine w_crLt rfl (by omega) (by omega) (fun b2 => ?_) (fun b2 => ?_)
  · first
    | (exfalso; omega)
    | (refine w_ldR rfl rfl rfl ?_
       refine w_push rfl ?_
       refine w_callWI rfl rfl rfl rfl rfl rfl rfl k_error1 (fun v8 s8 p8 => ?_)
       obtain ⟨rfl, rfl⟩ := p8
       refine w_retI rfl ?_
       exact ⟨rfl, rfl⟩)
  · first
    | (exfalso; omega)
    | (refine w_ldI rfl rfl ?_
       refine w_push rfl ?_
       refine w_crLe rfl (by omega) (by omega) (fun b5 => ?_) (fun b5 => ?_)
       · first
         | (exfalso; omega)
         | (refine w_ldR rfl rfl rfl ?_
            first | refine w_getI rfl rfl rfl rfl rfl ?_ | refine w_getR rfl rfl rfl rfl rfl ?_
            refine w_ldI rfl rfl ?_
            refine w_ald rfl rfl rfl (by omega) rfl ?_
            refine w_retI rfl ?_
            exact ⟨rfl, rfl⟩)
       · first
         | (exfalso; omega)
         | (refine w_ldR rfl rfl rfl ?_
            refine w_push rfl ?_
            refine w_callWI rfl rfl rfl rfl rfl rfl rfl k_error1 (fun v8 s8 p8 => ?_)
            obtain ⟨rfl, rfl⟩ := p8
            refine w_retI rfl ?_
            exact ⟨rfl, rfl⟩))
theorem x_told_n {d : Nat} {s : mSt} (hI : IvD s) {k : Int} (hrk : -2147483648 ≤ k ∧ k < 2147483648) (hy : ¬ (1 ≤ k ∧ k ≤ 5)) : CI (d + 1) 140 [.inr (.inr 10), .inl k] (s) (fun r s1 => r = -1000000000 - 1 ∧ s1 = us s 132 1 (s 132 1 + 1)) := by
  refine CI.mk rfl ?_
  show WP (d + 1) 140 0 [some (.inr (.inr 10)), some (.inl k)] [] (encA (s)) _
  have hI0 := hI
  obtain ⟨⟨hM, hC, hN⟩, hV, h8⟩ := hI
  have hV0 := hV
  have hM0 := hM
  obtain ⟨vc, vpl, vga, vse, vne, veg, vre, vtu, vta, vwa, v36, v37, v39, v40, v42, v41, v43, v44, vl0, vl1, vlm⟩ := hV
  obtain ⟨hM39, hM40, hM41, hM43, hM44, hM36, hM37, hM38, hMc, hMw, hMp, hMt, hMb⟩ := hM
  refine w_ldI rfl rfl ?_
  refine w_push rfl ?_
  refine w_crLt rfl (by omega) (by omega) (fun b2 => ?_) (fun b2 => ?_)
  · first
    | (exfalso; omega)
    | (refine w_ldR rfl rfl rfl ?_
       refine w_push rfl ?_
       refine w_callWI rfl rfl rfl rfl rfl rfl rfl k_error1 (fun v8 s8 p8 => ?_)
       obtain ⟨rfl, rfl⟩ := p8
       refine w_retI rfl ?_
       exact ⟨rfl, rfl⟩)
  · first
    | (exfalso; omega)
    | (refine w_ldI rfl rfl ?_
       refine w_push rfl ?_
       refine w_crLe rfl (by omega) (by omega) (fun b5 => ?_) (fun b5 => ?_)
       · first
         | (exfalso; omega)
         | (refine w_ldR rfl rfl rfl ?_
            first | refine w_getI rfl rfl rfl rfl rfl ?_ | refine w_getR rfl rfl rfl rfl rfl ?_
            refine w_ldI rfl rfl ?_
            refine w_ald rfl rfl rfl (by omega) rfl ?_
            refine w_retI rfl ?_
            exact ⟨rfl, rfl⟩)
       · first
         | (exfalso; omega)
         | (refine w_ldR rfl rfl rfl ?_
            refine w_push rfl ?_
            refine w_callWI rfl rfl rfl rfl rfl rfl rfl k_error1 (fun v8 s8 p8 => ?_)
            obtain ⟨rfl, rfl⟩ := p8
            refine w_retI rfl ?_
            exact ⟨rfl, rfl⟩))
theorem st_told {X : Nat → Int} {N : Int} {d : Nat} {s : mSt} {cnt : Int} (hI : Inv X N s cnt) {k : Int} (hrk : -2147483648 ≤ k ∧ k < 2147483648) : Step X N (d + 150) s cnt 140 265 [.inl k] := by
  have hI0 := hI
  obtain ⟨hD, -, -, -, -, hT, -, hX, hU⟩ := hI
  have hD0 := hD
  obtain ⟨⟨hM, hC, hN⟩, hV, h8⟩ := hD
  have hV0 := hV
  have hM0 := hM
  obtain ⟨vc, vpl, vga, vse, vne, veg, vre, vtu, vta, vwa, v36, v37, v39, v40, v42, v41, v43, v44, vl0, vl1, vlm⟩ := hV
  obtain ⟨hM39, hM40, hM41, hM43, hM44, hM36, hM37, hM38, hMc, hMw, hMp, hMt, hMb⟩ := hM
  by_cases hy : 1 ≤ k ∧ k ≤ 5
  · obtain ⟨r1, s1, k1, hr, rfl⟩ := x_told_y (d := d + 149) hD0 hrk hy
    have k2 := r_told_y (d := d + 149) (s := s1) hM0 hrk hy
    exact Step.mk (by first | exact ⟨(f1.at 1 rfl).trans hX.2.1, (congrFun (f1.at 0 rfl) 1).trans hX.2.2⟩ | exact ⟨hX.2.1, hX.2.2⟩ | exact ⟨by rw [hs1, us_ne (by decide)]; exact hX.2.1, by rw [hs1, us_ne (by decide)]; exact hX.2.2⟩ | exact ⟨by rw [hs1, us_ne (by decide), us_ne (by decide)]; exact hX.2.1, by rw [hs1, us_ne (by decide), us_ne (by decide)]; exact hX.2.2⟩ | exact ⟨by rw [e1, us_ne (by decide), f1.at 1 rfl]; exact hX.2.1, by rw [e1, us_ne (by decide), f1.at 0 rfl]; exact hX.2.2⟩ | exact ⟨by rw [ft.at 1 rfl, hx 1 (by decide) (by decide)]; exact hX.2.1, by rw [ft.at 0 rfl, et, newL_0, mup_ne (by decide)]; exact hX.2.2⟩) k1 k2 (by rw [hr]; exact (hI0.2.2.1 k hy.1 hy.2).symm) (hI0.scr (by omega) Fr.rf)
  · obtain ⟨r1, s1, k1, hr, hs1⟩ := x_told_n (d := d + 149) hD0 hrk hy
    have e : s1 147 = s 147 := by rw [hs1]; exact us_ne (by decide)
    have k2 := r_told_n (d := d + 149) (s := s1) (by rw [e]; exact hM0) hrk hy
    exact Step.mk (by first | exact ⟨(f1.at 1 rfl).trans hX.2.1, (congrFun (f1.at 0 rfl) 1).trans hX.2.2⟩ | exact ⟨hX.2.1, hX.2.2⟩ | exact ⟨by rw [hs1, us_ne (by decide)]; exact hX.2.1, by rw [hs1, us_ne (by decide)]; exact hX.2.2⟩ | exact ⟨by rw [hs1, us_ne (by decide), us_ne (by decide)]; exact hX.2.1, by rw [hs1, us_ne (by decide), us_ne (by decide)]; exact hX.2.2⟩ | exact ⟨by rw [e1, us_ne (by decide), f1.at 1 rfl]; exact hX.2.1, by rw [e1, us_ne (by decide), f1.at 0 rfl]; exact hX.2.2⟩ | exact ⟨by rw [ft.at 1 rfl, hx 1 (by decide) (by decide)]; exact hX.2.1, by rw [ft.at 0 rfl, et, newL_0, mup_ne (by decide)]; exact hX.2.2⟩) k1 k2 (by rw [hr]) (hI0.err2 hs1)
theorem VN13.push_tu {s : mSt} {D : Nat → Int} {v : Int} (hV : VN13 s D) (hM : MOk D) (h0 : 0 ≤ D 41 ∧ D 41 < 12) : VN13 (us (us s 23 (D 41).toNat v) 22 1 (D 41 + 1)) (mup (mup D (109 + D 41).toNat v) 41 (D 41 + 1)) := by
  obtain ⟨hM39, hM40, hM41, hM43, hM44, -⟩ := hM
  obtain ⟨vc, vpl, vga, vse, vne, veg, vre, vtu, vta, vwa, v36, v37, v39, v40, v42, v41, v43, v44, vl0, vl1, vlm⟩ := hV
  exact ⟨fun i h1 h2 => by rw [us_ne (by decide), us_ne (by decide), mup_ne (by omega), mup_ne (by omega)]; exact vc i h1 h2,
    fun i h1 h2 => by rw [us_ne (by decide), us_ne (by decide), mup_ne (by omega), mup_ne (by omega)]; exact vpl i h1 h2,
    fun i h1 h2 => by rw [us_ne (by decide), us_ne (by decide), mup_ne (by omega), mup_ne (by omega)]; exact vga i h1 h2,
    fun i h1 h2 => by rw [us_ne (by decide), us_ne (by decide), mup_ne (by omega), mup_ne (by omega)]; exact vse i h1 h2,
    fun i h1 h2 => by rw [us_ne (by decide), us_ne (by decide), mup_ne (by omega), mup_ne (by omega)]; exact vne i h1 h2,
    fun i h1 h2 => by rw [us_ne (by decide), us_ne (by decide), mup_ne (by omega), mup_ne (by omega)]; exact veg i h1 h2,
    fun i h1 h2 => by rw [us_ne (by decide), us_ne (by decide), mup_ne (by omega), mup_ne (by omega)]; exact vre i h1 h2,
    fun i h1 h2 => by rw [mup_eq] at h2; rw [us_ne (by decide), mup_ne (show (109 + i).toNat ≠ 41 by omega), us_eq]; unfold mup; by_cases e : i.toNat = (D 41).toNat; (rw [if_pos e, if_pos (by omega)]); (rw [if_neg e, if_neg (by omega)]; exact vtu i h1 (by omega)),
    fun i h1 h2 => by rw [mup_ne (by omega), mup_ne (by omega)] at h2; rw [us_ne (by decide), us_ne (by decide), mup_ne (by omega), mup_ne (by omega)]; exact vta i h1 h2,
    fun i h1 h2 => by rw [mup_ne (by omega), mup_ne (by omega)] at h2; rw [us_ne (by decide), us_ne (by decide), mup_ne (by omega), mup_ne (by omega)]; exact vwa i h1 h2,
    by rw [us_ne (by decide), us_ne (by decide), mup_ne (by omega), mup_ne (by omega)]; exact v36,
    by rw [us_ne (by decide), us_ne (by decide), mup_ne (by omega), mup_ne (by omega)]; exact v37,
    by rw [us_ne (by decide), us_ne (by decide), mup_ne (by omega), mup_ne (by omega)]; exact v39,
    by rw [us_ne (by decide), us_ne (by decide), mup_ne (by omega), mup_ne (by omega)]; exact v40,
    by rw [us_ne (by decide), us_ne (by decide), mup_ne (by omega), mup_ne (by omega)]; exact v42,
    by rw [us_eq, mup_eq, mup_eq],
    by rw [us_ne (by decide), us_ne (by decide), mup_ne (by omega), mup_ne (by omega)]; exact v43,
    by rw [us_ne (by decide), us_ne (by decide), mup_ne (by omega), mup_ne (by omega)]; exact v44,
    vl0.cg (by omega) (by rw [us_ne (by decide), us_ne (by decide)]) (by rw [us_ne (by decide), us_ne (by decide)]) (by rw [us_ne (by decide), us_ne (by decide)]) (fun j h1 h2 h3 => by rw [mup_ne (by omega), mup_ne (by omega)]),
    vl1.cg (by omega) (by rw [us_ne (by decide), us_ne (by decide)]) (by rw [us_ne (by decide), us_ne (by decide)]) (by rw [us_ne (by decide), us_ne (by decide)]) (fun j h1 h2 h3 => by rw [mup_ne (by omega), mup_ne (by omega)]),
    fun i h1 h2 => by rw [us_ne (by decide), us_ne (by decide), mup_ne (by omega), mup_ne (by omega), mup_ne (by omega), mup_ne (by omega)]; exact LampAt.fr rfl ((Fr.us (A := [23, 22]) rfl).tr (Fr.us (A := [23, 22]) rfl)) (vlm i h1 h2)⟩
theorem VN13.push_wa {s : mSt} {D : Nat → Int} {v : Int} (hV : VN13 s D) (hM : MOk D) (h0 : 0 ≤ D 44 ∧ D 44 < 20) : VN13 (us (us s 27 (D 44).toNat v) 26 1 (D 44 + 1)) (mup (mup D (123 + D 44).toNat v) 44 (D 44 + 1)) := by
  obtain ⟨hM39, hM40, hM41, hM43, hM44, -⟩ := hM
  obtain ⟨vc, vpl, vga, vse, vne, veg, vre, vtu, vta, vwa, v36, v37, v39, v40, v42, v41, v43, v44, vl0, vl1, vlm⟩ := hV
  exact ⟨fun i h1 h2 => by rw [us_ne (by decide), us_ne (by decide), mup_ne (by omega), mup_ne (by omega)]; exact vc i h1 h2,
    fun i h1 h2 => by rw [us_ne (by decide), us_ne (by decide), mup_ne (by omega), mup_ne (by omega)]; exact vpl i h1 h2,
    fun i h1 h2 => by rw [us_ne (by decide), us_ne (by decide), mup_ne (by omega), mup_ne (by omega)]; exact vga i h1 h2,
    fun i h1 h2 => by rw [us_ne (by decide), us_ne (by decide), mup_ne (by omega), mup_ne (by omega)]; exact vse i h1 h2,
    fun i h1 h2 => by rw [us_ne (by decide), us_ne (by decide), mup_ne (by omega), mup_ne (by omega)]; exact vne i h1 h2,
    fun i h1 h2 => by rw [us_ne (by decide), us_ne (by decide), mup_ne (by omega), mup_ne (by omega)]; exact veg i h1 h2,
    fun i h1 h2 => by rw [us_ne (by decide), us_ne (by decide), mup_ne (by omega), mup_ne (by omega)]; exact vre i h1 h2,
    fun i h1 h2 => by rw [mup_ne (by omega), mup_ne (by omega)] at h2; rw [us_ne (by decide), us_ne (by decide), mup_ne (by omega), mup_ne (by omega)]; exact vtu i h1 h2,
    fun i h1 h2 => by rw [mup_ne (by omega), mup_ne (by omega)] at h2; rw [us_ne (by decide), us_ne (by decide), mup_ne (by omega), mup_ne (by omega)]; exact vta i h1 h2,
    fun i h1 h2 => by rw [mup_eq] at h2; rw [us_ne (by decide), mup_ne (show (123 + i).toNat ≠ 44 by omega), us_eq]; unfold mup; by_cases e : i.toNat = (D 44).toNat; (rw [if_pos e, if_pos (by omega)]); (rw [if_neg e, if_neg (by omega)]; exact vwa i h1 (by omega)),
    by rw [us_ne (by decide), us_ne (by decide), mup_ne (by omega), mup_ne (by omega)]; exact v36,
    by rw [us_ne (by decide), us_ne (by decide), mup_ne (by omega), mup_ne (by omega)]; exact v37,
    by rw [us_ne (by decide), us_ne (by decide), mup_ne (by omega), mup_ne (by omega)]; exact v39,
    by rw [us_ne (by decide), us_ne (by decide), mup_ne (by omega), mup_ne (by omega)]; exact v40,
    by rw [us_ne (by decide), us_ne (by decide), mup_ne (by omega), mup_ne (by omega)]; exact v42,
    by rw [us_ne (by decide), us_ne (by decide), mup_ne (by omega), mup_ne (by omega)]; exact v41,
    by rw [us_ne (by decide), us_ne (by decide), mup_ne (by omega), mup_ne (by omega)]; exact v43,
    by rw [us_eq, mup_eq, mup_eq],
    vl0.cg (by omega) (by rw [us_ne (by decide), us_ne (by decide)]) (by rw [us_ne (by decide), us_ne (by decide)]) (by rw [us_ne (by decide), us_ne (by decide)]) (fun j h1 h2 h3 => by rw [mup_ne (by omega), mup_ne (by omega)]),
    vl1.cg (by omega) (by rw [us_ne (by decide), us_ne (by decide)]) (by rw [us_ne (by decide), us_ne (by decide)]) (by rw [us_ne (by decide), us_ne (by decide)]) (fun j h1 h2 h3 => by rw [mup_ne (by omega), mup_ne (by omega)]),
    fun i h1 h2 => by rw [us_ne (by decide), us_ne (by decide), mup_ne (by omega), mup_ne (by omega), mup_ne (by omega), mup_ne (by omega)]; exact LampAt.fr rfl ((Fr.us (A := [27, 26]) rfl).tr (Fr.us (A := [27, 26]) rfl)) (vlm i h1 h2)⟩
theorem VN13.push_ta {s : mSt} {D : Nat → Int} {v : Int} (hV : VN13 s D) (hM : MOk D) (h0 : 0 ≤ D 43 ∧ D 43 < 50) : VN13 (us (us s 25 (D 43).toNat v) 24 1 (D 43 + 1)) (mup (mup D (243 + D 43).toNat v) 43 (D 43 + 1)) := by
  obtain ⟨hM39, hM40, hM41, hM43, hM44, -⟩ := hM
  obtain ⟨vc, vpl, vga, vse, vne, veg, vre, vtu, vta, vwa, v36, v37, v39, v40, v42, v41, v43, v44, vl0, vl1, vlm⟩ := hV
  exact ⟨fun i h1 h2 => by rw [us_ne (by decide), us_ne (by decide), mup_ne (by omega), mup_ne (by omega)]; exact vc i h1 h2,
    fun i h1 h2 => by rw [us_ne (by decide), us_ne (by decide), mup_ne (by omega), mup_ne (by omega)]; exact vpl i h1 h2,
    fun i h1 h2 => by rw [us_ne (by decide), us_ne (by decide), mup_ne (by omega), mup_ne (by omega)]; exact vga i h1 h2,
    fun i h1 h2 => by rw [us_ne (by decide), us_ne (by decide), mup_ne (by omega), mup_ne (by omega)]; exact vse i h1 h2,
    fun i h1 h2 => by rw [us_ne (by decide), us_ne (by decide), mup_ne (by omega), mup_ne (by omega)]; exact vne i h1 h2,
    fun i h1 h2 => by rw [us_ne (by decide), us_ne (by decide), mup_ne (by omega), mup_ne (by omega)]; exact veg i h1 h2,
    fun i h1 h2 => by rw [us_ne (by decide), us_ne (by decide), mup_ne (by omega), mup_ne (by omega)]; exact vre i h1 h2,
    fun i h1 h2 => by rw [mup_ne (by omega), mup_ne (by omega)] at h2; rw [us_ne (by decide), us_ne (by decide), mup_ne (by omega), mup_ne (by omega)]; exact vtu i h1 h2,
    fun i h1 h2 => by rw [mup_eq] at h2; rw [us_ne (by decide), mup_ne (show (243 + i).toNat ≠ 43 by omega), us_eq]; unfold mup; by_cases e : i.toNat = (D 43).toNat; (rw [if_pos e, if_pos (by omega)]); (rw [if_neg e, if_neg (by omega)]; exact vta i h1 (by omega)),
    fun i h1 h2 => by rw [mup_ne (by omega), mup_ne (by omega)] at h2; rw [us_ne (by decide), us_ne (by decide), mup_ne (by omega), mup_ne (by omega)]; exact vwa i h1 h2,
    by rw [us_ne (by decide), us_ne (by decide), mup_ne (by omega), mup_ne (by omega)]; exact v36,
    by rw [us_ne (by decide), us_ne (by decide), mup_ne (by omega), mup_ne (by omega)]; exact v37,
    by rw [us_ne (by decide), us_ne (by decide), mup_ne (by omega), mup_ne (by omega)]; exact v39,
    by rw [us_ne (by decide), us_ne (by decide), mup_ne (by omega), mup_ne (by omega)]; exact v40,
    by rw [us_ne (by decide), us_ne (by decide), mup_ne (by omega), mup_ne (by omega)]; exact v42,
    by rw [us_ne (by decide), us_ne (by decide), mup_ne (by omega), mup_ne (by omega)]; exact v41,
    by rw [us_eq, mup_eq, mup_eq],
    by rw [us_ne (by decide), us_ne (by decide), mup_ne (by omega), mup_ne (by omega)]; exact v44,
    vl0.cg (by omega) (by rw [us_ne (by decide), us_ne (by decide)]) (by rw [us_ne (by decide), us_ne (by decide)]) (by rw [us_ne (by decide), us_ne (by decide)]) (fun j h1 h2 h3 => by rw [mup_ne (by omega), mup_ne (by omega)]),
    vl1.cg (by omega) (by rw [us_ne (by decide), us_ne (by decide)]) (by rw [us_ne (by decide), us_ne (by decide)]) (by rw [us_ne (by decide), us_ne (by decide)]) (fun j h1 h2 h3 => by rw [mup_ne (by omega), mup_ne (by omega)]),
    fun i h1 h2 => by rw [us_ne (by decide), us_ne (by decide), mup_ne (by omega), mup_ne (by omega), mup_ne (by omega), mup_ne (by omega)]; exact LampAt.fr rfl ((Fr.us (A := [25, 24]) rfl).tr (Fr.us (A := [25, 24]) rfl)) (vlm i h1 h2)⟩
theorem x_turn_y {d : Nat} {s : mSt} (hI : IvD s) {w : Int} (hrw : -2147483648 ≤ w ∧ w < 2147483648) (hy : 0 ≤ w ∧ w ≤ s 147 39 - 1) (h6 : ¬ s 147 41 = 12) : CI (d + 1) 112 [.inr (.inr 10), .inl w] (s) (fun r s1 => r = s 147 41 + 1 ∧ s1 = us (us s 23 (s 147 41).toNat w) 22 1 (s 147 41 + 1)) := by
  refine CI.mk rfl ?_
  show WP (d + 1) 112 0 [some (.inr (.inr 10)), some (.inl w)] [] (encA (s)) _
  have hI0 := hI
  obtain ⟨⟨hM, hC, hN⟩, hV, h8⟩ := hI
  have hV0 := hV
  have hM0 := hM
  obtain ⟨vc, vpl, vga, vse, vne, veg, vre, vtu, vta, vwa, v36, v37, v39, v40, v42, v41, v43, v44, vl0, vl1, vlm⟩ := hV
  obtain ⟨hM39, hM40, hM41, hM43, hM44, hM36, hM37, hM38, hMc, hMw, hMp, hMt, hMb⟩ := hM
  refine w_ldR rfl rfl rfl ?_
  refine w_ldI rfl rfl ?_
  refine w_callV rfl rfl rfl rfl rfl rfl rfl (k_isWindow (by omega) (by omega)) ?_
  refine w_bNe0 rfl (fun b3 => ?_) (fun b3 => ?_)
  · first
    | (exfalso; omega)
    | (refine w_ldR rfl rfl rfl ?_
       first | refine w_getI rfl rfl rfl rfl rfl ?_ | refine w_getR rfl rfl rfl rfl rfl ?_
       first | refine w_getI rfl rfl rfl rfl rfl ?_ | refine w_getR rfl rfl rfl rfl rfl ?_
       refine w_ldI rfl rfl ?_
       refine w_callWI rfl rfl rfl rfl rfl rfl rfl (k_add22 (by omega)) (fun v12 s12 p12 => ?_)
       obtain ⟨rfl, rfl⟩ := p12
       rw [if_pos (by omega), v41]
       refine w_bNe0 rfl (fun b13 => ?_) (fun b13 => ?_)
       · first
         | (exfalso; omega)
         | (refine w_ldR rfl rfl rfl ?_
            first | refine w_getI rfl rfl rfl rfl rfl ?_ | refine w_getR rfl rfl rfl rfl rfl ?_
            first | refine w_getI rfl rfl rfl rfl rfl ?_ | refine w_getR rfl rfl rfl rfl rfl ?_
            first | refine w_getI rfl rfl rfl rfl rfl ?_ | refine w_getR rfl rfl rfl rfl rfl ?_
            refine w_retI rfl ?_
            exact ⟨by rw [us_eq, mup_eq], rfl⟩)
       · first
         | (exfalso; omega)
         | (refine w_ldR rfl rfl rfl ?_
            refine w_push rfl ?_
            refine w_callWI rfl rfl rfl rfl rfl rfl rfl k_error1 (fun v16 s16 p16 => ?_)
            obtain ⟨rfl, rfl⟩ := p16
            refine w_retI rfl ?_
            exact ⟨by rw [us_eq, mup_eq], rfl⟩))
  · first
    | (exfalso; omega)
    | (refine w_ldR rfl rfl rfl ?_
       refine w_push rfl ?_
       refine w_callWI rfl rfl rfl rfl rfl rfl rfl k_error1 (fun v6 s6 p6 => ?_)
       obtain ⟨rfl, rfl⟩ := p6
       refine w_retI rfl ?_
       exact ⟨by rw [us_eq, mup_eq], rfl⟩)
theorem x_turn_n {d : Nat} {s : mSt} (hI : IvD s) {w : Int} (hrw : -2147483648 ≤ w ∧ w < 2147483648) (hy : ¬ (0 ≤ w ∧ w ≤ s 147 39 - 1)) : CI (d + 1) 112 [.inr (.inr 10), .inl w] (s) (fun r s1 => r = -1000000000 - 1 ∧ s1 = us s 132 1 (s 132 1 + 1)) := by
  refine CI.mk rfl ?_
  show WP (d + 1) 112 0 [some (.inr (.inr 10)), some (.inl w)] [] (encA (s)) _
  have hI0 := hI
  obtain ⟨⟨hM, hC, hN⟩, hV, h8⟩ := hI
  have hV0 := hV
  have hM0 := hM
  obtain ⟨vc, vpl, vga, vse, vne, veg, vre, vtu, vta, vwa, v36, v37, v39, v40, v42, v41, v43, v44, vl0, vl1, vlm⟩ := hV
  obtain ⟨hM39, hM40, hM41, hM43, hM44, hM36, hM37, hM38, hMc, hMw, hMp, hMt, hMb⟩ := hM
  refine w_ldR rfl rfl rfl ?_
  refine w_ldI rfl rfl ?_
  refine w_callV rfl rfl rfl rfl rfl rfl rfl (k_isWindow (by omega) (by omega)) ?_
  refine w_bNe0 rfl (fun b3 => ?_) (fun b3 => ?_)
  · first
    | (exfalso; omega)
    | (refine w_ldR rfl rfl rfl ?_
       first | refine w_getI rfl rfl rfl rfl rfl ?_ | refine w_getR rfl rfl rfl rfl rfl ?_
       first | refine w_getI rfl rfl rfl rfl rfl ?_ | refine w_getR rfl rfl rfl rfl rfl ?_
       refine w_ldI rfl rfl ?_
       refine w_callWI rfl rfl rfl rfl rfl rfl rfl (k_add22 (by omega)) (fun v12 s12 p12 => ?_)
       obtain ⟨rfl, rfl⟩ := p12
       refine w_bNe0 rfl (fun b13 => ?_) (fun b13 => ?_)
       · first
         | (exfalso; omega)
         | (refine w_ldR rfl rfl rfl ?_
            first | refine w_getI rfl rfl rfl rfl rfl ?_ | refine w_getR rfl rfl rfl rfl rfl ?_
            first | refine w_getI rfl rfl rfl rfl rfl ?_ | refine w_getR rfl rfl rfl rfl rfl ?_
            first | refine w_getI rfl rfl rfl rfl rfl ?_ | refine w_getR rfl rfl rfl rfl rfl ?_
            refine w_retI rfl ?_
            exact ⟨rfl, rfl⟩)
       · first
         | (exfalso; omega)
         | (refine w_ldR rfl rfl rfl ?_
            refine w_push rfl ?_
            refine w_callWI rfl rfl rfl rfl rfl rfl rfl k_error1 (fun v16 s16 p16 => ?_)
            obtain ⟨rfl, rfl⟩ := p16
            refine w_retI rfl ?_
            exact ⟨rfl, rfl⟩))
  · first
    | (exfalso; omega)
    | (refine w_ldR rfl rfl rfl ?_
       refine w_push rfl ?_
       refine w_callWI rfl rfl rfl rfl rfl rfl rfl k_error1 (fun v6 s6 p6 => ?_)
       obtain ⟨rfl, rfl⟩ := p6
       refine w_retI rfl ?_
       exact ⟨rfl, rfl⟩)
theorem x_turn_f {d : Nat} {s : mSt} (hI : IvD s) {w : Int} (hrw : -2147483648 ≤ w ∧ w < 2147483648) (hy : 0 ≤ w ∧ w ≤ s 147 39 - 1) (h6 : s 147 41 = 12) : CI (d + 1) 112 [.inr (.inr 10), .inl w] (s) (fun r s1 => r = -1000000000 - 4 ∧ s1 = us s 132 4 (s 132 4 + 1)) := by
  refine CI.mk rfl ?_
  show WP (d + 1) 112 0 [some (.inr (.inr 10)), some (.inl w)] [] (encA (s)) _
  have hI0 := hI
  obtain ⟨⟨hM, hC, hN⟩, hV, h8⟩ := hI
  have hV0 := hV
  have hM0 := hM
  obtain ⟨vc, vpl, vga, vse, vne, veg, vre, vtu, vta, vwa, v36, v37, v39, v40, v42, v41, v43, v44, vl0, vl1, vlm⟩ := hV
  obtain ⟨hM39, hM40, hM41, hM43, hM44, hM36, hM37, hM38, hMc, hMw, hMp, hMt, hMb⟩ := hM
  refine w_ldR rfl rfl rfl ?_
  refine w_ldI rfl rfl ?_
  refine w_callV rfl rfl rfl rfl rfl rfl rfl (k_isWindow (by omega) (by omega)) ?_
  refine w_bNe0 rfl (fun b3 => ?_) (fun b3 => ?_)
  · first
    | (exfalso; omega)
    | (refine w_ldR rfl rfl rfl ?_
       first | refine w_getI rfl rfl rfl rfl rfl ?_ | refine w_getR rfl rfl rfl rfl rfl ?_
       first | refine w_getI rfl rfl rfl rfl rfl ?_ | refine w_getR rfl rfl rfl rfl rfl ?_
       refine w_ldI rfl rfl ?_
       refine w_callWI rfl rfl rfl rfl rfl rfl rfl (k_add22 (by omega)) (fun v12 s12 p12 => ?_)
       obtain ⟨rfl, rfl⟩ := p12
       rw [if_neg (by omega)]
       refine w_bNe0 rfl (fun b13 => ?_) (fun b13 => ?_)
       · first
         | (exfalso; omega)
         | (refine w_ldR rfl rfl rfl ?_
            first | refine w_getI rfl rfl rfl rfl rfl ?_ | refine w_getR rfl rfl rfl rfl rfl ?_
            first | refine w_getI rfl rfl rfl rfl rfl ?_ | refine w_getR rfl rfl rfl rfl rfl ?_
            first | refine w_getI rfl rfl rfl rfl rfl ?_ | refine w_getR rfl rfl rfl rfl rfl ?_
            refine w_retI rfl ?_
            exact ⟨rfl, rfl⟩)
       · first
         | (exfalso; omega)
         | (refine w_ldR rfl rfl rfl ?_
            refine w_push rfl ?_
            refine w_callWI rfl rfl rfl rfl rfl rfl rfl k_error4 (fun v16 s16 p16 => ?_)
            obtain ⟨rfl, rfl⟩ := p16
            refine w_retI rfl ?_
            exact ⟨rfl, rfl⟩))
  · first
    | (exfalso; omega)
    | (refine w_ldR rfl rfl rfl ?_
       refine w_push rfl ?_
       refine w_callWI rfl rfl rfl rfl rfl rfl rfl k_error4 (fun v6 s6 p6 => ?_)
       obtain ⟨rfl, rfl⟩ := p6
       refine w_retI rfl ?_
       exact ⟨rfl, rfl⟩)
theorem st_turn {X : Nat → Int} {N : Int} {d : Nat} {s : mSt} {cnt : Int} (hI : Inv X N s cnt) {w : Int} (hrw : -2147483648 ≤ w ∧ w < 2147483648) : Step X N (d + 150) s cnt 112 218 [.inl w] := by
  have hI0 := hI
  obtain ⟨hD, -, -, -, -, hT, -, hX, hU⟩ := hI
  have hD0 := hD
  obtain ⟨⟨hM, hC, hN⟩, hV, h8⟩ := hD
  have hV0 := hV
  have hM0 := hM
  obtain ⟨vc, vpl, vga, vse, vne, veg, vre, vtu, vta, vwa, v36, v37, v39, v40, v42, v41, v43, v44, vl0, vl1, vlm⟩ := hV
  obtain ⟨hM39, hM40, hM41, hM43, hM44, hM36, hM37, hM38, hMc, hMw, hMp, hMt, hMb⟩ := hM
  by_cases hy : 0 ≤ w ∧ w ≤ s 147 39 - 1
  · by_cases h6 : s 147 41 = 12
    · obtain ⟨r1, s1, k1, hr, hs1⟩ := x_turn_f (d := d + 149) hD0 hrw hy h6
      have e : s1 147 = s 147 := by rw [hs1]; exact us_ne (by decide)
      have k2 := r_turn_f (d := d + 148) (s := s1) (by rw [e]; exact hM0) hrw (by rw [e]; exact hy) (by rw [e]; exact h6)
      exact Step.mk (by first | exact ⟨(f1.at 1 rfl).trans hX.2.1, (congrFun (f1.at 0 rfl) 1).trans hX.2.2⟩ | exact ⟨hX.2.1, hX.2.2⟩ | exact ⟨by rw [hs1, us_ne (by decide)]; exact hX.2.1, by rw [hs1, us_ne (by decide)]; exact hX.2.2⟩ | exact ⟨by rw [hs1, us_ne (by decide), us_ne (by decide)]; exact hX.2.1, by rw [hs1, us_ne (by decide), us_ne (by decide)]; exact hX.2.2⟩ | exact ⟨by rw [e1, us_ne (by decide), f1.at 1 rfl]; exact hX.2.1, by rw [e1, us_ne (by decide), f1.at 0 rfl]; exact hX.2.2⟩ | exact ⟨by rw [ft.at 1 rfl, hx 1 (by decide) (by decide)]; exact hX.2.1, by rw [ft.at 0 rfl, et, newL_0, mup_ne (by decide)]; exact hX.2.2⟩) k1 k2 (by rw [hr]) (hI0.err2 hs1)
    · obtain ⟨r1, s1, k1, hr, hs1⟩ := x_turn_y (d := d + 149) hD0 hrw hy h6
      have e : s1 147 = s 147 := by rw [hs1, us_ne (by decide), us_ne (by decide)]
      have k2 := r_turn_y (d := d + 148) (s := s1) (by rw [e]; exact hM0) hrw (by rw [e]; exact hy) (by rw [e]; exact h6)
      rw [e] at k2
      refine Step.mk (by first | exact ⟨(f1.at 1 rfl).trans hX.2.1, (congrFun (f1.at 0 rfl) 1).trans hX.2.2⟩ | exact ⟨hX.2.1, hX.2.2⟩ | exact ⟨by rw [hs1, us_ne (by decide)]; exact hX.2.1, by rw [hs1, us_ne (by decide)]; exact hX.2.2⟩ | exact ⟨by rw [hs1, us_ne (by decide), us_ne (by decide)]; exact hX.2.1, by rw [hs1, us_ne (by decide), us_ne (by decide)]; exact hX.2.2⟩ | exact ⟨by rw [e1, us_ne (by decide), f1.at 1 rfl]; exact hX.2.1, by rw [e1, us_ne (by decide), f1.at 0 rfl]; exact hX.2.2⟩ | exact ⟨by rw [ft.at 1 rfl, hx 1 (by decide) (by decide)]; exact hX.2.1, by rw [ft.at 0 rfl, et, newL_0, mup_ne (by decide)]; exact hX.2.2⟩) k1 k2 (by rw [hr]) ?_
      generalize hs2 : ua s1 147 _ = s2
      have hf : Fr [22, 23, 147] s s2 := by rw [← hs2, hs1]; exact ((Fr.us rfl).tr (Fr.us rfl)).tr (Fr.ua rfl)
      have e2 : s2 147 = mup (mup (s 147) (109 + s 147 41).toNat w) 41 (s 147 41 + 1) := by rw [← hs2, ua_eq]
      refine hI0.vil rfl rfl (by omega) hf (IvD.mk e2 (MOk_set (MOk_set hM0 ⟨by omega, by omega, by omega, by omega, by omega, by omega, by omega, by omega, by omega, fun w hw => ⟨by omega, by omega, by omega, by omega⟩, fun p hp => ⟨by omega, by omega, by omega, by omega⟩, fun j hj => by omega, fun j hj => by omega⟩) ⟨by omega, by omega, by omega, by omega, by omega, by omega, by omega, by omega, by omega, fun w hw => ⟨by omega, by omega, by omega, by omega⟩, fun p hp => ⟨by omega, by omega, by omega, by omega⟩, fun j hj => by omega, fun j hj => by omega⟩) (COk_set2 (by omega) (COk_set2 (by omega) hC)) (by rw [mup_ne (by omega), mup_ne (by omega)]; exact hN) ((hV0.push_tu hM0 (by omega)).fr (A := [147]) rfl (by rw [← hs2, hs1]; exact Fr.ua rfl)) (by rw [hf.at 13 rfl, mup_ne (by omega), mup_ne (by omega)]; exact h8)) (hT.d (fun i hi => by rw [e2, mup_ne (by omega), mup_ne (by omega)]) (hf.at 148 rfl) (hf.at 149 rfl))
  · obtain ⟨r1, s1, k1, hr, hs1⟩ := x_turn_n (d := d + 149) hD0 hrw hy
    have e : s1 147 = s 147 := by rw [hs1]; exact us_ne (by decide)
    have k2 := r_turn_n (d := d + 148) (s := s1) (by rw [e]; exact hM0) hrw (by rw [e]; exact hy)
    exact Step.mk (by first | exact ⟨(f1.at 1 rfl).trans hX.2.1, (congrFun (f1.at 0 rfl) 1).trans hX.2.2⟩ | exact ⟨hX.2.1, hX.2.2⟩ | exact ⟨by rw [hs1, us_ne (by decide)]; exact hX.2.1, by rw [hs1, us_ne (by decide)]; exact hX.2.2⟩ | exact ⟨by rw [hs1, us_ne (by decide), us_ne (by decide)]; exact hX.2.1, by rw [hs1, us_ne (by decide), us_ne (by decide)]; exact hX.2.2⟩ | exact ⟨by rw [e1, us_ne (by decide), f1.at 1 rfl]; exact hX.2.1, by rw [e1, us_ne (by decide), f1.at 0 rfl]; exact hX.2.2⟩ | exact ⟨by rw [ft.at 1 rfl, hx 1 (by decide) (by decide)]; exact hX.2.1, by rw [ft.at 0 rfl, et, newL_0, mup_ne (by decide)]; exact hX.2.2⟩) k1 k2 (by rw [hr]) (hI0.err2 hs1)
theorem x_tell_y {d : Nat} {s : mSt} (hI : IvD s) {v : Int} (h6 : ¬ s 147 44 = 20) : CI (d + 1) 137 [.inr (.inr 10), .inl v] (s) (fun r s1 => r = s 147 44 + 1 ∧ s1 = us (us s 27 (s 147 44).toNat v) 26 1 (s 147 44 + 1)) := by
  refine CI.mk rfl ?_
  show WP (d + 1) 137 0 [some (.inr (.inr 10)), some (.inl v)] [] (encA (s)) _
  have hI0 := hI
  obtain ⟨⟨hM, hC, hN⟩, hV, h8⟩ := hI
  have hV0 := hV
  have hM0 := hM
  obtain ⟨vc, vpl, vga, vse, vne, veg, vre, vtu, vta, vwa, v36, v37, v39, v40, v42, v41, v43, v44, vl0, vl1, vlm⟩ := hV
  obtain ⟨hM39, hM40, hM41, hM43, hM44, hM36, hM37, hM38, hMc, hMw, hMp, hMt, hMb⟩ := hM
  refine w_ldR rfl rfl rfl ?_
  first | refine w_getI rfl rfl rfl rfl rfl ?_ | refine w_getR rfl rfl rfl rfl rfl ?_
  first | refine w_getI rfl rfl rfl rfl rfl ?_ | refine w_getR rfl rfl rfl rfl rfl ?_
  refine w_ldI rfl rfl ?_
  refine w_callWI rfl rfl rfl rfl rfl rfl rfl (k_add26 (by omega)) (fun v4 s4 p4 => ?_)
  obtain ⟨rfl, rfl⟩ := p4
  rw [if_pos (by omega), v44]
  refine w_bNe0 rfl (fun b5 => ?_) (fun b5 => ?_)
  · first
    | (exfalso; omega)
    | (refine w_ldR rfl rfl rfl ?_
       first | refine w_getI rfl rfl rfl rfl rfl ?_ | refine w_getR rfl rfl rfl rfl rfl ?_
       first | refine w_getI rfl rfl rfl rfl rfl ?_ | refine w_getR rfl rfl rfl rfl rfl ?_
       first | refine w_getI rfl rfl rfl rfl rfl ?_ | refine w_getR rfl rfl rfl rfl rfl ?_
       refine w_retI rfl ?_
       exact ⟨by rw [us_eq, mup_eq], rfl⟩)
  · first
    | (exfalso; omega)
    | (refine w_ldR rfl rfl rfl ?_
       refine w_push rfl ?_
       refine w_callWI rfl rfl rfl rfl rfl rfl rfl k_error1 (fun v8 s8 p8 => ?_)
       obtain ⟨rfl, rfl⟩ := p8
       refine w_retI rfl ?_
       exact ⟨by rw [us_eq, mup_eq], rfl⟩)
theorem x_tell_n {d : Nat} {s : mSt} (hI : IvD s) {v : Int} (h6 : s 147 44 = 20) : CI (d + 1) 137 [.inr (.inr 10), .inl v] (s) (fun r s1 => r = -1000000000 - 4 ∧ s1 = us s 132 4 (s 132 4 + 1)) := by
  refine CI.mk rfl ?_
  show WP (d + 1) 137 0 [some (.inr (.inr 10)), some (.inl v)] [] (encA (s)) _
  have hI0 := hI
  obtain ⟨⟨hM, hC, hN⟩, hV, h8⟩ := hI
  have hV0 := hV
  have hM0 := hM
  obtain ⟨vc, vpl, vga, vse, vne, veg, vre, vtu, vta, vwa, v36, v37, v39, v40, v42, v41, v43, v44, vl0, vl1, vlm⟩ := hV
  obtain ⟨hM39, hM40, hM41, hM43, hM44, hM36, hM37, hM38, hMc, hMw, hMp, hMt, hMb⟩ := hM
  refine w_ldR rfl rfl rfl ?_
  first | refine w_getI rfl rfl rfl rfl rfl ?_ | refine w_getR rfl rfl rfl rfl rfl ?_
  first | refine w_getI rfl rfl rfl rfl rfl ?_ | refine w_getR rfl rfl rfl rfl rfl ?_
  refine w_ldI rfl rfl ?_
  refine w_callWI rfl rfl rfl rfl rfl rfl rfl (k_add26 (by omega)) (fun v4 s4 p4 => ?_)
  obtain ⟨rfl, rfl⟩ := p4
  rw [if_neg (by omega)]
  refine w_bNe0 rfl (fun b5 => ?_) (fun b5 => ?_)
  · first
    | (exfalso; omega)
    | (refine w_ldR rfl rfl rfl ?_
       first | refine w_getI rfl rfl rfl rfl rfl ?_ | refine w_getR rfl rfl rfl rfl rfl ?_
       first | refine w_getI rfl rfl rfl rfl rfl ?_ | refine w_getR rfl rfl rfl rfl rfl ?_
       first | refine w_getI rfl rfl rfl rfl rfl ?_ | refine w_getR rfl rfl rfl rfl rfl ?_
       refine w_retI rfl ?_
       exact ⟨rfl, rfl⟩)
  · first
    | (exfalso; omega)
    | (refine w_ldR rfl rfl rfl ?_
       refine w_push rfl ?_
       refine w_callWI rfl rfl rfl rfl rfl rfl rfl k_error4 (fun v8 s8 p8 => ?_)
       obtain ⟨rfl, rfl⟩ := p8
       refine w_retI rfl ?_
       exact ⟨rfl, rfl⟩)
theorem st_tell {X : Nat → Int} {N : Int} {d : Nat} {s : mSt} {cnt : Int} (hI : Inv X N s cnt) {v : Int} : Step X N (d + 150) s cnt 137 261 [.inl v] := by
  have hI0 := hI
  obtain ⟨hD, -, -, -, -, hT, -, hX, hU⟩ := hI
  have hD0 := hD
  obtain ⟨⟨hM, hC, hN⟩, hV, h8⟩ := hD
  have hV0 := hV
  have hM0 := hM
  obtain ⟨vc, vpl, vga, vse, vne, veg, vre, vtu, vta, vwa, v36, v37, v39, v40, v42, v41, v43, v44, vl0, vl1, vlm⟩ := hV
  obtain ⟨hM39, hM40, hM41, hM43, hM44, hM36, hM37, hM38, hMc, hMw, hMp, hMt, hMb⟩ := hM
  by_cases h6 : s 147 44 = 20
  · obtain ⟨r1, s1, k1, hr, hs1⟩ := x_tell_n (d := d + 149) hD0 (v := v) h6
    have e : s1 147 = s 147 := by rw [hs1]; exact us_ne (by decide)
    have k2 := r_tell_n (d := d + 149) (s := s1) (by rw [e]; exact hM0) (v := v) (by rw [e]; exact h6)
    exact Step.mk (by first | exact ⟨(f1.at 1 rfl).trans hX.2.1, (congrFun (f1.at 0 rfl) 1).trans hX.2.2⟩ | exact ⟨hX.2.1, hX.2.2⟩ | exact ⟨by rw [hs1, us_ne (by decide)]; exact hX.2.1, by rw [hs1, us_ne (by decide)]; exact hX.2.2⟩ | exact ⟨by rw [hs1, us_ne (by decide), us_ne (by decide)]; exact hX.2.1, by rw [hs1, us_ne (by decide), us_ne (by decide)]; exact hX.2.2⟩ | exact ⟨by rw [e1, us_ne (by decide), f1.at 1 rfl]; exact hX.2.1, by rw [e1, us_ne (by decide), f1.at 0 rfl]; exact hX.2.2⟩ | exact ⟨by rw [ft.at 1 rfl, hx 1 (by decide) (by decide)]; exact hX.2.1, by rw [ft.at 0 rfl, et, newL_0, mup_ne (by decide)]; exact hX.2.2⟩) k1 k2 (by rw [hr]) (hI0.err2 hs1)
  · obtain ⟨r1, s1, k1, hr, hs1⟩ := x_tell_y (d := d + 149) hD0 (v := v) h6
    have e : s1 147 = s 147 := by rw [hs1, us_ne (by decide), us_ne (by decide)]
    have k2 := r_tell_y (d := d + 149) (s := s1) (by rw [e]; exact hM0) (v := v) (by rw [e]; exact h6)
    rw [e] at k2
    refine Step.mk (by first | exact ⟨(f1.at 1 rfl).trans hX.2.1, (congrFun (f1.at 0 rfl) 1).trans hX.2.2⟩ | exact ⟨hX.2.1, hX.2.2⟩ | exact ⟨by rw [hs1, us_ne (by decide)]; exact hX.2.1, by rw [hs1, us_ne (by decide)]; exact hX.2.2⟩ | exact ⟨by rw [hs1, us_ne (by decide), us_ne (by decide)]; exact hX.2.1, by rw [hs1, us_ne (by decide), us_ne (by decide)]; exact hX.2.2⟩ | exact ⟨by rw [e1, us_ne (by decide), f1.at 1 rfl]; exact hX.2.1, by rw [e1, us_ne (by decide), f1.at 0 rfl]; exact hX.2.2⟩ | exact ⟨by rw [ft.at 1 rfl, hx 1 (by decide) (by decide)]; exact hX.2.1, by rw [ft.at 0 rfl, et, newL_0, mup_ne (by decide)]; exact hX.2.2⟩) k1 k2 (by rw [hr]) ?_
    generalize hs2 : ua s1 147 _ = s2
    have hf : Fr [26, 27, 147] s s2 := by rw [← hs2, hs1]; exact ((Fr.us rfl).tr (Fr.us rfl)).tr (Fr.ua rfl)
    have e2 : s2 147 = mup (mup (s 147) (123 + s 147 44).toNat v) 44 (s 147 44 + 1) := by rw [← hs2, ua_eq]
    refine hI0.vil rfl rfl (by omega) hf (IvD.mk e2 (MOk_set (MOk_set hM0 ⟨by omega, by omega, by omega, by omega, by omega, by omega, by omega, by omega, by omega, fun w hw => ⟨by omega, by omega, by omega, by omega⟩, fun p hp => ⟨by omega, by omega, by omega, by omega⟩, fun j hj => by omega, fun j hj => by omega⟩) ⟨by omega, by omega, by omega, by omega, by omega, by omega, by omega, by omega, by omega, fun w hw => ⟨by omega, by omega, by omega, by omega⟩, fun p hp => ⟨by omega, by omega, by omega, by omega⟩, fun j hj => by omega, fun j hj => by omega⟩) (COk_set2 (by omega) (COk_set2 (by omega) hC)) (by rw [mup_ne (by omega), mup_ne (by omega)]; exact hN) ((hV0.push_wa hM0 (by omega)).fr (A := [147]) rfl (by rw [← hs2, hs1]; exact Fr.ua rfl)) (by rw [hf.at 13 rfl, mup_ne (by omega), mup_ne (by omega)]; exact h8)) (hT.d (fun i hi => by rw [e2, mup_ne (by omega), mup_ne (by omega)]) (hf.at 148 rfl) (hf.at 149 rfl))
