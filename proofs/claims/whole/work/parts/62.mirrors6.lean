/-! ===== mirrors: the step ===== -/
theorem z_mmir {d : Nat} {s : mSt} {P : Int → mSt → Prop} {n w c x q : Int} (hn : -1 ≤ n ∧ n ≤ 2) (hq : 0 ≤ q ∧ q ≤ 4) (hP1 : 0 ≤ n → q ≤ 2 * n → P (if q = 0 then n else s 158 (q - 1).toNat) s) (hP2 : (n < 0 ∨ 2 * n < q) → P (-1000000000 - 2) (us s 150 2 (s 150 2 + 1))) : WP (d + 9) 242 49 [some (.inr (.inr 146)), some (.inl w), some (.inl c), some (.inl x), some (.inl q), some (.inl n)] [] (encA (s)) (QI P) := by
  refine w_ldI rfl rfl ?_
  refine w_irLt0 rfl (by omega) (fun b50 => ?_) (fun b50 => ?_)
  · first
    | (exfalso; omega)
    | (refine w_ldR rfl rfl rfl ?_
       refine w_push rfl ?_
       refine w_callV rfl rfl rfl rfl rfl rfl rfl r_finds2 ?_
       refine w_retI rfl ?_
       exact hP2 (by omega))
  · first
    | (exfalso; omega)
    | (refine w_ldI rfl rfl ?_
       refine w_push rfl ?_
       refine w_ldI rfl rfl ?_
       refine w_mul rfl ?_
       refine w_crLe rfl (by omega) (by omega) (fun b55 => ?_) (fun b55 => ?_)
       · first
         | (exfalso; omega)
         | (refine w_ldI rfl rfl ?_
            refine w_irNe0 rfl (by omega) (fun b61 => ?_) (fun b61 => ?_)
            · first
              | (exfalso; omega)
              | (refine w_ldR rfl rfl rfl ?_
                 first | refine w_getI rfl rfl rfl rfl rfl ?_ | refine w_getR rfl rfl rfl rfl rfl ?_
                 refine w_ldI rfl rfl ?_
                 refine w_push rfl ?_
                 refine w_sub rfl ?_
                 refine w_ald rfl rfl rfl (by omega) rfl ?_
                 refine w_retI rfl ?_
                 first
                 | (have h := hP1 (by omega) (by omega)
                    rw [if_pos (by omega)] at h
                    exact h)
                 | (have h := hP1 (by omega) (by omega)
                    rw [if_neg (by omega)] at h
                    exact h))
            · first
              | (exfalso; omega)
              | (refine w_ldI rfl rfl ?_
                 refine w_go rfl ?_
                 refine w_retI rfl ?_
                 first
                 | (have h := hP1 (by omega) (by omega)
                    rw [if_pos (by omega)] at h
                    exact h)
                 | (have h := hP1 (by omega) (by omega)
                    rw [if_neg (by omega)] at h
                    exact h)))
       · first
         | (exfalso; omega)
         | (refine w_ldR rfl rfl rfl ?_
            refine w_push rfl ?_
            refine w_callV rfl rfl rfl rfl rfl rfl rfl r_finds2 ?_
            refine w_retI rfl ?_
            exact hP2 (by omega)))
theorem m_mirrors_y {d : Nat} {s : mSt} {D : Nat → Int} (hD : s 147 = D) (hM : MOk D) (hC : COk D) {w c x q : Int} (hrw : -2147483648 ≤ w ∧ w < 2147483648) (hrc : -2147483648 ≤ c ∧ c < 2147483648) (hrx : -2147483648 ≤ x ∧ x < 2147483648) (hrq : -2147483648 ≤ q ∧ q < 2147483648) (hy : (0 ≤ w ∧ w ≤ D 39 - 1) ∧ (0 ≤ c ∧ c ≤ 35) ∧ (1 ≤ x ∧ x ≤ 99) ∧ 0 ≤ q ∧ q ≤ 4) : CI (d + 9) 242 [.inr (.inr 146), .inl w, .inl c, .inl x, .inl q] (s) (fun r s1 => ∃ n m s2, MirQ D w c x n m ∧ Fr [151, 153, 154, 158] s s2 ∧ ((n < 0 ∨ 2 * n < q) ∧ r = -1000000000 - 2 ∧ s1 = us s2 150 2 (s2 150 2 + 1) ∨ 0 ≤ n ∧ q ≤ 2 * n ∧ r = (if q = 0 then n else m (q - 1).toNat) ∧ s1 = s2)) := by
  refine CI.mk rfl ?_
  show WP (d + 9) 242 0 [some (.inr (.inr 146)), some (.inl w), some (.inl c), some (.inl x), some (.inl q), none] [] (encA (s)) _
  have hM0 := hM
  obtain ⟨hM39, hM40, hM41, hM43, hM44, hM36, hM37, hM38, hMc, hMw, hMp, hMt, hMb⟩ := hM
  have hlz := liW_L hM0 (w := w)
  refine w_ldR rfl rfl rfl ?_
  refine w_ldI rfl rfl ?_
  refine w_callV rfl rfl rfl rfl rfl rfl rfl (r_isWindow (by omega) (by rw [hD]; omega)) ?_
  rw [hD]
  try simp only [hD]
  refine w_bEq0 rfl (fun b3 => ?_) (fun b3 => ?_)
  · first
    | (exfalso; omega)
    | (exfalso; omega)
  · first
    | (exfalso; omega)
    | (refine w_ldI rfl rfl ?_
       refine w_call rfl rfl rfl (r_isCell (by omega)) ?_
       try simp only [hD]
       refine w_bEq0 rfl (fun b6 => ?_) (fun b6 => ?_)
       · first
         | (exfalso; omega)
         | (exfalso; omega)
       · first
         | (exfalso; omega)
         | (refine w_ldI rfl rfl ?_
            refine w_i2lr rfl (by omega) ?_
            refine w_push rfl ?_
            refine w_push rfl ?_
            refine w_call rfl rfl rfl (r_in (by omega) (by omega) (by omega)) ?_
            try simp only [hD]
            refine w_bEq0 rfl (fun b12 => ?_) (fun b12 => ?_)
            · first
              | (exfalso; omega)
              | (exfalso; omega)
            · first
              | (exfalso; omega)
              | (refine w_ldI rfl rfl ?_
                 refine w_i2lr rfl (by omega) ?_
                 refine w_push rfl ?_
                 refine w_push rfl ?_
                 refine w_call rfl rfl rfl (r_in (by omega) (by omega) (by omega)) ?_
                 try simp only [hD]
                 refine w_bNe0 rfl (fun b18 => ?_) (fun b18 => ?_)
                 · first
                   | (exfalso; omega)
                   | (refine w_ldR rfl rfl rfl ?_
                      refine w_ldI rfl rfl ?_
                      refine w_ldI rfl rfl ?_
                      refine w_ldI rfl rfl ?_
                      refine w_callWI rfl rfl rfl rfl rfl rfl rfl (c_isLit hD hM0 hC (by omega) (by omega) (by omega)) (fun v27 s27 p27 => ?_)
                      obtain ⟨rfl, f27⟩ := p27
                      refine w_bEq0 rfl (fun b28 => ?_) (fun b28 => ?_)
                      · first
                        | (exfalso; omega)
                        | (refine w_ldR rfl rfl rfl ?_
                           refine w_ldI rfl rfl ?_
                           refine w_ldI rfl rfl ?_
                           refine w_ldI rfl rfl ?_
                           refine w_callWI rfl rfl rfl rfl rfl rfl rfl (c_findOne (by rw [f27.at 147 rfl]; exact hD) hM0 hC (by omega) (by omega) (by omega)) (fun v35 s35 p35 => ?_)
                           have r35 : v35 = 0 ∨ v35 = 1 := by rcases p35 with ⟨e, -⟩ | ⟨e, -⟩ <;> omega
                           refine w_irEq0 rfl (by omega) (fun b36 => ?_) (fun b36 => ?_)
                           · first
                             | (exfalso; omega)
                             | (obtain ⟨-, f35⟩ : v35 = 0 ∧ OneM D w c x s27 s35 72 := by
                                  rcases p35 with ⟨e, -⟩ | h
                                  · exfalso; omega
                                  · exact h
                                refine w_ldR rfl rfl rfl ?_
                                refine w_ldI rfl rfl ?_
                                refine w_ldI rfl rfl ?_
                                refine w_ldI rfl rfl ?_
                                refine w_callWI rfl rfl rfl rfl rfl rfl rfl (c_findTwo (by rw [f35.1.at 147 rfl, f27.at 147 rfl]; exact hD) hM0 hC (by omega) (by omega) (by omega)) (fun v43 s43 p43 => ?_)
                                have r43 : v43 = 0 ∨ v43 = 1 := by rcases p43 with ⟨e, -⟩ | ⟨e, -⟩ <;> omega
                                refine w_irEq0 rfl (by omega) (fun b44 => ?_) (fun b44 => ?_)
                                · first
                                  | (exfalso; omega)
                                  | (refine w_push rfl ?_
                                     refine w_StI_6_5 rfl rfl ?_
                                     first
                                     | (rcases p43 with ⟨e, i, h1, h2, h3, h4, h5, h6⟩ | ⟨e, h⟩
                                        · first
                                          | (exfalso; omega)
                                          | exact z_mmir (by omega) (by omega) (fun k1 k2 => ⟨2, s43 158, s43, Or.inr (Or.inr (Or.inl ⟨by omega, f35.2, i, h1, rfl, h3, h4, h5, h6⟩)), ((Fr.mono rfl f27).tr (Fr.mono rfl f35.1)).tr h2, Or.inr ⟨by omega, k2, rfl, rfl⟩⟩) (fun k => ⟨2, s43 158, s43, Or.inr (Or.inr (Or.inl ⟨by omega, f35.2, i, h1, rfl, h3, h4, h5, h6⟩)), ((Fr.mono rfl f27).tr (Fr.mono rfl f35.1)).tr h2, Or.inl ⟨k, rfl, rfl⟩⟩)
                                        · first
                                          | (exfalso; omega)
                                          | exact z_mmir (by omega) (by omega) (fun k1 k2 => by omega) (fun k => ⟨-1, s43 158, s43, Or.inr (Or.inr (Or.inr ⟨by omega, f35.2, h.2, rfl⟩)), ((Fr.mono rfl f27).tr (Fr.mono rfl f35.1)).tr (Fr.mono rfl h.1), Or.inl ⟨Or.inl (by omega), rfl, rfl⟩⟩))
                                     | (rcases p35 with ⟨e, i, h1, h2, h3, h4⟩ | ⟨e, h⟩
                                        · exact z_mmir (by omega) (by omega) (fun k1 k2 => ⟨1, s35 158, s35, Or.inr (Or.inl ⟨by omega, i, h1, rfl, h3, h4⟩), (Fr.mono rfl f27).tr h2, Or.inr ⟨by omega, k2, rfl, rfl⟩⟩) (fun k => ⟨1, s35 158, s35, Or.inr (Or.inl ⟨by omega, i, h1, rfl, h3, h4⟩), (Fr.mono rfl f27).tr h2, Or.inl ⟨k, rfl, rfl⟩⟩)
                                        · exfalso; omega)
                                     | exact z_mmir (by omega) (by omega) (fun k1 k2 => ⟨0, s27 158, s27, Or.inl ⟨by omega, rfl⟩, Fr.mono rfl f27, Or.inr ⟨by omega, k2, rfl, rfl⟩⟩) (fun k => ⟨0, s27 158, s27, Or.inl ⟨by omega, rfl⟩, Fr.mono rfl f27, Or.inl ⟨k, rfl, rfl⟩⟩))
                                · first
                                  | (exfalso; omega)
                                  | (refine w_push rfl ?_
                                     refine w_go rfl ?_
                                     refine w_StI_6_5 rfl rfl ?_
                                     first
                                     | (rcases p43 with ⟨e, i, h1, h2, h3, h4, h5, h6⟩ | ⟨e, h⟩
                                        · first
                                          | (exfalso; omega)
                                          | exact z_mmir (by omega) (by omega) (fun k1 k2 => ⟨2, s43 158, s43, Or.inr (Or.inr (Or.inl ⟨by omega, f35.2, i, h1, rfl, h3, h4, h5, h6⟩)), ((Fr.mono rfl f27).tr (Fr.mono rfl f35.1)).tr h2, Or.inr ⟨by omega, k2, rfl, rfl⟩⟩) (fun k => ⟨2, s43 158, s43, Or.inr (Or.inr (Or.inl ⟨by omega, f35.2, i, h1, rfl, h3, h4, h5, h6⟩)), ((Fr.mono rfl f27).tr (Fr.mono rfl f35.1)).tr h2, Or.inl ⟨k, rfl, rfl⟩⟩)
                                        · first
                                          | (exfalso; omega)
                                          | exact z_mmir (by omega) (by omega) (fun k1 k2 => by omega) (fun k => ⟨-1, s43 158, s43, Or.inr (Or.inr (Or.inr ⟨by omega, f35.2, h.2, rfl⟩)), ((Fr.mono rfl f27).tr (Fr.mono rfl f35.1)).tr (Fr.mono rfl h.1), Or.inl ⟨Or.inl (by omega), rfl, rfl⟩⟩))
                                     | (rcases p35 with ⟨e, i, h1, h2, h3, h4⟩ | ⟨e, h⟩
                                        · exact z_mmir (by omega) (by omega) (fun k1 k2 => ⟨1, s35 158, s35, Or.inr (Or.inl ⟨by omega, i, h1, rfl, h3, h4⟩), (Fr.mono rfl f27).tr h2, Or.inr ⟨by omega, k2, rfl, rfl⟩⟩) (fun k => ⟨1, s35 158, s35, Or.inr (Or.inl ⟨by omega, i, h1, rfl, h3, h4⟩), (Fr.mono rfl f27).tr h2, Or.inl ⟨k, rfl, rfl⟩⟩)
                                        · exfalso; omega)
                                     | exact z_mmir (by omega) (by omega) (fun k1 k2 => ⟨0, s27 158, s27, Or.inl ⟨by omega, rfl⟩, Fr.mono rfl f27, Or.inr ⟨by omega, k2, rfl, rfl⟩⟩) (fun k => ⟨0, s27 158, s27, Or.inl ⟨by omega, rfl⟩, Fr.mono rfl f27, Or.inl ⟨k, rfl, rfl⟩⟩)))
                           · first
                             | (exfalso; omega)
                             | (refine w_push rfl ?_
                                refine w_go rfl ?_
                                refine w_StI_6_5 rfl rfl ?_
                                first
                                | (rcases p43 with ⟨e, i, h1, h2, h3, h4, h5, h6⟩ | ⟨e, h⟩
                                   · first
                                     | (exfalso; omega)
                                     | exact z_mmir (by omega) (by omega) (fun k1 k2 => ⟨2, s43 158, s43, Or.inr (Or.inr (Or.inl ⟨by omega, f35.2, i, h1, rfl, h3, h4, h5, h6⟩)), ((Fr.mono rfl f27).tr (Fr.mono rfl f35.1)).tr h2, Or.inr ⟨by omega, k2, rfl, rfl⟩⟩) (fun k => ⟨2, s43 158, s43, Or.inr (Or.inr (Or.inl ⟨by omega, f35.2, i, h1, rfl, h3, h4, h5, h6⟩)), ((Fr.mono rfl f27).tr (Fr.mono rfl f35.1)).tr h2, Or.inl ⟨k, rfl, rfl⟩⟩)
                                   · first
                                     | (exfalso; omega)
                                     | exact z_mmir (by omega) (by omega) (fun k1 k2 => by omega) (fun k => ⟨-1, s43 158, s43, Or.inr (Or.inr (Or.inr ⟨by omega, f35.2, h.2, rfl⟩)), ((Fr.mono rfl f27).tr (Fr.mono rfl f35.1)).tr (Fr.mono rfl h.1), Or.inl ⟨Or.inl (by omega), rfl, rfl⟩⟩))
                                | (rcases p35 with ⟨e, i, h1, h2, h3, h4⟩ | ⟨e, h⟩
                                   · exact z_mmir (by omega) (by omega) (fun k1 k2 => ⟨1, s35 158, s35, Or.inr (Or.inl ⟨by omega, i, h1, rfl, h3, h4⟩), (Fr.mono rfl f27).tr h2, Or.inr ⟨by omega, k2, rfl, rfl⟩⟩) (fun k => ⟨1, s35 158, s35, Or.inr (Or.inl ⟨by omega, i, h1, rfl, h3, h4⟩), (Fr.mono rfl f27).tr h2, Or.inl ⟨k, rfl, rfl⟩⟩)
                                   · exfalso; omega)
                                | exact z_mmir (by omega) (by omega) (fun k1 k2 => ⟨0, s27 158, s27, Or.inl ⟨by omega, rfl⟩, Fr.mono rfl f27, Or.inr ⟨by omega, k2, rfl, rfl⟩⟩) (fun k => ⟨0, s27 158, s27, Or.inl ⟨by omega, rfl⟩, Fr.mono rfl f27, Or.inl ⟨k, rfl, rfl⟩⟩)))
                      · first
                        | (exfalso; omega)
                        | (refine w_push rfl ?_
                           refine w_go rfl ?_
                           refine w_StI_6_5 rfl rfl ?_
                           first
                           | (rcases p43 with ⟨e, i, h1, h2, h3, h4, h5, h6⟩ | ⟨e, h⟩
                              · first
                                | (exfalso; omega)
                                | exact z_mmir (by omega) (by omega) (fun k1 k2 => ⟨2, s43 158, s43, Or.inr (Or.inr (Or.inl ⟨by omega, f35.2, i, h1, rfl, h3, h4, h5, h6⟩)), ((Fr.mono rfl f27).tr (Fr.mono rfl f35.1)).tr h2, Or.inr ⟨by omega, k2, rfl, rfl⟩⟩) (fun k => ⟨2, s43 158, s43, Or.inr (Or.inr (Or.inl ⟨by omega, f35.2, i, h1, rfl, h3, h4, h5, h6⟩)), ((Fr.mono rfl f27).tr (Fr.mono rfl f35.1)).tr h2, Or.inl ⟨k, rfl, rfl⟩⟩)
                              · first
                                | (exfalso; omega)
                                | exact z_mmir (by omega) (by omega) (fun k1 k2 => by omega) (fun k => ⟨-1, s43 158, s43, Or.inr (Or.inr (Or.inr ⟨by omega, f35.2, h.2, rfl⟩)), ((Fr.mono rfl f27).tr (Fr.mono rfl f35.1)).tr (Fr.mono rfl h.1), Or.inl ⟨Or.inl (by omega), rfl, rfl⟩⟩))
                           | (rcases p35 with ⟨e, i, h1, h2, h3, h4⟩ | ⟨e, h⟩
                              · exact z_mmir (by omega) (by omega) (fun k1 k2 => ⟨1, s35 158, s35, Or.inr (Or.inl ⟨by omega, i, h1, rfl, h3, h4⟩), (Fr.mono rfl f27).tr h2, Or.inr ⟨by omega, k2, rfl, rfl⟩⟩) (fun k => ⟨1, s35 158, s35, Or.inr (Or.inl ⟨by omega, i, h1, rfl, h3, h4⟩), (Fr.mono rfl f27).tr h2, Or.inl ⟨k, rfl, rfl⟩⟩)
                              · exfalso; omega)
                           | exact z_mmir (by omega) (by omega) (fun k1 k2 => ⟨0, s27 158, s27, Or.inl ⟨by omega, rfl⟩, Fr.mono rfl f27, Or.inr ⟨by omega, k2, rfl, rfl⟩⟩) (fun k => ⟨0, s27 158, s27, Or.inl ⟨by omega, rfl⟩, Fr.mono rfl f27, Or.inl ⟨k, rfl, rfl⟩⟩)))
                 · first
                   | (exfalso; omega)
                   | (exfalso; omega))))
theorem m_mirrors_n {d : Nat} {s : mSt} {D : Nat → Int} (hD : s 147 = D) (hM : MOk D) (hC : COk D) {w c x q : Int} (hrw : -2147483648 ≤ w ∧ w < 2147483648) (hrc : -2147483648 ≤ c ∧ c < 2147483648) (hrx : -2147483648 ≤ x ∧ x < 2147483648) (hrq : -2147483648 ≤ q ∧ q < 2147483648) (hy : ¬ ((0 ≤ w ∧ w ≤ D 39 - 1) ∧ (0 ≤ c ∧ c ≤ 35) ∧ (1 ≤ x ∧ x ≤ 99) ∧ 0 ≤ q ∧ q ≤ 4)) : CI (d + 9) 242 [.inr (.inr 146), .inl w, .inl c, .inl x, .inl q] (s) (fun r s1 => r = -1000000000 - 1 ∧ s1 = us s 150 1 (s 150 1 + 1)) := by
  refine CI.mk rfl ?_
  show WP (d + 9) 242 0 [some (.inr (.inr 146)), some (.inl w), some (.inl c), some (.inl x), some (.inl q), none] [] (encA (s)) _
  have hM0 := hM
  obtain ⟨hM39, hM40, hM41, hM43, hM44, hM36, hM37, hM38, hMc, hMw, hMp, hMt, hMb⟩ := hM
  refine w_ldR rfl rfl rfl ?_
  refine w_ldI rfl rfl ?_
  refine w_callV rfl rfl rfl rfl rfl rfl rfl (r_isWindow (by omega) (by rw [hD]; omega)) ?_
  rw [hD]
  try simp only [hD]
  refine w_bEq0 rfl (fun b3 => ?_) (fun b3 => ?_)
  · first
    | (exfalso; omega)
    | (refine w_ldR rfl rfl rfl ?_
       refine w_push rfl ?_
       refine w_callV rfl rfl rfl rfl rfl rfl rfl r_finds1 ?_
       try simp only [hD]
       refine w_retI rfl ?_
       exact ⟨rfl, rfl⟩)
  · first
    | (exfalso; omega)
    | (refine w_ldI rfl rfl ?_
       refine w_call rfl rfl rfl (r_isCell (by omega)) ?_
       try simp only [hD]
       refine w_bEq0 rfl (fun b6 => ?_) (fun b6 => ?_)
       · first
         | (exfalso; omega)
         | (refine w_ldR rfl rfl rfl ?_
            refine w_push rfl ?_
            refine w_callV rfl rfl rfl rfl rfl rfl rfl r_finds1 ?_
            try simp only [hD]
            refine w_retI rfl ?_
            exact ⟨rfl, rfl⟩)
       · first
         | (exfalso; omega)
         | (refine w_ldI rfl rfl ?_
            refine w_i2lr rfl (by omega) ?_
            refine w_push rfl ?_
            refine w_push rfl ?_
            refine w_call rfl rfl rfl (r_in (by omega) (by omega) (by omega)) ?_
            try simp only [hD]
            refine w_bEq0 rfl (fun b12 => ?_) (fun b12 => ?_)
            · first
              | (exfalso; omega)
              | (refine w_ldR rfl rfl rfl ?_
                 refine w_push rfl ?_
                 refine w_callV rfl rfl rfl rfl rfl rfl rfl r_finds1 ?_
                 try simp only [hD]
                 refine w_retI rfl ?_
                 exact ⟨rfl, rfl⟩)
            · first
              | (exfalso; omega)
              | (refine w_ldI rfl rfl ?_
                 refine w_i2lr rfl (by omega) ?_
                 refine w_push rfl ?_
                 refine w_push rfl ?_
                 refine w_call rfl rfl rfl (r_in (by omega) (by omega) (by omega)) ?_
                 try simp only [hD]
                 refine w_bNe0 rfl (fun b18 => ?_) (fun b18 => ?_)
                 · first
                   | (exfalso; omega)
                   | (exfalso; omega)
                 · first
                   | (exfalso; omega)
                   | (refine w_ldR rfl rfl rfl ?_
                      refine w_push rfl ?_
                      refine w_callV rfl rfl rfl rfl rfl rfl rfl r_finds1 ?_
                      try simp only [hD]
                      refine w_retI rfl ?_
                      exact ⟨rfl, rfl⟩))))
theorem st_mirrors {X : Nat → Int} {N : Int} {d : Nat} {s : mSt} {cnt : Int} (hI : Inv X N s cnt) {w c x q : Int} (hrw : -2147483648 ≤ w ∧ w < 2147483648) (hrc : -2147483648 ≤ c ∧ c < 2147483648) (hrx : -2147483648 ≤ x ∧ x < 2147483648) (hrq : -2147483648 ≤ q ∧ q < 2147483648) : Step X N (d + 150) s cnt 125 242 [.inl w, .inl c, .inl x, .inl q] := by
  have hI0 := hI
  obtain ⟨hD, -, -, -, -, hT, -, hX, hU⟩ := hI
  have hD0 := hD
  obtain ⟨⟨hM, hC, hN⟩, hV, h8⟩ := hD
  have hV0 := hV
  have hM0 := hM
  obtain ⟨vc, vpl, vga, vse, vne, veg, vre, vtu, vta, vwa, v36, v37, v39, v40, v42, v41, v43, v44, vl0, vl1, vlm⟩ := hV
  obtain ⟨hM39, hM40, hM41, hM43, hM44, hM36, hM37, hM38, hMc, hMw, hMp, hMt, hMb⟩ := hM
  by_cases hy : (0 ≤ w ∧ w ≤ s 147 39 - 1) ∧ (0 ≤ c ∧ c ≤ 35) ∧ (1 ≤ x ∧ x ≤ 99) ∧ 0 ≤ q ∧ q ≤ 4
  · obtain ⟨r1, s1, k1, n1, m1, t1, q1, f1, h1⟩ := x_mirrors_y (d := d + 144) hD0 hrw hrc hrx hrq hy
    have e : s1 147 = s 147 := by
      rcases h1 with ⟨-, -, rfl⟩ | ⟨-, -, -, rfl⟩
      · rw [us_ne (by decide)]; exact f1.at 147 rfl
      · exact f1.at 147 rfl
    obtain ⟨r2, s2, k2, n2, m2, t2, q2, f2, h2⟩ := m_mirrors_y (d := d + 141) (s := s1) e hM0 hC hrw hrc hrx hrq hy
    obtain ⟨en, em⟩ := q1.one q2
    subst en
    rcases h1 with ⟨a1, a2, e1⟩ | ⟨a1, a2, a3, e1⟩ <;> rcases h2 with ⟨c1, c2, e2⟩ | ⟨c1, c2, c3, e2⟩
    · exact Step.mk (by first | exact ⟨(f1.at 1 rfl).trans hX.2.1, (congrFun (f1.at 0 rfl) 1).trans hX.2.2⟩ | exact ⟨hX.2.1, hX.2.2⟩ | exact ⟨by rw [hs1, us_ne (by decide)]; exact hX.2.1, by rw [hs1, us_ne (by decide)]; exact hX.2.2⟩ | exact ⟨by rw [hs1, us_ne (by decide), us_ne (by decide)]; exact hX.2.1, by rw [hs1, us_ne (by decide), us_ne (by decide)]; exact hX.2.2⟩ | exact ⟨by rw [e1, us_ne (by decide), f1.at 1 rfl]; exact hX.2.1, by rw [e1, us_ne (by decide), f1.at 0 rfl]; exact hX.2.2⟩ | exact ⟨by rw [ft.at 1 rfl, hx 1 (by decide) (by decide)]; exact hX.2.1, by rw [ft.at 0 rfl, et, newL_0, mup_ne (by decide)]; exact hX.2.2⟩) k1 k2 (by rw [a2, c2]) (inv_err3 hI0 rfl rfl f1 e1 f2 e2)
    · exfalso; omega
    · exfalso; omega
    · subst e1
      subst e2
      refine Step.mk (by first | exact ⟨(f1.at 1 rfl).trans hX.2.1, (congrFun (f1.at 0 rfl) 1).trans hX.2.2⟩ | exact ⟨hX.2.1, hX.2.2⟩ | exact ⟨by rw [hs1, us_ne (by decide)]; exact hX.2.1, by rw [hs1, us_ne (by decide)]; exact hX.2.2⟩ | exact ⟨by rw [hs1, us_ne (by decide), us_ne (by decide)]; exact hX.2.1, by rw [hs1, us_ne (by decide), us_ne (by decide)]; exact hX.2.2⟩ | exact ⟨by rw [e1, us_ne (by decide), f1.at 1 rfl]; exact hX.2.1, by rw [e1, us_ne (by decide), f1.at 0 rfl]; exact hX.2.2⟩ | exact ⟨by rw [ft.at 1 rfl, hx 1 (by decide) (by decide)]; exact hX.2.1, by rw [ft.at 0 rfl, et, newL_0, mup_ne (by decide)]; exact hX.2.2⟩) k1 k2 ?_ (hI0.scr (by omega) ((Fr.mono rfl f1).tr (Fr.mono rfl f2)))
      rw [a3, c3]
      by_cases h : q = 0
      · rw [if_pos h, if_pos h]
      · rw [if_neg h, if_neg h]
        exact (em _ (by omega)).symm
  · obtain ⟨r1, s1, k1, hr, hs1⟩ := x_mirrors_n (d := d + 144) hD0 hrw hrc hrx hrq hy
    have e : s1 147 = s 147 := by rw [hs1]; exact us_ne (by decide)
    obtain ⟨r2, s2, k2, hr2, hs2⟩ := m_mirrors_n (d := d + 141) (s := s1) e hM0 hC hrw hrc hrx hrq hy
    rw [hs2] at k2
    exact Step.mk (by first | exact ⟨(f1.at 1 rfl).trans hX.2.1, (congrFun (f1.at 0 rfl) 1).trans hX.2.2⟩ | exact ⟨hX.2.1, hX.2.2⟩ | exact ⟨by rw [hs1, us_ne (by decide)]; exact hX.2.1, by rw [hs1, us_ne (by decide)]; exact hX.2.2⟩ | exact ⟨by rw [hs1, us_ne (by decide), us_ne (by decide)]; exact hX.2.1, by rw [hs1, us_ne (by decide), us_ne (by decide)]; exact hX.2.2⟩ | exact ⟨by rw [e1, us_ne (by decide), f1.at 1 rfl]; exact hX.2.1, by rw [e1, us_ne (by decide), f1.at 0 rfl]; exact hX.2.2⟩ | exact ⟨by rw [ft.at 1 rfl, hx 1 (by decide) (by decide)]; exact hX.2.1, by rw [ft.at 0 rfl, et, newL_0, mup_ne (by decide)]; exact hX.2.2⟩) k1 k2 (by rw [hr, hr2]) (hI0.err2 hs1)
theorem StM_ok (X : Nat → Int) (N : Int) : StM X N := fun d s cnt w c x q hI h1 h2 h3 h4 => st_mirrors hI h1 h2 h3 h4
