/-! ===== order: the reference; the step ===== -/
theorem l_foA2 {d : Nat} {s : mSt} {Q : mQ} {s0 : mSt} {D : Nat → Int} {N : Nat} (hN : (N : Int) = D 39 ∧ N ≤ 6) (hM : MOk D) (hC : COk D) (h99 : D 38 ≤ 9999) (hf : Fr [147, 151, 153, 154, 155] s0 s) (i k : Nat) (wi ii : Int) (hD : s 147 = niF D i) (hi : i < N) (hk : k ≤ N) (hwi : wi = (k : Int)) (hii : ii = (i : Int)) (hA : ∀ i1 w1 : Nat, (i1 < i ∨ (i1 = i ∧ w1 < k)) → w1 < N → s 155 (6 * (i1 : Int) + (w1 : Int)).toNat = moF D i1 w1) (kk : ∀ s1, Fr [147, 151, 153, 154, 155] s0 s1 → s1 147 = niF D i → (∀ i1 w1 : Nat, i1 < i + 1 → w1 < N → s1 155 (6 * (i1 : Int) + (w1 : Int)).toNat = moF D i1 w1) → WP (d + 6) 232 41 [some (.inr (.inr 146)), some (.inl (N : Int)), some (.inl (D 38)), some (.inl (i : Int)), some (.inl (N : Int)), none, none] [] (encA (s1)) (Q)) : WP (d + 6) 232 24 [some (.inr (.inr 146)), some (.inl (N : Int)), some (.inl (D 38)), some (.inl ii), some (.inl wi), none, none] [] (encA (s)) (Q) := by
  subst hwi
  subst hii
  have hni := niF_ok hM hC h99 (i := i) (by omega)
  refine w_ldI rfl rfl ?_
  refine w_ldI rfl rfl ?_
  refine w_crGe rfl (by omega) (by omega) (fun b26 => ?_) (fun b26 => ?_)
  · first
    | (exfalso; omega)
    | (obtain rfl : k = N := by omega
       exact kk s hf hD (fun i1 w1 h1 h2 => hA i1 w1 (by omega) h2))
  · first
    | (exfalso; omega)
    | (refine w_ldR rfl rfl rfl ?_
       first | refine w_getI rfl rfl rfl rfl rfl ?_ | refine w_getR rfl rfl rfl rfl rfl ?_
       refine w_push rfl ?_
       refine w_ldI rfl rfl ?_
       refine w_mul rfl ?_
       refine w_ldI rfl rfl ?_
       refine w_add rfl ?_
       refine w_ldR rfl rfl rfl ?_
       refine w_ldI rfl rfl ?_
       refine w_callWI rfl rfl rfl rfl rfl rfl rfl (c_metBy hD hni.1 hni.2.1 (by omega)) (fun v36 s36 p36 => ?_)
       obtain ⟨rfl, f36⟩ := p36
       refine w_call rfl rfl rfl (c_ones (mtW_1024 hni.1 _)) ?_
       refine w_ast rfl rfl rfl (by omega) rfl ?_
       refine w_inc_7_4 rfl rfl ?_
       refine w_go rfl ?_
       refine l_foA2 hN hM hC h99 (hf.tr ((Fr.mono rfl f36).tr (Fr.us rfl))) i (k + 1) ((k : Int) + 1) (i : Int) (by rw [us_ne (by decide), f36.at 147 rfl]; exact hD) hi (by omega) (by omega) rfl (fun i1 w1 h1 h2 => ?_) kk
       rw [us_eq]
       unfold mup
       by_cases e : i1 = i ∧ w1 = k
       · rw [if_pos (by omega), e.1, e.2]; rfl
       · rw [if_neg (by omega), f36.at 155 rfl]; exact hA i1 w1 (by omega) h2)
termination_by N - k
decreasing_by all_goals omega
theorem l_foA1 {d : Nat} {s : mSt} {Q : mQ} {s0 : mSt} {D : Nat → Int} {N : Nat} (hN : (N : Int) = D 39 ∧ N ≤ 6) (hM : MOk D) (hC : COk D) (h99 : D 38 ≤ 9999) (hf : Fr [147, 151, 153, 154, 155] s0 s) (i : Nat) (ii : Int) {x4 : Option mAV} (hb : ∀ j, j ≠ 38 → s 147 j = D j) (hi : i ≤ N) (hii : ii = (i : Int)) (hA : ∀ i1 w1 : Nat, i1 < i → w1 < N → s 155 (6 * (i1 : Int) + (w1 : Int)).toNat = moF D i1 w1) (kk : ∀ s1 x4, Fr [147, 151, 153, 154, 155] s0 s1 → (∀ j, j ≠ 38 → s1 147 j = D j) → (∀ i1 w1 : Nat, i1 < N → w1 < N → s1 155 (6 * (i1 : Int) + (w1 : Int)).toNat = moF D i1 w1) → WP (d + 6) 232 43 [some (.inr (.inr 146)), some (.inl (N : Int)), some (.inl (D 38)), some (.inl (N : Int)), x4, none, none] [] (encA (s1)) (Q)) : WP (d + 6) 232 12 [some (.inr (.inr 146)), some (.inl (N : Int)), some (.inl (D 38)), some (.inl ii), x4, none, none] [] (encA (s)) (Q) := by
  subst hii
  refine w_ldI rfl rfl ?_
  refine w_ldI rfl rfl ?_
  refine w_crGe rfl (by omega) (by omega) (fun b14 => ?_) (fun b14 => ?_)
  · first
    | (exfalso; omega)
    | (obtain rfl : i = N := by omega
       exact kk s _ hf hb hA)
  · first
    | (exfalso; omega)
    | (refine w_ldR rfl rfl rfl ?_
       first | refine w_getI rfl rfl rfl rfl rfl ?_ | refine w_getR rfl rfl rfl rfl rfl ?_
       refine w_push rfl ?_
       refine w_ldI rfl rfl ?_
       refine w_ldI rfl rfl ?_
       refine w_add rfl ?_
       refine w_astk 38 rfl rfl rfl rfl rfl rfl ?_
       refine w_push rfl ?_
       refine w_StI_7_4 rfl rfl ?_
       refine l_foA2 hN hM hC h99 (hf.tr (Fr.us rfl)) i 0 0 (i : Int) ?_ (by omega) (by omega) rfl rfl (fun i1 w1 h1 h2 => by rw [us_ne (by decide)]; exact hA i1 w1 (by omega) h2) (fun s1 h1 h3 h2 => ?_)
       · rw [us_eq]
         funext j
         unfold niF mup
         by_cases e : j = 38
         · rw [if_pos e, if_pos e]
         · rw [if_neg e, if_neg e]; exact hb j e
       · refine w_inc_7_3 rfl rfl ?_
         refine w_go rfl ?_
         exact l_foA1 hN hM hC h99 h1 (i + 1) ((i : Int) + 1) (fun j hj => by rw [h3]; exact mup_ne hj) (by omega) (by omega) h2 kk)
termination_by N - i
decreasing_by all_goals omega
theorem l_foB2 {d : Nat} {s : mSt} {Q : mQ} {D : Nat → Int} {N : Nat} {s0 : mSt} {b : Nat} (hN : N ≤ 6) (hA : ∀ i w : Nat, i < N → w < N → s 155 (6 * (i : Int) + (w : Int)).toNat = moF D i w) (hf : Fr [156] s0 s) (hg : ∀ j, j ≠ b → s 156 j = s0 156 j) (k : Nat) (i : Int) {all : Int} (hb : b + 1 < 2 ^ N) (hk : k ≤ N) (hi : i = (k : Int)) (hx : ((s 156 b = mxF (moF D) (s 156) b k ∧ ∃ w, w < k ∧ bitN (b : Int) w = 0) ∨ (s 156 b = -1 ∧ mxF (moF D) (s 156) b k = 0 ∧ ∀ w, w < k → bitN (b : Int) w = 1))) (hT : ∀ j, b < j → j < 2 ^ N → TabAt (moF D) N (s 156) j) (kk : ∀ s1, Fr [156] s0 s1 → (∀ j, j ≠ b → s1 156 j = s0 156 j) → s1 156 b = mxF (moF D) (s1 156) b N → WP (d + 6) 232 110 [some (.inr (.inr 146)), some (.inl (N : Int)), some (.inl (D 38)), some (.inl all), some (.inl (b : Int)), some (.inl (N : Int)), none] [] (encA (s1)) (Q)) : WP (d + 6) 232 72 [some (.inr (.inr 146)), some (.inl (N : Int)), some (.inl (D 38)), some (.inl all), some (.inl (b : Int)), some (.inl i), none] [] (encA (s)) (Q) := by
  subst hi
  have h64 := pow_64 hN
  have h5 := fc_5 hN hb
  have hpc := pcF_rng (b : Int)
  have hpw : 1 ≤ 2 ^ k := Nat.one_le_two_pow
  have hmv : ∀ w : Nat, w < N → s 155 (6 * pcF (b : Int) + (w : Int)).toNat = moF D (pcF (b : Int)).toNat w := fun w hw => by have h := hA (pcF (b : Int)).toNat w (by omega) hw; rw [show (((pcF (b : Int)).toNat : Nat) : Int) = pcF (b : Int) by omega] at h; exact h
  have hbr := bitN_rng (b : Int) k
  have hmr := moF_rng D (pcF (b : Int)).toNat k
  have hmx := mxF_rng (M := moF D) (t := s 156) hN (show b < 2 ^ N by omega) (moF_rng D) (fun j h1 h2 => (hT j h1 h2).2.2) k hk
  have hxr : -1 ≤ s 156 b ∧ s 156 b ≤ 630 := by rcases hx with h | h <;> omega
  refine w_ldI rfl rfl ?_
  refine w_ldI rfl rfl ?_
  refine w_crGe rfl (by omega) (by omega) (fun b74 => ?_) (fun b74 => ?_)
  · first
    | (exfalso; omega)
    | (obtain rfl : k = N := by omega
       refine kk s hf hg ?_
       rcases hx with h | ⟨h1, h2, h3⟩
       · exact h.1
       · exfalso
         obtain ⟨w, h4, h5⟩ := fc_4 hN hb
         have := h3 w h4
         omega)
  · first
    | (exfalso; omega)
    | (refine w_ldI rfl rfl ?_
       refine w_ldI rfl rfl ?_
       refine w_bin rfl ?_
       refine w_push rfl ?_
       refine w_bin rfl ?_
       rw [m_bit (by omega) (by omega)]
       refine w_irNe0 rfl (by omega) (fun b80 => ?_) (fun b80 => ?_)
       · first
         | (exfalso; omega)
         | (try rw [Int.toNat_natCast]
            refine w_inc_7_5 rfl rfl ?_
            refine w_go rfl ?_
            first
            | (refine l_foB2 hN (fun i w h1 h2 => by rw [us_ne (by decide)]; exact hA i w h1 h2) (hf.tr (Fr.us rfl)) (fun j hj => by rw [us_eq, mup_ne hj]; exact hg j hj) (k + 1) ((k : Int) + 1) hb (by omega) (by omega) ?_ (fun j h1 h2 => TabAt.cg (t := s 156) (fun q hq => by rw [us_eq, mup_ne (by omega)]) (hT j h1 h2)) kk
               left
               refine ⟨?_, k, by omega, by omega⟩
               rw [← mxF_cg (t := s 156) (fun q hq => by rw [us_eq, mup_ne (by omega)]), us_eq, mup_eq, mxF, if_pos (by omega)]
               rcases hx with h | h <;> omega)
            | (refine l_foB2 hN hA hf hg (k + 1) ((k : Int) + 1) hb (by omega) (by omega) ?_ hT kk
               rw [mxF, if_neg (by omega)]
               rcases hx with ⟨h1, w, h2, h3⟩ | ⟨h1, h2, h3⟩
               · exact Or.inl ⟨h1, w, by omega, h3⟩
               · refine Or.inr ⟨h1, h2, fun w hw => ?_⟩
                 by_cases e : w = k
                 · subst e; omega
                 · exact h3 w (by omega)))
       · first
         | (exfalso; omega)
         | (refine w_ldR rfl rfl rfl ?_
            first | refine w_getI rfl rfl rfl rfl rfl ?_ | refine w_getR rfl rfl rfl rfl rfl ?_
            refine w_ldI rfl rfl ?_
            refine w_ldR rfl rfl rfl ?_
            first | refine w_getI rfl rfl rfl rfl rfl ?_ | refine w_getR rfl rfl rfl rfl rfl ?_
            refine w_ldI rfl rfl ?_
            refine w_ald rfl rfl rfl (by omega) rfl ?_
            rw [Int.toNat_natCast]
            refine w_ldR rfl rfl rfl ?_
            first | refine w_getI rfl rfl rfl rfl rfl ?_ | refine w_getR rfl rfl rfl rfl rfl ?_
            refine w_push rfl ?_
            refine w_ldI rfl rfl ?_
            refine w_call rfl rfl rfl (c_ones (by omega)) ?_
            refine w_mul rfl ?_
            refine w_ldI rfl rfl ?_
            refine w_add rfl ?_
            refine w_ald rfl rfl rfl (by omega) rfl ?_
            rw [hmv k (by omega)]
            refine w_ldR rfl rfl rfl ?_
            first | refine w_getI rfl rfl rfl rfl rfl ?_ | refine w_getR rfl rfl rfl rfl rfl ?_
            refine w_ldI rfl rfl ?_
            refine w_push rfl ?_
            refine w_ldI rfl rfl ?_
            refine w_bin rfl ?_
            refine w_bin rfl ?_
            have hlt1 := fc_1 (N := N) hN (by omega) (show k < N by omega) (show bitN (b : Int) k = 0 by omega)
            rw [fc_2 (by omega) (by omega) (by omega)]
            refine w_ald rfl rfl rfl (by omega) rfl ?_
            rw [Int.toNat_natCast]
            have ht1 := (hT (b + 2 ^ k) (by omega) (fc_1 hN (by omega) (by omega) (by omega))).2.2
            refine w_add rfl ?_
            refine w_call rfl rfl rfl (r_greater (by omega) (by omega)) ?_
            refine w_ast rfl rfl rfl (by omega) rfl ?_
            try rw [Int.toNat_natCast]
            refine w_inc_7_5 rfl rfl ?_
            refine w_go rfl ?_
            first
            | (refine l_foB2 hN (fun i w h1 h2 => by rw [us_ne (by decide)]; exact hA i w h1 h2) (hf.tr (Fr.us rfl)) (fun j hj => by rw [us_eq, mup_ne hj]; exact hg j hj) (k + 1) ((k : Int) + 1) hb (by omega) (by omega) ?_ (fun j h1 h2 => TabAt.cg (t := s 156) (fun q hq => by rw [us_eq, mup_ne (by omega)]) (hT j h1 h2)) kk
               left
               refine ⟨?_, k, by omega, by omega⟩
               rw [← mxF_cg (t := s 156) (fun q hq => by rw [us_eq, mup_ne (by omega)]), us_eq, mup_eq, mxF, if_pos (by omega)]
               rcases hx with h | h <;> omega)
            | (refine l_foB2 hN hA hf hg (k + 1) ((k : Int) + 1) hb (by omega) (by omega) ?_ hT kk
               rw [mxF, if_neg (by omega)]
               rcases hx with ⟨h1, w, h2, h3⟩ | ⟨h1, h2, h3⟩
               · exact Or.inl ⟨h1, w, by omega, h3⟩
               · refine Or.inr ⟨h1, h2, fun w hw => ?_⟩
                 by_cases e : w = k
                 · subst e; omega
                 · exact h3 w (by omega))))
termination_by N - k
decreasing_by all_goals omega
theorem l_foB1 {d : Nat} {s : mSt} {Q : mQ} {s0 : mSt} {D : Nat → Int} {N : Nat} (hN : N ≤ 6) (hA : ∀ i w : Nat, i < N → w < N → s 155 (6 * (i : Int) + (w : Int)).toNat = moF D i w) (c : Nat) (were : Int) {all : Int} {x5 : Option mAV} (hc : c + 1 ≤ 2 ^ N) (hwe : were = (c : Int) - 1) (hT : ∀ j, c ≤ j → j < 2 ^ N → TabAt (moF D) N (s 156) j) (hf : Fr [156] s0 s) (kk : ∀ s1 x4 x5, Fr [156] s0 s1 → Tab (moF D) N (s1 156) → WP (d + 6) 232 112 [some (.inr (.inr 146)), some (.inl (N : Int)), some (.inl (D 38)), some (.inl all), x4, x5, none] [] (encA (s1)) (Q)) : WP (d + 6) 232 63 [some (.inr (.inr 146)), some (.inl (N : Int)), some (.inl (D 38)), some (.inl all), some (.inl were), x5, none] [] (encA (s)) (Q) := by
  subst hwe
  have h64 := pow_64 hN
  refine w_ldI rfl rfl ?_
  refine w_irLt0 rfl (by omega) (fun b64 => ?_) (fun b64 => ?_)
  · first
    | (exfalso; omega)
    | (obtain rfl : c = 0 := by omega
       exact kk s _ _ hf (fun j hj => hT j (by omega) hj))
  · first
    | (exfalso; omega)
    | (refine w_ldR rfl rfl rfl ?_
       first | refine w_getI rfl rfl rfl rfl rfl ?_ | refine w_getR rfl rfl rfl rfl rfl ?_
       refine w_ldI rfl rfl ?_
       refine w_push rfl ?_
       refine w_ast rfl rfl rfl (by omega) rfl ?_
       refine w_push rfl ?_
       refine w_StI_7_5 rfl rfl ?_
       obtain ⟨b, rfl⟩ : ∃ b, c = b + 1 := ⟨c - 1, by omega⟩
       have eb : (((b + 1 : Nat) : Int) - 1) = (b : Int) := by omega
       rw [eb, Int.toNat_natCast]
       refine l_foB2 (b := b) (s0 := us s 156 b (-1)) hN (fun i w h1 h2 => by rw [us_ne (by decide)]; exact hA i w h1 h2) Fr.rf (fun j hj => rfl) 0 0 (by omega) (by omega) rfl (Or.inr ⟨by rw [us_eq, mup_eq], rfl, fun w hw => by omega⟩) (fun j h1 h2 => TabAt.cg (t := s 156) (fun q hq => by rw [us_eq, mup_ne (by omega)]) (hT j (by omega) h2)) (fun s1 h1 h2 h3 => ?_)
       refine w_inc_7_4 rfl rfl ?_
       refine w_go rfl ?_
       have ej : ∀ j, j ≠ b → s1 156 j = s 156 j := fun j hj => by rw [h2 j hj, us_eq, mup_ne hj]
       refine l_foB1 (D := D) hN (fun i w h4 h5 => by rw [h1.at 155 rfl, us_ne (by decide)]; exact hA i w h4 h5) b _ (by omega) (by omega) (fun j h4 h5 => ?_) (hf.tr ((Fr.us rfl).tr h1)) kk
       by_cases e : j = b
       · subst e
         refine ⟨fun q => by omega, fun q => h3, ?_⟩
         rw [h3]
         exact mxF_rng hN (by omega) (moF_rng D) (fun q hq1 hq2 => by rw [ej q (by omega)]; exact (hT q (by omega) hq2).2.2) N (Nat.le_refl _)
       · exact TabAt.cg (t := s 156) (fun q hq => (ej q (by omega)).symm) (hT j (by omega) h5))
termination_by c
decreasing_by all_goals omega
theorem l_foC2 {d : Nat} {s : mSt} {Q : mQ} {D : Nat → Int} {N : Nat} {b : Nat} (hN : N ≤ 6) (hA : ∀ i w : Nat, i < N → w < N → s 155 (6 * (i : Int) + (w : Int)).toNat = moF D i w) (hT : Tab (moF D) N (s 156)) (p n k : Nat) (c : Int) {all : Int} (hb : b + 1 < 2 ^ N) (hp : pcF (b : Int) = (p : Int)) (hk : k + n + 1 = N) (hc : c = (k : Int)) (hex : ∃ w, k ≤ w ∧ w < N ∧ Gd (moF D) (s 156) b w) (kk : WP (d + 6) 232 152 [some (.inr (.inr 146)), some (.inl (N : Int)), some (.inl (D 38)), some (.inl all), some (.inl (b : Int)), some (.inl (p : Int)), some (.inl ((fsF (moF D) (s 156) b n k : Nat) : Int))] [] (encA (s)) (Q)) : WP (d + 6) 232 121 [some (.inr (.inr 146)), some (.inl (N : Int)), some (.inl (D 38)), some (.inl all), some (.inl (b : Int)), some (.inl (p : Int)), some (.inl c)] [] (encA (s)) (Q) := by
  subst hc
  have h64 := pow_64 hN
  have h5 := fc_5 hN hb
  have hpc := pcF_rng (b : Int)
  have hpw : 1 ≤ 2 ^ k := Nat.one_le_two_pow
  have hbr := bitN_rng (b : Int) k
  have hmr := moF_rng D (pcF (b : Int)).toNat k
  have ht0 := (hT b (by omega)).2.2
  have hmv : s 155 (6 * (p : Int) + (k : Int)).toNat = moF D (pcF (b : Int)).toNat k := by rw [hp, Int.toNat_natCast]; exact hA p k (by omega) (by omega)
  refine w_ldI rfl rfl ?_
  refine w_ldI rfl rfl ?_
  refine w_bin rfl ?_
  refine w_push rfl ?_
  refine w_bin rfl ?_
  rw [m_bit (by omega) (by omega)]
  refine w_push rfl ?_
  refine w_crEq rfl (by omega) (by omega) (fun b127 => ?_) (fun b127 => ?_)
  · first
    | (exfalso; omega)
    | (refine w_inc_7_6 rfl rfl ?_
       refine w_go rfl ?_
       have hng : ¬ Gd (moF D) (s 156) b k := by
         first
         | exact fun h => b149 h.2
         | exact fun h => by have := h.1; omega
       obtain ⟨w, h1, h2, h3⟩ := hex
       have hwk : w ≠ k := fun e => hng (e ▸ h3)
       obtain ⟨n, rfl⟩ : ∃ m, n = m + 1 := ⟨n - 1, by omega⟩
       exact l_foC2 hN hA hT p n (k + 1) ((k : Int) + 1) hb hp (by omega) (by omega) ⟨w, by omega, h2, h3⟩ (by rw [fsF_n hng] at kk; exact kk))
  · first
    | (exfalso; omega)
    | (refine w_ldR rfl rfl rfl ?_
       first | refine w_getI rfl rfl rfl rfl rfl ?_ | refine w_getR rfl rfl rfl rfl rfl ?_
       refine w_push rfl ?_
       refine w_ldI rfl rfl ?_
       refine w_mul rfl ?_
       refine w_ldI rfl rfl ?_
       refine w_add rfl ?_
       refine w_ald rfl rfl rfl (by omega) rfl ?_
       rw [hmv]
       refine w_ldR rfl rfl rfl ?_
       first | refine w_getI rfl rfl rfl rfl rfl ?_ | refine w_getR rfl rfl rfl rfl rfl ?_
       refine w_ldI rfl rfl ?_
       refine w_push rfl ?_
       refine w_ldI rfl rfl ?_
       refine w_bin rfl ?_
       refine w_bin rfl ?_
       have hlt1 := fc_1 (N := N) hN (by omega) (show k < N by omega) (show bitN (b : Int) k = 0 by omega)
       rw [fc_2 (by omega) (by omega) (by omega)]
       refine w_ald rfl rfl rfl (by omega) rfl ?_
       rw [Int.toNat_natCast]
       have ht1 := (hT (b + 2 ^ k) (fc_1 hN (by omega) (by omega) (by omega))).2.2
       refine w_add rfl ?_
       refine w_ldR rfl rfl rfl ?_
       first | refine w_getI rfl rfl rfl rfl rfl ?_ | refine w_getR rfl rfl rfl rfl rfl ?_
       refine w_ldI rfl rfl ?_
       refine w_ald rfl rfl rfl (by omega) rfl ?_
       rw [Int.toNat_natCast]
       refine w_crEq rfl (by omega) (by omega) (fun b149 => ?_) (fun b149 => ?_)
       · first
         | (exfalso; omega)
         | (have hg : Gd (moF D) (s 156) b k := ⟨by omega, b149⟩
            rw [fsF_y hg] at kk
            exact kk)
       · first
         | (exfalso; omega)
         | (refine w_inc_7_6 rfl rfl ?_
            refine w_go rfl ?_
            have hng : ¬ Gd (moF D) (s 156) b k := by
              first
              | exact fun h => b149 h.2
              | exact fun h => by have := h.1; omega
            obtain ⟨w, h1, h2, h3⟩ := hex
            have hwk : w ≠ k := fun e => hng (e ▸ h3)
            obtain ⟨n, rfl⟩ : ∃ m, n = m + 1 := ⟨n - 1, by omega⟩
            exact l_foC2 hN hA hT p n (k + 1) ((k : Int) + 1) hb hp (by omega) (by omega) ⟨w, by omega, h2, h3⟩ (by rw [fsF_n hng] at kk; exact kk)))
termination_by n
decreasing_by all_goals omega
theorem l_foC1 {d : Nat} {s : mSt} {P : Int → mSt → Prop} {s0 : mSt} {D : Nat → Int} {N : Nat} (hN : N ≤ 6) (hA : ∀ i w : Nat, i < N → w < N → s 155 (6 * (i : Int) + (w : Int)).toNat = moF D i w) (hT : Tab (moF D) N (s 156)) (i : Nat) (ii st : Int) {all : Int} {x6 : Option mAV} (hi : i ≤ N) (hii : ii = (i : Int)) (hst : st = ((sqF (moF D) N (s 156) i : Nat) : Int)) (hR : ∀ j : Nat, j < i → s 157 j = ((chF (moF D) N (s 156) (sqF (moF D) N (s 156) j) : Nat) : Int)) (hf : Fr [157] s0 s) (hP : ∀ s1, Fr [157] s0 s1 → (∀ j : Nat, j < N → s1 157 j = ((chF (moF D) N (s1 156) (sqF (moF D) N (s1 156) j) : Nat) : Int)) → P (s1 156 0) s1) : WP (d + 6) 232 116 [some (.inr (.inr 146)), some (.inl (N : Int)), some (.inl (D 38)), some (.inl all), some (.inl st), some (.inl ii), x6] [] (encA (s)) (QI P) := by
  subst hii
  subst hst
  refine w_ldI rfl rfl ?_
  refine w_ldI rfl rfl ?_
  refine w_crGe rfl (by omega) (by omega) (fun b118 => ?_) (fun b118 => ?_)
  · first
    | (exfalso; omega)
    | (refine w_ldR rfl rfl rfl ?_
       first | refine w_getI rfl rfl rfl rfl rfl ?_ | refine w_getR rfl rfl rfl rfl rfl ?_
       refine w_push rfl ?_
       refine w_aldk 0 rfl rfl rfl rfl rfl rfl ?_
       refine w_retI rfl ?_
       obtain rfl : i = N := by omega
       exact hP s hf hR)
  · first
    | (exfalso; omega)
    | (refine w_push rfl ?_
       refine w_StI_7_6 rfl rfl ?_
       have hlt := sqF_lt hN (moF_rng D) hT (i := i) (by omega)
       have hok := sqF_ok hN (moF_rng D) hT i (by omega)
       have h64 := pow_64 hN
       have hg := chF_gd hN (moF_rng D) hT hlt
       obtain ⟨w, hw1, hw2⟩ := Gd.ex hN (moF_rng D) hT hlt
       refine l_foC2 hN hA hT i (N - 1) 0 0 hlt hok.2 (by omega) rfl ⟨w, by omega, hw1, hw2⟩ ?_
       refine w_ldR rfl rfl rfl ?_
       refine w_getR rfl rfl rfl rfl rfl ?_
       refine w_ldI rfl rfl ?_
       refine w_ldI rfl rfl ?_
       refine w_ast rfl rfl rfl (by omega) rfl ?_
       rw [Int.toNat_natCast]
       refine w_ldI rfl rfl ?_
       refine w_push rfl ?_
       refine w_ldI rfl rfl ?_
       refine w_bin rfl ?_
       refine w_bin rfl ?_
       have e : m_or ((sqF (moF D) N (s 156) i : Nat) : Int) (m_shl 1 ((fsF (moF D) (s 156) (sqF (moF D) N (s 156) i) (N - 1) 0 : Nat) : Int)) = ((sqF (moF D) N (s 156) (i + 1) : Nat) : Int) := fc_2 (by omega) (by have := hg.2; unfold chF at this; omega) hg.1.1
       rw [e]
       refine w_StI_7_4 rfl rfl ?_
       refine w_inc_7_5 rfl rfl ?_
       refine w_go rfl ?_
       have e6 : ∀ v : Int, us s 157 i v 156 = s 156 := fun v => us_ne (by decide)
       refine l_foC1 (D := D) hN (fun i w h1 h2 => by rw [us_ne (by decide)]; exact hA i w h1 h2) (by rw [e6]; exact hT) (i + 1) ((i : Int) + 1) _ (by omega) (by omega) (by rw [e6]) (fun j hj => ?_) (hf.tr (Fr.us rfl)) hP
       rw [us_eq, us_ne (show (156 : Nat) ≠ 157 by decide)]
       unfold mup
       by_cases e1 : j = i
       · rw [if_pos e1, e1]; rfl
       · rw [if_neg e1]; exact hR j (by omega))
termination_by N - i
decreasing_by all_goals omega
theorem z_foB {d : Nat} {s s0 : mSt} {D : Nat → Int} {N : Nat} {x4 : Option mAV} (hN : N ≤ 6) (hf : Fr [147, 151, 153, 154, 155] s0 s) (hb : ∀ j, j ≠ 38 → s 147 j = D j) (hA : ∀ i w : Nat, i < N → w < N → s 155 (6 * (i : Int) + (w : Int)).toNat = moF D i w) : WP (d + 6) 232 43 [some (.inr (.inr 146)), some (.inl (N : Int)), some (.inl (D 38)), some (.inl (N : Int)), x4, none, none] [] (encA (s)) (QI (fun v s1 => Fr [147, 151, 153, 154, 155, 156, 157] s0 s1 ∧ s1 147 = D ∧ Tab (moF D) N (s1 156) ∧ v = s1 156 0 ∧ (∀ j : Nat, j < N → s1 157 j = ((chF (moF D) N (s1 156) (sqF (moF D) N (s1 156) j) : Nat) : Int)))) := by
  have h64 := pow_64 hN
  have hsl := m_shl_1 (n := (N : Int)) (by omega)
  rw [Int.toNat_natCast] at hsl
  have hDD : us s 147 38 (D 38) 147 = D := by
    rw [us_eq]
    funext j
    unfold mup
    by_cases e : j = 38
    · rw [if_pos e, e]
    · rw [if_neg e]; exact hb j e
  refine w_ldR rfl rfl rfl ?_
  first | refine w_getI rfl rfl rfl rfl rfl ?_ | refine w_getR rfl rfl rfl rfl rfl ?_
  refine w_push rfl ?_
  refine w_ldI rfl rfl ?_
  refine w_astk 38 rfl rfl rfl rfl rfl rfl ?_
  refine w_push rfl ?_
  refine w_ldI rfl rfl ?_
  refine w_bin rfl ?_
  rw [hsl]
  refine w_push rfl ?_
  refine w_sub rfl ?_
  refine w_StI_7_3 rfl rfl ?_
  refine w_ldR rfl rfl rfl ?_
  first | refine w_getI rfl rfl rfl rfl rfl ?_ | refine w_getR rfl rfl rfl rfl rfl ?_
  refine w_ldI rfl rfl ?_
  refine w_push rfl ?_
  refine w_ast rfl rfl rfl (by omega) rfl ?_
  refine w_ldI rfl rfl ?_
  refine w_push rfl ?_
  refine w_sub rfl ?_
  refine w_StI_7_4 rfl rfl ?_
  have e0 : (((2 ^ N : Nat) : Int) - 1).toNat = 2 ^ N - 1 := by omega
  generalize hs9 : us s 147 38 (D 38) = s9 at hDD ⊢
  have f9 : Fr [147] s s9 := by rw [← hs9]; exact Fr.us rfl
  refine l_foB1 (s0 := us s9 156 (((2 ^ N : Nat) : Int) - 1).toNat 0) (D := D) hN (fun i w h1 h2 => by rw [us_ne (by decide), f9.at 155 rfl]; exact hA i w h1 h2) (2 ^ N - 1) _ (by omega) (by omega) (fun j h1 h2 => ?_) Fr.rf (fun s1 x4 x5 h1 h2 => ?_)
  · obtain rfl : j = 2 ^ N - 1 := by omega
    rw [e0, us_eq]
    exact ⟨fun _ => mup_eq _ _ _, fun q => by omega, by rw [mup_eq]; omega⟩
  · refine w_push rfl ?_
    refine w_StI_7_4 rfl rfl ?_
    refine w_push rfl ?_
    refine w_StI_7_5 rfl rfl ?_
    refine l_foC1 (s0 := s1) (D := D) hN (fun i w h3 h4 => by rw [h1.at 155 rfl, us_ne (by decide), f9.at 155 rfl]; exact hA i w h3 h4) h2 0 0 0 (by omega) rfl rfl (fun j hj => by omega) Fr.rf (fun s2 h3 h4 => ?_)
    refine ⟨(((Fr.mono rfl hf).tr (Fr.mono rfl f9)).tr (Fr.us rfl)).tr ((Fr.mono rfl h1).tr (Fr.mono rfl h3)), ?_, by rw [h3.at 156 rfl]; exact h2, rfl, h4⟩
    rw [h3.at 147 rfl, h1.at 147 rfl, us_ne (by decide)]
    exact hDD
theorem m_findOrder {d : Nat} {s : mSt} {D : Nat → Int} (hD : s 147 = D) (hM : MOk D) (hC : COk D)  (h99 : D 38 ≤ 9999) {N : Nat} (hN : (N : Int) = D 39) : CI (d + 6) 232 [.inr (.inr 146)] (s) (fun v s1 => Fr [147, 151, 153, 154, 155, 156, 157] s s1 ∧ s1 147 = D ∧ Tab (moF D) N (s1 156) ∧ v = s1 156 0 ∧ (∀ j : Nat, j < N → s1 157 j = ((chF (moF D) N (s1 156) (sqF (moF D) N (s1 156) j) : Nat) : Int))) := by
  refine CI.mk rfl ?_
  show WP (d + 6) 232 0 [some (.inr (.inr 146)), none, none, none, none, none, none] [] (encA (s)) _
  have hM0 := hM
  obtain ⟨hM39, hM40, hM41, hM43, hM44, hM36, hM37, hM38, hMc, hMw, hMp, hMt, hMb⟩ := hM
  refine w_ldR rfl rfl rfl ?_
  first | refine w_getI rfl rfl rfl rfl rfl ?_ | refine w_getR rfl rfl rfl rfl rfl ?_
  try simp only [hD]
  refine w_push rfl ?_
  refine w_aldk 39 rfl rfl rfl rfl rfl rfl ?_
  rw [hD, ← hN]
  refine w_StI_7_1 rfl rfl ?_
  refine w_ldR rfl rfl rfl ?_
  first | refine w_getI rfl rfl rfl rfl rfl ?_ | refine w_getR rfl rfl rfl rfl rfl ?_
  try simp only [hD]
  refine w_push rfl ?_
  refine w_aldk 38 rfl rfl rfl rfl rfl rfl ?_
  rw [hD]
  refine w_StI_7_2 rfl rfl ?_
  refine w_push rfl ?_
  refine w_StI_7_3 rfl rfl ?_
  exact l_foA1 (s0 := s) ⟨hN, by omega⟩ hM0 hC h99 Fr.rf 0 0 (fun j _ => by rw [hD]) (by omega) rfl (fun i1 w1 h1 h2 => by omega) (fun s1 x4 h1 h2 h3 => z_foB (by omega) h1 h2 h3)
theorem m_order_y {d : Nat} {s : mSt} {D : Nat → Int} (hD : s 147 = D) (hM : MOk D) (hC : COk D) {q : Int} (hrq : -2147483648 ≤ q ∧ q < 2147483648) (h99 : D 38 ≤ 9999) {N : Nat} (hNn : (N : Int) = D 39) (hy : -1 ≤ q ∧ q ≤ 5) (hz : q < D 39) : CI (d + 7) 233 [.inr (.inr 146), .inl q] (s) (fun r s1 => (∃ t, Tab (moF D) N t ∧ r = if q < 0 then t 0 else ((chF (moF D) N t (sqF (moF D) N t q.toNat) : Nat) : Int)) ∧ s1 147 = D ∧ Fr [147, 151, 153, 154, 155, 156, 157] s s1) := by
  refine CI.mk rfl ?_
  show WP (d + 7) 233 0 [some (.inr (.inr 146)), some (.inl q), none] [] (encA (s)) _
  have hM0 := hM
  obtain ⟨hM39, hM40, hM41, hM43, hM44, hM36, hM37, hM38, hMc, hMw, hMp, hMt, hMb⟩ := hM
  refine w_ldI rfl rfl ?_
  refine w_i2lr rfl (by omega) ?_
  refine w_push rfl ?_
  refine w_push rfl ?_
  refine w_call rfl rfl rfl (r_in (by omega) (by omega) (by omega)) ?_
  try simp only [hD]
  refine w_bNe0 rfl (fun b5 => ?_) (fun b5 => ?_)
  · first
    | (exfalso; omega)
    | (refine w_ldR rfl rfl rfl ?_
       refine w_callWI rfl rfl rfl rfl rfl rfl rfl (m_findOrder hD hM0 hC h99 hNn) (fun v11 s11 p11 => ?_)
       obtain ⟨f11, d11, t11, rfl, r11⟩ := p11
       have ht0 := (t11 0 Nat.one_le_two_pow).2.2
       refine w_StI_3_2 rfl rfl ?_
       refine w_ldI rfl rfl ?_
       refine w_irGe0 rfl (by omega) (fun b14 => ?_) (fun b14 => ?_)
       · first
         | (exfalso; omega)
         | (refine w_ldI rfl rfl ?_
            refine w_ldR rfl rfl rfl ?_
            first | refine w_getI rfl rfl rfl rfl rfl ?_ | refine w_getR rfl rfl rfl rfl rfl ?_
            try simp only [hD]
            refine w_push rfl ?_
            refine w_aldk 39 rfl rfl rfl rfl rfl rfl ?_
            rw [d11]
            refine w_crGe rfl (by omega) (by omega) (fun b22 => ?_) (fun b22 => ?_)
            · first
              | (exfalso; omega)
              | (exfalso; omega)
            · first
              | (exfalso; omega)
              | (refine w_ldR rfl rfl rfl ?_
                 first | refine w_getI rfl rfl rfl rfl rfl ?_ | refine w_getR rfl rfl rfl rfl rfl ?_
                 try simp only [hD]
                 refine w_ldI rfl rfl ?_
                 refine w_ald rfl rfl rfl (by omega) rfl ?_
                 try simp only [hD]
                 refine w_go rfl ?_
                 refine w_retI rfl ?_
                 first
                 | exact ⟨⟨_, t11, by rw [if_pos (by omega)]⟩, d11, f11⟩
                 | exact ⟨⟨_, t11, by rw [if_neg (by omega)]; exact r11 q.toNat (by omega)⟩, d11, f11⟩))
       · first
         | (exfalso; omega)
         | (refine w_ldI rfl rfl ?_
            refine w_go rfl ?_
            refine w_retI rfl ?_
            first
            | exact ⟨⟨_, t11, by rw [if_pos (by omega)]⟩, d11, f11⟩
            | exact ⟨⟨_, t11, by rw [if_neg (by omega)]; exact r11 q.toNat (by omega)⟩, d11, f11⟩))
  · first
    | (exfalso; omega)
    | (refine w_ldR rfl rfl rfl ?_
       refine w_push rfl ?_
       refine w_callV rfl rfl rfl rfl rfl rfl rfl r_finds1 ?_
       try simp only [hD]
       refine w_retI rfl ?_
       first
       | exact ⟨⟨_, t11, by rw [if_pos (by omega)]⟩, d11, f11⟩
       | exact ⟨⟨_, t11, by rw [if_neg (by omega)]; exact r11 q.toNat (by omega)⟩, d11, f11⟩)
theorem m_order_n {d : Nat} {s : mSt} {D : Nat → Int} (hD : s 147 = D) (hM : MOk D) (hC : COk D) {q : Int} (hrq : -2147483648 ≤ q ∧ q < 2147483648) (hy : ¬ (-1 ≤ q ∧ q ≤ 5)) : CI (d + 7) 233 [.inr (.inr 146), .inl q] (s) (fun r s1 => r = -1000000000 - 1 ∧ s1 = us s 150 1 (s 150 1 + 1)) := by
  refine CI.mk rfl ?_
  show WP (d + 7) 233 0 [some (.inr (.inr 146)), some (.inl q), none] [] (encA (s)) _
  have hM0 := hM
  obtain ⟨hM39, hM40, hM41, hM43, hM44, hM36, hM37, hM38, hMc, hMw, hMp, hMt, hMb⟩ := hM
  refine w_ldI rfl rfl ?_
  refine w_i2lr rfl (by omega) ?_
  refine w_push rfl ?_
  refine w_push rfl ?_
  refine w_call rfl rfl rfl (r_in (by omega) (by omega) (by omega)) ?_
  try simp only [hD]
  refine w_bNe0 rfl (fun b5 => ?_) (fun b5 => ?_)
  · first
    | (exfalso; omega)
    | (exfalso; omega)
  · first
    | (exfalso; omega)
    | (refine w_ldR rfl rfl rfl ?_
       refine w_push rfl ?_
       refine w_callV rfl rfl rfl rfl rfl rfl rfl r_finds1 ?_
       try simp only [hD]
       refine w_retI rfl ?_
       exact ⟨rfl, rfl⟩)
theorem m_order_o {d : Nat} {s : mSt} {D : Nat → Int} (hD : s 147 = D) (hM : MOk D) (hC : COk D) {q : Int} (hrq : -2147483648 ≤ q ∧ q < 2147483648) (h99 : D 38 ≤ 9999) {N : Nat} (hNn : (N : Int) = D 39) (hy : -1 ≤ q ∧ q ≤ 5) (hz : ¬ q < D 39) : CI (d + 7) 233 [.inr (.inr 146), .inl q] (s) (fun r s1 => r = -1000000000 - 2 ∧ ∃ t, t 147 = D ∧ Fr [147, 151, 153, 154, 155, 156, 157] s t ∧ s1 = us t 150 2 (t 150 2 + 1)) := by
  refine CI.mk rfl ?_
  show WP (d + 7) 233 0 [some (.inr (.inr 146)), some (.inl q), none] [] (encA (s)) _
  have hM0 := hM
  obtain ⟨hM39, hM40, hM41, hM43, hM44, hM36, hM37, hM38, hMc, hMw, hMp, hMt, hMb⟩ := hM
  refine w_ldI rfl rfl ?_
  refine w_i2lr rfl (by omega) ?_
  refine w_push rfl ?_
  refine w_push rfl ?_
  refine w_call rfl rfl rfl (r_in (by omega) (by omega) (by omega)) ?_
  try simp only [hD]
  refine w_bNe0 rfl (fun b5 => ?_) (fun b5 => ?_)
  · first
    | (exfalso; omega)
    | (refine w_ldR rfl rfl rfl ?_
       refine w_callWI rfl rfl rfl rfl rfl rfl rfl (m_findOrder hD hM0 hC h99 hNn) (fun v11 s11 p11 => ?_)
       obtain ⟨f11, d11, t11, rfl, r11⟩ := p11
       have ht0 := (t11 0 Nat.one_le_two_pow).2.2
       refine w_StI_3_2 rfl rfl ?_
       refine w_ldI rfl rfl ?_
       refine w_irGe0 rfl (by omega) (fun b14 => ?_) (fun b14 => ?_)
       · first
         | (exfalso; omega)
         | (refine w_ldI rfl rfl ?_
            refine w_ldR rfl rfl rfl ?_
            first | refine w_getI rfl rfl rfl rfl rfl ?_ | refine w_getR rfl rfl rfl rfl rfl ?_
            try simp only [hD]
            refine w_push rfl ?_
            refine w_aldk 39 rfl rfl rfl rfl rfl rfl ?_
            rw [d11]
            refine w_crGe rfl (by omega) (by omega) (fun b22 => ?_) (fun b22 => ?_)
            · first
              | (exfalso; omega)
              | (refine w_ldR rfl rfl rfl ?_
                 refine w_push rfl ?_
                 refine w_callV rfl rfl rfl rfl rfl rfl rfl r_finds2 ?_
                 try simp only [hD]
                 refine w_retI rfl ?_
                 exact ⟨rfl, s11, d11, f11, rfl⟩)
            · first
              | (exfalso; omega)
              | (exfalso; omega))
       · first
         | (exfalso; omega)
         | (refine w_ldI rfl rfl ?_
            exfalso; omega))
  · first
    | (exfalso; omega)
    | (refine w_ldR rfl rfl rfl ?_
       refine w_push rfl ?_
       refine w_callV rfl rfl rfl rfl rfl rfl rfl r_finds2 ?_
       try simp only [hD]
       refine w_retI rfl ?_
       exact ⟨rfl, s11, d11, f11, rfl⟩)
theorem st_order {X : Nat → Int} {N : Int} {d : Nat} {s : mSt} {cnt : Int} (hI : Inv X N s cnt) {q : Int} (hrq : -2147483648 ≤ q ∧ q < 2147483648) : Step X N (d + 150) s cnt 122 233 [.inl q] := by
  have hI0 := hI
  obtain ⟨hD, -, -, -, -, hT, -, hX, hU⟩ := hI
  have hD0 := hD
  obtain ⟨⟨hM, hC, hN⟩, hV, h8⟩ := hD
  have hV0 := hV
  have hM0 := hM
  obtain ⟨vc, vpl, vga, vse, vne, veg, vre, vtu, vta, vwa, v36, v37, v39, v40, v42, v41, v43, v44, vl0, vl1, vlm⟩ := hV
  obtain ⟨hM39, hM40, hM41, hM43, hM44, hM36, hM37, hM38, hMc, hMw, hMp, hMt, hMb⟩ := hM
  obtain ⟨n, hNn⟩ : ∃ n : Nat, (n : Int) = s 147 39 := ⟨(s 147 39).toNat, by omega⟩
  by_cases hy : -1 ≤ q ∧ q ≤ 5
  · by_cases hz : q < s 147 39
    · obtain ⟨r1, s1, k1, ⟨t1, ht1, hr⟩, f1⟩ := x_order_y (d := d + 144) hD0 hrq hNn hy hz
      have e : s1 147 = s 147 := f1.at 147 rfl
      obtain ⟨r2, s2, k2, ⟨t2, ht2, hr2⟩, e2, f2⟩ := m_order_y (d := d + 143) (s := s1) e hM0 hC hrq hN hNn hy hz
      have hp := pow_64 (N := n) (by omega)
      have hu := Tab.uni (N := n) (by omega) ht1 ht2 (2 ^ n - 1) 0 (by omega)
      refine Step.mk (by first | exact ⟨(f1.at 1 rfl).trans hX.2.1, (congrFun (f1.at 0 rfl) 1).trans hX.2.2⟩ | exact ⟨hX.2.1, hX.2.2⟩ | exact ⟨by rw [hs1, us_ne (by decide)]; exact hX.2.1, by rw [hs1, us_ne (by decide)]; exact hX.2.2⟩ | exact ⟨by rw [hs1, us_ne (by decide), us_ne (by decide)]; exact hX.2.1, by rw [hs1, us_ne (by decide), us_ne (by decide)]; exact hX.2.2⟩ | exact ⟨by rw [e1, us_ne (by decide), f1.at 1 rfl]; exact hX.2.1, by rw [e1, us_ne (by decide), f1.at 0 rfl]; exact hX.2.2⟩ | exact ⟨by rw [ft.at 1 rfl, hx 1 (by decide) (by decide)]; exact hX.2.1, by rw [ft.at 0 rfl, et, newL_0, mup_ne (by decide)]; exact hX.2.2⟩) k1 k2 ?_ ?_
      · rw [hr, hr2]
        by_cases hq : q < 0
        · rw [if_pos hq, if_pos hq]; exact (hu 0 (Nat.le_refl _) (by omega)).symm
        · rw [if_neg hq, if_neg hq, (sqF_uni (N := n) (by omega) (moF_rng _) ht1 ht2 (fun j hj => hu j (Nat.zero_le _) hj) q.toNat (by omega)).2]
      · have hf := (Fr.mono (B := [38, 46, 128, 129, 133, 134, 147, 151, 153, 154, 155, 156, 157]) rfl f1).tr (Fr.mono rfl f2)
        exact hI0.vil rfl rfl (by omega) hf (IvD.mk e2 hM0 hC hN ((hV0.fr rfl f1).fr (s1 := s2) rfl f2) (by rw [hf.at 13 rfl]; exact h8)) (hT.d (fun i hi => by rw [e2]) (hf.at 148 rfl) (hf.at 149 rfl))
    · obtain ⟨r1, s1, k1, hr, hs1⟩ := x_order_o (d := d + 144) hD0 hrq hy hz
      have e : s1 147 = s 147 := by rw [hs1]; exact us_ne (by decide)
      obtain ⟨r2, s2, k2, hr2, t, e2, f2, hs2⟩ := m_order_o (d := d + 143) (s := s1) e hM0 hC hrq hN hNn hy hz
      refine Step.mk (by first | exact ⟨(f1.at 1 rfl).trans hX.2.1, (congrFun (f1.at 0 rfl) 1).trans hX.2.2⟩ | exact ⟨hX.2.1, hX.2.2⟩ | exact ⟨by rw [hs1, us_ne (by decide)]; exact hX.2.1, by rw [hs1, us_ne (by decide)]; exact hX.2.2⟩ | exact ⟨by rw [hs1, us_ne (by decide), us_ne (by decide)]; exact hX.2.1, by rw [hs1, us_ne (by decide), us_ne (by decide)]; exact hX.2.2⟩ | exact ⟨by rw [e1, us_ne (by decide), f1.at 1 rfl]; exact hX.2.1, by rw [e1, us_ne (by decide), f1.at 0 rfl]; exact hX.2.2⟩ | exact ⟨by rw [ft.at 1 rfl, hx 1 (by decide) (by decide)]; exact hX.2.1, by rw [ft.at 0 rfl, et, newL_0, mup_ne (by decide)]; exact hX.2.2⟩) k1 k2 (by rw [hr, hr2]) ?_
      have h1 : Inv X N (us s1 150 2 (s1 150 2 + 1)) (cnt + 1) := hI0.err2 hs1
      have f3 : Fr [147, 151, 153, 154, 155, 156, 157] (us s1 150 2 (s1 150 2 + 1)) s2 := fun x hx => by
        rw [hs2, f2.at 150 rfl]
        by_cases h0 : x = 150
        · subst h0; rw [us_eq, us_eq, f2.at 150 rfl]
        · rw [us_ne h0, us_ne h0]; exact f2 x hx
      obtain ⟨b1, -, -, -, -, b6, -, -, -⟩ := id h1
      have e3 : s2 147 = s 147 := by rw [hs2, us_ne (by decide)]; exact e2
      have e4 : us s1 150 2 (s1 150 2 + 1) 147 = s 147 := by rw [us_ne (by decide)]; exact e
      have hV1 : VN13 (us s1 150 2 (s1 150 2 + 1)) (s 147) := by have := b1.2.1; rw [e4] at this; exact this
      exact h1.vil rfl rfl (by omega) f3 (IvD.mk e3 hM0 hC hN (hV1.fr rfl f3) (by rw [f3.at 13 rfl]; have := b1.2.2; rw [e4] at this; exact this)) (b6.d (fun i hi => by rw [e3, e4]) (f3.at 148 rfl) (f3.at 149 rfl))
  · obtain ⟨r1, s1, k1, hr, hs1⟩ := x_order_n (d := d + 144) hD0 hrq hy
    have e : s1 147 = s 147 := by rw [hs1]; exact us_ne (by decide)
    obtain ⟨r2, s2, k2, hr2, hs2⟩ := m_order_n (d := d + 143) (s := s1) e hM0 hC hrq hy
    rw [hs2] at k2
    exact Step.mk (by first | exact ⟨(f1.at 1 rfl).trans hX.2.1, (congrFun (f1.at 0 rfl) 1).trans hX.2.2⟩ | exact ⟨hX.2.1, hX.2.2⟩ | exact ⟨by rw [hs1, us_ne (by decide)]; exact hX.2.1, by rw [hs1, us_ne (by decide)]; exact hX.2.2⟩ | exact ⟨by rw [hs1, us_ne (by decide), us_ne (by decide)]; exact hX.2.1, by rw [hs1, us_ne (by decide), us_ne (by decide)]; exact hX.2.2⟩ | exact ⟨by rw [e1, us_ne (by decide), f1.at 1 rfl]; exact hX.2.1, by rw [e1, us_ne (by decide), f1.at 0 rfl]; exact hX.2.2⟩ | exact ⟨by rw [ft.at 1 rfl, hx 1 (by decide) (by decide)]; exact hX.2.1, by rw [ft.at 0 rfl, et, newL_0, mup_ne (by decide)]; exact hX.2.2⟩) k1 k2 (by rw [hr, hr2]) (hI0.err2 hs1)
