/-! ===== order: runs ===== -/
theorem k_metFrom {d : Nat} {s : mSt} {b w N : Nat} (hN : N ≤ 6) (hb : b + 1 < 2 ^ N) (hw : w < N) (hbit : bitN (b : Int) w = 0) : Call (d + 1) 155 [.inr (.inr 10), .inl (b : Int), .inl (w : Int)] (encA (s)) (some (.inl (s 133 ((w : Int) * 6 + pcF (b : Int)).toNat + s 134 (b + 2 ^ w)))) (encA (s)) := by
  refine CI.ex (CI.mk rfl ?_)
  show WP (d + 1) 155 0 [some (.inr (.inr 10)), some (.inl (b : Int)), some (.inl (w : Int))] [] (encA (s)) _
  have h64 := pow_64 hN
  have h5 := fc_5 hN hb
  have h1 := fc_1 hN (by omega) hw hbit
  have hpc := pcF_rng (b : Int)
  have hpw : 1 ≤ 2 ^ w := Nat.one_le_two_pow
  refine w_ldR rfl rfl rfl ?_
  first | refine w_getI rfl rfl rfl rfl rfl ?_ | refine w_getR rfl rfl rfl rfl rfl ?_
  refine w_ldI rfl rfl ?_
  refine w_push rfl ?_
  refine w_mul rfl ?_
  refine w_ldI rfl rfl ?_
  refine w_call rfl rfl rfl (k_bitCount (by omega)) ?_
  refine w_add rfl ?_
  refine w_ald rfl rfl rfl (by omega) rfl ?_
  refine w_ldR rfl rfl rfl ?_
  first | refine w_getI rfl rfl rfl rfl rfl ?_ | refine w_getR rfl rfl rfl rfl rfl ?_
  refine w_ldI rfl rfl ?_
  refine w_push rfl ?_
  refine w_ldI rfl rfl ?_
  refine w_bin rfl ?_
  refine w_bin rfl ?_
  rw [fc_2 (by omega) (by omega) hbit]
  refine w_ald rfl rfl rfl (by omega) rfl ?_
  rw [Int.toNat_natCast]
  refine w_add rfl ?_
  refine w_retI rfl ?_
  exact ⟨rfl, rfl⟩
theorem k_isBest {d : Nat} {s : mSt} {D : Nat → Int} {b w N : Nat} (hN : N ≤ 6) (hT : Tab (moF D) N (s 134)) (hA : ∀ w i : Nat, w < N → i < N → s 133 ((w : Int) * 6 + (i : Int)).toNat = moF D i w) (hb : b + 1 < 2 ^ N) (hw : w < N) : CI (d + 2) 157 [.inr (.inr 10), .inl (b : Int), .inl (w : Int)] (s) (fun v s1 => ((v = 1 ∧ Gd (moF D) (s 134) b w) ∨ (v = 0 ∧ ¬ Gd (moF D) (s 134) b w)) ∧ s1 = s) := by
  refine CI.mk rfl ?_
  show WP (d + 2) 157 0 [some (.inr (.inr 10)), some (.inl (b : Int)), some (.inl (w : Int))] [] (encA (s)) _
  have h64 := pow_64 hN
  have h5 := fc_5 hN hb
  have hpc := pcF_rng (b : Int)
  have hmv : ∀ w : Nat, w < N → s 133 ((w : Int) * 6 + pcF (b : Int)).toNat = moF D (pcF (b : Int)).toNat w := fun w hw => by have h := hA w (pcF (b : Int)).toNat hw (by omega); rw [show (((pcF (b : Int)).toNat : Nat) : Int) = pcF (b : Int) by omega] at h; exact h
  have hbr := bitN_rng (b : Int) w
  have ht0 := (hT b (by omega)).2.2
  have hmr := moF_rng D (pcF (b : Int)).toNat w
  have hpw : 1 ≤ 2 ^ w := Nat.one_le_two_pow
  refine w_ldI rfl rfl ?_
  refine w_ldI rfl rfl ?_
  refine w_bin rfl ?_
  refine w_push rfl ?_
  refine w_bin rfl ?_
  rw [m_bit (by omega) (by omega)]
  refine w_irNe0 rfl (by omega) (fun b5 => ?_) (fun b5 => ?_)
  · first
    | (exfalso; omega)
    | (refine w_push rfl ?_
       refine w_retB rfl (by first | exact bI_01 _ | decide | omega) ?_
       first
       | exact ⟨Or.inl ⟨rfl, by omega, b14⟩, rfl⟩
       | exact ⟨Or.inr ⟨rfl, fun h => by have := h.1; omega⟩, rfl⟩
       | exact ⟨Or.inr ⟨rfl, fun h => b14 h.2⟩, rfl⟩)
  · first
    | (exfalso; omega)
    | (refine w_ldR rfl rfl rfl ?_
       refine w_ldI rfl rfl ?_
       refine w_ldI rfl rfl ?_
       refine w_callV rfl rfl rfl rfl rfl rfl rfl (k_metFrom hN hb hw (by omega)) ?_
       rw [hmv w hw]
       have ht1 := (hT (b + 2 ^ w) (fc_1 hN (by omega) hw (by omega))).2.2
       refine w_ldR rfl rfl rfl ?_
       first | refine w_getI rfl rfl rfl rfl rfl ?_ | refine w_getR rfl rfl rfl rfl rfl ?_
       refine w_ldI rfl rfl ?_
       refine w_ald rfl rfl rfl (by omega) rfl ?_
       rw [Int.toNat_natCast]
       refine w_crNe rfl (by omega) (by omega) (fun b14 => ?_) (fun b14 => ?_)
       · first
         | (exfalso; omega)
         | (refine w_push rfl ?_
            refine w_retB rfl (by first | exact bI_01 _ | decide | omega) ?_
            first
            | exact ⟨Or.inl ⟨rfl, by omega, b14⟩, rfl⟩
            | exact ⟨Or.inr ⟨rfl, fun h => by have := h.1; omega⟩, rfl⟩
            | exact ⟨Or.inr ⟨rfl, fun h => b14 h.2⟩, rfl⟩)
       · first
         | (exfalso; omega)
         | (refine w_push rfl ?_
            refine w_go rfl ?_
            refine w_retB rfl (by first | exact bI_01 _ | decide | omega) ?_
            first
            | exact ⟨Or.inl ⟨rfl, by omega, b14⟩, rfl⟩
            | exact ⟨Or.inr ⟨rfl, fun h => by have := h.1; omega⟩, rfl⟩
            | exact ⟨Or.inr ⟨rfl, fun h => b14 h.2⟩, rfl⟩))
theorem l_woA2 {d : Nat} {s : mSt} {Q : mQ} {s0 : mSt} {D : Nat → Int} {N : Nat} (hN : (N : Int) = D 39 ∧ N ≤ 6) (hV : VN13 s0 D) (h8 : s0 13 1 = D 38) (hM : MOk D) (hC : COk D) (h99 : D 38 ≤ 9999) (hf : Fr [38, 46, 128, 129, 133] s0 s) (w k : Nat) (i wi : Int) (hw : w < N) (hk : k ≤ N) (hi : i = (k : Int)) (hwi : wi = (w : Int)) (hA : ∀ w1 i1 : Nat, (w1 < w ∨ (w1 = w ∧ i1 < k)) → i1 < N → s 133 ((w1 : Int) * 6 + (i1 : Int)).toNat = moF D i1 w1) (kk : ∀ s1, Fr [38, 46, 128, 129, 133] s0 s1 → (∀ w1 i1 : Nat, w1 < w + 1 → i1 < N → s1 133 ((w1 : Int) * 6 + (i1 : Int)).toNat = moF D i1 w1) → WP (d + 5) 154 36 [some (.inr (.inr 10)), some (.inl (N : Int)), some (.inl (w : Int)), some (.inl (N : Int)), none, none] [] (encA (s1)) (Q)) : WP (d + 5) 154 11 [some (.inr (.inr 10)), some (.inl (N : Int)), some (.inl wi), some (.inl i), none, none] [] (encA (s)) (Q) := by
  subst hi
  subst hwi
  have hVs := (VN13.fr rfl hf hV).cg (D1 := niF D k) (fun j hj => mup_ne hj)
  have hni := niF_ok hM hC h99 (i := k)
  have h8s : s 13 1 = D 38 := by rw [hf.at 13 rfl]; exact h8
  refine w_ldI rfl rfl ?_
  refine w_ldI rfl rfl ?_
  refine w_crGe rfl (by omega) (by omega) (fun b13 => ?_) (fun b13 => ?_)
  · first
    | (exfalso; omega)
    | (obtain rfl : k = N := by omega
       exact kk s hf (fun w1 i1 h1 h2 => hA w1 i1 (by omega) h2))
  · first
    | (exfalso; omega)
    | (refine w_ldR rfl rfl rfl ?_
       first | refine w_getI rfl rfl rfl rfl rfl ?_ | refine w_getR rfl rfl rfl rfl rfl ?_
       refine w_ldI rfl rfl ?_
       refine w_push rfl ?_
       refine w_mul rfl ?_
       refine w_ldI rfl rfl ?_
       refine w_add rfl ?_
       refine w_ldR rfl rfl rfl ?_
       first | refine w_getI rfl rfl rfl rfl rfl ?_ | refine w_getR rfl rfl rfl rfl rfl ?_
       refine w_ldI rfl rfl ?_
       refine w_ldR rfl rfl rfl ?_
       first | refine w_getI rfl rfl rfl rfl rfl ?_ | refine w_getR rfl rfl rfl rfl rfl ?_
       first | refine w_getI rfl rfl rfl rfl rfl ?_ | refine w_getR rfl rfl rfl rfl rfl ?_
       rw [h8s]
       refine w_ldI rfl rfl ?_
       refine w_add rfl ?_
       refine w_ldR rfl rfl rfl ?_
       first | refine w_getI rfl rfl rfl rfl rfl ?_ | refine w_getR rfl rfl rfl rfl rfl ?_
       refine w_callWI rfl rfl rfl rfl rfl rfl rfl (k_metBy13 hVs (hni (by omega)).1 (hni (by omega)).2.1 (by omega) (hni (by omega)).2.2.symm) (fun v31 s31 p31 => ?_)
       obtain ⟨rfl, f31⟩ := p31
       refine w_call rfl rfl rfl (k_bitCount (mtW_1024 (hni (by omega)).1 _)) ?_
       refine w_ast rfl rfl rfl (by omega) rfl ?_
       refine w_inc_6_3 rfl rfl ?_
       refine w_go rfl ?_
       refine l_woA2 hN hV h8 hM hC h99 (hf.tr ((Fr.mono rfl f31).tr (Fr.us rfl))) w (k + 1) ((k : Int) + 1) (w : Int) hw (by omega) (by omega) rfl (fun w1 i1 h1 h2 => ?_) kk
       rw [us_eq]
       unfold mup
       by_cases e : w1 = w ∧ i1 = k
       · rw [if_pos (by omega), e.1, e.2]; rfl
       · rw [if_neg (by omega), f31.at 133 rfl]; exact hA w1 i1 (by omega) h2)
termination_by N - k
decreasing_by all_goals omega
theorem l_woA1 {d : Nat} {s : mSt} {Q : mQ} {s0 : mSt} {D : Nat → Int} {N : Nat} (hN : (N : Int) = D 39 ∧ N ≤ 6) (hV : VN13 s0 D) (h8 : s0 13 1 = D 38) (hM : MOk D) (hC : COk D) (h99 : D 38 ≤ 9999) (hf : Fr [38, 46, 128, 129, 133] s0 s) (w : Nat) (wi : Int) {x3 : Option mAV} (hw : w ≤ N) (hwi : wi = (w : Int)) (hA : ∀ w1 i1 : Nat, w1 < w → i1 < N → s 133 ((w1 : Int) * 6 + (i1 : Int)).toNat = moF D i1 w1) (kk : ∀ s1 x3, Fr [38, 46, 128, 129, 133] s0 s1 → (∀ w1 i1 : Nat, w1 < N → i1 < N → s1 133 ((w1 : Int) * 6 + (i1 : Int)).toNat = moF D i1 w1) → WP (d + 5) 154 38 [some (.inr (.inr 10)), some (.inl (N : Int)), some (.inl (N : Int)), x3, none, none] [] (encA (s1)) (Q)) : WP (d + 5) 154 6 [some (.inr (.inr 10)), some (.inl (N : Int)), some (.inl wi), x3, none, none] [] (encA (s)) (Q) := by
  subst hwi
  refine w_ldI rfl rfl ?_
  refine w_ldI rfl rfl ?_
  refine w_crGe rfl (by omega) (by omega) (fun b8 => ?_) (fun b8 => ?_)
  · first
    | (exfalso; omega)
    | (obtain rfl : w = N := by omega
       exact kk s _ hf hA)
  · first
    | (exfalso; omega)
    | (refine w_push rfl ?_
       refine w_StI_6_3 rfl rfl ?_
       refine l_woA2 hN hV h8 hM hC h99 hf w 0 0 (w : Int) (by omega) (by omega) rfl rfl (fun w1 i1 h1 h2 => hA w1 i1 (by omega) h2) (fun s1 h1 h2 => ?_)
       refine w_inc_6_2 rfl rfl ?_
       refine w_go rfl ?_
       exact l_woA1 hN hV h8 hM hC h99 h1 (w + 1) ((w : Int) + 1) (by omega) (by omega) h2 kk)
termination_by N - w
decreasing_by all_goals omega
theorem l_woB2 {d : Nat} {s : mSt} {Q : mQ} {D : Nat → Int} {N : Nat} (hN : N ≤ 6) (hA : ∀ w i : Nat, w < N → i < N → s 133 ((w : Int) * 6 + (i : Int)).toNat = moF D i w) (b k : Nat) (most i : Int) {all : Int} (hb : b + 1 < 2 ^ N) (hk : k ≤ N) (hi : i = (k : Int)) (hm : most = mxF (moF D) (s 134) b k) (hT : ∀ j, b < j → j < 2 ^ N → TabAt (moF D) N (s 134) j) (kk : ∀ x5, WP (d + 5) 154 77 [some (.inr (.inr 10)), some (.inl (N : Int)), some (.inl all), some (.inl (b : Int)), some (.inl (mxF (moF D) (s 134) b N)), x5] [] (encA (s)) (Q)) : WP (d + 5) 154 59 [some (.inr (.inr 10)), some (.inl (N : Int)), some (.inl all), some (.inl (b : Int)), some (.inl most), some (.inl i)] [] (encA (s)) (Q) := by
  subst hi
  subst hm
  have h64 := pow_64 hN
  have h5 := fc_5 hN hb
  have hpc := pcF_rng (b : Int)
  have hmv : ∀ w : Nat, w < N → s 133 ((w : Int) * 6 + pcF (b : Int)).toNat = moF D (pcF (b : Int)).toNat w := fun w hw => by have h := hA w (pcF (b : Int)).toNat hw (by omega); rw [show (((pcF (b : Int)).toNat : Nat) : Int) = pcF (b : Int) by omega] at h; exact h
  have hbr := bitN_rng (b : Int) k
  have hmr := moF_rng D (pcF (b : Int)).toNat k
  have hmx := mxF_rng (M := moF D) (t := s 134) hN (by omega) (moF_rng D) (fun j h1 h2 => (hT j h1 h2).2.2) k hk
  have hpw : 1 ≤ 2 ^ k := Nat.one_le_two_pow
  refine w_ldI rfl rfl ?_
  refine w_ldI rfl rfl ?_
  refine w_crGe rfl (by omega) (by omega) (fun b61 => ?_) (fun b61 => ?_)
  · first
    | (exfalso; omega)
    | (obtain rfl : k = N := by omega
       exact kk _)
  · first
    | (exfalso; omega)
    | (refine w_ldI rfl rfl ?_
       refine w_ldI rfl rfl ?_
       refine w_bin rfl ?_
       refine w_push rfl ?_
       refine w_bin rfl ?_
       rw [m_bit (by omega) (by omega)]
       refine w_irNe0 rfl (by omega) (fun b67 => ?_) (fun b67 => ?_)
       · first
         | (exfalso; omega)
         | (refine w_inc_6_5 rfl rfl ?_
            refine w_go rfl ?_
            first
            | (refine l_woB2 hN hA b (k + 1) _ ((k : Int) + 1) hb (by omega) (by omega) ?_ hT kk
               rw [m_max_id (by omega) (by omega), mxF, if_pos (by omega)])
            | (refine l_woB2 hN hA b (k + 1) _ ((k : Int) + 1) hb (by omega) (by omega) ?_ hT kk
               rw [mxF, if_neg (by omega)]))
       · first
         | (exfalso; omega)
         | (refine w_ldI rfl rfl ?_
            refine w_ldR rfl rfl rfl ?_
            refine w_ldI rfl rfl ?_
            refine w_ldI rfl rfl ?_
            refine w_callV rfl rfl rfl rfl rfl rfl rfl (k_metFrom hN hb (by omega) (by omega)) ?_
            rw [hmv k (by omega)]
            have ht1 := (hT (b + 2 ^ k) (by have : 1 ≤ 2 ^ k := Nat.one_le_two_pow; omega) (fc_1 hN (by omega) (by omega) (by omega))).2.2
            refine w_m2 rfl rfl ?_
            refine w_StI_6_4 rfl rfl ?_
            refine w_inc_6_5 rfl rfl ?_
            refine w_go rfl ?_
            first
            | (refine l_woB2 hN hA b (k + 1) _ ((k : Int) + 1) hb (by omega) (by omega) ?_ hT kk
               rw [m_max_id (by omega) (by omega), mxF, if_pos (by omega)])
            | (refine l_woB2 hN hA b (k + 1) _ ((k : Int) + 1) hb (by omega) (by omega) ?_ hT kk
               rw [mxF, if_neg (by omega)])))
termination_by N - k
decreasing_by all_goals omega
theorem l_woB1 {d : Nat} {s : mSt} {P : mSt → Prop} {s0 : mSt} {D : Nat → Int} {N : Nat} (hN : N ≤ 6) (hA : ∀ w i : Nat, w < N → i < N → s 133 ((w : Int) * 6 + (i : Int)).toNat = moF D i w) (c : Nat) (were : Int) {all : Int} {x4 x5 : Option mAV} (hc : c + 1 ≤ 2 ^ N) (hwe : were = (c : Int) - 1) (hT : ∀ j, c ≤ j → j < 2 ^ N → TabAt (moF D) N (s 134) j) (hf : Fr [134] s0 s) (hP : ∀ s1, Fr [134] s0 s1 → Tab (moF D) N (s1 134) → P s1) : WP (d + 5) 154 53 [some (.inr (.inr 10)), some (.inl (N : Int)), some (.inl all), some (.inl were), x4, x5] [] (encA (s)) (QV P) := by
  subst hwe
  have h64 := pow_64 hN
  refine w_ldI rfl rfl ?_
  refine w_irLt0 rfl (by omega) (fun b54 => ?_) (fun b54 => ?_)
  · first
    | (exfalso; omega)
    | (refine w_retV rfl ?_
       obtain rfl : c = 0 := by omega
       exact hP s hf (fun j hj => hT j (by omega) hj))
  · first
    | (exfalso; omega)
    | (refine w_push rfl ?_
       refine w_StI_6_4 rfl rfl ?_
       refine w_push rfl ?_
       refine w_StI_6_5 rfl rfl ?_
       obtain ⟨b, rfl⟩ : ∃ b, c = b + 1 := ⟨c - 1, by omega⟩
       refine WP.loc (by rw [show (((b + 1 : Nat) : Int) - 1) = (b : Int) by omega]) (l_woB2 hN hA b 0 0 0 (by omega) (by omega) rfl rfl (fun j h1 h2 => hT j (by omega) h2) (fun x5 => ?_))
       have hmx := mxF_rng (M := moF D) (t := s 134) hN (show b < 2 ^ N by omega) (moF_rng D) (fun j h1 h2 => (hT j (by omega) h2).2.2) N (Nat.le_refl _)
       refine w_ldR rfl rfl rfl ?_
       refine w_getR rfl rfl rfl rfl rfl ?_
       refine w_ldI rfl rfl ?_
       refine w_ldI rfl rfl ?_
       refine w_ast rfl rfl rfl (by omega) rfl ?_
       rw [Int.toNat_natCast]
       refine w_inc_6_3 rfl rfl ?_
       refine w_go rfl ?_
       have eh : ∀ j, b < j → s 134 j = us s 134 b (mxF (moF D) (s 134) b N) 134 j := fun j hj => by rw [us_eq, mup_ne (by omega)]
       refine l_woB1 (D := D) hN (fun w i h1 h2 => by rw [us_ne (by decide)]; exact hA w i h1 h2) b _ (by omega) (by omega) (fun j h1 h2 => ?_) (hf.tr (Fr.us rfl)) hP
       by_cases e : j = b
       · subst e
         refine ⟨fun q => by omega, fun q => ?_, ?_⟩
         · rw [us_eq, mup_eq, ← us_eq s 134 j (mxF (moF D) (s 134) j N), ← mxF_cg (t := s 134) eh]
         · rw [us_eq, mup_eq]; exact hmx
       · exact TabAt.cg (t := s 134) (fun q hq => eh q (by omega)) (hT j (by omega) h2))
termination_by c
decreasing_by all_goals omega
theorem z_weigh {d : Nat} {s s0 : mSt} {D : Nat → Int} {N : Nat} {x3 : Option mAV} (hN : N ≤ 6) (hA : ∀ w i : Nat, w < N → i < N → s 133 ((w : Int) * 6 + (i : Int)).toNat = moF D i w) (hf : Fr [38, 46, 128, 129, 133] s0 s) : WP (d + 5) 154 38 [some (.inr (.inr 10)), some (.inl (N : Int)), some (.inl (N : Int)), x3, none, none] [] (encA (s)) (QV (fun s1 => Fr [38, 46, 128, 129, 133, 134] s0 s1 ∧ Tab (moF D) N (s1 134) ∧ (∀ w i : Nat, w < N → i < N → s1 133 ((w : Int) * 6 + (i : Int)).toNat = moF D i w))) := by
  have h64 := pow_64 hN
  have hsl := m_shl_1 (n := (N : Int)) (by omega)
  rw [Int.toNat_natCast] at hsl
  refine w_push rfl ?_
  refine w_ldI rfl rfl ?_
  refine w_bin rfl ?_
  rw [hsl]
  refine w_push rfl ?_
  refine w_sub rfl ?_
  refine w_StI_6_2 rfl rfl ?_
  refine w_ldR rfl rfl rfl ?_
  first | refine w_getI rfl rfl rfl rfl rfl ?_ | refine w_getR rfl rfl rfl rfl rfl ?_
  refine w_ldI rfl rfl ?_
  refine w_push rfl ?_
  refine w_ast rfl rfl rfl (by omega) rfl ?_
  refine w_ldI rfl rfl ?_
  refine w_push rfl ?_
  refine w_sub rfl ?_
  refine w_StI_6_3 rfl rfl ?_
  have e0 : (((2 ^ N : Nat) : Int) - 1).toNat = 2 ^ N - 1 := by omega
  refine l_woB1 (s0 := us s 134 (((2 ^ N : Nat) : Int) - 1).toNat 0) (D := D) hN (fun w i h1 h2 => by rw [us_ne (by decide)]; exact hA w i h1 h2) (2 ^ N - 1) _ (by omega) (by omega) (fun j h1 h2 => ?_) Fr.rf (fun s1 h1 h2 => ⟨((Fr.mono rfl hf).tr (Fr.us rfl)).tr (Fr.mono rfl h1), h2, fun w i h3 h4 => by rw [h1.at 133 rfl, us_ne (by decide)]; exact hA w i h3 h4⟩)
  obtain rfl : j = 2 ^ N - 1 := by omega
  rw [e0, us_eq]
  exact ⟨fun _ => mup_eq _ _ _, fun q => by omega, by rw [mup_eq]; omega⟩
theorem k_weigh {d : Nat} {s : mSt} (hI : IvD s) {N : Nat} (hN : (N : Int) = s 147 39) : CV (d + 5) 154 [.inr (.inr 10)] (s) (fun s1 => Fr [38, 46, 128, 129, 133, 134] s s1 ∧ Tab (moF (s 147)) N (s1 134) ∧ (∀ w i : Nat, w < N → i < N → s1 133 ((w : Int) * 6 + (i : Int)).toNat = moF (s 147) i w)) := by
  refine CV.mk rfl ?_
  show WP (d + 5) 154 0 [some (.inr (.inr 10)), none, none, none, none, none] [] (encA (s)) _
  have hI0 := hI
  obtain ⟨⟨hM, hC, hN9⟩, hV, h8⟩ := hI
  have hV0 := hV
  have hM0 := hM
  obtain ⟨vc, vpl, vga, vse, vne, veg, vre, vtu, vta, vwa, v36, v37, v39, v40, v42, v41, v43, v44, vl0, vl1, vlm⟩ := hV
  obtain ⟨hM39, hM40, hM41, hM43, hM44, hM36, hM37, hM38, hMc, hMw, hMp, hMt, hMb⟩ := hM
  refine w_ldR rfl rfl rfl ?_
  first | refine w_getI rfl rfl rfl rfl rfl ?_ | refine w_getR rfl rfl rfl rfl rfl ?_
  first | refine w_getI rfl rfl rfl rfl rfl ?_ | refine w_getR rfl rfl rfl rfl rfl ?_
  rw [v39, ← hN]
  refine w_StI_6_1 rfl rfl ?_
  refine w_push rfl ?_
  refine w_StI_6_2 rfl rfl ?_
  exact l_woA1 (D := s 147) ⟨hN, by omega⟩ hV0 h8 hM0 hC hN9 Fr.rf 0 0 (by omega) rfl (fun w1 i1 h1 h2 => by omega) (fun s1 x3 h1 h2 => z_weigh (by omega) h2 h1)
theorem l_wio2 {d : Nat} {s : mSt} {Q : mQ} {D : Nat → Int} {N : Nat} (hN : N ≤ 6) (h39 : s 13 5 = (N : Int)) (hT : Tab (moF D) N (s 134)) (hA : ∀ w i : Nat, w < N → i < N → s 133 ((w : Int) * 6 + (i : Int)).toNat = moF D i w) (b n k : Nat) (c : Int) {q pl : Int} (hb : b + 1 < 2 ^ N) (hk : k + n + 1 = N) (hc : c = (k : Int)) (kk : WP (d + 3) 156 25 [some (.inr (.inr 10)), some (.inl q), some (.inl (b : Int)), some (.inl ((fsF (moF D) (s 134) b n k : Nat) : Int)), some (.inl pl)] [] (encA (s)) (Q)) : WP (d + 3) 156 11 [some (.inr (.inr 10)), some (.inl q), some (.inl (b : Int)), some (.inl c), some (.inl pl)] [] (encA (s)) (Q) := by
  subst hc
  refine w_ldI rfl rfl ?_
  refine w_ldR rfl rfl rfl ?_
  first | refine w_getI rfl rfl rfl rfl rfl ?_ | refine w_getR rfl rfl rfl rfl rfl ?_
  first | refine w_getI rfl rfl rfl rfl rfl ?_ | refine w_getR rfl rfl rfl rfl rfl ?_
  rw [h39]
  refine w_push rfl ?_
  refine w_sub rfl ?_
  refine w_crGe rfl (by omega) (by omega) (fun b17 => ?_) (fun b17 => ?_)
  · first
    | (exfalso; omega)
    | (by_cases h0 : n = 0
       · subst h0; exact kk
       · first
         | (exfalso; omega)
         | (rcases hq with h | h
            · rw [fsF_y h.2] at kk; exact kk
            · exact absurd h.1 b22))
  · first
    | (exfalso; omega)
    | (refine w_ldR rfl rfl rfl ?_
       refine w_ldI rfl rfl ?_
       refine w_ldI rfl rfl ?_
       refine w_callWI rfl rfl rfl rfl rfl rfl rfl (k_isBest (w := k) hN hT hA hb (by omega)) (fun v21 s21 p21 => ?_)
       obtain ⟨hq, rfl⟩ := p21
       refine w_irNe0 rfl (by omega) (fun b22 => ?_) (fun b22 => ?_)
       · first
         | (exfalso; omega)
         | (by_cases h0 : n = 0
            · subst h0; exact kk
            · first
              | (exfalso; omega)
              | (rcases hq with h | h
                 · rw [fsF_y h.2] at kk; exact kk
                 · exact absurd h.1 b22))
       · first
         | (exfalso; omega)
         | (have hng : ¬ Gd (moF D) (s21 134) b k := by rcases hq with h | h; (exfalso; omega); exact h.2
            refine w_inc_5_3 rfl rfl ?_
            refine w_go rfl ?_
            obtain ⟨n, rfl⟩ : ∃ m, n = m + 1 := ⟨n - 1, by omega⟩
            exact l_wio2 hN h39 hT hA b n (k + 1) ((k : Int) + 1) hb (by omega) (by omega) (by rw [fsF_n hng] at kk; exact kk)))
termination_by n
decreasing_by all_goals omega
theorem l_wio1 {d : Nat} {s : mSt} {P : Int → mSt → Prop} {D : Nat → Int} {N : Nat} (hN : N ≤ 6) (h39 : s 13 5 = (N : Int)) (hT : Tab (moF D) N (s 134)) (hA : ∀ w i : Nat, w < N → i < N → s 133 ((w : Int) * 6 + (i : Int)).toNat = moF D i w) (q p : Nat) (pl were ch : Int) (hq : q < N) (hp : p ≤ q + 1) (hpl : pl = (p : Int)) (hwe : were = ((sqF (moF D) N (s 134) p : Nat) : Int)) (hch : p = q + 1 → ch = ((chF (moF D) N (s 134) (sqF (moF D) N (s 134) q) : Nat) : Int)) (hP : P ((chF (moF D) N (s 134) (sqF (moF D) N (s 134) q) : Nat) : Int) s) : WP (d + 3) 156 6 [some (.inr (.inr 10)), some (.inl (q : Int)), some (.inl were), some (.inl ch), some (.inl pl)] [] (encA (s)) (QI P) := by
  subst hpl
  subst hwe
  refine w_ldI rfl rfl ?_
  refine w_ldI rfl rfl ?_
  refine w_crGt rfl (by omega) (by omega) (fun b8 => ?_) (fun b8 => ?_)
  · first
    | (exfalso; omega)
    | (refine w_ldI rfl rfl ?_
       refine w_retI rfl ?_
       obtain rfl : p = q + 1 := by omega
       rw [hch rfl]
       exact hP)
  · first
    | (exfalso; omega)
    | (refine w_push rfl ?_
       refine w_StI_5_3 rfl rfl ?_
       have hlt := sqF_lt hN (moF_rng D) hT (i := p) (by omega)
       have h64 := pow_64 hN
       have hg := chF_gd hN (moF_rng D) hT hlt
       refine l_wio2 hN h39 hT hA (sqF (moF D) N (s 134) p) (N - 1) 0 0 hlt (by omega) rfl ?_
       refine w_ldI rfl rfl ?_
       refine w_push rfl ?_
       refine w_ldI rfl rfl ?_
       refine w_bin rfl ?_
       refine w_bin rfl ?_
       have e : m_or ((sqF (moF D) N (s 134) p : Nat) : Int) (m_shl 1 ((fsF (moF D) (s 134) (sqF (moF D) N (s 134) p) (N - 1) 0 : Nat) : Int)) = ((sqF (moF D) N (s 134) (p + 1) : Nat) : Int) := fc_2 (by omega) (by have := hg.2; unfold chF at this; omega) hg.1.1
       rw [e]
       refine w_StI_5_2 rfl rfl ?_
       refine w_inc_5_4 rfl rfl ?_
       refine w_go rfl ?_
       have hch2 : p + 1 = q + 1 → ((fsF (moF D) (s 134) (sqF (moF D) N (s 134) p) (N - 1) 0 : Nat) : Int) = ((chF (moF D) N (s 134) (sqF (moF D) N (s 134) q) : Nat) : Int) := fun h => by
         have hpq : p = q := by omega
         rw [← hpq]
         rfl
       exact l_wio1 hN h39 hT hA q (p + 1) ((p : Int) + 1) _ _ hq (by omega) (by omega) rfl hch2 hP)
termination_by q + 1 - p
decreasing_by all_goals omega
theorem k_wio {d : Nat} {s : mSt} {D : Nat → Int} {N : Nat} (hN : N ≤ 6) (h39 : s 13 5 = (N : Int)) (hT : Tab (moF D) N (s 134)) (hA : ∀ w i : Nat, w < N → i < N → s 133 ((w : Int) * 6 + (i : Int)).toNat = moF D i w) {q : Nat} (hq : q < N) : CI (d + 3) 156 [.inr (.inr 10), .inl (q : Int)] (s) (fun v s1 => v = ((chF (moF D) N (s 134) (sqF (moF D) N (s 134) q) : Nat) : Int) ∧ s1 = s) := by
  refine CI.mk rfl ?_
  show WP (d + 3) 156 0 [some (.inr (.inr 10)), some (.inl (q : Int)), none, none, none] [] (encA (s)) _
  refine w_push rfl ?_
  refine w_StI_5_2 rfl rfl ?_
  refine w_push rfl ?_
  refine w_StI_5_3 rfl rfl ?_
  refine w_push rfl ?_
  refine w_StI_5_4 rfl rfl ?_
  exact l_wio1 hN h39 hT hA q 0 0 0 0 hq (by omega) rfl rfl (fun h => by omega) ⟨rfl, rfl⟩
theorem x_order_y {d : Nat} {s : mSt} (hI : IvD s) {q : Int} (hrq : -2147483648 ≤ q ∧ q < 2147483648) {N : Nat} (hNn : (N : Int) = s 147 39) (hy : -1 ≤ q ∧ q ≤ 5) (hz : q < s 147 39) : CI (d + 6) 122 [.inr (.inr 10), .inl q] (s) (fun r s1 => (∃ t, Tab (moF (s 147)) N t ∧ r = if q < 0 then t 0 else ((chF (moF (s 147)) N t (sqF (moF (s 147)) N t q.toNat) : Nat) : Int)) ∧ Fr [38, 46, 128, 129, 133, 134] s s1) := by
  refine CI.mk rfl ?_
  show WP (d + 6) 122 0 [some (.inr (.inr 10)), some (.inl q)] [] (encA (s)) _
  have hI0 := hI
  obtain ⟨⟨hM, hC, hN⟩, hV, h8⟩ := hI
  have hV0 := hV
  have hM0 := hM
  obtain ⟨vc, vpl, vga, vse, vne, veg, vre, vtu, vta, vwa, v36, v37, v39, v40, v42, v41, v43, v44, vl0, vl1, vlm⟩ := hV
  obtain ⟨hM39, hM40, hM41, hM43, hM44, hM36, hM37, hM38, hMc, hMw, hMp, hMt, hMb⟩ := hM
  refine w_ldI rfl rfl ?_
  refine w_push rfl ?_
  refine w_crLt rfl (by omega) (by omega) (fun b2 => ?_) (fun b2 => ?_)
  · first
    | (exfalso; omega)
    | (refine w_ldR rfl rfl rfl ?_
       refine w_push rfl ?_
       refine w_callWI rfl rfl rfl rfl rfl rfl rfl k_error1 (fun v8 s8 p8 => ?_)
       obtain ⟨rfl, rfl⟩ := p8
       refine w_retI rfl ?_
       first
       | exact ⟨⟨_, t20, by rw [if_pos (by omega)]⟩, f20⟩
       | exact ⟨⟨_, t20, by rw [if_neg (by omega)]⟩, f20⟩)
  · first
    | (exfalso; omega)
    | (refine w_ldI rfl rfl ?_
       refine w_push rfl ?_
       refine w_crLt rfl (by omega) (by omega) (fun b5 => ?_) (fun b5 => ?_)
       · first
         | (exfalso; omega)
         | (refine w_ldI rfl rfl ?_
            refine w_ldR rfl rfl rfl ?_
            first | refine w_getI rfl rfl rfl rfl rfl ?_ | refine w_getR rfl rfl rfl rfl rfl ?_
            first | refine w_getI rfl rfl rfl rfl rfl ?_ | refine w_getR rfl rfl rfl rfl rfl ?_
            rw [v39]
            refine w_crLt rfl (by omega) (by omega) (fun b14 => ?_) (fun b14 => ?_)
            · first
              | (exfalso; omega)
              | (refine w_ldR rfl rfl rfl ?_
                 refine w_callWN rfl rfl rfl rfl rfl rfl rfl (k_weigh hI0 hNn) (fun s20 p20 => ?_)
                 obtain ⟨f20, t20, a20⟩ := p20
                 have h395 : s20 13 5 = (N : Int) := by rw [f20.at 13 rfl, v39, hNn]
                 refine w_ldI rfl rfl ?_
                 refine w_irGe0 rfl (by omega) (fun b22 => ?_) (fun b22 => ?_)
                 · first
                   | (exfalso; omega)
                   | (refine w_ldR rfl rfl rfl ?_
                      have hqe : q = ((q.toNat : Nat) : Int) := by omega
                      refine WP.loc (show _ = [some (.inr (.inr 10)), some (.inl ((q.toNat : Nat) : Int))] by rw [← hqe]) ?_
                      refine w_ldI rfl rfl ?_
                      refine w_callWI rfl rfl rfl rfl rfl rfl rfl (k_wio (q := q.toNat) (by omega) h395 t20 a20 (by omega)) (fun v30 s30 p30 => ?_)
                      obtain ⟨rfl, rfl⟩ := p30
                      refine w_retI rfl ?_
                      first
                      | exact ⟨⟨_, t20, by rw [if_pos (by omega)]⟩, f20⟩
                      | exact ⟨⟨_, t20, by rw [if_neg (by omega)]⟩, f20⟩)
                 · first
                   | (exfalso; omega)
                   | (refine w_ldR rfl rfl rfl ?_
                      first | refine w_getI rfl rfl rfl rfl rfl ?_ | refine w_getR rfl rfl rfl rfl rfl ?_
                      refine w_push rfl ?_
                      refine w_aldk 0 rfl rfl rfl rfl rfl rfl ?_
                      refine w_go rfl ?_
                      refine w_retI rfl ?_
                      first
                      | exact ⟨⟨_, t20, by rw [if_pos (by omega)]⟩, f20⟩
                      | exact ⟨⟨_, t20, by rw [if_neg (by omega)]⟩, f20⟩))
            · first
              | (exfalso; omega)
              | (exfalso; omega))
       · first
         | (exfalso; omega)
         | (refine w_ldR rfl rfl rfl ?_
            refine w_push rfl ?_
            refine w_callWI rfl rfl rfl rfl rfl rfl rfl k_error1 (fun v8 s8 p8 => ?_)
            obtain ⟨rfl, rfl⟩ := p8
            refine w_retI rfl ?_
            first
            | exact ⟨⟨_, t20, by rw [if_pos (by omega)]⟩, f20⟩
            | exact ⟨⟨_, t20, by rw [if_neg (by omega)]⟩, f20⟩))
theorem x_order_n {d : Nat} {s : mSt} (hI : IvD s) {q : Int} (hrq : -2147483648 ≤ q ∧ q < 2147483648) (hy : ¬ (-1 ≤ q ∧ q ≤ 5)) : CI (d + 6) 122 [.inr (.inr 10), .inl q] (s) (fun r s1 => r = -1000000000 - 1 ∧ s1 = us s 132 1 (s 132 1 + 1)) := by
  refine CI.mk rfl ?_
  show WP (d + 6) 122 0 [some (.inr (.inr 10)), some (.inl q)] [] (encA (s)) _
  have hI0 := hI
  obtain ⟨⟨hM, hC, hN⟩, hV, h8⟩ := hI
  have hV0 := hV
  have hM0 := hM
  obtain ⟨vc, vpl, vga, vse, vne, veg, vre, vtu, vta, vwa, v36, v37, v39, v40, v42, v41, v43, v44, vl0, vl1, vlm⟩ := hV
  obtain ⟨hM39, hM40, hM41, hM43, hM44, hM36, hM37, hM38, hMc, hMw, hMp, hMt, hMb⟩ := hM
  refine w_ldI rfl rfl ?_
  refine w_push rfl ?_
  refine w_crLt rfl (by omega) (by omega) (fun b2 => ?_) (fun b2 => ?_)
  · first
    | (exfalso; omega)
    | (refine w_ldR rfl rfl rfl ?_
       refine w_push rfl ?_
       refine w_callWI rfl rfl rfl rfl rfl rfl rfl k_error1 (fun v8 s8 p8 => ?_)
       obtain ⟨rfl, rfl⟩ := p8
       refine w_retI rfl ?_
       exact ⟨rfl, rfl⟩)
  · first
    | (exfalso; omega)
    | (refine w_ldI rfl rfl ?_
       refine w_push rfl ?_
       refine w_crLt rfl (by omega) (by omega) (fun b5 => ?_) (fun b5 => ?_)
       · first
         | (exfalso; omega)
         | (exfalso; omega)
       · first
         | (exfalso; omega)
         | (refine w_ldR rfl rfl rfl ?_
            refine w_push rfl ?_
            refine w_callWI rfl rfl rfl rfl rfl rfl rfl k_error1 (fun v8 s8 p8 => ?_)
            obtain ⟨rfl, rfl⟩ := p8
            refine w_retI rfl ?_
            exact ⟨rfl, rfl⟩))
theorem x_order_o {d : Nat} {s : mSt} (hI : IvD s) {q : Int} (hrq : -2147483648 ≤ q ∧ q < 2147483648) (hy : -1 ≤ q ∧ q ≤ 5) (hz : ¬ q < s 147 39) : CI (d + 6) 122 [.inr (.inr 10), .inl q] (s) (fun r s1 => r = -1000000000 - 2 ∧ s1 = us s 132 2 (s 132 2 + 1)) := by
  refine CI.mk rfl ?_
  show WP (d + 6) 122 0 [some (.inr (.inr 10)), some (.inl q)] [] (encA (s)) _
  have hI0 := hI
  obtain ⟨⟨hM, hC, hN⟩, hV, h8⟩ := hI
  have hV0 := hV
  have hM0 := hM
  obtain ⟨vc, vpl, vga, vse, vne, veg, vre, vtu, vta, vwa, v36, v37, v39, v40, v42, v41, v43, v44, vl0, vl1, vlm⟩ := hV
  obtain ⟨hM39, hM40, hM41, hM43, hM44, hM36, hM37, hM38, hMc, hMw, hMp, hMt, hMb⟩ := hM
  refine w_ldI rfl rfl ?_
  refine w_push rfl ?_
  refine w_crLt rfl (by omega) (by omega) (fun b2 => ?_) (fun b2 => ?_)
  · first
    | (exfalso; omega)
    | (exfalso; omega)
  · first
    | (exfalso; omega)
    | (refine w_ldI rfl rfl ?_
       refine w_push rfl ?_
       refine w_crLt rfl (by omega) (by omega) (fun b5 => ?_) (fun b5 => ?_)
       · first
         | (exfalso; omega)
         | (refine w_ldI rfl rfl ?_
            refine w_ldR rfl rfl rfl ?_
            first | refine w_getI rfl rfl rfl rfl rfl ?_ | refine w_getR rfl rfl rfl rfl rfl ?_
            first | refine w_getI rfl rfl rfl rfl rfl ?_ | refine w_getR rfl rfl rfl rfl rfl ?_
            rw [v39]
            refine w_crLt rfl (by omega) (by omega) (fun b14 => ?_) (fun b14 => ?_)
            · first
              | (exfalso; omega)
              | (exfalso; omega)
            · first
              | (exfalso; omega)
              | (refine w_ldR rfl rfl rfl ?_
                 refine w_push rfl ?_
                 refine w_callWI rfl rfl rfl rfl rfl rfl rfl k_error2 (fun v17 s17 p17 => ?_)
                 obtain ⟨rfl, rfl⟩ := p17
                 refine w_retI rfl ?_
                 exact ⟨rfl, rfl⟩))
       · first
         | (exfalso; omega)
         | (exfalso; omega))
