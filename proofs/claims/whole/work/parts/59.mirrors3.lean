/-! ===== mirrors: the class's runs (2) ===== -/
theorem bI_a {A B : Prop} [Decidable A] [Decidable B] (h : A) (k : B) : 1 = bI (A ∧ B) := by unfold bI; rw [if_pos ⟨h, k⟩]
theorem bI_n1 {A B : Prop} [Decidable A] [Decidable B] (h : ¬ A) : 0 = bI (A ∧ B) := by unfold bI; rw [if_neg (fun q => h q.1)]
theorem bI_n2 {A B : Prop} [Decidable A] [Decidable B] (h : ¬ B) : 0 = bI (A ∧ B) := by unfold bI; rw [if_neg (fun q => h q.2)]
theorem l_one {d : Nat} {s : mSt} {s0 : mSt} {P : Int → mSt → Prop} {D : Nat → Int} {w z x pl : Int} {l7 l8 l9 : Option mAV} (hI : MrI D w z x s0) (h5 : s0 135 1 = 0) (hpl : pl = lbF (liW D w) 36) (a : Nat) (aa : Int) (haa : aa = (a : Int)) (ha : a ≤ 36) (hO : OneI D w z x s0 s (2 * a)) (hP1 : ∀ s1 i, Fst (P1 D w z x) 72 i → Fr [129, 135, 136, 137] s0 s1 → s1 135 1 = 2 → s1 136 0 = ((i / 2 : Nat) : Int) → s1 136 1 = 2 + ((i % 2 : Nat) : Int) → P 1 s1) (hP0 : ∀ s1, OneI D w z x s0 s1 72 → P 0 s1) : WP (d + 3) 159 6 [some (.inr (.inr 10)), some (.inl w), some (.inl z), some (.inl x), some (.inr (.inl pl)), none, some (.inl aa), l7, l8, l9] [] (encA (s)) (QI P) := by
  subst haa
  subst hpl
  have hI0 := hI
  obtain ⟨hM, hV, hlf, hw, hz, hx, hli⟩ := hI
  have hcw := cwF_rng hM hw
  have hVs := hV.fr rfl hO.1
  refine w_ldI rfl rfl ?_
  refine w_push rfl ?_
  refine w_crGe rfl (by omega) (by omega) (fun b8 => ?_) (fun b8 => ?_)
  · first
    | (exfalso; omega)
    | (refine w_push rfl ?_
       refine w_retB rfl (by first | exact bI_01 _ | decide | omega) ?_
       obtain rfl : a = 36 := by omega
       exact hP0 s hO)
  · first
    | (exfalso; omega)
    | (refine w_ldR rfl rfl rfl ?_
       refine w_ldI rfl rfl ?_
       refine w_ldI rfl rfl ?_
       refine w_ldI rfl rfl ?_
       refine w_callV rfl rfl rfl rfl rfl rfl rfl (k_takes hVs hM (by omega) hw (by omega)) ?_
       refine w_bEq0 rfl (fun b14 => ?_) (fun b14 => ?_)
       · first
         | (exfalso; omega)
         | (refine w_push rfl ?_
            refine w_StI_10_7 rfl rfl ?_
            refine w_push rfl ?_
            refine w_StI_10_8 rfl rfl ?_
            first
            | refine l_oneK hI0 h5 a (by omega) 0 2 rfl (by omega) (bI_a b14 b22) hO hP1 (fun s1 l8 l9 hO1 => ?_)
            | refine l_oneK hI0 h5 a (by omega) 0 2 rfl (by omega) (bI_n1 b14) hO hP1 (fun s1 l8 l9 hO1 => ?_)
            | refine l_oneK hI0 h5 a (by omega) 0 2 rfl (by omega) (bI_n2 b22) hO hP1 (fun s1 l8 l9 hO1 => ?_)
            refine w_inc_10_6 rfl rfl ?_
            refine w_go rfl ?_
            exact l_one hI0 h5 rfl (a + 1) ((a : Int) + 1) (by omega) (by omega) hO1 hP1 hP0)
       · first
         | (exfalso; omega)
         | (refine w_ldL rfl rfl ?_
            refine w_ldI rfl rfl ?_
            refine w_shL rfl ?_
            refine w_push rfl ?_
            refine w_binL rfl ?_
            refine w_push rfl ?_
            refine w_cmpL rfl ?_
            rw [lit_cmp (by omega)]
            refine w_bEq0 rfl (fun b22 => ?_) (fun b22 => ?_)
            · first
              | (exfalso; omega)
              | (refine w_push rfl ?_
                 refine w_StI_10_7 rfl rfl ?_
                 refine w_push rfl ?_
                 refine w_StI_10_8 rfl rfl ?_
                 first
                 | refine l_oneK hI0 h5 a (by omega) 0 2 rfl (by omega) (bI_a b14 b22) hO hP1 (fun s1 l8 l9 hO1 => ?_)
                 | refine l_oneK hI0 h5 a (by omega) 0 2 rfl (by omega) (bI_n1 b14) hO hP1 (fun s1 l8 l9 hO1 => ?_)
                 | refine l_oneK hI0 h5 a (by omega) 0 2 rfl (by omega) (bI_n2 b22) hO hP1 (fun s1 l8 l9 hO1 => ?_)
                 refine w_inc_10_6 rfl rfl ?_
                 refine w_go rfl ?_
                 exact l_one hI0 h5 rfl (a + 1) ((a : Int) + 1) (by omega) (by omega) hO1 hP1 hP0)
            · first
              | (exfalso; omega)
              | (refine w_push rfl ?_
                 refine w_go rfl ?_
                 refine w_StI_10_7 rfl rfl ?_
                 refine w_push rfl ?_
                 refine w_StI_10_8 rfl rfl ?_
                 first
                 | refine l_oneK hI0 h5 a (by omega) 0 2 rfl (by omega) (bI_a b14 b22) hO hP1 (fun s1 l8 l9 hO1 => ?_)
                 | refine l_oneK hI0 h5 a (by omega) 0 2 rfl (by omega) (bI_n1 b14) hO hP1 (fun s1 l8 l9 hO1 => ?_)
                 | refine l_oneK hI0 h5 a (by omega) 0 2 rfl (by omega) (bI_n2 b22) hO hP1 (fun s1 l8 l9 hO1 => ?_)
                 refine w_inc_10_6 rfl rfl ?_
                 refine w_go rfl ?_
                 exact l_one hI0 h5 rfl (a + 1) ((a : Int) + 1) (by omega) (by omega) hO1 hP1 hP0)))
termination_by 36 - a
decreasing_by all_goals omega
def OneR (D : Nat → Int) (w z x : Int) (s : mSt) (r : Int) (s1 : mSt) : Prop := (r = 1 ∧ ∃ i, Fst (P1 D w z x) 72 i ∧ Fr [129, 135, 136, 137] s s1 ∧ s1 135 1 = 2 ∧ s1 136 0 = ((i / 2 : Nat) : Int) ∧ s1 136 1 = 2 + ((i % 2 : Nat) : Int)) ∨ (r = 0 ∧ OneI D w z x s s1 72)
theorem k_one {d : Nat} {s : mSt} {D : Nat → Int} {w z x : Int} (hI : MrI D w z x s) (h5 : s 135 1 = 0) (hl : ∀ i, i < 36 → s 129 i = liW D w i) : CI (d + 3) 159 [.inr (.inr 10), .inl w, .inl z, .inl x] (s) (OneR D w z x s) := by
  refine CI.mk rfl ?_
  show WP (d + 3) 159 0 [some (.inr (.inr 10)), some (.inl w), some (.inl z), some (.inl x), none, none, none, none, none, none] [] (encA (s)) _
  refine w_ldR rfl rfl rfl ?_
  first | refine w_getI rfl rfl rfl rfl rfl ?_ | refine w_getR rfl rfl rfl rfl rfl ?_
  refine w_callWL rfl rfl rfl rfl rfl rfl rfl (k_litCells hl (liW_L hI.1 hI.2.2.2.1)) (fun v2 s2 p2 => ?_)
  obtain ⟨rfl, rfl⟩ := p2
  refine w_StL_10_4 rfl rfl ?_
  refine w_push rfl ?_
  refine w_StI_10_6 rfl rfl ?_
  exact l_one hI h5 rfl 0 0 rfl (by omega) ⟨Fr.rf, fun j h => by omega, fun j h => by omega⟩ (fun s1 i h1 h2 h3 h4 h5 => Or.inl ⟨rfl, i, h1, h2, h3, h4, h5⟩) (fun s1 h => Or.inr ⟨rfl, h⟩)
theorem us_comm {s : mSt} {r a b : Nat} {u v : Int} (h : a ≠ b) : us (us s r a u) r b v = us (us s r b v) r a u := by
  have k : mup (mup (s r) a u) b v = mup (mup (s r) b v) a u := by
    funext j
    unfold mup
    by_cases e : j = b
    · rw [if_pos e, if_neg (by omega), if_pos e]
    · rw [if_neg e]
      split
      · rfl
      · rfl
  show mup (mup s r (mup (s r) a u)) r (mup (mup s r (mup (s r) a u) r) b v) = mup (mup s r (mup (s r) b v)) r (mup (mup s r (mup (s r) b v) r) a u)
  rw [mup_eq, mup_eq, mup_mup, mup_mup, k]
theorem lg_pos {D : Nat → Int} {w z : Int} {a k c : Nat} (hk : k < 2) : 0 < lgF D w z (2 * a + k) c ↔ (okM D w z a ∧ 0 < liW D w a) ∧ 0 < liF (mup D a (2 + (k : Int))) (lfW D w) (cwF D w) c := by
  by_cases h : okM D w z a ∧ 0 < liW D w a
  · rw [lgF_yes hk h]; exact ⟨fun q => ⟨h, q⟩, fun q => q.2⟩
  · rw [lgF_no hk h]; exact ⟨fun q => absurd q (by show ¬ (0 : Int) < 0; omega), fun q => absurd q.1 h⟩
theorem P1_eq {D : Nat → Int} {w z x : Int} {a k : Nat} (hk : k < 2) : P1 D w z x (2 * a + k) = (okM D w z a ∧ x ≤ liF (mup D a (2 + (k : Int))) (lfW D w) (cwF D w) z.toNat) := by
  unfold P1 m1D
  rw [show (2 * a + k) / 2 = a by omega, show (2 * a + k) % 2 = k by omega]
theorem P2_eq {D : Nat → Int} {w z x : Int} {a b p q : Nat} (hb : b < 36) (hp : p < 2) (hq : q < 2) : P2 D w z x (144 * a + 4 * b + 2 * p + q) = (a < b ∧ okM D w z a ∧ okM D w z b ∧ x ≤ liF (mup (mup D a (2 + (p : Int))) b (2 + (q : Int))) (lfW D w) (cwF D w) z.toNat) := by
  unfold P2 m2D
  rw [show (144 * a + 4 * b + 2 * p + q) / 144 = a by omega, show (144 * a + 4 * b + 2 * p + q) / 4 % 36 = b by omega, show (144 * a + 4 * b + 2 * p + q) / 2 % 2 = p by omega, show (144 * a + 4 * b + 2 * p + q) % 2 = q by omega]
def TwoI (D : Nat → Int) (w z x : Int) (s0 s : mSt) (n : Nat) : Prop := Fr [129] s0 s ∧ ∀ j, j < n → ¬ P2 D w z x j
def TwB (D : Nat → Int) (w z x : Int) (s : mSt) : Prop := MrI D w z x s ∧ s 135 1 = 0 ∧ (∀ j, j < 72 → ¬ P1 D w z x j) ∧ ∀ j, j < 72 → s 137 j = lbF (lgF D w z j) 36
theorem P2_dark {D : Nat → Int} {w z x : Int} {a b p q : Nat} (hc : 0 ≤ cwF D w) (hx : 1 ≤ x) (hli : liW D w z.toNat < x) (h1 : ∀ j, j < 72 → ¬ P1 D w z x j) (hb : b < 36) (hab : a < b) (hp : p < 2) (hq : q < 2) (oa : okM D w z a) (ob : okM D w z b) (hA : ¬ 0 < lgF D w z (2 * a + p) b) (hB : ¬ 0 < lgF D w z (2 * b + q) a) : ¬ P2 D w z x (144 * a + 4 * b + 2 * p + q) := by
  rw [P2_eq hb hp hq]
  rintro ⟨-, -, -, h⟩
  have ha1 := h1 (2 * a + p) (by omega)
  have hb1 := h1 (2 * b + q) (by omega)
  rw [P1_eq hp] at ha1
  rw [P1_eq hq] at hb1
  have z1 : liF (mup D a (2 + (p : Int))) (lfW D w) (cwF D w) z.toNat < x := by
    rcases Int.lt_or_le (liF (mup D a (2 + (p : Int))) (lfW D w) (cwF D w) z.toNat) x with h | h
    · exact h
    · exact absurd ⟨oa, h⟩ ha1
  have z2 : liF (mup D b (2 + (q : Int))) (lfW D w) (cwF D w) z.toNat < x := by
    rcases Int.lt_or_le (liF (mup D b (2 + (q : Int))) (lfW D w) (cwF D w) z.toNat) x with h | h
    · exact h
    · exact absurd ⟨ob, h⟩ hb1
  rw [lg_pos hp] at hA
  rw [lg_pos hq] at hB
  have oa' := oa
  have ob' := ob
  unfold okM at oa' ob'
  have t := two_mirrors (G := D) (lf := lfW D w) (c := cwF D w) (a := a) (b := b) (z := z.toNat) (p := 2 + (p : Int)) (q := 2 + (q : Int)) (x := x) (by omega) oa'.1 ob'.1 (by omega) (by omega) (by omega) (by omega) hx hli z1 z2 (fun h => hA ⟨⟨oa, h.1⟩, h.2⟩) (fun h => hB ⟨⟨ob, h.1⟩, h.2⟩)
  omega
theorem l_pairQ {d : Nat} {s : mSt} {s0 : mSt} {P : Int → mSt → Prop} {D : Nat → Int} {w z x : Int} (hB : TwB D w z x s0) (a b : Nat) (hb : b < 36) (hab : a < b) (oa : okM D w z a) (ob : okM D w z b) (p : Nat) (hp : p < 2) (q : Nat) (pp qq : Int) (hpp : pp = 2 + (p : Int)) (hqq : qq = 2 + (q : Int)) (hq : q ≤ 2) (hT : TwoI D w z x s0 s (144 * a + 4 * b + 2 * p + q)) (hP1 : ∀ s1 i, Fst (P2 D w z x) 5184 i → Fr [129, 135, 136] s0 s1 → s1 135 1 = 4 → s1 136 0 = ((i / 144 : Nat) : Int) → s1 136 1 = 2 + ((i / 2 % 2 : Nat) : Int) → s1 136 2 = ((i / 4 % 36 : Nat) : Int) → s1 136 3 = 2 + ((i % 2 : Nat) : Int) → P 1 s1) (hK : ∀ s1 (l7 : Option mAV), TwoI D w z x s0 s1 (144 * a + 4 * b + 2 * p + 2) → WP (d + 3) 161 88 [some (.inr (.inr 10)), some (.inl w), some (.inl z), some (.inl x), some (.inl (a : Int)), some (.inl (b : Int)), some (.inl (2 + (p : Int))), l7] [] (encA (s1)) (QI P)) : WP (d + 3) 161 7 [some (.inr (.inr 10)), some (.inl w), some (.inl z), some (.inl x), some (.inl (a : Int)), some (.inl (b : Int)), some (.inl pp), some (.inl qq)] [] (encA (s)) (QI P) := by
  subst hpp
  subst hqq
  have hB0 := hB
  obtain ⟨⟨hM, hV, hlf, hw, hz, hx, hli⟩, h5, hn1, h137⟩ := hB
  have hcw := cwF_rng hM hw
  refine w_ldI rfl rfl ?_
  refine w_push rfl ?_
  refine w_crGt rfl (by omega) (by omega) (fun b9 => ?_) (fun b9 => ?_)
  · first
    | (exfalso; omega)
    | (obtain rfl : q = 2 := by omega
       exact hK s _ hT)
  · first
    | (exfalso; omega)
    | (refine w_ldR rfl rfl rfl ?_
       refine w_ldI rfl rfl ?_
       refine w_ldI rfl rfl ?_
       refine w_ldI rfl rfl ?_
       refine w_callV rfl rfl rfl rfl rfl rfl rfl (k_litWith (L := lgF D w z (2 * a + p)) (by omega) (by omega) hb (by rw [hT.1.at 137 rfl]; exact h137 _ (by omega))) ?_
       refine w_bNe0 rfl (fun b15 => ?_) (fun b15 => ?_)
       · first
         | (exfalso; omega)
         | (refine w_ldR rfl rfl rfl ?_
            first | refine w_getI rfl rfl rfl rfl rfl ?_ | refine w_getR rfl rfl rfl rfl rfl ?_
            first | refine w_getI rfl rfl rfl rfl rfl ?_ | refine w_getR rfl rfl rfl rfl rfl ?_
            refine w_ldI rfl rfl ?_
            refine w_ldI rfl rfl ?_
            refine w_ast rfl rfl rfl (by omega) rfl ?_
            refine w_ldR rfl rfl rfl ?_
            first | refine w_getI rfl rfl rfl rfl rfl ?_ | refine w_getR rfl rfl rfl rfl rfl ?_
            first | refine w_getI rfl rfl rfl rfl rfl ?_ | refine w_getR rfl rfl rfl rfl rfl ?_
            refine w_ldI rfl rfl ?_
            refine w_ldI rfl rfl ?_
            refine w_ast rfl rfl rfl (by omega) rfl ?_
            rw [Int.toNat_natCast, Int.toNat_natCast]
            have hVs : VN13 s D := hV.fr rfl hT.1
            have h0a : s 14 a = 0 := by
              have := hVs.1 (a : Int) (by omega) (by omega)
              rw [Int.toNat_natCast] at this
              rw [this]
              exact oa.1
            have h0b : us s 14 a (2 + (p : Int)) 14 b = 0 := by
              have := hVs.1 (b : Int) (by omega) (by omega)
              rw [Int.toNat_natCast] at this
              rw [us_eq, mup_ne (by omega), this]
              exact ob.1
            have hmv : ∀ t : Nat, t < 36 → 0 ≤ (mup (mup D a (2 + (p : Int))) b (2 + (q : Int))) t ∧ (mup (mup D a (2 + (p : Int))) b (2 + (q : Int))) t ≤ 3 := fun t ht => by
              unfold mup
              split
              · omega
              · split
                · omega
                · exact MOk_cell hM t ht
            have hgs : ∀ c : Int, 0 ≤ c → c < 36 → us (us s 14 a (2 + (p : Int))) 14 b (2 + (q : Int)) 14 c.toNat = (mup (mup D a (2 + (p : Int))) b (2 + (q : Int))) c.toNat := fun c h1 h2 => by
              rw [us_eq, us_eq]
              unfold mup
              split
              · rfl
              · split
                · rfl
                · exact hVs.1 c h1 h2
            have hpl := hVs.2.1 w (by omega) (by omega)
            refine w_ldR rfl rfl rfl ?_
            first | refine w_getI rfl rfl rfl rfl rfl ?_ | refine w_getR rfl rfl rfl rfl rfl ?_
            refine w_ldR rfl rfl rfl ?_
            first | refine w_getI rfl rfl rfl rfl rfl ?_ | refine w_getR rfl rfl rfl rfl rfl ?_
            first | refine w_getI rfl rfl rfl rfl rfl ?_ | refine w_getR rfl rfl rfl rfl rfl ?_
            refine w_ldR rfl rfl rfl ?_
            first | refine w_getI rfl rfl rfl rfl rfl ?_ | refine w_getR rfl rfl rfl rfl rfl ?_
            first | refine w_getI rfl rfl rfl rfl rfl ?_ | refine w_getR rfl rfl rfl rfl rfl ?_
            refine w_ldI rfl rfl ?_
            refine w_ald rfl rfl rfl (by omega) rfl ?_
            rw [show us (us s 14 a (2 + (p : Int))) 14 b (2 + (q : Int)) 16 w.toNat = cwF D w by rw [us_ne (by decide), us_ne (by decide)]; exact hpl]
            refine w_callWN rfl rfl rfl rfl rfl rfl rfl (k_spread14 (Gf := mup (mup D a (2 + (p : Int))) b (2 + (q : Int))) (lf := lfW D w) (c := cwF D w) hgs hmv (fun t ht => by rw [us_ne (by decide), us_ne (by decide), hT.1.at 128 rfl]; exact hlf t ht) (fun t => lfW_rng hM hw t) hcw) (fun s45 p45 => ?_)
            refine w_ldR rfl rfl rfl ?_
            first | refine w_getI rfl rfl rfl rfl rfl ?_ | refine w_getR rfl rfl rfl rfl rfl ?_
            first | refine w_getI rfl rfl rfl rfl rfl ?_ | refine w_getR rfl rfl rfl rfl rfl ?_
            refine w_ldI rfl rfl ?_
            refine w_push rfl ?_
            refine w_ast rfl rfl rfl (by omega) rfl ?_
            refine w_ldR rfl rfl rfl ?_
            first | refine w_getI rfl rfl rfl rfl rfl ?_ | refine w_getR rfl rfl rfl rfl rfl ?_
            first | refine w_getI rfl rfl rfl rfl rfl ?_ | refine w_getR rfl rfl rfl rfl rfl ?_
            refine w_ldI rfl rfl ?_
            refine w_push rfl ?_
            refine w_ast rfl rfl rfl (by omega) rfl ?_
            rw [Int.toNat_natCast, Int.toNat_natCast]
            have hL9 : ∀ t, t < 36 → us (us s45 14 a 0) 14 b 0 129 t = liF (mup (mup D a (2 + (p : Int))) b (2 + (q : Int))) (lfW D w) (cwF D w) t := fun t ht => by rw [us_ne (by decide), us_ne (by decide)]; exact p45.2 t ht
            have fE : Fr [129] s (us (us s45 14 a 0) 14 b 0) := by
              rw [us_comm (by omega)]
              exact fr_gnd h0a rfl (fr_gnd h0b rfl p45.1)
            have hzz := liM_L hM hw (G := mup (mup D a (2 + (p : Int))) b (2 + (q : Int))) z.toNat (by omega)
            have hPe := @P2_eq D w z x a b p q hb hp (by omega)
            have hY : liF (mup (mup D a (2 + (p : Int))) b (2 + (q : Int))) (lfW D w) (cwF D w) z.toNat < x → TwoI D w z x s0 (us (us s45 14 a 0) 14 b 0) (144 * a + 4 * b + 2 * p + (q + 1)) := fun r => ⟨hT.1.tr fE, fun j hj => by
              by_cases e : j = 144 * a + 4 * b + 2 * p + q
              · rw [e, hPe]; rintro ⟨-, -, -, t⟩; omega
              · exact hT.2 j (by omega)⟩
            refine w_ldR rfl rfl rfl ?_
            first | refine w_getI rfl rfl rfl rfl rfl ?_ | refine w_getR rfl rfl rfl rfl rfl ?_
            refine w_ldI rfl rfl ?_
            refine w_callV rfl rfl rfl rfl rfl rfl rfl (k_lightIn (by omega)) ?_
            rw [if_pos (by omega), hL9 z.toNat (by omega)]
            have h135 : us (us s45 14 a 0) 14 b 0 135 1 = 0 := by rw [fE.at 135 rfl, hT.1.at 135 rfl]; exact h5
            refine w_ldI rfl rfl ?_
            refine w_crLt rfl (by omega) (by omega) (fun b63 => ?_) (fun b63 => ?_)
            · first
              | (exfalso; omega)
              | (refine w_inc_8_7 rfl rfl ?_
                 refine w_go rfl ?_
                 first | exact l_pairQ hB0 a b hb hab oa ob p hp (q + 1) _ (2 + (q : Int) + 1) rfl (by omega) (by omega) hN hP1 hK | exact l_pairQ hB0 a b hb hab oa ob p hp (q + 1) _ (2 + (q : Int) + 1) rfl (by omega) (by omega) (hY (by omega)) hP1 hK)
            · first
              | (exfalso; omega)
              | (refine w_ldR rfl rfl rfl ?_
                 first | refine w_getI rfl rfl rfl rfl rfl ?_ | refine w_getR rfl rfl rfl rfl rfl ?_
                 refine w_ldI rfl rfl ?_
                 refine w_callWI rfl rfl rfl rfl rfl rfl rfl (k_add135 (by omega)) (fun v67 s67 p67 => ?_)
                 obtain ⟨rfl, h67⟩ := p67
                 rw [if_pos (by omega), h135] at h67
                 have g67 : s67 135 1 = 1 := by rw [h67, us_eq, mup_eq]; rfl
                 have m67 : s67 136 0 = (a : Int) := by rw [h67, us_ne (by decide), us_eq]; exact mup_eq _ _ _
                 refine w_popI rfl ?_
                 refine w_ldR rfl rfl rfl ?_
                 first | refine w_getI rfl rfl rfl rfl rfl ?_ | refine w_getR rfl rfl rfl rfl rfl ?_
                 refine w_ldI rfl rfl ?_
                 refine w_callWI rfl rfl rfl rfl rfl rfl rfl (k_add135 (by omega)) (fun v72 s72 p72 => ?_)
                 obtain ⟨rfl, h72⟩ := p72
                 rw [if_pos (by omega), g67] at h72
                 have g72 : s72 135 1 = 2 := by rw [h72, us_eq, mup_eq]; rfl
                 have n72 : s72 136 0 = (a : Int) := by rw [h72, us_ne (by decide), us_eq, mup_ne (by decide)]; exact m67
                 have m72 : s72 136 1 = 2 + (p : Int) := by rw [h72, us_ne (by decide), us_eq]; exact mup_eq _ _ _
                 refine w_popI rfl ?_
                 refine w_ldR rfl rfl rfl ?_
                 first | refine w_getI rfl rfl rfl rfl rfl ?_ | refine w_getR rfl rfl rfl rfl rfl ?_
                 refine w_ldI rfl rfl ?_
                 refine w_callWI rfl rfl rfl rfl rfl rfl rfl (k_add135 (by omega)) (fun v77 s77 p77 => ?_)
                 obtain ⟨rfl, h77⟩ := p77
                 rw [if_pos (by omega), g72] at h77
                 have g77 : s77 135 1 = 3 := by rw [h77, us_eq, mup_eq]; rfl
                 have l77 : s77 136 0 = (a : Int) := by rw [h77, us_ne (by decide), us_eq, mup_ne (by decide)]; exact n72
                 have n77 : s77 136 1 = 2 + (p : Int) := by rw [h77, us_ne (by decide), us_eq, mup_ne (by decide)]; exact m72
                 have m77 : s77 136 2 = (b : Int) := by rw [h77, us_ne (by decide), us_eq]; exact mup_eq _ _ _
                 refine w_popI rfl ?_
                 refine w_ldR rfl rfl rfl ?_
                 first | refine w_getI rfl rfl rfl rfl rfl ?_ | refine w_getR rfl rfl rfl rfl rfl ?_
                 refine w_ldI rfl rfl ?_
                 refine w_callWI rfl rfl rfl rfl rfl rfl rfl (k_add135 (by omega)) (fun v82 s82 p82 => ?_)
                 obtain ⟨rfl, h82⟩ := p82
                 rw [if_pos (by omega), g77] at h82
                 refine w_popI rfl ?_
                 refine w_push rfl ?_
                 refine w_retB rfl (by first | exact bI_01 _ | decide | omega) ?_
                 refine hP1 _ (144 * a + 4 * b + 2 * p + q) ⟨by omega, by rw [hPe]; exact ⟨hab, oa, ob, by omega⟩, hT.2⟩ ?_ ?_ ?_ ?_ ?_ ?_
                 · rw [h82, h77, h72, h67]
                   exact (((((((((Fr.mono rfl hT.1).tr (Fr.mono rfl fE)).tr (Fr.us rfl)).tr (Fr.us rfl)).tr (Fr.us rfl)).tr (Fr.us rfl)).tr (Fr.us rfl)).tr (Fr.us rfl)).tr (Fr.us rfl)).tr (Fr.us rfl)
                 · rw [h82, us_eq, mup_eq]; rfl
                 · rw [h82, us_ne (by decide), us_eq, mup_ne (by decide), l77, show (144 * a + 4 * b + 2 * p + q) / 144 = a by omega]
                 · rw [h82, us_ne (by decide), us_eq, mup_ne (by decide), n77, show (144 * a + 4 * b + 2 * p + q) / 2 % 2 = p by omega]
                 · rw [h82, us_ne (by decide), us_eq, mup_ne (by decide), m77, show (144 * a + 4 * b + 2 * p + q) / 4 % 36 = b by omega]
                 · rw [h82, us_ne (by decide), us_eq, show (144 * a + 4 * b + 2 * p + q) % 2 = q by omega]
                   exact mup_eq _ _ _))
       · first
         | (exfalso; omega)
         | (refine w_ldR rfl rfl rfl ?_
            refine w_ldI rfl rfl ?_
            refine w_ldI rfl rfl ?_
            refine w_ldI rfl rfl ?_
            refine w_callV rfl rfl rfl rfl rfl rfl rfl (k_litWith (L := lgF D w z (2 * b + q)) hb (by omega) (by omega) (by rw [hT.1.at 137 rfl]; exact h137 _ (by omega))) ?_
            refine w_bNe0 rfl (fun b21 => ?_) (fun b21 => ?_)
            · first
              | (exfalso; omega)
              | (refine w_ldR rfl rfl rfl ?_
                 first | refine w_getI rfl rfl rfl rfl rfl ?_ | refine w_getR rfl rfl rfl rfl rfl ?_
                 first | refine w_getI rfl rfl rfl rfl rfl ?_ | refine w_getR rfl rfl rfl rfl rfl ?_
                 refine w_ldI rfl rfl ?_
                 refine w_ldI rfl rfl ?_
                 refine w_ast rfl rfl rfl (by omega) rfl ?_
                 refine w_ldR rfl rfl rfl ?_
                 first | refine w_getI rfl rfl rfl rfl rfl ?_ | refine w_getR rfl rfl rfl rfl rfl ?_
                 first | refine w_getI rfl rfl rfl rfl rfl ?_ | refine w_getR rfl rfl rfl rfl rfl ?_
                 refine w_ldI rfl rfl ?_
                 refine w_ldI rfl rfl ?_
                 refine w_ast rfl rfl rfl (by omega) rfl ?_
                 rw [Int.toNat_natCast, Int.toNat_natCast]
                 have hVs : VN13 s D := hV.fr rfl hT.1
                 have h0a : s 14 a = 0 := by
                   have := hVs.1 (a : Int) (by omega) (by omega)
                   rw [Int.toNat_natCast] at this
                   rw [this]
                   exact oa.1
                 have h0b : us s 14 a (2 + (p : Int)) 14 b = 0 := by
                   have := hVs.1 (b : Int) (by omega) (by omega)
                   rw [Int.toNat_natCast] at this
                   rw [us_eq, mup_ne (by omega), this]
                   exact ob.1
                 have hmv : ∀ t : Nat, t < 36 → 0 ≤ (mup (mup D a (2 + (p : Int))) b (2 + (q : Int))) t ∧ (mup (mup D a (2 + (p : Int))) b (2 + (q : Int))) t ≤ 3 := fun t ht => by
                   unfold mup
                   split
                   · omega
                   · split
                     · omega
                     · exact MOk_cell hM t ht
                 have hgs : ∀ c : Int, 0 ≤ c → c < 36 → us (us s 14 a (2 + (p : Int))) 14 b (2 + (q : Int)) 14 c.toNat = (mup (mup D a (2 + (p : Int))) b (2 + (q : Int))) c.toNat := fun c h1 h2 => by
                   rw [us_eq, us_eq]
                   unfold mup
                   split
                   · rfl
                   · split
                     · rfl
                     · exact hVs.1 c h1 h2
                 have hpl := hVs.2.1 w (by omega) (by omega)
                 refine w_ldR rfl rfl rfl ?_
                 first | refine w_getI rfl rfl rfl rfl rfl ?_ | refine w_getR rfl rfl rfl rfl rfl ?_
                 refine w_ldR rfl rfl rfl ?_
                 first | refine w_getI rfl rfl rfl rfl rfl ?_ | refine w_getR rfl rfl rfl rfl rfl ?_
                 first | refine w_getI rfl rfl rfl rfl rfl ?_ | refine w_getR rfl rfl rfl rfl rfl ?_
                 refine w_ldR rfl rfl rfl ?_
                 first | refine w_getI rfl rfl rfl rfl rfl ?_ | refine w_getR rfl rfl rfl rfl rfl ?_
                 first | refine w_getI rfl rfl rfl rfl rfl ?_ | refine w_getR rfl rfl rfl rfl rfl ?_
                 refine w_ldI rfl rfl ?_
                 refine w_ald rfl rfl rfl (by omega) rfl ?_
                 rw [show us (us s 14 a (2 + (p : Int))) 14 b (2 + (q : Int)) 16 w.toNat = cwF D w by rw [us_ne (by decide), us_ne (by decide)]; exact hpl]
                 refine w_callWN rfl rfl rfl rfl rfl rfl rfl (k_spread14 (Gf := mup (mup D a (2 + (p : Int))) b (2 + (q : Int))) (lf := lfW D w) (c := cwF D w) hgs hmv (fun t ht => by rw [us_ne (by decide), us_ne (by decide), hT.1.at 128 rfl]; exact hlf t ht) (fun t => lfW_rng hM hw t) hcw) (fun s45 p45 => ?_)
                 refine w_ldR rfl rfl rfl ?_
                 first | refine w_getI rfl rfl rfl rfl rfl ?_ | refine w_getR rfl rfl rfl rfl rfl ?_
                 first | refine w_getI rfl rfl rfl rfl rfl ?_ | refine w_getR rfl rfl rfl rfl rfl ?_
                 refine w_ldI rfl rfl ?_
                 refine w_push rfl ?_
                 refine w_ast rfl rfl rfl (by omega) rfl ?_
                 refine w_ldR rfl rfl rfl ?_
                 first | refine w_getI rfl rfl rfl rfl rfl ?_ | refine w_getR rfl rfl rfl rfl rfl ?_
                 first | refine w_getI rfl rfl rfl rfl rfl ?_ | refine w_getR rfl rfl rfl rfl rfl ?_
                 refine w_ldI rfl rfl ?_
                 refine w_push rfl ?_
                 refine w_ast rfl rfl rfl (by omega) rfl ?_
                 rw [Int.toNat_natCast, Int.toNat_natCast]
                 have hL9 : ∀ t, t < 36 → us (us s45 14 a 0) 14 b 0 129 t = liF (mup (mup D a (2 + (p : Int))) b (2 + (q : Int))) (lfW D w) (cwF D w) t := fun t ht => by rw [us_ne (by decide), us_ne (by decide)]; exact p45.2 t ht
                 have fE : Fr [129] s (us (us s45 14 a 0) 14 b 0) := by
                   rw [us_comm (by omega)]
                   exact fr_gnd h0a rfl (fr_gnd h0b rfl p45.1)
                 have hzz := liM_L hM hw (G := mup (mup D a (2 + (p : Int))) b (2 + (q : Int))) z.toNat (by omega)
                 have hPe := @P2_eq D w z x a b p q hb hp (by omega)
                 have hY : liF (mup (mup D a (2 + (p : Int))) b (2 + (q : Int))) (lfW D w) (cwF D w) z.toNat < x → TwoI D w z x s0 (us (us s45 14 a 0) 14 b 0) (144 * a + 4 * b + 2 * p + (q + 1)) := fun r => ⟨hT.1.tr fE, fun j hj => by
                   by_cases e : j = 144 * a + 4 * b + 2 * p + q
                   · rw [e, hPe]; rintro ⟨-, -, -, t⟩; omega
                   · exact hT.2 j (by omega)⟩
                 refine w_ldR rfl rfl rfl ?_
                 first | refine w_getI rfl rfl rfl rfl rfl ?_ | refine w_getR rfl rfl rfl rfl rfl ?_
                 refine w_ldI rfl rfl ?_
                 refine w_callV rfl rfl rfl rfl rfl rfl rfl (k_lightIn (by omega)) ?_
                 rw [if_pos (by omega), hL9 z.toNat (by omega)]
                 have h135 : us (us s45 14 a 0) 14 b 0 135 1 = 0 := by rw [fE.at 135 rfl, hT.1.at 135 rfl]; exact h5
                 refine w_ldI rfl rfl ?_
                 refine w_crLt rfl (by omega) (by omega) (fun b63 => ?_) (fun b63 => ?_)
                 · first
                   | (exfalso; omega)
                   | (refine w_inc_8_7 rfl rfl ?_
                      refine w_go rfl ?_
                      first | exact l_pairQ hB0 a b hb hab oa ob p hp (q + 1) _ (2 + (q : Int) + 1) rfl (by omega) (by omega) hN hP1 hK | exact l_pairQ hB0 a b hb hab oa ob p hp (q + 1) _ (2 + (q : Int) + 1) rfl (by omega) (by omega) (hY (by omega)) hP1 hK)
                 · first
                   | (exfalso; omega)
                   | (refine w_ldR rfl rfl rfl ?_
                      first | refine w_getI rfl rfl rfl rfl rfl ?_ | refine w_getR rfl rfl rfl rfl rfl ?_
                      refine w_ldI rfl rfl ?_
                      refine w_callWI rfl rfl rfl rfl rfl rfl rfl (k_add135 (by omega)) (fun v67 s67 p67 => ?_)
                      obtain ⟨rfl, h67⟩ := p67
                      rw [if_pos (by omega), h135] at h67
                      have g67 : s67 135 1 = 1 := by rw [h67, us_eq, mup_eq]; rfl
                      have m67 : s67 136 0 = (a : Int) := by rw [h67, us_ne (by decide), us_eq]; exact mup_eq _ _ _
                      refine w_popI rfl ?_
                      refine w_ldR rfl rfl rfl ?_
                      first | refine w_getI rfl rfl rfl rfl rfl ?_ | refine w_getR rfl rfl rfl rfl rfl ?_
                      refine w_ldI rfl rfl ?_
                      refine w_callWI rfl rfl rfl rfl rfl rfl rfl (k_add135 (by omega)) (fun v72 s72 p72 => ?_)
                      obtain ⟨rfl, h72⟩ := p72
                      rw [if_pos (by omega), g67] at h72
                      have g72 : s72 135 1 = 2 := by rw [h72, us_eq, mup_eq]; rfl
                      have n72 : s72 136 0 = (a : Int) := by rw [h72, us_ne (by decide), us_eq, mup_ne (by decide)]; exact m67
                      have m72 : s72 136 1 = 2 + (p : Int) := by rw [h72, us_ne (by decide), us_eq]; exact mup_eq _ _ _
                      refine w_popI rfl ?_
                      refine w_ldR rfl rfl rfl ?_
                      first | refine w_getI rfl rfl rfl rfl rfl ?_ | refine w_getR rfl rfl rfl rfl rfl ?_
                      refine w_ldI rfl rfl ?_
                      refine w_callWI rfl rfl rfl rfl rfl rfl rfl (k_add135 (by omega)) (fun v77 s77 p77 => ?_)
                      obtain ⟨rfl, h77⟩ := p77
                      rw [if_pos (by omega), g72] at h77
                      have g77 : s77 135 1 = 3 := by rw [h77, us_eq, mup_eq]; rfl
                      have l77 : s77 136 0 = (a : Int) := by rw [h77, us_ne (by decide), us_eq, mup_ne (by decide)]; exact n72
                      have n77 : s77 136 1 = 2 + (p : Int) := by rw [h77, us_ne (by decide), us_eq, mup_ne (by decide)]; exact m72
                      have m77 : s77 136 2 = (b : Int) := by rw [h77, us_ne (by decide), us_eq]; exact mup_eq _ _ _
                      refine w_popI rfl ?_
                      refine w_ldR rfl rfl rfl ?_
                      first | refine w_getI rfl rfl rfl rfl rfl ?_ | refine w_getR rfl rfl rfl rfl rfl ?_
                      refine w_ldI rfl rfl ?_
                      refine w_callWI rfl rfl rfl rfl rfl rfl rfl (k_add135 (by omega)) (fun v82 s82 p82 => ?_)
                      obtain ⟨rfl, h82⟩ := p82
                      rw [if_pos (by omega), g77] at h82
                      refine w_popI rfl ?_
                      refine w_push rfl ?_
                      refine w_retB rfl (by first | exact bI_01 _ | decide | omega) ?_
                      refine hP1 _ (144 * a + 4 * b + 2 * p + q) ⟨by omega, by rw [hPe]; exact ⟨hab, oa, ob, by omega⟩, hT.2⟩ ?_ ?_ ?_ ?_ ?_ ?_
                      · rw [h82, h77, h72, h67]
                        exact (((((((((Fr.mono rfl hT.1).tr (Fr.mono rfl fE)).tr (Fr.us rfl)).tr (Fr.us rfl)).tr (Fr.us rfl)).tr (Fr.us rfl)).tr (Fr.us rfl)).tr (Fr.us rfl)).tr (Fr.us rfl)).tr (Fr.us rfl)
                      · rw [h82, us_eq, mup_eq]; rfl
                      · rw [h82, us_ne (by decide), us_eq, mup_ne (by decide), l77, show (144 * a + 4 * b + 2 * p + q) / 144 = a by omega]
                      · rw [h82, us_ne (by decide), us_eq, mup_ne (by decide), n77, show (144 * a + 4 * b + 2 * p + q) / 2 % 2 = p by omega]
                      · rw [h82, us_ne (by decide), us_eq, mup_ne (by decide), m77, show (144 * a + 4 * b + 2 * p + q) / 4 % 36 = b by omega]
                      · rw [h82, us_ne (by decide), us_eq, show (144 * a + 4 * b + 2 * p + q) % 2 = q by omega]
                        exact mup_eq _ _ _))
            · first
              | (exfalso; omega)
              | (have hN : TwoI D w z x s0 s (144 * a + 4 * b + 2 * p + (q + 1)) := ⟨hT.1, fun j hj => by
                   by_cases e : j = 144 * a + 4 * b + 2 * p + q
                   · rw [e]; exact P2_dark hcw.1 hx.1 hli hn1 hb hab hp (by omega) oa ob b15 b21
                   · exact hT.2 j (by omega)⟩
                 refine w_go rfl ?_
                 refine w_inc_8_7 rfl rfl ?_
                 refine w_go rfl ?_
                 first | exact l_pairQ hB0 a b hb hab oa ob p hp (q + 1) _ (2 + (q : Int) + 1) rfl (by omega) (by omega) hN hP1 hK | exact l_pairQ hB0 a b hb hab oa ob p hp (q + 1) _ (2 + (q : Int) + 1) rfl (by omega) (by omega) (hY (by omega)) hP1 hK)))
termination_by 2 - q
decreasing_by all_goals omega
theorem l_pairP {d : Nat} {s : mSt} {s0 : mSt} {P : Int → mSt → Prop} {D : Nat → Int} {w z x : Int} {l7 : Option mAV} (hB : TwB D w z x s0) (a b : Nat) (hb : b < 36) (hab : a < b) (oa : okM D w z a) (ob : okM D w z b) (p : Nat) (pp : Int) (hpp : pp = 2 + (p : Int)) (hp : p ≤ 2) (hT : TwoI D w z x s0 s (144 * a + 4 * b + 2 * p)) (hP1 : ∀ s1 i, Fst (P2 D w z x) 5184 i → Fr [129, 135, 136] s0 s1 → s1 135 1 = 4 → s1 136 0 = ((i / 144 : Nat) : Int) → s1 136 1 = 2 + ((i / 2 % 2 : Nat) : Int) → s1 136 2 = ((i / 4 % 36 : Nat) : Int) → s1 136 3 = 2 + ((i % 2 : Nat) : Int) → P 1 s1) (hP0 : ∀ s1, TwoI D w z x s0 s1 (144 * a + 4 * b + 4) → P 0 s1) : WP (d + 3) 161 2 [some (.inr (.inr 10)), some (.inl w), some (.inl z), some (.inl x), some (.inl (a : Int)), some (.inl (b : Int)), some (.inl pp), l7] [] (encA (s)) (QI P) := by
  subst hpp
  refine w_ldI rfl rfl ?_
  refine w_push rfl ?_
  refine w_crGt rfl (by omega) (by omega) (fun b4 => ?_) (fun b4 => ?_)
  · first
    | (exfalso; omega)
    | (refine w_push rfl ?_
       refine w_retB rfl (by first | exact bI_01 _ | decide | omega) ?_
       obtain rfl : p = 2 := by omega
       exact hP0 s hT)
  · first
    | (exfalso; omega)
    | (refine w_push rfl ?_
       refine w_StI_8_7 rfl rfl ?_
       refine l_pairQ hB a b hb hab oa ob p (by omega) 0 (2 + (p : Int)) 2 rfl rfl (by omega) hT hP1 (fun s1 l7 hT1 => ?_)
       refine w_inc_8_6 rfl rfl ?_
       refine w_go rfl ?_
       exact l_pairP hB a b hb hab oa ob (p + 1) (2 + (p : Int) + 1) (by omega) (by omega) hT1 hP1 hP0)
termination_by 2 - p
decreasing_by all_goals omega
def TwoR (D : Nat → Int) (w z x : Int) (s0 : mSt) (n : Nat) (r : Int) (s1 : mSt) : Prop := (r = 1 ∧ ∃ i, Fst (P2 D w z x) 5184 i ∧ Fr [129, 135, 136] s0 s1 ∧ s1 135 1 = 4 ∧ s1 136 0 = ((i / 144 : Nat) : Int) ∧ s1 136 1 = 2 + ((i / 2 % 2 : Nat) : Int) ∧ s1 136 2 = ((i / 4 % 36 : Nat) : Int) ∧ s1 136 3 = 2 + ((i % 2 : Nat) : Int)) ∨ (r = 0 ∧ TwoI D w z x s0 s1 n)
theorem k_pair {d : Nat} {s : mSt} {s0 : mSt} {D : Nat → Int} {w z x : Int} (hB : TwB D w z x s0) {a b : Nat} (hb : b < 36) (hab : a < b) (oa : okM D w z a) (ob : okM D w z b) (hT : TwoI D w z x s0 s (144 * a + 4 * b)) : CI (d + 3) 161 [.inr (.inr 10), .inl w, .inl z, .inl x, .inl (a : Int), .inl (b : Int)] (s) (TwoR D w z x s0 (144 * a + 4 * b + 4)) := by
  refine CI.mk rfl ?_
  show WP (d + 3) 161 0 [some (.inr (.inr 10)), some (.inl w), some (.inl z), some (.inl x), some (.inl (a : Int)), some (.inl (b : Int)), none, none] [] (encA (s)) _
  refine w_push rfl ?_
  refine w_StI_8_6 rfl rfl ?_
  exact l_pairP hB a b hb hab oa ob 0 2 rfl (by omega) hT (fun s1 i h1 h2 h3 h4 h5 h6 h7 => Or.inl ⟨rfl, i, h1, h2, h3, h4, h5, h6, h7⟩) (fun s1 h => Or.inr ⟨rfl, h⟩)
