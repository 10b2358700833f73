/-! ===== mirrors: the class's runs (3) ===== -/
theorem no_b {D : Nat → Int} {w z x : Int} {a b : Nat} (hb : b < 36) (k : ¬ okM D w z b) (h : ∀ j, j < 144 * a + 4 * b → ¬ P2 D w z x j) : ∀ j, j < 144 * a + 4 * (b + 1) → ¬ P2 D w z x j := by
  intro j hj
  by_cases e : j < 144 * a + 4 * b
  · exact h j e
  · intro p
    have := p.2.2.1
    rw [show j / 4 % 36 = b by omega] at this
    exact k this
theorem no_a {D : Nat → Int} {w z x : Int} {a : Nat} (k : ¬ okM D w z a) (h : ∀ j, j < 144 * a → ¬ P2 D w z x j) : ∀ j, j < 144 * (a + 1) → ¬ P2 D w z x j := by
  intro j hj
  by_cases e : j < 144 * a
  · exact h j e
  · intro p
    have := p.2.1
    rw [show j / 144 = a by omega] at this
    exact k this
theorem no_e {D : Nat → Int} {w z x : Int} {a : Nat} (ha : a < 36) (h : ∀ j, j < 144 * a → ¬ P2 D w z x j) : ∀ j, j < 144 * a + 4 * (a + 1) → ¬ P2 D w z x j := by
  intro j hj
  by_cases e : j < 144 * a
  · exact h j e
  · intro p
    have := p.1
    omega
theorem no_n {D : Nat → Int} {w z x : Int} {n m : Nat} (e : m = n) (h : ∀ j, j < n → ¬ P2 D w z x j) : ∀ j, j < m → ¬ P2 D w z x j := by
  subst e
  exact h
theorem l_twoB {d : Nat} {s : mSt} {s0 : mSt} {P : Int → mSt → Prop} {D : Nat → Int} {w z x : Int} (hB : TwB D w z x s0) (a : Nat) (ha : a < 36) (oa : okM D w z a) (b : Nat) (bb : Int) (hbb : bb = (b : Int)) (hab : a < b) (hb : b ≤ 36) (hT : TwoI D w z x s0 s (144 * a + 4 * b)) (hP1 : ∀ s1 i, Fst (P2 D w z x) 5184 i → Fr [129, 135, 136] s0 s1 → s1 135 1 = 4 → s1 136 0 = ((i / 144 : Nat) : Int) → s1 136 1 = 2 + ((i / 2 % 2 : Nat) : Int) → s1 136 2 = ((i / 4 % 36 : Nat) : Int) → s1 136 3 = 2 + ((i % 2 : Nat) : Int) → P 1 s1) (hK : ∀ s1 (l5 : Option mAV), TwoI D w z x s0 s1 (144 * (a + 1)) → WP (d + 4) 160 37 [some (.inr (.inr 10)), some (.inl w), some (.inl z), some (.inl x), some (.inl (a : Int)), l5] [] (encA (s1)) (QI P)) : WP (d + 4) 160 16 [some (.inr (.inr 10)), some (.inl w), some (.inl z), some (.inl x), some (.inl (a : Int)), some (.inl bb)] [] (encA (s)) (QI P) := by
  subst hbb
  have hB0 := hB
  obtain ⟨⟨hM, hV, hlf, hw, hz, hx, hli⟩, h5, hn1, h137⟩ := hB
  have hVs := hV.fr rfl hT.1
  refine w_ldI rfl rfl ?_
  refine w_push rfl ?_
  refine w_crGe rfl (by omega) (by omega) (fun b18 => ?_) (fun b18 => ?_)
  · first
    | (exfalso; omega)
    | (obtain rfl : b = 36 := by omega
       exact hK s _ ⟨hT.1, no_n (by omega) hT.2⟩)
  · first
    | (exfalso; omega)
    | (refine w_ldR rfl rfl rfl ?_
       refine w_ldI rfl rfl ?_
       refine w_ldI rfl rfl ?_
       refine w_ldI rfl rfl ?_
       refine w_callV rfl rfl rfl rfl rfl rfl rfl (k_takes hVs hM (by omega) hw (by omega)) ?_
       refine w_bEq0 rfl (fun b24 => ?_) (fun b24 => ?_)
       · first
         | (exfalso; omega)
         | (refine w_inc_6_5 rfl rfl ?_
            refine w_go rfl ?_
            first
            | exact l_twoB hB0 a ha oa (b + 1) ((b : Int) + 1) (by omega) (by omega) (by omega) ⟨hT.1, no_b (by omega) b24 hT.2⟩ hP1 hK
            | (rcases p31 with ⟨e, -⟩ | ⟨e, hT1⟩
               · exfalso; omega
               · exact l_twoB hB0 a ha oa (b + 1) ((b : Int) + 1) (by omega) (by omega) (by omega) ⟨hT1.1, no_n (by omega) hT1.2⟩ hP1 hK))
       · first
         | (exfalso; omega)
         | (refine w_ldR rfl rfl rfl ?_
            refine w_ldI rfl rfl ?_
            refine w_ldI rfl rfl ?_
            refine w_ldI rfl rfl ?_
            refine w_ldI rfl rfl ?_
            refine w_ldI rfl rfl ?_
            refine w_callWI rfl rfl rfl rfl rfl rfl rfl (k_pair hB0 (by omega) hab oa b24 hT) (fun v31 s31 p31 => ?_)
            have r31 : v31 = 0 ∨ v31 = 1 := by rcases p31 with ⟨e, -⟩ | ⟨e, -⟩ <;> omega
            refine w_irEq0 rfl (by omega) (fun b32 => ?_) (fun b32 => ?_)
            · first
              | (exfalso; omega)
              | (refine w_inc_6_5 rfl rfl ?_
                 refine w_go rfl ?_
                 first
                 | exact l_twoB hB0 a ha oa (b + 1) ((b : Int) + 1) (by omega) (by omega) (by omega) ⟨hT.1, no_b (by omega) b24 hT.2⟩ hP1 hK
                 | (rcases p31 with ⟨e, -⟩ | ⟨e, hT1⟩
                    · exfalso; omega
                    · exact l_twoB hB0 a ha oa (b + 1) ((b : Int) + 1) (by omega) (by omega) (by omega) ⟨hT1.1, no_n (by omega) hT1.2⟩ hP1 hK))
            · first
              | (exfalso; omega)
              | (refine w_push rfl ?_
                 refine w_retB rfl (by first | exact bI_01 _ | decide | omega) ?_
                 rcases p31 with ⟨e, i, h1, h2, h3, h4, h5, h6, h7⟩ | ⟨e, -⟩
                 · exact hP1 s31 i h1 h2 h3 h4 h5 h6 h7
                 · exfalso; omega)))
termination_by 36 - b
decreasing_by all_goals omega
theorem l_twoA {d : Nat} {s : mSt} {s0 : mSt} {P : Int → mSt → Prop} {D : Nat → Int} {w z x : Int} {l5 : Option mAV} (hB : TwB D w z x s0) (a : Nat) (aa : Int) (haa : aa = (a : Int)) (ha : a ≤ 36) (hT : TwoI D w z x s0 s (144 * a)) (hP1 : ∀ s1 i, Fst (P2 D w z x) 5184 i → Fr [129, 135, 136] s0 s1 → s1 135 1 = 4 → s1 136 0 = ((i / 144 : Nat) : Int) → s1 136 1 = 2 + ((i / 2 % 2 : Nat) : Int) → s1 136 2 = ((i / 4 % 36 : Nat) : Int) → s1 136 3 = 2 + ((i % 2 : Nat) : Int) → P 1 s1) (hP0 : ∀ s1, TwoI D w z x s0 s1 5184 → P 0 s1) : WP (d + 4) 160 2 [some (.inr (.inr 10)), some (.inl w), some (.inl z), some (.inl x), some (.inl aa), l5] [] (encA (s)) (QI P) := by
  subst haa
  have hB0 := hB
  obtain ⟨⟨hM, hV, hlf, hw, hz, hx, hli⟩, h5, hn1, h137⟩ := hB
  have hVs := hV.fr rfl hT.1
  refine w_ldI rfl rfl ?_
  refine w_push rfl ?_
  refine w_crGe rfl (by omega) (by omega) (fun b4 => ?_) (fun b4 => ?_)
  · first
    | (exfalso; omega)
    | (refine w_push rfl ?_
       refine w_retB rfl (by first | exact bI_01 _ | decide | omega) ?_
       obtain rfl : a = 36 := by omega
       exact hP0 s hT)
  · first
    | (exfalso; omega)
    | (refine w_ldR rfl rfl rfl ?_
       refine w_ldI rfl rfl ?_
       refine w_ldI rfl rfl ?_
       refine w_ldI rfl rfl ?_
       refine w_callV rfl rfl rfl rfl rfl rfl rfl (k_takes hVs hM (by omega) hw (by omega)) ?_
       refine w_bNe0 rfl (fun b10 => ?_) (fun b10 => ?_)
       · first
         | (exfalso; omega)
         | (refine w_ldI rfl rfl ?_
            refine w_push rfl ?_
            refine w_add rfl ?_
            refine w_StI_6_5 rfl rfl ?_
            refine l_twoB hB0 a (by omega) b10 (a + 1) ((a : Int) + 1) (by omega) (by omega) (by omega) ⟨hT.1, no_e (by omega) hT.2⟩ hP1 (fun s1 l5 hT1 => ?_)
            refine w_inc_6_4 rfl rfl ?_
            refine w_go rfl ?_
            exact l_twoA hB0 (a + 1) ((a : Int) + 1) (by omega) (by omega) hT1 hP1 hP0)
       · first
         | (exfalso; omega)
         | (refine w_go rfl ?_
            refine w_inc_6_4 rfl rfl ?_
            refine w_go rfl ?_
            exact l_twoA hB0 (a + 1) ((a : Int) + 1) (by omega) (by omega) ⟨hT.1, no_a b10 hT.2⟩ hP1 hP0))
termination_by 36 - a
decreasing_by all_goals omega
theorem k_two {d : Nat} {s : mSt} {D : Nat → Int} {w z x : Int} (hB : TwB D w z x s) : CI (d + 4) 160 [.inr (.inr 10), .inl w, .inl z, .inl x] (s) (TwoR D w z x s 5184) := by
  refine CI.mk rfl ?_
  show WP (d + 4) 160 0 [some (.inr (.inr 10)), some (.inl w), some (.inl z), some (.inl x), none, none] [] (encA (s)) _
  refine w_push rfl ?_
  refine w_StI_6_4 rfl rfl ?_
  exact l_twoA hB 0 0 rfl (by omega) ⟨Fr.rf, fun j hj => by omega⟩ (fun s1 i h1 h2 h3 h4 h5 h6 h7 => Or.inl ⟨rfl, i, h1, h2, h3, h4, h5, h6, h7⟩) (fun s1 h => Or.inr ⟨rfl, h⟩)
def MirQ (D : Nat → Int) (w z x n : Int) (m : Nat → Int) : Prop := (x ≤ liW D w z.toNat ∧ n = 0) ∨ (liW D w z.toNat < x ∧ ∃ i, Fst (P1 D w z x) 72 i ∧ n = 1 ∧ m 0 = ((i / 2 : Nat) : Int) ∧ m 1 = 2 + ((i % 2 : Nat) : Int)) ∨ (liW D w z.toNat < x ∧ (∀ j, j < 72 → ¬ P1 D w z x j) ∧ ∃ i, Fst (P2 D w z x) 5184 i ∧ n = 2 ∧ m 0 = ((i / 144 : Nat) : Int) ∧ m 1 = 2 + ((i / 2 % 2 : Nat) : Int) ∧ m 2 = ((i / 4 % 36 : Nat) : Int) ∧ m 3 = 2 + ((i % 2 : Nat) : Int)) ∨ (liW D w z.toNat < x ∧ (∀ j, j < 72 → ¬ P1 D w z x j) ∧ (∀ j, j < 5184 → ¬ P2 D w z x j) ∧ n = -1)
theorem MirQ.one {D : Nat → Int} {w z x n n' : Int} {m m' : Nat → Int} (h : MirQ D w z x n m) (h' : MirQ D w z x n' m') : n = n' ∧ ∀ t : Nat, (t : Int) < 2 * n → m t = m' t := by
  rcases h with ⟨a1, a2⟩ | ⟨a1, i, a2, a3, a4, a5⟩ | ⟨a1, a2, i, a3, a4, a5, a6, a7, a8⟩ | ⟨a1, a2, a3, a4⟩ <;> rcases h' with ⟨c1, c2⟩ | ⟨c1, j, c2, c3, c4, c5⟩ | ⟨c1, c2, j, c3, c4, c5, c6, c7, c8⟩ | ⟨c1, c2, c3, c4⟩
  · exact ⟨by omega, fun t ht => by omega⟩
  · exfalso; omega
  · exfalso; omega
  · exfalso; omega
  · exfalso; omega
  · obtain rfl := a2.one c2
    refine ⟨by omega, fun t ht => ?_⟩
    rcases (show t = 0 ∨ t = 1 by omega) with rfl | rfl
    · rw [a4, c4]
    · rw [a5, c5]
  · exact absurd a2.2.1 (c2 i a2.1)
  · exact absurd a2.2.1 (c2 i a2.1)
  · exfalso; omega
  · exact absurd c2.2.1 (a2 j c2.1)
  · obtain rfl := a3.one c3
    refine ⟨by omega, fun t ht => ?_⟩
    rcases (show t = 0 ∨ t = 1 ∨ t = 2 ∨ t = 3 by omega) with rfl | rfl | rfl | rfl
    · rw [a5, c5]
    · rw [a6, c6]
    · rw [a7, c7]
    · rw [a8, c8]
  · exact absurd a3.2.1 (c3 i a3.1)
  · exfalso; omega
  · exact absurd c2.2.1 (a2 j c2.1)
  · exact absurd c3.2.1 (a3 j c3.1)
  · exact ⟨by omega, fun t ht => by omega⟩
theorem dark_1 {D : Nat → Int} (hM : MOk D) {w z x : Int} (hw : 0 ≤ w ∧ w < 6) (h : lfW D w 0 < x) : (∀ j, j < 72 → ¬ P1 D w z x j) ∧ ∀ j, j < 5184 → ¬ P2 D w z x j := by
  have hk : ∀ G : Nat → Int, liF G (lfW D w) (cwF D w) z.toNat ≤ lfW D w 0 := fun G => liF_le0 (shn_rng hM hw).1 (fun k => lfW_le hM hw k)
  refine ⟨fun j _ p => ?_, fun j _ p => ?_⟩
  · have := hk (m1D D j)
    have := p.2
    omega
  · have := hk (m2D D j)
    have := p.2.2.2
    omega
theorem k_find {d : Nat} {s : mSt} {D : Nat → Int} {w z x : Int} (hM : MOk D) (hC : COk D) (hV : VN13 s D) (h8 : s 13 1 = D 38) (hw : 0 ≤ w ∧ w < 6) (hz : 0 ≤ z ∧ z < 36) (hx : 1 ≤ x ∧ x ≤ 99) : CI (d + 5) 158 [.inr (.inr 10), .inl w, .inl z, .inl x] (s) (fun r s1 => Fr [38, 128, 129, 135, 136, 137] s s1 ∧ ((r = 1 ∧ ∃ n, 0 ≤ n ∧ n ≤ 2 ∧ MirQ D w z x n (s1 136) ∧ s1 135 1 = 2 * n) ∨ (r = 0 ∧ MirQ D w z x (-1) (s1 136)))) := by
  refine CI.mk rfl ?_
  show WP (d + 5) 158 0 [some (.inr (.inr 10)), some (.inl w), some (.inl z), some (.inl x)] [] (encA (s)) _
  have hVe : VN13 (us s 135 1 0) D := hV.fr rfl (Fr.us (A := [135]) rfl)
  have h8e : us s 135 1 0 13 1 = D 38 := by rw [us_ne (by decide)]; exact h8
  have hcw := cwF_rng hM hw
  have hzl := liM_L hM hw (G := D)
  have hz1 := hzl z.toNat (by omega)
  have hz2 := hzl (cwF D w).toNat (by omega)
  have he : liW D w = liF D (lfW D w) (cwF D w) := rfl
  have hsr : liW D w (cwF D w).toNat = lfW D w 0 := liF_src rfl
  rw [← he] at hz1 hz2
  refine w_ldR rfl rfl rfl ?_
  first | refine w_getI rfl rfl rfl rfl rfl ?_ | refine w_getR rfl rfl rfl rfl rfl ?_
  refine w_callWN rfl rfl rfl rfl rfl rfl rfl k_empty135 (fun s2 p2 => ?_)
  subst p2
  refine w_ldR rfl rfl rfl ?_
  first | refine w_getI rfl rfl rfl rfl rfl ?_ | refine w_getR rfl rfl rfl rfl rfl ?_
  refine w_ldR rfl rfl rfl ?_
  first | refine w_getI rfl rfl rfl rfl rfl ?_ | refine w_getR rfl rfl rfl rfl rfl ?_
  refine w_ldI rfl rfl ?_
  refine w_ldR rfl rfl rfl ?_
  first | refine w_getI rfl rfl rfl rfl rfl ?_ | refine w_getR rfl rfl rfl rfl rfl ?_
  first | refine w_getI rfl rfl rfl rfl rfl ?_ | refine w_getR rfl rfl rfl rfl rfl ?_
  refine w_callWN rfl rfl rfl rfl rfl rfl rfl (k_cast13 hVe hM hC hw h8e) (fun s11 p11 => ?_)
  obtain ⟨f11, l11, q11⟩ := p11
  have fs : Fr [38, 128, 129, 135, 136, 137] s s11 := (Fr.us rfl).tr (Fr.mono rfl f11)
  have g135 : s11 135 1 = 0 := by rw [f11.at 135 rfl, us_eq]; exact mup_eq _ _ _
  have hV1 : VN13 s11 D := hVe.fr rfl f11
  refine w_ldR rfl rfl rfl ?_
  first | refine w_getI rfl rfl rfl rfl rfl ?_ | refine w_getR rfl rfl rfl rfl rfl ?_
  refine w_ldI rfl rfl ?_
  refine w_callV rfl rfl rfl rfl rfl rfl rfl (k_lightIn (by omega)) ?_
  rw [if_pos (by omega), l11 z.toNat (by omega)]
  refine w_ldI rfl rfl ?_
  refine w_crLt rfl (by omega) (by omega) (fun b17 => ?_) (fun b17 => ?_)
  · first
    | (exfalso; omega)
    | (refine w_ldR rfl rfl rfl ?_
       first | refine w_getI rfl rfl rfl rfl rfl ?_ | refine w_getR rfl rfl rfl rfl rfl ?_
       refine w_ldR rfl rfl rfl ?_
       first | refine w_getI rfl rfl rfl rfl rfl ?_ | refine w_getR rfl rfl rfl rfl rfl ?_
       first | refine w_getI rfl rfl rfl rfl rfl ?_ | refine w_getR rfl rfl rfl rfl rfl ?_
       refine w_ldI rfl rfl ?_
       refine w_ald rfl rfl rfl (by omega) rfl ?_
       rw [hV1.2.1 w (by omega) (by omega)]
       rw [show D (45 + 4 * w + 2).toNat = cwF D w from rfl]
       refine w_callV rfl rfl rfl rfl rfl rfl rfl (k_lightIn (by omega)) ?_
       rw [if_pos (by omega), l11 (cwF D w).toNat (by omega)]
       refine w_ldI rfl rfl ?_
       refine w_crGe rfl (by omega) (by omega) (fun b29 => ?_) (fun b29 => ?_)
       · first
         | (exfalso; omega)
         | (have hMr : MrI D w z x s11 := ⟨hM, hV1, fun k hk => q11 k hk, hw, hz, hx, by omega⟩
            refine w_ldR rfl rfl rfl ?_
            refine w_ldI rfl rfl ?_
            refine w_ldI rfl rfl ?_
            refine w_ldI rfl rfl ?_
            refine w_callWI rfl rfl rfl rfl rfl rfl rfl (k_one hMr g135 l11) (fun v36 s36 p36 => ?_)
            have r36 : v36 = 0 ∨ v36 = 1 := by rcases p36 with ⟨e, -⟩ | ⟨e, -⟩ <;> omega
            refine w_irNe0 rfl (by omega) (fun b37 => ?_) (fun b37 => ?_)
            · first
              | (exfalso; omega)
              | (refine w_push rfl ?_
                 refine w_go rfl ?_
                 refine w_retB rfl (by first | exact bI_01 _ | decide | omega) ?_
                 first
                 | (rcases p42 with ⟨e, i, h1, h2, h3, h4, h5, h6, h7⟩ | ⟨e, h⟩
                    · first
                      | (exfalso; omega)
                      | exact ⟨(fs.tr (Fr.mono rfl hO.1)).tr (Fr.mono rfl h2), Or.inl ⟨rfl, 2, by omega, by omega, Or.inr (Or.inr (Or.inl ⟨by omega, hO.2.1, i, h1, rfl, h4, h5, h6, h7⟩)), h3⟩⟩
                    · first
                      | (exfalso; omega)
                      | exact ⟨(fs.tr (Fr.mono rfl hO.1)).tr (Fr.mono rfl h.1), Or.inr ⟨rfl, Or.inr (Or.inr (Or.inr ⟨by omega, hO.2.1, h.2, rfl⟩))⟩⟩)
                 | (rcases p36 with ⟨e, i, h1, h2, h3, h4, h5⟩ | ⟨e, h⟩
                    · exact ⟨fs.tr (Fr.mono rfl h2), Or.inl ⟨rfl, 1, by omega, by omega, Or.inr (Or.inl ⟨by omega, i, h1, rfl, h4, h5⟩), h3⟩⟩
                    · exfalso; omega))
            · first
              | (exfalso; omega)
              | (obtain ⟨-, hO⟩ : v36 = 0 ∧ OneI D w z x s11 s36 72 := by
                   rcases p36 with ⟨e, -⟩ | h
                   · exfalso; omega
                   · exact h
                 have hTw : TwB D w z x s36 := ⟨hMr.fr rfl rfl hO.1, by rw [hO.1.at 135 rfl]; exact g135, hO.2.1, hO.2.2⟩
                 refine w_ldR rfl rfl rfl ?_
                 refine w_ldI rfl rfl ?_
                 refine w_ldI rfl rfl ?_
                 refine w_ldI rfl rfl ?_
                 refine w_callWI rfl rfl rfl rfl rfl rfl rfl (k_two hTw) (fun v42 s42 p42 => ?_)
                 have r42 : v42 = 0 ∨ v42 = 1 := by rcases p42 with ⟨e, -⟩ | ⟨e, -⟩ <;> omega
                 refine w_irEq0 rfl (by omega) (fun b43 => ?_) (fun b43 => ?_)
                 · first
                   | (exfalso; omega)
                   | (refine w_push rfl ?_
                      refine w_retB rfl (by first | exact bI_01 _ | decide | omega) ?_
                      first
                      | (rcases p42 with ⟨e, i, h1, h2, h3, h4, h5, h6, h7⟩ | ⟨e, h⟩
                         · first
                           | (exfalso; omega)
                           | exact ⟨(fs.tr (Fr.mono rfl hO.1)).tr (Fr.mono rfl h2), Or.inl ⟨rfl, 2, by omega, by omega, Or.inr (Or.inr (Or.inl ⟨by omega, hO.2.1, i, h1, rfl, h4, h5, h6, h7⟩)), h3⟩⟩
                         · first
                           | (exfalso; omega)
                           | exact ⟨(fs.tr (Fr.mono rfl hO.1)).tr (Fr.mono rfl h.1), Or.inr ⟨rfl, Or.inr (Or.inr (Or.inr ⟨by omega, hO.2.1, h.2, rfl⟩))⟩⟩)
                      | (rcases p36 with ⟨e, i, h1, h2, h3, h4, h5⟩ | ⟨e, h⟩
                         · exact ⟨fs.tr (Fr.mono rfl h2), Or.inl ⟨rfl, 1, by omega, by omega, Or.inr (Or.inl ⟨by omega, i, h1, rfl, h4, h5⟩), h3⟩⟩
                         · exfalso; omega))
                 · first
                   | (exfalso; omega)
                   | (refine w_push rfl ?_
                      refine w_go rfl ?_
                      refine w_retB rfl (by first | exact bI_01 _ | decide | omega) ?_
                      first
                      | (rcases p42 with ⟨e, i, h1, h2, h3, h4, h5, h6, h7⟩ | ⟨e, h⟩
                         · first
                           | (exfalso; omega)
                           | exact ⟨(fs.tr (Fr.mono rfl hO.1)).tr (Fr.mono rfl h2), Or.inl ⟨rfl, 2, by omega, by omega, Or.inr (Or.inr (Or.inl ⟨by omega, hO.2.1, i, h1, rfl, h4, h5, h6, h7⟩)), h3⟩⟩
                         · first
                           | (exfalso; omega)
                           | exact ⟨(fs.tr (Fr.mono rfl hO.1)).tr (Fr.mono rfl h.1), Or.inr ⟨rfl, Or.inr (Or.inr (Or.inr ⟨by omega, hO.2.1, h.2, rfl⟩))⟩⟩)
                      | (rcases p36 with ⟨e, i, h1, h2, h3, h4, h5⟩ | ⟨e, h⟩
                         · exact ⟨fs.tr (Fr.mono rfl h2), Or.inl ⟨rfl, 1, by omega, by omega, Or.inr (Or.inl ⟨by omega, i, h1, rfl, h4, h5⟩), h3⟩⟩
                         · exfalso; omega))))
       · first
         | (exfalso; omega)
         | (refine w_push rfl ?_
            refine w_retB rfl (by first | exact bI_01 _ | decide | omega) ?_
            have hd := dark_1 (z := z) (x := x) hM hw (by omega)
            exact ⟨fs, Or.inr ⟨rfl, Or.inr (Or.inr (Or.inr ⟨by omega, hd.1, hd.2, rfl⟩))⟩⟩))
  · first
    | (exfalso; omega)
    | (refine w_push rfl ?_
       refine w_retB rfl (by first | exact bI_01 _ | decide | omega) ?_
       exact ⟨fs, Or.inl ⟨rfl, 0, by omega, by omega, Or.inl ⟨by omega, rfl⟩, by rw [g135]; rfl⟩⟩)
theorem k_at135 {d : Nat} {s : mSt} {i : Int} (hi : -2147483648 ≤ i ∧ i < 2147483648) (hs : 0 ≤ s 135 1 ∧ s 135 1 ≤ 4) : Call (d + 0) 64 [.inr (.inr 135), .inl i] (encA (s)) (some (.inl (rowAt s 135 i))) (encA (s)) := by
  refine CI.ex (CI.mk rfl ?_)
  show WP (d + 0) 64 0 [some (.inr (.inr 135)), some (.inl i)] [] (encA (s)) _
  refine w_ldI rfl rfl ?_
  refine w_irLt0 rfl (by omega) (fun b1 => ?_) (fun b1 => ?_)
  · first
    | (exfalso; omega)
    | (refine w_push rfl ?_
       refine w_retI rfl ?_
       refine ⟨?_, rfl⟩
       unfold rowAt
       first | rw [if_pos (by omega)] | rw [if_neg (by omega)])
  · first
    | (exfalso; omega)
    | (refine w_ldI rfl rfl ?_
       refine w_ldR rfl rfl rfl ?_
       first | refine w_getI rfl rfl rfl rfl rfl ?_ | refine w_getR rfl rfl rfl rfl rfl ?_
       refine w_crGe rfl (by omega) (by omega) (fun b5 => ?_) (fun b5 => ?_)
       · first
         | (exfalso; omega)
         | (refine w_push rfl ?_
            refine w_retI rfl ?_
            refine ⟨?_, rfl⟩
            unfold rowAt
            first | rw [if_pos (by omega)] | rw [if_neg (by omega)])
       · first
         | (exfalso; omega)
         | (refine w_ldR rfl rfl rfl ?_
            first | refine w_getI rfl rfl rfl rfl rfl ?_ | refine w_getR rfl rfl rfl rfl rfl ?_
            refine w_ldI rfl rfl ?_
            refine w_ald rfl rfl rfl (by omega) rfl ?_
            refine w_go rfl ?_
            refine w_retI rfl ?_
            refine ⟨?_, rfl⟩
            unfold rowAt
            first | rw [if_pos (by omega)] | rw [if_neg (by omega)]))
theorem x_mirrors_y {d : Nat} {s : mSt} (hI : IvD s) {w c x q : Int} (hrw : -2147483648 ≤ w ∧ w < 2147483648) (hrc : -2147483648 ≤ c ∧ c < 2147483648) (hrx : -2147483648 ≤ x ∧ x < 2147483648) (hrq : -2147483648 ≤ q ∧ q < 2147483648) (hy : (0 ≤ w ∧ w ≤ s 147 39 - 1) ∧ (0 ≤ c ∧ c ≤ 35) ∧ (1 ≤ x ∧ x ≤ 99) ∧ 0 ≤ q ∧ q ≤ 4) : CI (d + 6) 125 [.inr (.inr 10), .inl w, .inl c, .inl x, .inl q] (s) (fun r s1 => ∃ n m s2, MirQ (s 147) w c x n m ∧ Fr [38, 128, 129, 135, 136, 137] s s2 ∧ ((n < 0 ∨ 2 * n < q) ∧ r = -1000000000 - 2 ∧ s1 = us s2 132 2 (s2 132 2 + 1) ∨ 0 ≤ n ∧ q ≤ 2 * n ∧ r = (if q = 0 then n else m (q - 1).toNat) ∧ s1 = s2)) := by
  refine CI.mk rfl ?_
  show WP (d + 6) 125 0 [some (.inr (.inr 10)), some (.inl w), some (.inl c), some (.inl x), some (.inl q)] [] (encA (s)) _
  have hI0 := hI
  obtain ⟨⟨hM, hC, hN⟩, hV, h8⟩ := hI
  have hV0 := hV
  have hM0 := hM
  obtain ⟨vc, vpl, vga, vse, vne, veg, vre, vtu, vta, vwa, v36, v37, v39, v40, v42, v41, v43, v44, vl0, vl1, vlm⟩ := hV
  obtain ⟨hM39, hM40, hM41, hM43, hM44, hM36, hM37, hM38, hMc, hMw, hMp, hMt, hMb⟩ := hM
  refine w_ldR rfl rfl rfl ?_
  refine w_ldI rfl rfl ?_
  refine w_callV rfl rfl rfl rfl rfl rfl rfl (k_isWindow (by omega) (by omega)) ?_
  refine w_bEq0 rfl (fun b3 => ?_) (fun b3 => ?_)
  · first
    | (exfalso; omega)
    | (exfalso; omega)
  · first
    | (exfalso; omega)
    | (refine w_ldI rfl rfl ?_
       refine w_call rfl rfl rfl (k_isCell (by omega)) ?_
       refine w_bEq0 rfl (fun b6 => ?_) (fun b6 => ?_)
       · first
         | (exfalso; omega)
         | (exfalso; omega)
       · first
         | (exfalso; omega)
         | (refine w_ldI rfl rfl ?_
            refine w_push rfl ?_
            refine w_crLt rfl (by omega) (by omega) (fun b9 => ?_) (fun b9 => ?_)
            · first
              | (exfalso; omega)
              | (exfalso; omega)
            · first
              | (exfalso; omega)
              | (refine w_ldI rfl rfl ?_
                 refine w_push rfl ?_
                 refine w_crGt rfl (by omega) (by omega) (fun b12 => ?_) (fun b12 => ?_)
                 · first
                   | (exfalso; omega)
                   | (exfalso; omega)
                 · first
                   | (exfalso; omega)
                   | (refine w_ldI rfl rfl ?_
                      refine w_irLt0 rfl (by omega) (fun b14 => ?_) (fun b14 => ?_)
                      · first
                        | (exfalso; omega)
                        | (exfalso; omega)
                      · first
                        | (exfalso; omega)
                        | (refine w_ldI rfl rfl ?_
                           refine w_push rfl ?_
                           refine w_crLe rfl (by omega) (by omega) (fun b17 => ?_) (fun b17 => ?_)
                           · first
                             | (exfalso; omega)
                             | (refine w_ldR rfl rfl rfl ?_
                                refine w_ldI rfl rfl ?_
                                refine w_ldI rfl rfl ?_
                                refine w_ldI rfl rfl ?_
                                refine w_callWI rfl rfl rfl rfl rfl rfl rfl (k_find hM0 hC hV0 h8 (by omega) (by omega) (by omega)) (fun v26 s26 p26 => ?_)
                                obtain ⟨f26, p26⟩ := p26
                                have r26 : v26 = 0 ∨ v26 = 1 := by rcases p26 with ⟨e, -⟩ | ⟨e, -⟩ <;> omega
                                refine w_irNe0 rfl (by omega) (fun b27 => ?_) (fun b27 => ?_)
                                · first
                                  | (exfalso; omega)
                                  | (rcases p26 with ⟨-, n, hn0, hn2, hQ, h135⟩ | ⟨e, -⟩
                                     rotate_left
                                     · exfalso; omega
                                     refine w_ldI rfl rfl ?_
                                     refine w_irNe0 rfl (by omega) (fun b33 => ?_) (fun b33 => ?_)
                                     · first
                                       | (exfalso; omega)
                                       | (refine w_ldI rfl rfl ?_
                                          refine w_ldR rfl rfl rfl ?_
                                          first | refine w_getI rfl rfl rfl rfl rfl ?_ | refine w_getR rfl rfl rfl rfl rfl ?_
                                          first | refine w_getI rfl rfl rfl rfl rfl ?_ | refine w_getR rfl rfl rfl rfl rfl ?_
                                          rw [h135]
                                          refine w_crLe rfl (by omega) (by omega) (fun b44 => ?_) (fun b44 => ?_)
                                          · first
                                            | (exfalso; omega)
                                            | (refine w_ldR rfl rfl rfl ?_
                                               first | refine w_getI rfl rfl rfl rfl rfl ?_ | refine w_getR rfl rfl rfl rfl rfl ?_
                                               refine w_ldI rfl rfl ?_
                                               refine w_push rfl ?_
                                               refine w_sub rfl ?_
                                               refine w_callV rfl rfl rfl rfl rfl rfl rfl (k_at135 (by omega) (by omega)) ?_
                                               refine w_retI rfl ?_
                                               first
                                               | exact ⟨n, s26 136, s26, hQ, f26, Or.inl ⟨Or.inr (by omega), rfl, rfl⟩⟩
                                               | exact ⟨n, s26 136, s26, hQ, f26, Or.inr ⟨hn0, by omega, by rw [if_neg (by omega)]; unfold rowAt; rw [if_pos (by omega)], rfl⟩⟩)
                                          · first
                                            | (exfalso; omega)
                                            | (refine w_ldR rfl rfl rfl ?_
                                               refine w_push rfl ?_
                                               refine w_callWI rfl rfl rfl rfl rfl rfl rfl k_error2 (fun v47 s47 p47 => ?_)
                                               obtain ⟨rfl, rfl⟩ := p47
                                               refine w_go rfl ?_
                                               refine w_retI rfl ?_
                                               first
                                               | exact ⟨n, s26 136, s26, hQ, f26, Or.inl ⟨Or.inr (by omega), rfl, rfl⟩⟩
                                               | exact ⟨n, s26 136, s26, hQ, f26, Or.inr ⟨hn0, by omega, by rw [if_neg (by omega)]; unfold rowAt; rw [if_pos (by omega)], rfl⟩⟩))
                                     · first
                                       | (exfalso; omega)
                                       | (refine w_ldR rfl rfl rfl ?_
                                          first | refine w_getI rfl rfl rfl rfl rfl ?_ | refine w_getR rfl rfl rfl rfl rfl ?_
                                          first | refine w_getI rfl rfl rfl rfl rfl ?_ | refine w_getR rfl rfl rfl rfl rfl ?_
                                          refine w_push rfl ?_
                                          rw [h135]
                                          refine w_div rfl (by decide) ?_
                                          refine w_retI rfl ?_
                                          exact ⟨n, s26 136, s26, hQ, f26, Or.inr ⟨hn0, by omega, by rw [if_pos (by omega), m_div_pos (by omega) (by omega)]; omega, rfl⟩⟩))
                                · first
                                  | (exfalso; omega)
                                  | (rcases p26 with ⟨e, -⟩ | ⟨-, hQ⟩
                                     · exfalso; omega
                                     refine w_ldR rfl rfl rfl ?_
                                     refine w_push rfl ?_
                                     refine w_callWI rfl rfl rfl rfl rfl rfl rfl k_error2 (fun v30 s30 p30 => ?_)
                                     obtain ⟨rfl, rfl⟩ := p30
                                     refine w_retI rfl ?_
                                     exact ⟨-1, s26 136, s26, hQ, f26, Or.inl ⟨Or.inl (by omega), rfl, rfl⟩⟩))
                           · first
                             | (exfalso; omega)
                             | (exfalso; omega))))))
theorem x_mirrors_n {d : Nat} {s : mSt} (hI : IvD s) {w c x q : Int} (hrw : -2147483648 ≤ w ∧ w < 2147483648) (hrc : -2147483648 ≤ c ∧ c < 2147483648) (hrx : -2147483648 ≤ x ∧ x < 2147483648) (hrq : -2147483648 ≤ q ∧ q < 2147483648) (hy : ¬ ((0 ≤ w ∧ w ≤ s 147 39 - 1) ∧ (0 ≤ c ∧ c ≤ 35) ∧ (1 ≤ x ∧ x ≤ 99) ∧ 0 ≤ q ∧ q ≤ 4)) : CI (d + 6) 125 [.inr (.inr 10), .inl w, .inl c, .inl x, .inl q] (s) (fun r s1 => r = -1000000000 - 1 ∧ s1 = us s 132 1 (s 132 1 + 1)) := by
  refine CI.mk rfl ?_
  show WP (d + 6) 125 0 [some (.inr (.inr 10)), some (.inl w), some (.inl c), some (.inl x), some (.inl q)] [] (encA (s)) _
  have hI0 := hI
  obtain ⟨⟨hM, hC, hN⟩, hV, h8⟩ := hI
  have hV0 := hV
  have hM0 := hM
  obtain ⟨vc, vpl, vga, vse, vne, veg, vre, vtu, vta, vwa, v36, v37, v39, v40, v42, v41, v43, v44, vl0, vl1, vlm⟩ := hV
  obtain ⟨hM39, hM40, hM41, hM43, hM44, hM36, hM37, hM38, hMc, hMw, hMp, hMt, hMb⟩ := hM
  refine w_ldR rfl rfl rfl ?_
  refine w_ldI rfl rfl ?_
  refine w_callV rfl rfl rfl rfl rfl rfl rfl (k_isWindow (by omega) (by omega)) ?_
  refine w_bEq0 rfl (fun b3 => ?_) (fun b3 => ?_)
  · first
    | (exfalso; omega)
    | (refine w_ldR rfl rfl rfl ?_
       refine w_push rfl ?_
       refine w_callWI rfl rfl rfl rfl rfl rfl rfl k_error1 (fun v20 s20 p20 => ?_)
       obtain ⟨rfl, rfl⟩ := p20
       refine w_retI rfl ?_
       exact ⟨rfl, rfl⟩)
  · first
    | (exfalso; omega)
    | (refine w_ldI rfl rfl ?_
       refine w_call rfl rfl rfl (k_isCell (by omega)) ?_
       refine w_bEq0 rfl (fun b6 => ?_) (fun b6 => ?_)
       · first
         | (exfalso; omega)
         | (refine w_ldR rfl rfl rfl ?_
            refine w_push rfl ?_
            refine w_callWI rfl rfl rfl rfl rfl rfl rfl k_error1 (fun v20 s20 p20 => ?_)
            obtain ⟨rfl, rfl⟩ := p20
            refine w_retI rfl ?_
            exact ⟨rfl, rfl⟩)
       · first
         | (exfalso; omega)
         | (refine w_ldI rfl rfl ?_
            refine w_push rfl ?_
            refine w_crLt rfl (by omega) (by omega) (fun b9 => ?_) (fun b9 => ?_)
            · first
              | (exfalso; omega)
              | (refine w_ldR rfl rfl rfl ?_
                 refine w_push rfl ?_
                 refine w_callWI rfl rfl rfl rfl rfl rfl rfl k_error1 (fun v20 s20 p20 => ?_)
                 obtain ⟨rfl, rfl⟩ := p20
                 refine w_retI rfl ?_
                 exact ⟨rfl, rfl⟩)
            · first
              | (exfalso; omega)
              | (refine w_ldI rfl rfl ?_
                 refine w_push rfl ?_
                 refine w_crGt rfl (by omega) (by omega) (fun b12 => ?_) (fun b12 => ?_)
                 · first
                   | (exfalso; omega)
                   | (refine w_ldR rfl rfl rfl ?_
                      refine w_push rfl ?_
                      refine w_callWI rfl rfl rfl rfl rfl rfl rfl k_error1 (fun v20 s20 p20 => ?_)
                      obtain ⟨rfl, rfl⟩ := p20
                      refine w_retI rfl ?_
                      exact ⟨rfl, rfl⟩)
                 · first
                   | (exfalso; omega)
                   | (refine w_ldI rfl rfl ?_
                      refine w_irLt0 rfl (by omega) (fun b14 => ?_) (fun b14 => ?_)
                      · first
                        | (exfalso; omega)
                        | (refine w_ldR rfl rfl rfl ?_
                           refine w_push rfl ?_
                           refine w_callWI rfl rfl rfl rfl rfl rfl rfl k_error1 (fun v20 s20 p20 => ?_)
                           obtain ⟨rfl, rfl⟩ := p20
                           refine w_retI rfl ?_
                           exact ⟨rfl, rfl⟩)
                      · first
                        | (exfalso; omega)
                        | (refine w_ldI rfl rfl ?_
                           refine w_push rfl ?_
                           refine w_crLe rfl (by omega) (by omega) (fun b17 => ?_) (fun b17 => ?_)
                           · first
                             | (exfalso; omega)
                             | (exfalso; omega)
                           · first
                             | (exfalso; omega)
                             | (refine w_ldR rfl rfl rfl ?_
                                refine w_push rfl ?_
                                refine w_callWI rfl rfl rfl rfl rfl rfl rfl k_error1 (fun v20 s20 p20 => ?_)
                                obtain ⟨rfl, rfl⟩ := p20
                                refine w_retI rfl ?_
                                exact ⟨rfl, rfl⟩))))))
