/-! ===== the class: a village lit, who is met, nights ===== -/
theorem lfN_z {D : Nat → Int} {dm h0 : Int} {k : Nat} (h : lfN D dm h0 k ≤ 0) : ∀ j : Nat, k < j → lfN D dm h0 j = 0
  | 0, hj => by omega
  | j + 1, hj => by
    unfold lfN
    by_cases e : k = j
    · subst e; rw [if_neg (by omega)]
    · rw [lfN_z h j (by omega), if_neg (by omega)]
theorem MOk_cell {D : Nat → Int} (hM : MOk D) : ∀ c : Nat, c < 36 → 0 ≤ D c ∧ D c ≤ 3 := hM.2.2.2.2.2.2.2.2.1
theorem MOk_t {D : Nat → Int} (hM : MOk D) {i : Int} (hi : 0 ≤ i ∧ i < 12) : 0 ≤ D (109 + i).toNat ∧ D (109 + i).toNat ≤ 5 := by
  obtain ⟨_, _, _, _, _, _, _, _, _, _, _, h, _⟩ := hM
  have := h i.toNat (by omega)
  rw [show (109 + i).toNat = 109 + i.toNat by omega]
  exact this
theorem LampA.f2 {A : List Nat} {s s1 : mSt} {a : Nat} {k n m : Int} (hA : A.all (fun x => !(lampAdr x) && !(x == 0) && !(x == 1)) = true) (hf : Fr A s s1) (hd : lampAdr a = true) (h : LampA s a k n m) : LampA s1 a k n m := by
  have no : ∀ x, (!(lampAdr x) && !(x == 0) && !(x == 1)) = false → A.contains x = false := fun x hx => by
    cases hc : A.contains x
    · rfl
    · have := List.all_eq_true.mp hA x (by simpa using hc)
      rw [hx] at this
      cases this
  exact LampA.fr (A := A) (hf 0 (no 0 rfl)) (hf 1 (no 1 rfl)) (hf a (no a (by rw [hd]; rfl))) h
def faF (D : Nat → Int) (p k : Int) : Int := if k < 4 then D (69 + 4 * p + k).toNat else wtF D p
theorem k_wantsOf13 {d : Nat} {s : mSt} {D : Nat → Int} (hV : VN13 s D) (hM : MOk D) (hC : COk D) {p nt : Int} (hp : 0 ≤ p ∧ p < 10) (hn : nt = D 38) : CI (d + 2) 86 [.inr (.inr 13), .inl p, .inl nt] (s) (fun v s1 => v = wtF D p ∧ Fr [46] s s1) := by
  refine CI.mk rfl ?_
  show WP (d + 2) 86 0 [some (.inr (.inr 13)), some (.inl p), some (.inl nt)] [] (encA (s)) _
  have hV0 := hV
  obtain ⟨vc, vpl, vga, vse, vne, veg, vre, vtu, vta, vwa, v36, v37, v39, v40, v42, v41, v43, v44, vl0, vl1, vlm⟩ := hV
  subst hn
  refine w_ldR rfl rfl rfl ?_
  first | refine w_getI rfl rfl rfl rfl rfl ?_ | refine w_getR rfl rfl rfl rfl rfl ?_
  refine w_push rfl ?_
  refine w_rld rfl rfl rfl (by omega) rfl ?_
  show WP _ _ _ _ (.inr (.inr 43) :: _) _ _
  refine w_ldR rfl rfl rfl ?_
  first | refine w_getI rfl rfl rfl rfl rfl ?_ | refine w_getR rfl rfl rfl rfl rfl ?_
  refine w_ldI rfl rfl ?_
  refine w_ald rfl rfl rfl (by omega) rfl ?_
  rw [vne _ (by omega) (by omega)]
  refine w_ldR rfl rfl rfl ?_
  first | refine w_getI rfl rfl rfl rfl rfl ?_ | refine w_getR rfl rfl rfl rfl rfl ?_
  refine w_ldI rfl rfl ?_
  refine w_ald rfl rfl rfl (by omega) rfl ?_
  rw [veg _ (by omega) (by omega)]
  refine w_ldR rfl rfl rfl ?_
  first | refine w_getI rfl rfl rfl rfl rfl ?_ | refine w_getR rfl rfl rfl rfl rfl ?_
  refine w_ldI rfl rfl ?_
  refine w_ald rfl rfl rfl (by omega) rfl ?_
  rw [vre _ (by omega) (by omega)]
  refine w_ldI rfl rfl ?_
  refine w_callWI rfl rfl rfl rfl rfl rfl rfl (k_gives43 (use := 1) (by omega) vl1 hC) (fun v17 s17 p17 => ?_)
  refine w_retI rfl ?_
  exact p17
theorem k_factOf13 {d : Nat} {s : mSt} {D : Nat → Int} (hV : VN13 s D) (hM : MOk D) (hC : COk D) {p w : Int} (hp : 0 ≤ p ∧ p < 10) (hw : 0 ≤ w ∧ w ≤ 4) (h38 : s 13 1 = D 38) : CI (d + 3) 87 [.inr (.inr 13), .inl p, .inl w] (s) (fun v s1 => v = faF D p w ∧ Fr [46] s s1) := by
  refine CI.mk rfl ?_
  show WP (d + 3) 87 0 [some (.inr (.inr 13)), some (.inl p), some (.inl w)] [] (encA (s)) _
  have hV0 := hV
  obtain ⟨vc, vpl, vga, vse, vne, veg, vre, vtu, vta, vwa, v36, v37, v39, v40, v42, v41, v43, v44, vl0, vl1, vlm⟩ := hV
  refine w_ldI rfl rfl ?_
  obtain b1 | b1 | b1 | b1 | b1 := (by omega : w = 0 ∨ w = 1 ∨ w = 2 ∨ w = 3 ∨ (w < 0 ∨ 4 ≤ w))
  · first
    | (exfalso; omega)
    | (refine w_sw (tg := 2) rfl (by rw [w32_id (by omega) (by omega), b1]; rfl) ?_
       refine w_ldR rfl rfl rfl ?_
       first | refine w_getI rfl rfl rfl rfl rfl ?_ | refine w_getR rfl rfl rfl rfl rfl ?_
       refine w_ldI rfl rfl ?_
       refine w_ald rfl rfl rfl (by omega) rfl ?_
       rw [vse _ (by omega) (by omega)]
       refine w_retI rfl ?_
       exact ⟨by unfold faF; rw [if_pos (by omega), b1], Fr.rf⟩)
  · first
    | (exfalso; omega)
    | (refine w_sw (tg := 7) rfl (by rw [w32_id (by omega) (by omega), b1]; rfl) ?_
       refine w_ldR rfl rfl rfl ?_
       first | refine w_getI rfl rfl rfl rfl rfl ?_ | refine w_getR rfl rfl rfl rfl rfl ?_
       refine w_ldI rfl rfl ?_
       refine w_ald rfl rfl rfl (by omega) rfl ?_
       rw [vne _ (by omega) (by omega)]
       refine w_retI rfl ?_
       exact ⟨by unfold faF; rw [if_pos (by omega), b1], Fr.rf⟩)
  · first
    | (exfalso; omega)
    | (refine w_sw (tg := 12) rfl (by rw [w32_id (by omega) (by omega), b1]; rfl) ?_
       refine w_ldR rfl rfl rfl ?_
       first | refine w_getI rfl rfl rfl rfl rfl ?_ | refine w_getR rfl rfl rfl rfl rfl ?_
       refine w_ldI rfl rfl ?_
       refine w_ald rfl rfl rfl (by omega) rfl ?_
       rw [veg _ (by omega) (by omega)]
       refine w_retI rfl ?_
       exact ⟨by unfold faF; rw [if_pos (by omega), b1], Fr.rf⟩)
  · first
    | (exfalso; omega)
    | (refine w_sw (tg := 17) rfl (by rw [w32_id (by omega) (by omega), b1]; rfl) ?_
       refine w_ldR rfl rfl rfl ?_
       first | refine w_getI rfl rfl rfl rfl rfl ?_ | refine w_getR rfl rfl rfl rfl rfl ?_
       refine w_ldI rfl rfl ?_
       refine w_ald rfl rfl rfl (by omega) rfl ?_
       rw [vre _ (by omega) (by omega)]
       refine w_retI rfl ?_
       exact ⟨by unfold faF; rw [if_pos (by omega), b1], Fr.rf⟩)
  · first
    | (exfalso; omega)
    | (refine w_sw (tg := 22) rfl (mSwT_df (by rw [w32_id (by omega) (by omega)]; exact b1)) ?_
       refine w_ldR rfl rfl rfl ?_
       refine w_ldI rfl rfl ?_
       refine w_ldR rfl rfl rfl ?_
       first | refine w_getI rfl rfl rfl rfl rfl ?_ | refine w_getR rfl rfl rfl rfl rfl ?_
       refine w_callWI rfl rfl rfl rfl rfl rfl rfl (k_wantsOf13 hV0 hM hC hp h38) (fun v26 s26 p26 => ?_)
       refine w_retI rfl ?_
       exact ⟨by unfold faF; rw [if_neg (by omega)]; exact p26.1, p26.2⟩)
theorem l_cast13 {d : Nat} {s : mSt} {Q : mQ} {s0 : mSt} {D : Nat → Int} {w nt : Int} (k : Nat) (i : Int) (hi : i = (k : Int)) (hV : VN13 s0 D) (hM : MOk D) (hC : COk D) (hw : 0 ≤ w ∧ w < 6) (hf : Fr [38, 128] s0 s) (h1 : ∀ q : Nat, q ≤ k → s 128 q = lfN D (dms D w) (shn D w) q) (h2 : ∀ q : Nat, k < q → q ≤ 40 → s 128 q = 0) (hk : k ≤ 40) (kk : ∀ s1 i1, Fr [38, 128] s0 s1 → (∀ q : Nat, q ≤ 40 → s1 128 q = lfW D w q) → WP (d + 3) 54 58 [some (.inr (.inr 127)), some (.inr (.inr 13)), some (.inl w), some (.inl nt), some (.inl (dms D w)), i1] [] (encA (s1)) (Q)) : WP (d + 3) 54 24 [some (.inr (.inr 127)), some (.inr (.inr 13)), some (.inl w), some (.inl nt), some (.inl (dms D w)), some (.inl i)] [] (encA (s)) (Q) := by
  subst hi
  have hVs := VN13.fr rfl hf hV
  have hsh := shn_rng hM hw
  have hlk := lfN_le D (dms D w) (shn D w) hsh.1 k
  have hlg := lfN_ge D (dms D w) (shn D w) hsh.1 k
  obtain ⟨vc, vpl, vga, vse, vne, veg, vre, vtu, vta, vwa, v36, v37, v39, v40, v42, v41, v43, v44, vl0, vl1, vlm⟩ := hVs
  refine w_ldI rfl rfl ?_
  refine w_push rfl ?_
  refine w_crGe rfl (by omega) (by omega) (fun b26 => ?_) (fun b26 => ?_)
  · first
    | (exfalso; omega)
    | (refine kk s _ hf (fun q hq => ?_)
       by_cases e : q ≤ k
       · exact h1 q e
       · rw [h2 q (by omega) hq]; exact (lfN_z (k := k) (by omega) q (by omega)).symm)
  · first
    | (exfalso; omega)
    | (refine w_ldR rfl rfl rfl ?_
       first | refine w_getI rfl rfl rfl rfl rfl ?_ | refine w_getR rfl rfl rfl rfl rfl ?_
       refine w_ldI rfl rfl ?_
       refine w_ald rfl rfl rfl (by omega) rfl ?_
       rw [show (k : Int).toNat = k by omega, h1 k (by omega)]
       refine w_irLe0 rfl (by omega) (fun b31 => ?_) (fun b31 => ?_)
       · first
         | (exfalso; omega)
         | (refine kk s _ hf (fun q hq => ?_)
            by_cases e : q ≤ k
            · exact h1 q e
            · rw [h2 q (by omega) hq]; exact (lfN_z (k := k) (by omega) q (by omega)).symm)
       · first
         | (exfalso; omega)
         | (refine w_ldR rfl rfl rfl ?_
            first | refine w_getI rfl rfl rfl rfl rfl ?_ | refine w_getR rfl rfl rfl rfl rfl ?_
            refine w_ldI rfl rfl ?_
            refine w_push rfl ?_
            refine w_add rfl ?_
            refine w_ldR rfl rfl rfl ?_
            first | refine w_getI rfl rfl rfl rfl rfl ?_ | refine w_getR rfl rfl rfl rfl rfl ?_
            refine w_ldI rfl rfl ?_
            refine w_ald rfl rfl rfl (by omega) rfl ?_
            rw [show (k : Int).toNat = k by omega, h1 k (by omega)]
            refine w_ldR rfl rfl rfl ?_
            first | refine w_getI rfl rfl rfl rfl rfl ?_ | refine w_getR rfl rfl rfl rfl rfl ?_
            refine w_push rfl ?_
            refine w_rld rfl rfl rfl (by omega) rfl ?_
            show WP _ _ _ _ (.inr (.inr 35) :: _) _ _
            refine w_ldR rfl rfl rfl ?_
            first | refine w_getI rfl rfl rfl rfl rfl ?_ | refine w_getR rfl rfl rfl rfl rfl ?_
            rw [v36]
            refine w_ldI rfl rfl ?_
            refine w_ldR rfl rfl rfl ?_
            first | refine w_getI rfl rfl rfl rfl rfl ?_ | refine w_getR rfl rfl rfl rfl rfl ?_
            refine w_ldI rfl rfl ?_
            refine w_ald rfl rfl rfl (by omega) rfl ?_
            rw [show (k : Int).toNat = k by omega, h1 k (by omega)]
            refine w_ldI rfl rfl ?_
            refine w_callWI rfl rfl rfl rfl rfl rfl rfl (k_gives35 (use := 0) (by omega) vl0 hC) (fun v53 s53 p53 => ?_)
            obtain ⟨rfl, f53⟩ := p53
            have p53 := And.intro True.intro f53
            refine w_sub rfl ?_
            rw [← lf_s (by omega)]
            refine w_ast rfl rfl rfl (by omega) rfl ?_
            refine w_inc_6_5 rfl rfl ?_
            refine w_go rfl ?_
            have f53 := p53.2
            refine l_cast13 (k + 1) ((k : Int) + 1) (by omega) hV hM hC hw (hf.tr ((Fr.mono rfl f53).tr (Fr.us rfl))) (fun q hq => ?_) (fun q h3 h4 => ?_) (by omega) kk
            · rw [us_eq]
              unfold mup
              by_cases e : q = k + 1
              · rw [if_pos (by omega), e]
              · rw [if_neg (by omega), f53.at 128 rfl]; exact h1 q (by omega)
            · rw [us_eq, mup_ne (by omega), f53.at 128 rfl]; exact h2 q (by omega) h4))
termination_by (40 - k)
decreasing_by all_goals omega
theorem k_castZ13 {d : Nat} {s s0 : mSt} {D : Nat → Int} {w nt : Int} {i1 : Option mAV} (hV : VN13 s D) (hM : MOk D) (hw : 0 ≤ w ∧ w < 6) (hf : Fr [38, 128, 129] s0 s) (hl : ∀ q : Nat, q ≤ 40 → s 128 q = lfW D w q) : WP (d + 3) 54 58 [some (.inr (.inr 127)), some (.inr (.inr 13)), some (.inl w), some (.inl nt), some (.inl (dms D w)), i1] [] (encA (s)) (QV (fun s1 => Fr [38, 128, 129] s0 s1 ∧ (∀ i, i < 36 → s1 129 i = liW D w i) ∧ (∀ q : Nat, q ≤ 40 → s1 128 q = lfW D w q))) := by
  have hsh := shn_rng hM hw
  have hMW := MOk_w hM hw
  obtain ⟨vc, vpl, vga, vse, vne, veg, vre, vtu, vta, vwa, v36, v37, v39, v40, v42, v41, v43, v44, vl0, vl1, vlm⟩ := hV
  refine w_ldR rfl rfl rfl ?_
  refine w_ldR rfl rfl rfl ?_
  first | refine w_getI rfl rfl rfl rfl rfl ?_ | refine w_getR rfl rfl rfl rfl rfl ?_
  refine w_ldR rfl rfl rfl ?_
  first | refine w_getI rfl rfl rfl rfl rfl ?_ | refine w_getR rfl rfl rfl rfl rfl ?_
  refine w_ldI rfl rfl ?_
  refine w_ald rfl rfl rfl (by omega) rfl ?_
  rw [vpl _ (by omega) (by omega)]
  refine w_callWN rfl rfl rfl rfl rfl rfl rfl (k_spread14 (Gf := D) (lf := lfW D w) (c := cwF D w) vc (MOk_cell hM) hl (fun k => ⟨by have := lfN_ge D (dms D w) (shn D w) hsh.1 k; unfold lfW; omega, by have := lfW_le hM hw k; omega⟩) (by unfold cwF; omega)) (fun s65 p65 => ?_)
  refine w_retV rfl ?_
  exact ⟨hf.tr (Fr.mono rfl p65.1), p65.2, fun q hq => by rw [p65.1.at 128 rfl]; exact hl q hq⟩
theorem k_cast13 {d : Nat} {s : mSt} {D : Nat → Int} (hV : VN13 s D) (hM : MOk D) (hC : COk D) {w nt : Int} (hw : 0 ≤ w ∧ w < 6) (hn : nt = D 38) : CV (d + 3) 54 [.inr (.inr 127), .inr (.inr 13), .inl w, .inl nt] (s) (fun s1 => Fr [38, 128, 129] s s1 ∧ (∀ i, i < 36 → s1 129 i = liW D w i) ∧ (∀ q : Nat, q ≤ 40 → s1 128 q = lfW D w q)) := by
  refine CV.mk rfl ?_
  show WP (d + 3) 54 0 [some (.inr (.inr 127)), some (.inr (.inr 13)), some (.inl w), some (.inl nt), none, none] [] (encA (s)) _
  have hV0 := hV
  have hsh := shn_rng hM hw
  have hMW := MOk_w hM hw
  have h38 := hM.2.2.2.2.2.2.2.1
  obtain ⟨vc, vpl, vga, vse, vne, veg, vre, vtu, vta, vwa, v36, v37, v39, v40, v42, v41, v43, v44, vl0, vl1, vlm⟩ := hV
  obtain ⟨la, hr, had, hLa⟩ := vlm w (by omega) (by omega)
  have hla := hLa.1
  subst hn
  refine w_ldR rfl rfl rfl ?_
  first | refine w_getI rfl rfl rfl rfl rfl ?_ | refine w_getR rfl rfl rfl rfl rfl ?_
  refine w_ldI rfl rfl ?_
  refine w_rldL rfl rfl rfl (by omega) rfl ?_
  rw [hr, Int.toNat_natCast]
  obtain ⟨c4, m4, g4, t4, k4⟩ := @k_dims (d := d + 1) s la _ _ _ hLa hMW.1
  refine w_callV0 rfl rfl rfl rfl hla g4 t4 k4 ?_
  refine w_StI_6_4 rfl rfl ?_
  refine w_ldR rfl rfl rfl ?_
  first | refine w_getI rfl rfl rfl rfl rfl ?_ | refine w_getR rfl rfl rfl rfl rfl ?_
  refine w_push rfl ?_
  refine w_callN rfl rfl rfl k_fill128 (fun s9 p9 => ?_)
  obtain ⟨f9, z9⟩ := p9
  have hLa9 : LampA s9 la _ _ _ := LampA.f2 rfl f9 had hLa
  refine w_ldR rfl rfl rfl ?_
  first | refine w_getI rfl rfl rfl rfl rfl ?_ | refine w_getR rfl rfl rfl rfl rfl ?_
  refine w_push rfl ?_
  refine w_push rfl ?_
  refine w_ldR rfl rfl rfl ?_
  first | refine w_getI rfl rfl rfl rfl rfl ?_ | refine w_getR rfl rfl rfl rfl rfl ?_
  refine w_ldI rfl rfl ?_
  refine w_rldL rfl rfl rfl (by omega) rfl ?_
  rw [f9.at 15 rfl, hr, Int.toNat_natCast]
  refine w_ldI rfl rfl ?_
  obtain ⟨c19, m19, g19, t19, k19⟩ := @k_glows (d := d + 0) s9 la _ _ _ hLa9 hMW.1 hMW.2.1 (D 38) (by omega)
  refine w_callV0 rfl rfl rfl rfl hla g19 t19 k19 ?_
  rw [show shK (D (45 + 4 * w + 0).toNat) (D (45 + 4 * w + 1).toNat) (D 38) = shn D w from rfl]
  refine w_m2 rfl rfl ?_
  rw [m_max_id (by omega) (by omega), show max 0 (shn D w) = shn D w by omega]
  refine w_astk 0 rfl rfl rfl rfl rfl rfl ?_
  refine w_push rfl ?_
  refine w_StI_6_5 rfl rfl ?_
  have hf21 : Fr [38, 128] s (us s9 128 0 (shn D w)) := (Fr.mono rfl f9).tr (Fr.us rfl)
  refine l_cast13 0 0 rfl hV0 hM hC hw hf21 (fun q hq => ?_) (fun q h3 h4 => ?_) (by omega) (fun s1 i1 hf hs => k_castZ13 (VN13.fr rfl hf hV0) hM hw (Fr.mono rfl hf) hs)
  · obtain rfl : q = 0 := by omega
    rw [us_eq, mup_eq]; rfl
  · rw [us_eq, mup_ne (by omega)]; exact z9 q (by omega)
theorem l_met13 {d : Nat} {s : mSt} {P : Int → mSt → Prop} {D : Nat → Int} {w nt : Int} (k : Nat) (i m : Int) (hi : i = (k : Int)) (hm : m = mtF D (liW D w) k) (hV : VN13 s D) (hM : MOk D) (hC : COk D) (hn : nt = D 38) (hw : 0 ≤ w ∧ w < 6) (hl : ∀ i, i < 36 → s 129 i = liW D w i) (hk : (k : Int) ≤ D 40) (hP : ∀ s1, Fr [38, 46, 128, 129] s s1 → (∀ i, i < 36 → s1 129 i = liW D w i) → P (mtF D (liW D w) (D 40).toNat) s1) : WP (d + 4) 88 9 [some (.inr (.inr 13)), some (.inl w), some (.inl nt), some (.inr (.inr 127)), some (.inl m), some (.inl i)] [] (encA (s)) (QI P) := by
  subst hi
  subst hm
  have hV0 := hV
  have hM40 := hM.2.1
  have hmr := mtF_rng D (liW D w) k
  have hwr : 1 ≤ wtF D k ∧ wtF D k ≤ 99 := gv_rng _ _ _ _ _ _
  obtain ⟨vc, vpl, vga, vse, vne, veg, vre, vtu, vta, vwa, v36, v37, v39, v40, v42, v41, v43, v44, vl0, vl1, vlm⟩ := hV
  subst hn
  refine w_ldI rfl rfl ?_
  refine w_ldR rfl rfl rfl ?_
  first | refine w_getI rfl rfl rfl rfl rfl ?_ | refine w_getR rfl rfl rfl rfl rfl ?_
  rw [v40]
  refine w_crGe rfl (by omega) (by omega) (fun b12 => ?_) (fun b12 => ?_)
  · first
    | (exfalso; omega)
    | (refine w_ldI rfl rfl ?_
       refine w_retI rfl ?_
       have e : mtF D (liW D w) k = mtF D (liW D w) (D 40).toNat := by rw [show k = (D 40).toNat by omega]
       rw [e]
       exact hP s Fr.rf hl)
  · first
    | (exfalso; omega)
    | (have hp := MOk_p hM (p := (k : Int)) (by omega)
       have hl1 := liW_L hM hw (D (69 + 4 * (k : Int) + 0).toNat).toNat (by omega)
       have hm1 := @mtF_1024 D (liW D w) k (by omega)
       refine w_ldR rfl rfl rfl ?_
       refine w_ldR rfl rfl rfl ?_
       first | refine w_getI rfl rfl rfl rfl rfl ?_ | refine w_getR rfl rfl rfl rfl rfl ?_
       refine w_ldI rfl rfl ?_
       refine w_ald rfl rfl rfl (by omega) rfl ?_
       rw [vse _ (by omega) (by omega)]
       refine w_callV rfl rfl rfl rfl rfl rfl rfl (k_lightIn (by omega)) ?_
       rw [if_pos (by omega), hl _ (by omega)]
       refine w_ldR rfl rfl rfl ?_
       refine w_ldI rfl rfl ?_
       refine w_ldI rfl rfl ?_
       refine w_callWI rfl rfl rfl rfl rfl rfl rfl (k_wantsOf13 hV0 hM hC (by omega) rfl) (fun v22 s22 p22 => ?_)
       obtain ⟨rfl, f22⟩ := p22
       refine w_crLt rfl (by omega) (by omega) (fun b23 => ?_) (fun b23 => ?_)
       · first
         | (exfalso; omega)
         | (refine w_inc_6_5 rfl rfl ?_
            refine w_go rfl ?_
            have hl2 : ∀ i, i < 36 → s22 129 i = liW D w i := fun i hi => by rw [f22.at 129 rfl]; exact hl i hi
            have hV2 := VN13.fr rfl f22 hV0
            exact l_met13 (k + 1) ((k : Int) + 1) _ (by omega) (by first | (rw [m_or_bit (by omega) hmr, mtF, if_pos (by omega)]; done) | (rw [mtF, if_neg (by omega)]; omega)) hV2 hM hC rfl hw hl2 (by omega) (fun s1 hf hs => hP s1 ((Fr.mono rfl f22).tr hf) hs))
       · first
         | (exfalso; omega)
         | (refine w_ldI rfl rfl ?_
            refine w_push rfl ?_
            refine w_ldI rfl rfl ?_
            refine w_bin rfl ?_
            refine w_bin rfl ?_
            refine w_StI_6_4 rfl rfl ?_
            refine w_inc_6_5 rfl rfl ?_
            refine w_go rfl ?_
            have hl2 : ∀ i, i < 36 → s22 129 i = liW D w i := fun i hi => by rw [f22.at 129 rfl]; exact hl i hi
            have hV2 := VN13.fr rfl f22 hV0
            exact l_met13 (k + 1) ((k : Int) + 1) _ (by omega) (by first | (rw [m_or_bit (by omega) hmr, mtF, if_pos (by omega)]; done) | (rw [mtF, if_neg (by omega)]; omega)) hV2 hM hC rfl hw hl2 (by omega) (fun s1 hf hs => hP s1 ((Fr.mono rfl f22).tr hf) hs)))
termination_by ((D 40).toNat - k)
decreasing_by all_goals omega
theorem k_metBy13 {d : Nat} {s : mSt} {D : Nat → Int} (hV : VN13 s D) (hM : MOk D) (hC : COk D) {w nt : Int} (hw : 0 ≤ w ∧ w < 6) (hn : nt = D 38) : CI (d + 4) 88 [.inr (.inr 13), .inl w, .inl nt, .inr (.inr 127)] (s) (fun v s1 => v = mtW D w ∧ Fr [38, 46, 128, 129] s s1) := by
  refine CI.mk rfl ?_
  show WP (d + 4) 88 0 [some (.inr (.inr 13)), some (.inl w), some (.inl nt), some (.inr (.inr 127)), none, none] [] (encA (s)) _
  have hM40 := hM.2.1
  refine w_ldR rfl rfl rfl ?_
  refine w_ldR rfl rfl rfl ?_
  refine w_ldI rfl rfl ?_
  refine w_ldI rfl rfl ?_
  refine w_callWN rfl rfl rfl rfl rfl rfl rfl (k_cast13 hV hM hC hw hn) (fun s4 p4 => ?_)
  refine w_push rfl ?_
  refine w_StI_6_4 rfl rfl ?_
  refine w_push rfl ?_
  refine w_StI_6_5 rfl rfl ?_
  exact l_met13 0 0 0 rfl rfl (VN13.fr rfl p4.1 hV) hM hC hn hw p4.2.1 (by omega) (fun s1 hf hs => ⟨rfl, (Fr.mono rfl p4.1).tr hf⟩)
theorem k_at22 {d : Nat} {s : mSt} {i : Int} (hi : -2147483648 ≤ i ∧ i < 2147483648) (hs : 0 ≤ s 22 1 ∧ s 22 1 ≤ 12) : Call (d + 0) 64 [.inr (.inr 22), .inl i] (encA (s)) (some (.inl (rowAt s 22 i))) (encA (s)) := by
  refine CI.ex (CI.mk rfl ?_)
  show WP (d + 0) 64 0 [some (.inr (.inr 22)), some (.inl i)] [] (encA (s)) _
  refine w_ldI rfl rfl ?_
  refine w_irLt0 rfl (by omega) (fun b1 => ?_) (fun b1 => ?_)
  · first
    | (exfalso; omega)
    | (refine w_push rfl ?_
       refine w_retI rfl ?_
       refine ⟨?_, rfl⟩
       unfold rowAt
       first | rw [if_pos (by omega)] | rw [if_neg (by omega)])
  · first
    | (exfalso; omega)
    | (refine w_ldI rfl rfl ?_
       refine w_ldR rfl rfl rfl ?_
       first | refine w_getI rfl rfl rfl rfl rfl ?_ | refine w_getR rfl rfl rfl rfl rfl ?_
       refine w_crGe rfl (by omega) (by omega) (fun b5 => ?_) (fun b5 => ?_)
       · first
         | (exfalso; omega)
         | (refine w_push rfl ?_
            refine w_retI rfl ?_
            refine ⟨?_, rfl⟩
            unfold rowAt
            first | rw [if_pos (by omega)] | rw [if_neg (by omega)])
       · first
         | (exfalso; omega)
         | (refine w_ldR rfl rfl rfl ?_
            first | refine w_getI rfl rfl rfl rfl rfl ?_ | refine w_getR rfl rfl rfl rfl rfl ?_
            refine w_ldI rfl rfl ?_
            refine w_ald rfl rfl rfl (by omega) rfl ?_
            refine w_go rfl ?_
            refine w_retI rfl ?_
            refine ⟨?_, rfl⟩
            unfold rowAt
            first | rw [if_pos (by omega)] | rw [if_neg (by omega)]))
theorem k_litT13 {d : Nat} {s : mSt} {D : Nat → Int} (hV : VN13 s D) (hM : MOk D) (h38 : s 13 1 = D 38) : Call (d + 1) 89 [.inr (.inr 13)] (encA (s)) (some (.inl (litW D))) (encA (s)) := by
  refine CI.ex (CI.mk rfl ?_)
  show WP (d + 1) 89 0 [some (.inr (.inr 13))] [] (encA (s)) _
  have hM0 := hM
  obtain ⟨vc, vpl, vga, vse, vne, veg, vre, vtu, vta, vwa, v36, v37, v39, v40, v42, v41, v43, v44, vl0, vl1, vlm⟩ := hV
  obtain ⟨hM39, hM40, hM41, hM43, hM44, hM36, hM37, hM38, hMc, hMw, hMp, hMt, hMb⟩ := hM
  have hq := @m_rem_rng (D 38) (D 41)
  refine w_ldR rfl rfl rfl ?_
  first | refine w_getI rfl rfl rfl rfl rfl ?_ | refine w_getR rfl rfl rfl rfl rfl ?_
  first | refine w_getI rfl rfl rfl rfl rfl ?_ | refine w_getR rfl rfl rfl rfl rfl ?_
  rw [v41]
  refine w_irNe0 rfl (by omega) (fun b3 => ?_) (fun b3 => ?_)
  · first
    | (exfalso; omega)
    | (refine w_ldR rfl rfl rfl ?_
       first | refine w_getI rfl rfl rfl rfl rfl ?_ | refine w_getR rfl rfl rfl rfl rfl ?_
       refine w_ldR rfl rfl rfl ?_
       first | refine w_getI rfl rfl rfl rfl rfl ?_ | refine w_getR rfl rfl rfl rfl rfl ?_
       rw [h38]
       refine w_ldR rfl rfl rfl ?_
       first | refine w_getI rfl rfl rfl rfl rfl ?_ | refine w_getR rfl rfl rfl rfl rfl ?_
       first | refine w_getI rfl rfl rfl rfl rfl ?_ | refine w_getR rfl rfl rfl rfl rfl ?_
       rw [v41]
       refine w_div rfl (by rw [w32_id (by omega) (by omega)]; omega) ?_
       have hq := hq (by omega) (by omega)
       rw [m_rem_pos (by omega) (by omega)] at *
       refine w_callV rfl rfl rfl rfl rfl rfl rfl (k_at22 (by omega) (by omega)) ?_
       refine w_retI rfl ?_
       refine ⟨?_, rfl⟩
       unfold litW
       first
       | (rw [if_pos (by omega)]; done)
       | (rw [if_neg (by omega)]; unfold rowAt; rw [if_pos (by omega), vtu _ (by omega) (by omega)]))
  · first
    | (exfalso; omega)
    | (refine w_push rfl ?_
       refine w_go rfl ?_
       refine w_retI rfl ?_
       refine ⟨?_, rfl⟩
       unfold litW
       first
       | (rw [if_pos (by omega)]; done)
       | (rw [if_neg (by omega)]; unfold rowAt; rw [if_pos (by omega), vtu _ (by omega) (by omega)]))
theorem k_pay13 {d : Nat} {s : mSt} {D : Nat → Int} (hV : VN13 s D) (hM : MOk D) {p w : Int} (hp : 0 ≤ p ∧ p < 10) (hw : 0 ≤ w ∧ w < 6) : CV (d + 1) 91 [.inr (.inr 13), .inl p, .inl w] (s) (fun s1 => VN13 s1 (rdD D p w) ∧ Fr [17, 20, 21] s s1) := by
  refine CV.mk rfl ?_
  show WP (d + 1) 91 0 [some (.inr (.inr 13)), some (.inl p), some (.inl w), none] [] (encA (s)) _
  have hV0 := hV
  have h1 := MOk_p hM hp
  have h2 := MOk_w hM hw
  have h3 := hM.2.2.2.2.2.2.1
  have h4 : 0 ≤ rdP D p ∧ rdP D p ≤ D (69 + 4 * p + 2).toNat := by unfold rdP; omega
  obtain ⟨vc, vpl, vga, vse, vne, veg, vre, vtu, vta, vwa, v36, v37, v39, v40, v42, v41, v43, v44, vl0, vl1, vlm⟩ := hV
  refine w_ldR rfl rfl rfl ?_
  first | refine w_getI rfl rfl rfl rfl rfl ?_ | refine w_getR rfl rfl rfl rfl rfl ?_
  rw [v37]
  refine w_ldR rfl rfl rfl ?_
  first | refine w_getI rfl rfl rfl rfl rfl ?_ | refine w_getR rfl rfl rfl rfl rfl ?_
  refine w_ldI rfl rfl ?_
  refine w_ald rfl rfl rfl (by omega) rfl ?_
  rw [veg _ (by omega) (by omega)]
  refine w_m2 rfl rfl ?_
  rw [m_min_id (by omega) (by omega), show min (D 37) (D (69 + 4 * p + 2).toNat) = rdP D p from rfl]
  refine w_StI_4_3 rfl rfl ?_
  refine w_ldR rfl rfl rfl ?_
  first | refine w_getI rfl rfl rfl rfl rfl ?_ | refine w_getR rfl rfl rfl rfl rfl ?_
  refine w_ldI rfl rfl ?_
  refine w_push rfl ?_
  refine w_ldR rfl rfl rfl ?_
  first | refine w_getI rfl rfl rfl rfl rfl ?_ | refine w_getR rfl rfl rfl rfl rfl ?_
  refine w_ldI rfl rfl ?_
  refine w_ald rfl rfl rfl (by omega) rfl ?_
  rw [vre _ (by omega) (by omega)]
  refine w_push rfl ?_
  refine w_add rfl ?_
  refine w_m2 rfl rfl ?_
  rw [m_min_id (by omega) (by omega)]
  refine w_ast rfl rfl rfl (by omega) rfl ?_
  refine w_ldR rfl rfl rfl ?_
  first | refine w_getI rfl rfl rfl rfl rfl ?_ | refine w_getR rfl rfl rfl rfl rfl ?_
  refine w_ldI rfl rfl ?_
  refine w_dup2 rfl ?_
  refine w_ald rfl rfl rfl (by omega) rfl ?_
  rw [us_ne (by decide), veg _ (by omega) (by omega)]
  refine w_ldI rfl rfl ?_
  refine w_sub rfl ?_
  refine w_ast rfl rfl rfl (by omega) rfl ?_
  refine w_ldR rfl rfl rfl ?_
  first | refine w_getI rfl rfl rfl rfl rfl ?_ | refine w_getR rfl rfl rfl rfl rfl ?_
  refine w_ldI rfl rfl ?_
  refine w_push rfl ?_
  refine w_ldR rfl rfl rfl ?_
  first | refine w_getI rfl rfl rfl rfl rfl ?_ | refine w_getR rfl rfl rfl rfl rfl ?_
  refine w_ldI rfl rfl ?_
  refine w_ald rfl rfl rfl (by omega) rfl ?_
  rw [us_ne (by decide), us_ne (by decide), vga _ (by omega) (by omega)]
  refine w_ldI rfl rfl ?_
  refine w_add rfl ?_
  refine w_m2 rfl rfl ?_
  rw [m_min_id (by omega) (by omega)]
  refine w_ast rfl rfl rfl (by omega) rfl ?_
  refine w_retV rfl ?_
  refine ⟨?_, (Fr.us rfl).tr ((Fr.us rfl).tr (Fr.us rfl))⟩
  exact ((hV0.set_vre hp).set_veg hp).set_vga hw
theorem k_passZ13 {d : Nat} {s s0 : mSt} {D : Nat → Int} {l1 l2 l3 : Option mAV} (hf : Fr [17, 20, 21, 38, 46, 128, 129] s0 s) (hV : VN13 s (gnF D)) (h38 : s 13 1 = D 38) : WP (d + 5) 90 30 [some (.inr (.inr 13)), some (.inr (.inr 127)), l1, l2, l3] [] (encA (s)) (QV (fun s1 => VN13 s1 (nfF D) ∧ s1 13 1 = D 38 + 1 ∧ Fr [13, 17, 20, 21, 38, 46, 128, 129] s0 s1)) := by
  refine w_ldR rfl rfl rfl ?_
  first | refine w_dupI rfl ?_ | refine w_dupR rfl ?_
  first | refine w_getI rfl rfl rfl rfl rfl ?_ | refine w_getR rfl rfl rfl rfl rfl ?_
  rw [h38]
  refine w_push rfl ?_
  refine w_add rfl ?_
  refine w_putI rfl rfl rfl rfl rfl rfl rfl ?_
  refine w_retV rfl ?_
  refine ⟨VN13.cg (fun j hj => mup_ne hj) hV.night, by rw [us_eq, mup_eq], (Fr.mono rfl hf).tr (Fr.us rfl)⟩
theorem l_pass13 {d : Nat} {s : mSt} {Q : mQ} {w m : Int} {D : Nat → Int} (n k : Nat) (i : Int) (hi : i = (k : Int)) (hV : VN13 s D) (hM : MOk D) (hC : COk D) (hw : 0 ≤ w ∧ w < 6) (hm : 0 ≤ m ∧ m < 1024) (hk : (k : Int) + n = D 40) (kk : ∀ s1, Fr [17, 20, 21] s s1 → VN13 s1 (gbF w m n k D) → WP (d + 5) 90 30 [some (.inr (.inr 13)), some (.inr (.inr 127)), some (.inl w), some (.inl m), some (.inl (D 40))] [] (encA (s1)) (Q)) : WP (d + 5) 90 14 [some (.inr (.inr 13)), some (.inr (.inr 127)), some (.inl w), some (.inl m), some (.inl i)] [] (encA (s)) (Q) := by
  subst hi
  have hV0 := hV
  have h4 := hM.2.1
  have h5 := bitN_rng m k
  have v40 : s 13 9 = D 40 := by
    obtain ⟨vc, vpl, vga, vse, vne, veg, vre, vtu, vta, vwa, v36, v37, v39, v40, v42, v41, v43, v44, vl0, vl1, vlm⟩ := hV
    exact v40
  refine w_ldI rfl rfl ?_
  refine w_ldR rfl rfl rfl ?_
  first | refine w_getI rfl rfl rfl rfl rfl ?_ | refine w_getR rfl rfl rfl rfl rfl ?_
  rw [v40]
  refine w_crGe rfl (by omega) (by omega) (fun b17 => ?_) (fun b17 => ?_)
  · first
    | (exfalso; omega)
    | (obtain rfl : n = 0 := by omega
       rw [show (k : Int) = D 40 by omega]
       exact kk s Fr.rf hV)
  · first
    | (exfalso; omega)
    | (obtain ⟨n, rfl⟩ : ∃ q, n = q + 1 := ⟨n - 1, by omega⟩
       refine w_ldI rfl rfl ?_
       refine w_ldI rfl rfl ?_
       refine w_bin rfl ?_
       refine w_push rfl ?_
       refine w_bin rfl ?_
       rw [m_bit (by omega) hm]
       refine w_irEq0 rfl (by omega) (fun b23 => ?_) (fun b23 => ?_)
       · first
         | (exfalso; omega)
         | (refine w_inc_5_4 rfl rfl ?_
            refine w_go rfl ?_
            first
            | (exact l_pass13 (D := rdD D k w) n (k + 1) ((k : Int) + 1) (by omega) p27.1 (rdD_ok hM (by omega) hw) (rdD_c hC (by omega) hw) hw hm (by rw [rdD_lo (by omega) hw (by omega)]; omega) (fun s1 hf hs => by
                rw [rdD_lo (by omega) hw (by omega)]
                exact kk s1 (p27.2.tr hf) (by unfold gbF; rw [if_pos (by omega)]; exact hs)))
            | (exact l_pass13 (D := D) n (k + 1) ((k : Int) + 1) (by omega) hV hM hC hw hm (by omega) (fun s1 hf hs => kk s1 hf (by unfold gbF; rw [if_neg (by omega)]; exact hs))))
       · first
         | (exfalso; omega)
         | (refine w_ldR rfl rfl rfl ?_
            refine w_ldI rfl rfl ?_
            refine w_ldI rfl rfl ?_
            refine w_callWN rfl rfl rfl rfl rfl rfl rfl (k_pay13 hV0 hM (by omega) hw) (fun s27 p27 => ?_)
            refine w_inc_5_4 rfl rfl ?_
            refine w_go rfl ?_
            first
            | (exact l_pass13 (D := rdD D k w) n (k + 1) ((k : Int) + 1) (by omega) p27.1 (rdD_ok hM (by omega) hw) (rdD_c hC (by omega) hw) hw hm (by rw [rdD_lo (by omega) hw (by omega)]; omega) (fun s1 hf hs => by
                rw [rdD_lo (by omega) hw (by omega)]
                exact kk s1 (p27.2.tr hf) (by unfold gbF; rw [if_pos (by omega)]; exact hs)))
            | (exact l_pass13 (D := D) n (k + 1) ((k : Int) + 1) (by omega) hV hM hC hw hm (by omega) (fun s1 hf hs => kk s1 hf (by unfold gbF; rw [if_neg (by omega)]; exact hs)))))
termination_by n
decreasing_by all_goals omega
theorem k_pass13 {d : Nat} {s : mSt} {D : Nat → Int} (hV : VN13 s D) (hM : MOk D) (hC : COk D) (h38 : s 13 1 = D 38) : CV (d + 5) 90 [.inr (.inr 13), .inr (.inr 127)] (s) (fun s1 => VN13 s1 (nfF D) ∧ s1 13 1 = D 38 + 1 ∧ Fr [13, 17, 20, 21, 38, 46, 128, 129] s s1) := by
  refine CV.mk rfl ?_
  show WP (d + 5) 90 0 [some (.inr (.inr 13)), some (.inr (.inr 127)), none, none, none] [] (encA (s)) _
  have hl := litW_rng hM
  have h4 := hM.2.1
  refine w_ldR rfl rfl rfl ?_
  refine w_callV rfl rfl rfl rfl rfl rfl rfl (k_litT13 hV hM h38) ?_
  refine w_StI_5_2 rfl rfl ?_
  refine w_ldI rfl rfl ?_
  refine w_irLt0 rfl (by omega) (fun b4 => ?_) (fun b4 => ?_)
  · first
    | (exfalso; omega)
    | (exact k_passZ13 Fr.rf (by unfold gnF; rw [if_pos (by omega)]; exact hV) h38)
  · first
    | (exfalso; omega)
    | (refine w_ldR rfl rfl rfl ?_
       refine w_ldI rfl rfl ?_
       refine w_ldR rfl rfl rfl ?_
       first | refine w_getI rfl rfl rfl rfl rfl ?_ | refine w_getR rfl rfl rfl rfl rfl ?_
       refine w_ldR rfl rfl rfl ?_
       refine w_callWI rfl rfl rfl rfl rfl rfl rfl (k_metBy13 hV hM hC (by omega) h38) (fun v10 s10 p10 => ?_)
       obtain ⟨rfl, f10⟩ := p10
       refine w_StI_5_3 rfl rfl ?_
       refine w_push rfl ?_
       refine w_StI_5_4 rfl rfl ?_
       exact l_pass13 (D := D) (D 40).toNat 0 0 rfl (VN13.fr rfl f10 hV) hM hC (by omega) (mtF_1024 (by omega)) (by omega) (fun s1 hf hs => k_passZ13 ((Fr.mono rfl f10).tr (Fr.mono rfl hf)) (by unfold gnF; rw [if_neg (by omega)]; exact hs) (by rw [hf.at 13 rfl, f10.at 13 rfl]; exact h38)))
theorem l_rall13 {d : Nat} {s : mSt} {P : Int → mSt → Prop} {D : Nat → Int} (k : Nat) (i m : Int) (hi : i = (k : Int)) (hm : m = sumT (fun p => D (69 + 4 * p + 3)) k) (hV : VN13 s D) (hM : MOk D) (hk : (k : Int) ≤ D 40) (hP : P (roF D) s) : WP (d + 0) 93 4 [some (.inr (.inr 13)), some (.inl m), some (.inl i)] [] (encA (s)) (QI P) := by
  subst hi
  subst hm
  have hV0 := hV
  have h4 := hM.2.1
  obtain ⟨vc, vpl, vga, vse, vne, veg, vre, vtu, vta, vwa, v36, v37, v39, v40, v42, v41, v43, v44, vl0, vl1, vlm⟩ := hV
  refine w_ldI rfl rfl ?_
  refine w_ldR rfl rfl rfl ?_
  first | refine w_getI rfl rfl rfl rfl rfl ?_ | refine w_getR rfl rfl rfl rfl rfl ?_
  rw [v40]
  refine w_crGe rfl (by omega) (by omega) (fun b7 => ?_) (fun b7 => ?_)
  · first
    | (exfalso; omega)
    | (refine w_ldI rfl rfl ?_
       refine w_retI rfl ?_
       have e : k = (D 40).toNat := by omega
       subst e
       exact hP)
  · first
    | (exfalso; omega)
    | (refine w_ldI rfl rfl ?_
       refine w_ldR rfl rfl rfl ?_
       first | refine w_getI rfl rfl rfl rfl rfl ?_ | refine w_getR rfl rfl rfl rfl rfl ?_
       refine w_ldI rfl rfl ?_
       refine w_ald rfl rfl rfl (by omega) rfl ?_
       rw [vre _ (by omega) (by omega)]
       refine w_add rfl ?_
       refine w_StI_3_1 rfl rfl ?_
       refine w_inc_3_2 rfl rfl ?_
       refine w_go rfl ?_
       exact l_rall13 (k + 1) ((k : Int) + 1) _ (by omega) (by simp only [sumT]; rw [show (69 + 4 * (k : Int) + 3).toNat = 69 + 4 * k + 3 by omega]) hV0 hM (by omega) hP)
termination_by ((D 40).toNat - k)
decreasing_by all_goals omega
theorem k_rall13 {d : Nat} {s : mSt} {D : Nat → Int} (hV : VN13 s D) (hM : MOk D) : Call (d + 0) 93 [.inr (.inr 13)] (encA (s)) (some (.inl (roF D))) (encA (s)) := by
  refine CI.ex (CI.mk rfl ?_)
  show WP (d + 0) 93 0 [some (.inr (.inr 13)), none, none] [] (encA (s)) _
  have h4 := hM.2.1
  refine w_push rfl ?_
  refine w_StI_3_1 rfl rfl ?_
  refine w_push rfl ?_
  refine w_StI_3_2 rfl rfl ?_
  exact l_rall13 0 0 0 rfl rfl hV hM (by omega) ⟨rfl, rfl⟩
theorem k_wantsOf89 {d : Nat} {s : mSt} {D : Nat → Int} (hV : VN89 s D) (hM : MOk D) (hC : COk D) {p nt : Int} (hp : 0 ≤ p ∧ p < 10) (hn : nt = D 38) : CI (d + 2) 86 [.inr (.inr 89), .inl p, .inl nt] (s) (fun v s1 => v = wtF D p ∧ Fr [122] s s1) := by
  refine CI.mk rfl ?_
  show WP (d + 2) 86 0 [some (.inr (.inr 89)), some (.inl p), some (.inl nt)] [] (encA (s)) _
  have hV0 := hV
  obtain ⟨vc, vpl, vga, vse, vne, veg, vre, vtu, vta, vwa, v36, v37, v39, v40, v42, v41, v43, v44, vl0, vl1, vlm⟩ := hV
  subst hn
  refine w_ldR rfl rfl rfl ?_
  first | refine w_getI rfl rfl rfl rfl rfl ?_ | refine w_getR rfl rfl rfl rfl rfl ?_
  refine w_push rfl ?_
  refine w_rld rfl rfl rfl (by omega) rfl ?_
  show WP _ _ _ _ (.inr (.inr 119) :: _) _ _
  refine w_ldR rfl rfl rfl ?_
  first | refine w_getI rfl rfl rfl rfl rfl ?_ | refine w_getR rfl rfl rfl rfl rfl ?_
  refine w_ldI rfl rfl ?_
  refine w_ald rfl rfl rfl (by omega) rfl ?_
  rw [vne _ (by omega) (by omega)]
  refine w_ldR rfl rfl rfl ?_
  first | refine w_getI rfl rfl rfl rfl rfl ?_ | refine w_getR rfl rfl rfl rfl rfl ?_
  refine w_ldI rfl rfl ?_
  refine w_ald rfl rfl rfl (by omega) rfl ?_
  rw [veg _ (by omega) (by omega)]
  refine w_ldR rfl rfl rfl ?_
  first | refine w_getI rfl rfl rfl rfl rfl ?_ | refine w_getR rfl rfl rfl rfl rfl ?_
  refine w_ldI rfl rfl ?_
  refine w_ald rfl rfl rfl (by omega) rfl ?_
  rw [vre _ (by omega) (by omega)]
  refine w_ldI rfl rfl ?_
  refine w_callWI rfl rfl rfl rfl rfl rfl rfl (k_gives119 (use := 1) (by omega) vl1 hC) (fun v17 s17 p17 => ?_)
  refine w_retI rfl ?_
  exact p17
theorem k_factOf89 {d : Nat} {s : mSt} {D : Nat → Int} (hV : VN89 s D) (hM : MOk D) (hC : COk D) {p w : Int} (hp : 0 ≤ p ∧ p < 10) (hw : 0 ≤ w ∧ w ≤ 4) (h38 : s 89 1 = D 38) : CI (d + 3) 87 [.inr (.inr 89), .inl p, .inl w] (s) (fun v s1 => v = faF D p w ∧ Fr [122] s s1) := by
  refine CI.mk rfl ?_
  show WP (d + 3) 87 0 [some (.inr (.inr 89)), some (.inl p), some (.inl w)] [] (encA (s)) _
  have hV0 := hV
  obtain ⟨vc, vpl, vga, vse, vne, veg, vre, vtu, vta, vwa, v36, v37, v39, v40, v42, v41, v43, v44, vl0, vl1, vlm⟩ := hV
  refine w_ldI rfl rfl ?_
  obtain b1 | b1 | b1 | b1 | b1 := (by omega : w = 0 ∨ w = 1 ∨ w = 2 ∨ w = 3 ∨ (w < 0 ∨ 4 ≤ w))
  · first
    | (exfalso; omega)
    | (refine w_sw (tg := 2) rfl (by rw [w32_id (by omega) (by omega), b1]; rfl) ?_
       refine w_ldR rfl rfl rfl ?_
       first | refine w_getI rfl rfl rfl rfl rfl ?_ | refine w_getR rfl rfl rfl rfl rfl ?_
       refine w_ldI rfl rfl ?_
       refine w_ald rfl rfl rfl (by omega) rfl ?_
       rw [vse _ (by omega) (by omega)]
       refine w_retI rfl ?_
       exact ⟨by unfold faF; rw [if_pos (by omega), b1], Fr.rf⟩)
  · first
    | (exfalso; omega)
    | (refine w_sw (tg := 7) rfl (by rw [w32_id (by omega) (by omega), b1]; rfl) ?_
       refine w_ldR rfl rfl rfl ?_
       first | refine w_getI rfl rfl rfl rfl rfl ?_ | refine w_getR rfl rfl rfl rfl rfl ?_
       refine w_ldI rfl rfl ?_
       refine w_ald rfl rfl rfl (by omega) rfl ?_
       rw [vne _ (by omega) (by omega)]
       refine w_retI rfl ?_
       exact ⟨by unfold faF; rw [if_pos (by omega), b1], Fr.rf⟩)
  · first
    | (exfalso; omega)
    | (refine w_sw (tg := 12) rfl (by rw [w32_id (by omega) (by omega), b1]; rfl) ?_
       refine w_ldR rfl rfl rfl ?_
       first | refine w_getI rfl rfl rfl rfl rfl ?_ | refine w_getR rfl rfl rfl rfl rfl ?_
       refine w_ldI rfl rfl ?_
       refine w_ald rfl rfl rfl (by omega) rfl ?_
       rw [veg _ (by omega) (by omega)]
       refine w_retI rfl ?_
       exact ⟨by unfold faF; rw [if_pos (by omega), b1], Fr.rf⟩)
  · first
    | (exfalso; omega)
    | (refine w_sw (tg := 17) rfl (by rw [w32_id (by omega) (by omega), b1]; rfl) ?_
       refine w_ldR rfl rfl rfl ?_
       first | refine w_getI rfl rfl rfl rfl rfl ?_ | refine w_getR rfl rfl rfl rfl rfl ?_
       refine w_ldI rfl rfl ?_
       refine w_ald rfl rfl rfl (by omega) rfl ?_
       rw [vre _ (by omega) (by omega)]
       refine w_retI rfl ?_
       exact ⟨by unfold faF; rw [if_pos (by omega), b1], Fr.rf⟩)
  · first
    | (exfalso; omega)
    | (refine w_sw (tg := 22) rfl (mSwT_df (by rw [w32_id (by omega) (by omega)]; exact b1)) ?_
       refine w_ldR rfl rfl rfl ?_
       refine w_ldI rfl rfl ?_
       refine w_ldR rfl rfl rfl ?_
       first | refine w_getI rfl rfl rfl rfl rfl ?_ | refine w_getR rfl rfl rfl rfl rfl ?_
       refine w_callWI rfl rfl rfl rfl rfl rfl rfl (k_wantsOf89 hV0 hM hC hp h38) (fun v26 s26 p26 => ?_)
       refine w_retI rfl ?_
       exact ⟨by unfold faF; rw [if_neg (by omega)]; exact p26.1, p26.2⟩)
theorem l_cast89 {d : Nat} {s : mSt} {Q : mQ} {s0 : mSt} {D : Nat → Int} {w nt : Int} (k : Nat) (i : Int) (hi : i = (k : Int)) (hV : VN89 s0 D) (hM : MOk D) (hC : COk D) (hw : 0 ≤ w ∧ w < 6) (hf : Fr [114, 128] s0 s) (h1 : ∀ q : Nat, q ≤ k → s 128 q = lfN D (dms D w) (shn D w) q) (h2 : ∀ q : Nat, k < q → q ≤ 40 → s 128 q = 0) (hk : k ≤ 40) (kk : ∀ s1 i1, Fr [114, 128] s0 s1 → (∀ q : Nat, q ≤ 40 → s1 128 q = lfW D w q) → WP (d + 3) 54 58 [some (.inr (.inr 127)), some (.inr (.inr 89)), some (.inl w), some (.inl nt), some (.inl (dms D w)), i1] [] (encA (s1)) (Q)) : WP (d + 3) 54 24 [some (.inr (.inr 127)), some (.inr (.inr 89)), some (.inl w), some (.inl nt), some (.inl (dms D w)), some (.inl i)] [] (encA (s)) (Q) := by
  subst hi
  have hVs := VN89.fr rfl hf hV
  have hsh := shn_rng hM hw
  have hlk := lfN_le D (dms D w) (shn D w) hsh.1 k
  have hlg := lfN_ge D (dms D w) (shn D w) hsh.1 k
  obtain ⟨vc, vpl, vga, vse, vne, veg, vre, vtu, vta, vwa, v36, v37, v39, v40, v42, v41, v43, v44, vl0, vl1, vlm⟩ := hVs
  refine w_ldI rfl rfl ?_
  refine w_push rfl ?_
  refine w_crGe rfl (by omega) (by omega) (fun b26 => ?_) (fun b26 => ?_)
  · first
    | (exfalso; omega)
    | (refine kk s _ hf (fun q hq => ?_)
       by_cases e : q ≤ k
       · exact h1 q e
       · rw [h2 q (by omega) hq]; exact (lfN_z (k := k) (by omega) q (by omega)).symm)
  · first
    | (exfalso; omega)
    | (refine w_ldR rfl rfl rfl ?_
       first | refine w_getI rfl rfl rfl rfl rfl ?_ | refine w_getR rfl rfl rfl rfl rfl ?_
       refine w_ldI rfl rfl ?_
       refine w_ald rfl rfl rfl (by omega) rfl ?_
       rw [show (k : Int).toNat = k by omega, h1 k (by omega)]
       refine w_irLe0 rfl (by omega) (fun b31 => ?_) (fun b31 => ?_)
       · first
         | (exfalso; omega)
         | (refine kk s _ hf (fun q hq => ?_)
            by_cases e : q ≤ k
            · exact h1 q e
            · rw [h2 q (by omega) hq]; exact (lfN_z (k := k) (by omega) q (by omega)).symm)
       · first
         | (exfalso; omega)
         | (refine w_ldR rfl rfl rfl ?_
            first | refine w_getI rfl rfl rfl rfl rfl ?_ | refine w_getR rfl rfl rfl rfl rfl ?_
            refine w_ldI rfl rfl ?_
            refine w_push rfl ?_
            refine w_add rfl ?_
            refine w_ldR rfl rfl rfl ?_
            first | refine w_getI rfl rfl rfl rfl rfl ?_ | refine w_getR rfl rfl rfl rfl rfl ?_
            refine w_ldI rfl rfl ?_
            refine w_ald rfl rfl rfl (by omega) rfl ?_
            rw [show (k : Int).toNat = k by omega, h1 k (by omega)]
            refine w_ldR rfl rfl rfl ?_
            first | refine w_getI rfl rfl rfl rfl rfl ?_ | refine w_getR rfl rfl rfl rfl rfl ?_
            refine w_push rfl ?_
            refine w_rld rfl rfl rfl (by omega) rfl ?_
            show WP _ _ _ _ (.inr (.inr 111) :: _) _ _
            refine w_ldR rfl rfl rfl ?_
            first | refine w_getI rfl rfl rfl rfl rfl ?_ | refine w_getR rfl rfl rfl rfl rfl ?_
            rw [v36]
            refine w_ldI rfl rfl ?_
            refine w_ldR rfl rfl rfl ?_
            first | refine w_getI rfl rfl rfl rfl rfl ?_ | refine w_getR rfl rfl rfl rfl rfl ?_
            refine w_ldI rfl rfl ?_
            refine w_ald rfl rfl rfl (by omega) rfl ?_
            rw [show (k : Int).toNat = k by omega, h1 k (by omega)]
            refine w_ldI rfl rfl ?_
            refine w_callWI rfl rfl rfl rfl rfl rfl rfl (k_gives111 (use := 0) (by omega) vl0 hC) (fun v53 s53 p53 => ?_)
            obtain ⟨rfl, f53⟩ := p53
            have p53 := And.intro True.intro f53
            refine w_sub rfl ?_
            rw [← lf_s (by omega)]
            refine w_ast rfl rfl rfl (by omega) rfl ?_
            refine w_inc_6_5 rfl rfl ?_
            refine w_go rfl ?_
            have f53 := p53.2
            refine l_cast89 (k + 1) ((k : Int) + 1) (by omega) hV hM hC hw (hf.tr ((Fr.mono rfl f53).tr (Fr.us rfl))) (fun q hq => ?_) (fun q h3 h4 => ?_) (by omega) kk
            · rw [us_eq]
              unfold mup
              by_cases e : q = k + 1
              · rw [if_pos (by omega), e]
              · rw [if_neg (by omega), f53.at 128 rfl]; exact h1 q (by omega)
            · rw [us_eq, mup_ne (by omega), f53.at 128 rfl]; exact h2 q (by omega) h4))
termination_by (40 - k)
decreasing_by all_goals omega
theorem k_castZ89 {d : Nat} {s s0 : mSt} {D : Nat → Int} {w nt : Int} {i1 : Option mAV} (hV : VN89 s D) (hM : MOk D) (hw : 0 ≤ w ∧ w < 6) (hf : Fr [114, 128, 129] s0 s) (hl : ∀ q : Nat, q ≤ 40 → s 128 q = lfW D w q) : WP (d + 3) 54 58 [some (.inr (.inr 127)), some (.inr (.inr 89)), some (.inl w), some (.inl nt), some (.inl (dms D w)), i1] [] (encA (s)) (QV (fun s1 => Fr [114, 128, 129] s0 s1 ∧ (∀ i, i < 36 → s1 129 i = liW D w i) ∧ (∀ q : Nat, q ≤ 40 → s1 128 q = lfW D w q))) := by
  have hsh := shn_rng hM hw
  have hMW := MOk_w hM hw
  obtain ⟨vc, vpl, vga, vse, vne, veg, vre, vtu, vta, vwa, v36, v37, v39, v40, v42, v41, v43, v44, vl0, vl1, vlm⟩ := hV
  refine w_ldR rfl rfl rfl ?_
  refine w_ldR rfl rfl rfl ?_
  first | refine w_getI rfl rfl rfl rfl rfl ?_ | refine w_getR rfl rfl rfl rfl rfl ?_
  refine w_ldR rfl rfl rfl ?_
  first | refine w_getI rfl rfl rfl rfl rfl ?_ | refine w_getR rfl rfl rfl rfl rfl ?_
  refine w_ldI rfl rfl ?_
  refine w_ald rfl rfl rfl (by omega) rfl ?_
  rw [vpl _ (by omega) (by omega)]
  refine w_callWN rfl rfl rfl rfl rfl rfl rfl (k_spread90 (Gf := D) (lf := lfW D w) (c := cwF D w) vc (MOk_cell hM) hl (fun k => ⟨by have := lfN_ge D (dms D w) (shn D w) hsh.1 k; unfold lfW; omega, by have := lfW_le hM hw k; omega⟩) (by unfold cwF; omega)) (fun s65 p65 => ?_)
  refine w_retV rfl ?_
  exact ⟨hf.tr (Fr.mono rfl p65.1), p65.2, fun q hq => by rw [p65.1.at 128 rfl]; exact hl q hq⟩
theorem k_cast89 {d : Nat} {s : mSt} {D : Nat → Int} (hV : VN89 s D) (hM : MOk D) (hC : COk D) {w nt : Int} (hw : 0 ≤ w ∧ w < 6) (hn : nt = D 38) : CV (d + 3) 54 [.inr (.inr 127), .inr (.inr 89), .inl w, .inl nt] (s) (fun s1 => Fr [114, 128, 129] s s1 ∧ (∀ i, i < 36 → s1 129 i = liW D w i) ∧ (∀ q : Nat, q ≤ 40 → s1 128 q = lfW D w q)) := by
  refine CV.mk rfl ?_
  show WP (d + 3) 54 0 [some (.inr (.inr 127)), some (.inr (.inr 89)), some (.inl w), some (.inl nt), none, none] [] (encA (s)) _
  have hV0 := hV
  have hsh := shn_rng hM hw
  have hMW := MOk_w hM hw
  have h38 := hM.2.2.2.2.2.2.2.1
  obtain ⟨vc, vpl, vga, vse, vne, veg, vre, vtu, vta, vwa, v36, v37, v39, v40, v42, v41, v43, v44, vl0, vl1, vlm⟩ := hV
  obtain ⟨la, hr, had, hLa⟩ := vlm w (by omega) (by omega)
  have hla := hLa.1
  subst hn
  refine w_ldR rfl rfl rfl ?_
  first | refine w_getI rfl rfl rfl rfl rfl ?_ | refine w_getR rfl rfl rfl rfl rfl ?_
  refine w_ldI rfl rfl ?_
  refine w_rldL rfl rfl rfl (by omega) rfl ?_
  rw [hr, Int.toNat_natCast]
  obtain ⟨c4, m4, g4, t4, k4⟩ := @k_dims (d := d + 1) s la _ _ _ hLa hMW.1
  refine w_callV0 rfl rfl rfl rfl hla g4 t4 k4 ?_
  refine w_StI_6_4 rfl rfl ?_
  refine w_ldR rfl rfl rfl ?_
  first | refine w_getI rfl rfl rfl rfl rfl ?_ | refine w_getR rfl rfl rfl rfl rfl ?_
  refine w_push rfl ?_
  refine w_callN rfl rfl rfl k_fill128 (fun s9 p9 => ?_)
  obtain ⟨f9, z9⟩ := p9
  have hLa9 : LampA s9 la _ _ _ := LampA.f2 rfl f9 had hLa
  refine w_ldR rfl rfl rfl ?_
  first | refine w_getI rfl rfl rfl rfl rfl ?_ | refine w_getR rfl rfl rfl rfl rfl ?_
  refine w_push rfl ?_
  refine w_push rfl ?_
  refine w_ldR rfl rfl rfl ?_
  first | refine w_getI rfl rfl rfl rfl rfl ?_ | refine w_getR rfl rfl rfl rfl rfl ?_
  refine w_ldI rfl rfl ?_
  refine w_rldL rfl rfl rfl (by omega) rfl ?_
  rw [f9.at 91 rfl, hr, Int.toNat_natCast]
  refine w_ldI rfl rfl ?_
  obtain ⟨c19, m19, g19, t19, k19⟩ := @k_glows (d := d + 0) s9 la _ _ _ hLa9 hMW.1 hMW.2.1 (D 38) (by omega)
  refine w_callV0 rfl rfl rfl rfl hla g19 t19 k19 ?_
  rw [show shK (D (45 + 4 * w + 0).toNat) (D (45 + 4 * w + 1).toNat) (D 38) = shn D w from rfl]
  refine w_m2 rfl rfl ?_
  rw [m_max_id (by omega) (by omega), show max 0 (shn D w) = shn D w by omega]
  refine w_astk 0 rfl rfl rfl rfl rfl rfl ?_
  refine w_push rfl ?_
  refine w_StI_6_5 rfl rfl ?_
  have hf21 : Fr [114, 128] s (us s9 128 0 (shn D w)) := (Fr.mono rfl f9).tr (Fr.us rfl)
  refine l_cast89 0 0 rfl hV0 hM hC hw hf21 (fun q hq => ?_) (fun q h3 h4 => ?_) (by omega) (fun s1 i1 hf hs => k_castZ89 (VN89.fr rfl hf hV0) hM hw (Fr.mono rfl hf) hs)
  · obtain rfl : q = 0 := by omega
    rw [us_eq, mup_eq]; rfl
  · rw [us_eq, mup_ne (by omega)]; exact z9 q (by omega)
theorem l_met89 {d : Nat} {s : mSt} {P : Int → mSt → Prop} {D : Nat → Int} {w nt : Int} (k : Nat) (i m : Int) (hi : i = (k : Int)) (hm : m = mtF D (liW D w) k) (hV : VN89 s D) (hM : MOk D) (hC : COk D) (hn : nt = D 38) (hw : 0 ≤ w ∧ w < 6) (hl : ∀ i, i < 36 → s 129 i = liW D w i) (hk : (k : Int) ≤ D 40) (hP : ∀ s1, Fr [114, 122, 128, 129] s s1 → (∀ i, i < 36 → s1 129 i = liW D w i) → P (mtF D (liW D w) (D 40).toNat) s1) : WP (d + 4) 88 9 [some (.inr (.inr 89)), some (.inl w), some (.inl nt), some (.inr (.inr 127)), some (.inl m), some (.inl i)] [] (encA (s)) (QI P) := by
  subst hi
  subst hm
  have hV0 := hV
  have hM40 := hM.2.1
  have hmr := mtF_rng D (liW D w) k
  have hwr : 1 ≤ wtF D k ∧ wtF D k ≤ 99 := gv_rng _ _ _ _ _ _
  obtain ⟨vc, vpl, vga, vse, vne, veg, vre, vtu, vta, vwa, v36, v37, v39, v40, v42, v41, v43, v44, vl0, vl1, vlm⟩ := hV
  subst hn
  refine w_ldI rfl rfl ?_
  refine w_ldR rfl rfl rfl ?_
  first | refine w_getI rfl rfl rfl rfl rfl ?_ | refine w_getR rfl rfl rfl rfl rfl ?_
  rw [v40]
  refine w_crGe rfl (by omega) (by omega) (fun b12 => ?_) (fun b12 => ?_)
  · first
    | (exfalso; omega)
    | (refine w_ldI rfl rfl ?_
       refine w_retI rfl ?_
       have e : mtF D (liW D w) k = mtF D (liW D w) (D 40).toNat := by rw [show k = (D 40).toNat by omega]
       rw [e]
       exact hP s Fr.rf hl)
  · first
    | (exfalso; omega)
    | (have hp := MOk_p hM (p := (k : Int)) (by omega)
       have hl1 := liW_L hM hw (D (69 + 4 * (k : Int) + 0).toNat).toNat (by omega)
       have hm1 := @mtF_1024 D (liW D w) k (by omega)
       refine w_ldR rfl rfl rfl ?_
       refine w_ldR rfl rfl rfl ?_
       first | refine w_getI rfl rfl rfl rfl rfl ?_ | refine w_getR rfl rfl rfl rfl rfl ?_
       refine w_ldI rfl rfl ?_
       refine w_ald rfl rfl rfl (by omega) rfl ?_
       rw [vse _ (by omega) (by omega)]
       refine w_callV rfl rfl rfl rfl rfl rfl rfl (k_lightIn (by omega)) ?_
       rw [if_pos (by omega), hl _ (by omega)]
       refine w_ldR rfl rfl rfl ?_
       refine w_ldI rfl rfl ?_
       refine w_ldI rfl rfl ?_
       refine w_callWI rfl rfl rfl rfl rfl rfl rfl (k_wantsOf89 hV0 hM hC (by omega) rfl) (fun v22 s22 p22 => ?_)
       obtain ⟨rfl, f22⟩ := p22
       refine w_crLt rfl (by omega) (by omega) (fun b23 => ?_) (fun b23 => ?_)
       · first
         | (exfalso; omega)
         | (refine w_inc_6_5 rfl rfl ?_
            refine w_go rfl ?_
            have hl2 : ∀ i, i < 36 → s22 129 i = liW D w i := fun i hi => by rw [f22.at 129 rfl]; exact hl i hi
            have hV2 := VN89.fr rfl f22 hV0
            exact l_met89 (k + 1) ((k : Int) + 1) _ (by omega) (by first | (rw [m_or_bit (by omega) hmr, mtF, if_pos (by omega)]; done) | (rw [mtF, if_neg (by omega)]; omega)) hV2 hM hC rfl hw hl2 (by omega) (fun s1 hf hs => hP s1 ((Fr.mono rfl f22).tr hf) hs))
       · first
         | (exfalso; omega)
         | (refine w_ldI rfl rfl ?_
            refine w_push rfl ?_
            refine w_ldI rfl rfl ?_
            refine w_bin rfl ?_
            refine w_bin rfl ?_
            refine w_StI_6_4 rfl rfl ?_
            refine w_inc_6_5 rfl rfl ?_
            refine w_go rfl ?_
            have hl2 : ∀ i, i < 36 → s22 129 i = liW D w i := fun i hi => by rw [f22.at 129 rfl]; exact hl i hi
            have hV2 := VN89.fr rfl f22 hV0
            exact l_met89 (k + 1) ((k : Int) + 1) _ (by omega) (by first | (rw [m_or_bit (by omega) hmr, mtF, if_pos (by omega)]; done) | (rw [mtF, if_neg (by omega)]; omega)) hV2 hM hC rfl hw hl2 (by omega) (fun s1 hf hs => hP s1 ((Fr.mono rfl f22).tr hf) hs)))
termination_by ((D 40).toNat - k)
decreasing_by all_goals omega
theorem k_metBy89 {d : Nat} {s : mSt} {D : Nat → Int} (hV : VN89 s D) (hM : MOk D) (hC : COk D) {w nt : Int} (hw : 0 ≤ w ∧ w < 6) (hn : nt = D 38) : CI (d + 4) 88 [.inr (.inr 89), .inl w, .inl nt, .inr (.inr 127)] (s) (fun v s1 => v = mtW D w ∧ Fr [114, 122, 128, 129] s s1) := by
  refine CI.mk rfl ?_
  show WP (d + 4) 88 0 [some (.inr (.inr 89)), some (.inl w), some (.inl nt), some (.inr (.inr 127)), none, none] [] (encA (s)) _
  have hM40 := hM.2.1
  refine w_ldR rfl rfl rfl ?_
  refine w_ldR rfl rfl rfl ?_
  refine w_ldI rfl rfl ?_
  refine w_ldI rfl rfl ?_
  refine w_callWN rfl rfl rfl rfl rfl rfl rfl (k_cast89 hV hM hC hw hn) (fun s4 p4 => ?_)
  refine w_push rfl ?_
  refine w_StI_6_4 rfl rfl ?_
  refine w_push rfl ?_
  refine w_StI_6_5 rfl rfl ?_
  exact l_met89 0 0 0 rfl rfl (VN89.fr rfl p4.1 hV) hM hC hn hw p4.2.1 (by omega) (fun s1 hf hs => ⟨rfl, (Fr.mono rfl p4.1).tr hf⟩)
theorem k_at98 {d : Nat} {s : mSt} {i : Int} (hi : -2147483648 ≤ i ∧ i < 2147483648) (hs : 0 ≤ s 98 1 ∧ s 98 1 ≤ 12) : Call (d + 0) 64 [.inr (.inr 98), .inl i] (encA (s)) (some (.inl (rowAt s 98 i))) (encA (s)) := by
  refine CI.ex (CI.mk rfl ?_)
  show WP (d + 0) 64 0 [some (.inr (.inr 98)), some (.inl i)] [] (encA (s)) _
  refine w_ldI rfl rfl ?_
  refine w_irLt0 rfl (by omega) (fun b1 => ?_) (fun b1 => ?_)
  · first
    | (exfalso; omega)
    | (refine w_push rfl ?_
       refine w_retI rfl ?_
       refine ⟨?_, rfl⟩
       unfold rowAt
       first | rw [if_pos (by omega)] | rw [if_neg (by omega)])
  · first
    | (exfalso; omega)
    | (refine w_ldI rfl rfl ?_
       refine w_ldR rfl rfl rfl ?_
       first | refine w_getI rfl rfl rfl rfl rfl ?_ | refine w_getR rfl rfl rfl rfl rfl ?_
       refine w_crGe rfl (by omega) (by omega) (fun b5 => ?_) (fun b5 => ?_)
       · first
         | (exfalso; omega)
         | (refine w_push rfl ?_
            refine w_retI rfl ?_
            refine ⟨?_, rfl⟩
            unfold rowAt
            first | rw [if_pos (by omega)] | rw [if_neg (by omega)])
       · first
         | (exfalso; omega)
         | (refine w_ldR rfl rfl rfl ?_
            first | refine w_getI rfl rfl rfl rfl rfl ?_ | refine w_getR rfl rfl rfl rfl rfl ?_
            refine w_ldI rfl rfl ?_
            refine w_ald rfl rfl rfl (by omega) rfl ?_
            refine w_go rfl ?_
            refine w_retI rfl ?_
            refine ⟨?_, rfl⟩
            unfold rowAt
            first | rw [if_pos (by omega)] | rw [if_neg (by omega)]))
theorem k_litT89 {d : Nat} {s : mSt} {D : Nat → Int} (hV : VN89 s D) (hM : MOk D) (h38 : s 89 1 = D 38) : Call (d + 1) 89 [.inr (.inr 89)] (encA (s)) (some (.inl (litW D))) (encA (s)) := by
  refine CI.ex (CI.mk rfl ?_)
  show WP (d + 1) 89 0 [some (.inr (.inr 89))] [] (encA (s)) _
  have hM0 := hM
  obtain ⟨vc, vpl, vga, vse, vne, veg, vre, vtu, vta, vwa, v36, v37, v39, v40, v42, v41, v43, v44, vl0, vl1, vlm⟩ := hV
  obtain ⟨hM39, hM40, hM41, hM43, hM44, hM36, hM37, hM38, hMc, hMw, hMp, hMt, hMb⟩ := hM
  have hq := @m_rem_rng (D 38) (D 41)
  refine w_ldR rfl rfl rfl ?_
  first | refine w_getI rfl rfl rfl rfl rfl ?_ | refine w_getR rfl rfl rfl rfl rfl ?_
  first | refine w_getI rfl rfl rfl rfl rfl ?_ | refine w_getR rfl rfl rfl rfl rfl ?_
  rw [v41]
  refine w_irNe0 rfl (by omega) (fun b3 => ?_) (fun b3 => ?_)
  · first
    | (exfalso; omega)
    | (refine w_ldR rfl rfl rfl ?_
       first | refine w_getI rfl rfl rfl rfl rfl ?_ | refine w_getR rfl rfl rfl rfl rfl ?_
       refine w_ldR rfl rfl rfl ?_
       first | refine w_getI rfl rfl rfl rfl rfl ?_ | refine w_getR rfl rfl rfl rfl rfl ?_
       rw [h38]
       refine w_ldR rfl rfl rfl ?_
       first | refine w_getI rfl rfl rfl rfl rfl ?_ | refine w_getR rfl rfl rfl rfl rfl ?_
       first | refine w_getI rfl rfl rfl rfl rfl ?_ | refine w_getR rfl rfl rfl rfl rfl ?_
       rw [v41]
       refine w_div rfl (by rw [w32_id (by omega) (by omega)]; omega) ?_
       have hq := hq (by omega) (by omega)
       rw [m_rem_pos (by omega) (by omega)] at *
       refine w_callV rfl rfl rfl rfl rfl rfl rfl (k_at98 (by omega) (by omega)) ?_
       refine w_retI rfl ?_
       refine ⟨?_, rfl⟩
       unfold litW
       first
       | (rw [if_pos (by omega)]; done)
       | (rw [if_neg (by omega)]; unfold rowAt; rw [if_pos (by omega), vtu _ (by omega) (by omega)]))
  · first
    | (exfalso; omega)
    | (refine w_push rfl ?_
       refine w_go rfl ?_
       refine w_retI rfl ?_
       refine ⟨?_, rfl⟩
       unfold litW
       first
       | (rw [if_pos (by omega)]; done)
       | (rw [if_neg (by omega)]; unfold rowAt; rw [if_pos (by omega), vtu _ (by omega) (by omega)]))
theorem k_pay89 {d : Nat} {s : mSt} {D : Nat → Int} (hV : VN89 s D) (hM : MOk D) {p w : Int} (hp : 0 ≤ p ∧ p < 10) (hw : 0 ≤ w ∧ w < 6) : CV (d + 1) 91 [.inr (.inr 89), .inl p, .inl w] (s) (fun s1 => VN89 s1 (rdD D p w) ∧ Fr [93, 96, 97] s s1) := by
  refine CV.mk rfl ?_
  show WP (d + 1) 91 0 [some (.inr (.inr 89)), some (.inl p), some (.inl w), none] [] (encA (s)) _
  have hV0 := hV
  have h1 := MOk_p hM hp
  have h2 := MOk_w hM hw
  have h3 := hM.2.2.2.2.2.2.1
  have h4 : 0 ≤ rdP D p ∧ rdP D p ≤ D (69 + 4 * p + 2).toNat := by unfold rdP; omega
  obtain ⟨vc, vpl, vga, vse, vne, veg, vre, vtu, vta, vwa, v36, v37, v39, v40, v42, v41, v43, v44, vl0, vl1, vlm⟩ := hV
  refine w_ldR rfl rfl rfl ?_
  first | refine w_getI rfl rfl rfl rfl rfl ?_ | refine w_getR rfl rfl rfl rfl rfl ?_
  rw [v37]
  refine w_ldR rfl rfl rfl ?_
  first | refine w_getI rfl rfl rfl rfl rfl ?_ | refine w_getR rfl rfl rfl rfl rfl ?_
  refine w_ldI rfl rfl ?_
  refine w_ald rfl rfl rfl (by omega) rfl ?_
  rw [veg _ (by omega) (by omega)]
  refine w_m2 rfl rfl ?_
  rw [m_min_id (by omega) (by omega), show min (D 37) (D (69 + 4 * p + 2).toNat) = rdP D p from rfl]
  refine w_StI_4_3 rfl rfl ?_
  refine w_ldR rfl rfl rfl ?_
  first | refine w_getI rfl rfl rfl rfl rfl ?_ | refine w_getR rfl rfl rfl rfl rfl ?_
  refine w_ldI rfl rfl ?_
  refine w_push rfl ?_
  refine w_ldR rfl rfl rfl ?_
  first | refine w_getI rfl rfl rfl rfl rfl ?_ | refine w_getR rfl rfl rfl rfl rfl ?_
  refine w_ldI rfl rfl ?_
  refine w_ald rfl rfl rfl (by omega) rfl ?_
  rw [vre _ (by omega) (by omega)]
  refine w_push rfl ?_
  refine w_add rfl ?_
  refine w_m2 rfl rfl ?_
  rw [m_min_id (by omega) (by omega)]
  refine w_ast rfl rfl rfl (by omega) rfl ?_
  refine w_ldR rfl rfl rfl ?_
  first | refine w_getI rfl rfl rfl rfl rfl ?_ | refine w_getR rfl rfl rfl rfl rfl ?_
  refine w_ldI rfl rfl ?_
  refine w_dup2 rfl ?_
  refine w_ald rfl rfl rfl (by omega) rfl ?_
  rw [us_ne (by decide), veg _ (by omega) (by omega)]
  refine w_ldI rfl rfl ?_
  refine w_sub rfl ?_
  refine w_ast rfl rfl rfl (by omega) rfl ?_
  refine w_ldR rfl rfl rfl ?_
  first | refine w_getI rfl rfl rfl rfl rfl ?_ | refine w_getR rfl rfl rfl rfl rfl ?_
  refine w_ldI rfl rfl ?_
  refine w_push rfl ?_
  refine w_ldR rfl rfl rfl ?_
  first | refine w_getI rfl rfl rfl rfl rfl ?_ | refine w_getR rfl rfl rfl rfl rfl ?_
  refine w_ldI rfl rfl ?_
  refine w_ald rfl rfl rfl (by omega) rfl ?_
  rw [us_ne (by decide), us_ne (by decide), vga _ (by omega) (by omega)]
  refine w_ldI rfl rfl ?_
  refine w_add rfl ?_
  refine w_m2 rfl rfl ?_
  rw [m_min_id (by omega) (by omega)]
  refine w_ast rfl rfl rfl (by omega) rfl ?_
  refine w_retV rfl ?_
  refine ⟨?_, (Fr.us rfl).tr ((Fr.us rfl).tr (Fr.us rfl))⟩
  exact ((hV0.set_vre hp).set_veg hp).set_vga hw
theorem k_passZ89 {d : Nat} {s s0 : mSt} {D : Nat → Int} {l1 l2 l3 : Option mAV} (hf : Fr [93, 96, 97, 114, 122, 128, 129] s0 s) (hV : VN89 s (gnF D)) (h38 : s 89 1 = D 38) : WP (d + 5) 90 30 [some (.inr (.inr 89)), some (.inr (.inr 127)), l1, l2, l3] [] (encA (s)) (QV (fun s1 => VN89 s1 (nfF D) ∧ s1 89 1 = D 38 + 1 ∧ Fr [89, 93, 96, 97, 114, 122, 128, 129] s0 s1)) := by
  refine w_ldR rfl rfl rfl ?_
  first | refine w_dupI rfl ?_ | refine w_dupR rfl ?_
  first | refine w_getI rfl rfl rfl rfl rfl ?_ | refine w_getR rfl rfl rfl rfl rfl ?_
  rw [h38]
  refine w_push rfl ?_
  refine w_add rfl ?_
  refine w_putI rfl rfl rfl rfl rfl rfl rfl ?_
  refine w_retV rfl ?_
  refine ⟨VN89.cg (fun j hj => mup_ne hj) hV.night, by rw [us_eq, mup_eq], (Fr.mono rfl hf).tr (Fr.us rfl)⟩
theorem l_pass89 {d : Nat} {s : mSt} {Q : mQ} {w m : Int} {D : Nat → Int} (n k : Nat) (i : Int) (hi : i = (k : Int)) (hV : VN89 s D) (hM : MOk D) (hC : COk D) (hw : 0 ≤ w ∧ w < 6) (hm : 0 ≤ m ∧ m < 1024) (hk : (k : Int) + n = D 40) (kk : ∀ s1, Fr [93, 96, 97] s s1 → VN89 s1 (gbF w m n k D) → WP (d + 5) 90 30 [some (.inr (.inr 89)), some (.inr (.inr 127)), some (.inl w), some (.inl m), some (.inl (D 40))] [] (encA (s1)) (Q)) : WP (d + 5) 90 14 [some (.inr (.inr 89)), some (.inr (.inr 127)), some (.inl w), some (.inl m), some (.inl i)] [] (encA (s)) (Q) := by
  subst hi
  have hV0 := hV
  have h4 := hM.2.1
  have h5 := bitN_rng m k
  have v40 : s 89 9 = D 40 := by
    obtain ⟨vc, vpl, vga, vse, vne, veg, vre, vtu, vta, vwa, v36, v37, v39, v40, v42, v41, v43, v44, vl0, vl1, vlm⟩ := hV
    exact v40
  refine w_ldI rfl rfl ?_
  refine w_ldR rfl rfl rfl ?_
  first | refine w_getI rfl rfl rfl rfl rfl ?_ | refine w_getR rfl rfl rfl rfl rfl ?_
  rw [v40]
  refine w_crGe rfl (by omega) (by omega) (fun b17 => ?_) (fun b17 => ?_)
  · first
    | (exfalso; omega)
    | (obtain rfl : n = 0 := by omega
       rw [show (k : Int) = D 40 by omega]
       exact kk s Fr.rf hV)
  · first
    | (exfalso; omega)
    | (obtain ⟨n, rfl⟩ : ∃ q, n = q + 1 := ⟨n - 1, by omega⟩
       refine w_ldI rfl rfl ?_
       refine w_ldI rfl rfl ?_
       refine w_bin rfl ?_
       refine w_push rfl ?_
       refine w_bin rfl ?_
       rw [m_bit (by omega) hm]
       refine w_irEq0 rfl (by omega) (fun b23 => ?_) (fun b23 => ?_)
       · first
         | (exfalso; omega)
         | (refine w_inc_5_4 rfl rfl ?_
            refine w_go rfl ?_
            first
            | (exact l_pass89 (D := rdD D k w) n (k + 1) ((k : Int) + 1) (by omega) p27.1 (rdD_ok hM (by omega) hw) (rdD_c hC (by omega) hw) hw hm (by rw [rdD_lo (by omega) hw (by omega)]; omega) (fun s1 hf hs => by
                rw [rdD_lo (by omega) hw (by omega)]
                exact kk s1 (p27.2.tr hf) (by unfold gbF; rw [if_pos (by omega)]; exact hs)))
            | (exact l_pass89 (D := D) n (k + 1) ((k : Int) + 1) (by omega) hV hM hC hw hm (by omega) (fun s1 hf hs => kk s1 hf (by unfold gbF; rw [if_neg (by omega)]; exact hs))))
       · first
         | (exfalso; omega)
         | (refine w_ldR rfl rfl rfl ?_
            refine w_ldI rfl rfl ?_
            refine w_ldI rfl rfl ?_
            refine w_callWN rfl rfl rfl rfl rfl rfl rfl (k_pay89 hV0 hM (by omega) hw) (fun s27 p27 => ?_)
            refine w_inc_5_4 rfl rfl ?_
            refine w_go rfl ?_
            first
            | (exact l_pass89 (D := rdD D k w) n (k + 1) ((k : Int) + 1) (by omega) p27.1 (rdD_ok hM (by omega) hw) (rdD_c hC (by omega) hw) hw hm (by rw [rdD_lo (by omega) hw (by omega)]; omega) (fun s1 hf hs => by
                rw [rdD_lo (by omega) hw (by omega)]
                exact kk s1 (p27.2.tr hf) (by unfold gbF; rw [if_pos (by omega)]; exact hs)))
            | (exact l_pass89 (D := D) n (k + 1) ((k : Int) + 1) (by omega) hV hM hC hw hm (by omega) (fun s1 hf hs => kk s1 hf (by unfold gbF; rw [if_neg (by omega)]; exact hs)))))
termination_by n
decreasing_by all_goals omega
theorem k_pass89 {d : Nat} {s : mSt} {D : Nat → Int} (hV : VN89 s D) (hM : MOk D) (hC : COk D) (h38 : s 89 1 = D 38) : CV (d + 5) 90 [.inr (.inr 89), .inr (.inr 127)] (s) (fun s1 => VN89 s1 (nfF D) ∧ s1 89 1 = D 38 + 1 ∧ Fr [89, 93, 96, 97, 114, 122, 128, 129] s s1) := by
  refine CV.mk rfl ?_
  show WP (d + 5) 90 0 [some (.inr (.inr 89)), some (.inr (.inr 127)), none, none, none] [] (encA (s)) _
  have hl := litW_rng hM
  have h4 := hM.2.1
  refine w_ldR rfl rfl rfl ?_
  refine w_callV rfl rfl rfl rfl rfl rfl rfl (k_litT89 hV hM h38) ?_
  refine w_StI_5_2 rfl rfl ?_
  refine w_ldI rfl rfl ?_
  refine w_irLt0 rfl (by omega) (fun b4 => ?_) (fun b4 => ?_)
  · first
    | (exfalso; omega)
    | (exact k_passZ89 Fr.rf (by unfold gnF; rw [if_pos (by omega)]; exact hV) h38)
  · first
    | (exfalso; omega)
    | (refine w_ldR rfl rfl rfl ?_
       refine w_ldI rfl rfl ?_
       refine w_ldR rfl rfl rfl ?_
       first | refine w_getI rfl rfl rfl rfl rfl ?_ | refine w_getR rfl rfl rfl rfl rfl ?_
       refine w_ldR rfl rfl rfl ?_
       refine w_callWI rfl rfl rfl rfl rfl rfl rfl (k_metBy89 hV hM hC (by omega) h38) (fun v10 s10 p10 => ?_)
       obtain ⟨rfl, f10⟩ := p10
       refine w_StI_5_3 rfl rfl ?_
       refine w_push rfl ?_
       refine w_StI_5_4 rfl rfl ?_
       exact l_pass89 (D := D) (D 40).toNat 0 0 rfl (VN89.fr rfl f10 hV) hM hC (by omega) (mtF_1024 (by omega)) (by omega) (fun s1 hf hs => k_passZ89 ((Fr.mono rfl f10).tr (Fr.mono rfl hf)) (by unfold gnF; rw [if_neg (by omega)]; exact hs) (by rw [hf.at 89 rfl, f10.at 89 rfl]; exact h38)))
theorem l_rall89 {d : Nat} {s : mSt} {P : Int → mSt → Prop} {D : Nat → Int} (k : Nat) (i m : Int) (hi : i = (k : Int)) (hm : m = sumT (fun p => D (69 + 4 * p + 3)) k) (hV : VN89 s D) (hM : MOk D) (hk : (k : Int) ≤ D 40) (hP : P (roF D) s) : WP (d + 0) 93 4 [some (.inr (.inr 89)), some (.inl m), some (.inl i)] [] (encA (s)) (QI P) := by
  subst hi
  subst hm
  have hV0 := hV
  have h4 := hM.2.1
  obtain ⟨vc, vpl, vga, vse, vne, veg, vre, vtu, vta, vwa, v36, v37, v39, v40, v42, v41, v43, v44, vl0, vl1, vlm⟩ := hV
  refine w_ldI rfl rfl ?_
  refine w_ldR rfl rfl rfl ?_
  first | refine w_getI rfl rfl rfl rfl rfl ?_ | refine w_getR rfl rfl rfl rfl rfl ?_
  rw [v40]
  refine w_crGe rfl (by omega) (by omega) (fun b7 => ?_) (fun b7 => ?_)
  · first
    | (exfalso; omega)
    | (refine w_ldI rfl rfl ?_
       refine w_retI rfl ?_
       have e : k = (D 40).toNat := by omega
       subst e
       exact hP)
  · first
    | (exfalso; omega)
    | (refine w_ldI rfl rfl ?_
       refine w_ldR rfl rfl rfl ?_
       first | refine w_getI rfl rfl rfl rfl rfl ?_ | refine w_getR rfl rfl rfl rfl rfl ?_
       refine w_ldI rfl rfl ?_
       refine w_ald rfl rfl rfl (by omega) rfl ?_
       rw [vre _ (by omega) (by omega)]
       refine w_add rfl ?_
       refine w_StI_3_1 rfl rfl ?_
       refine w_inc_3_2 rfl rfl ?_
       refine w_go rfl ?_
       exact l_rall89 (k + 1) ((k : Int) + 1) _ (by omega) (by simp only [sumT]; rw [show (69 + 4 * (k : Int) + 3).toNat = 69 + 4 * k + 3 by omega]) hV0 hM (by omega) hP)
termination_by ((D 40).toNat - k)
decreasing_by all_goals omega
theorem k_rall89 {d : Nat} {s : mSt} {D : Nat → Int} (hV : VN89 s D) (hM : MOk D) : Call (d + 0) 93 [.inr (.inr 89)] (encA (s)) (some (.inl (roF D))) (encA (s)) := by
  refine CI.ex (CI.mk rfl ?_)
  show WP (d + 0) 93 0 [some (.inr (.inr 89)), none, none] [] (encA (s)) _
  have h4 := hM.2.1
  refine w_push rfl ?_
  refine w_StI_3_1 rfl rfl ?_
  refine w_push rfl ?_
  refine w_StI_3_2 rfl rfl ?_
  exact l_rall89 0 0 0 rfl rfl hV hM (by omega) ⟨rfl, rfl⟩
