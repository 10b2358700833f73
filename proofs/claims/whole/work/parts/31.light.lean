/-! ===== the reference: light, who is met (by what holds behind) ===== -/
theorem shn_rng {d : Nat → Int} (hM : MOk d) {w : Int} (hw : 0 ≤ w ∧ w < 6) : 0 ≤ shn d w ∧ shn d w ≤ 21 := by
  have h := MOk_w hM hw
  unfold shn shK
  repeat' split
  all_goals omega
theorem dms_rng (d : Nat → Int) (w : Int) : 1 ≤ dms d w ∧ dms d w ≤ 3 := by
  unfold dms dmK
  repeat' split
  all_goals omega
def LOk (l : Nat → Int) : Prop := ∀ c, c < 36 → 0 ≤ l c ∧ l c ≤ 30
theorem LOk_up {l : Nat → Int} {c : Nat} {v : Int} (h : LOk l) (hv : 0 ≤ v ∧ v ≤ 30) : LOk (mup l c v) := by
  intro i hi
  unfold mup
  split
  · exact hv
  · exact h i hi
theorem rayF_a {G lf : Nat → Int} {n k : Nat} {c way : Int} {L : Nat → Int} (h : nxc c way < 0) : rayF G lf n k c way L = L := by
  cases n with
  | zero => rfl
  | succ n => unfold rayF; rw [if_pos h]; split <;> rfl
theorem rayF_b {G lf : Nat → Int} {n k : Nat} {c way : Int} {L : Nat → Int} (h : lf (k + 1) ≤ 0) : rayF G lf n k c way L = L := by
  cases n with
  | zero => rfl
  | succ n => unfold rayF; rw [if_neg (by omega)]
theorem rayF_c {G lf : Nat → Int} {n k : Nat} {c way : Int} {L : Nat → Int} (h : G (nxc c way).toNat = 1) : rayF G lf n k c way L = L := by
  cases n with
  | zero => rfl
  | succ n => unfold rayF; rw [if_pos h]; split <;> (try split) <;> rfl
theorem rayF_s {G lf : Nat → Int} {n k : Nat} {c way : Int} {L : Nat → Int} (h1 : 0 < lf (k + 1)) (h2 : ¬ nxc c way < 0) (h3 : ¬ G (nxc c way).toNat = 1) : rayF G lf (n + 1) k c way L = rayF G lf n (k + 1) (nxc c way) (trn way (G (nxc c way).toNat)) (mup L (nxc c way).toNat (max (L (nxc c way).toNat) (lf (k + 1)))) := by
  conv => lhs; unfold rayF
  rw [if_pos h1, if_neg h2, if_neg h3]
theorem rayF_L {G lf : Nat → Int} (hl : ∀ k, lf k ≤ 30) : ∀ (n k : Nat) (c way : Int) (L : Nat → Int), LOk L → LOk (rayF G lf n k c way L)
  | 0, _, _, _, L, h => h
  | n + 1, k, c, way, L, h => by
    unfold rayF
    split
    · split
      · exact h
      · split
        · exact h
        · refine rayF_L hl n _ _ _ _ (fun i hi => ?_)
          have h1 := h i hi
          have h2 := hl (k + 1)
          unfold mup
          split
          · rename_i e; rw [← e]; omega
          · exact h1
    · exact h
theorem lf_s {D : Nat → Int} {dm h0 : Int} {k : Nat} (h : 0 < lfN D dm h0 k) : lfN D dm h0 (k + 1) = lfN D dm h0 k - gv D 0 (D 36) dm (lfN D dm h0 k) k := by
  conv => lhs; unfold lfN
  rw [if_pos h]
theorem l_ray {d : Nat} {s : mSt} {P : mSt → Prop} {w fi dm h0 : Int} {D L : Nat → Int} (n k : Nat) (i c way : Int) (hi : i = (k : Int)) (hD : s 147 = D) (hM : MOk D) (hC : COk D) (hl : ∀ i, i < 36 → s 154 i = L i) (hL : LOk L) (hk : k + n = 40) (hc : 0 ≤ c ∧ c < 36) (hw : 0 ≤ way ∧ way < 4) (hh : 0 < lfN D dm h0 k) (h00 : 0 ≤ h0 ∧ h0 ≤ 30) (hdm : 1 ≤ dm ∧ dm ≤ 3) (hP : ∀ s1, Fr [151, 153, 154] s s1 → (∀ i, i < 36 → s1 154 i = rayF D (lfN D dm h0) n k c way L i) → P s1) : WP (d + 3) 202 17 [some (.inr (.inr 146)), some (.inl w), some (.inl fi), some (.inl way), some (.inl c), some (.inl (lfN D dm h0 k)), some (.inl dm), some (.inl i)] [] (encA (s)) (QV P) := by
  subst hi
  have hlf := lfN_le D dm h0 h00.1 (k + 1)
  have hlf0 := lfN_le D dm h0 h00.1 k
  have hlg := lfN_ge D dm h0 h00.1 (k + 1)
  have hx := @nxc_rng c way hc
  refine w_ldI rfl rfl ?_
  refine w_push rfl ?_
  refine w_crGe rfl (by omega) (by omega) (fun b19 => ?_) (fun b19 => ?_)
  · first
    | (exfalso; omega)
    | (refine w_retV rfl ?_
       obtain rfl : n = 0 := by omega
       exact hP s Fr.rf hl)
  · first
    | (exfalso; omega)
    | (obtain ⟨n, rfl⟩ : ∃ m, n = m + 1 := ⟨n - 1, by omega⟩
       refine w_ldI rfl rfl ?_
       refine w_ldI rfl rfl ?_
       refine w_call rfl rfl rfl (r_nextTo hc hw) ?_
       try simp only [hD, e37]
       refine w_StI_8_4 rfl rfl ?_
       refine w_ldI rfl rfl ?_
       refine w_irGe0 rfl (by omega) (fun b25 => ?_) (fun b25 => ?_)
       · first
         | (exfalso; omega)
         | (refine w_ldI rfl rfl ?_
            refine w_ldR rfl rfl rfl ?_
            refine w_push rfl ?_
            refine w_ldR rfl rfl rfl ?_
            first | refine w_getI rfl rfl rfl rfl rfl ?_ | refine w_getR rfl rfl rfl rfl rfl ?_
            skip
            refine w_push rfl ?_
            refine w_aldk 36 rfl rfl rfl rfl rfl rfl ?_
            rw [hD]
            refine w_ldI rfl rfl ?_
            refine w_ldI rfl rfl ?_
            refine w_ldI rfl rfl ?_
            refine w_callWI rfl rfl rfl rfl rfl rfl rfl (c_gives (by omega) hD hC) (fun v37 s37 p37 => ?_)
            obtain ⟨rfl, f37⟩ := p37
            have e37 : s37 147 = D := (f37.at 147 rfl).trans hD
            have l37 : s37 154 = s 154 := f37.at 154 rfl
            refine w_sub rfl ?_
            rw [← lf_s hh]
            refine w_StI_8_5 rfl rfl ?_
            refine w_ldI rfl rfl ?_
            refine w_irLe0 rfl (by omega) (fun b41 => ?_) (fun b41 => ?_)
            · first
              | (exfalso; omega)
              | (refine w_retV rfl ?_
                 exact hP s37 (Fr.mono rfl f37) (fun i hi => by rw [l37, hl i hi]; first | rw [rayF_b (by omega)] | rw [rayF_c b49]))
            · first
              | (exfalso; omega)
              | (refine w_ldR rfl rfl rfl ?_
                 first | refine w_getI rfl rfl rfl rfl rfl ?_ | refine w_getR rfl rfl rfl rfl rfl ?_
                 skip
                 refine w_push rfl ?_
                 refine w_ldI rfl rfl ?_
                 refine w_add rfl ?_
                 rw [Int.zero_add]
                 refine w_ald rfl rfl rfl (by omega) rfl ?_
                 rw [e37]
                 have hc3 := MOk_c hM (c := nxc c way) (by omega)
                 rw [Int.zero_add] at hc3
                 refine w_push rfl ?_
                 refine w_crNe rfl (by omega) (by omega) (fun b49 => ?_) (fun b49 => ?_)
                 · first
                   | (exfalso; omega)
                   | (refine w_ldR rfl rfl rfl ?_
                      first | refine w_getI rfl rfl rfl rfl rfl ?_ | refine w_getR rfl rfl rfl rfl rfl ?_
                      skip
                      refine w_ldI rfl rfl ?_
                      refine w_ldR rfl rfl rfl ?_
                      first | refine w_getI rfl rfl rfl rfl rfl ?_ | refine w_getR rfl rfl rfl rfl rfl ?_
                      skip
                      refine w_ldI rfl rfl ?_
                      refine w_ald rfl rfl rfl (by omega) rfl ?_
                      skip
                      rw [l37, hl _ (by omega)]
                      have hLx := hL (nxc c way).toNat (by omega)
                      refine w_ldI rfl rfl ?_
                      refine w_call rfl rfl rfl (r_greater (by omega) (by omega)) ?_
                      try simp only [hD, e37]
                      refine w_ast rfl rfl rfl (by omega) rfl ?_
                      refine w_ldI rfl rfl ?_
                      refine w_ldR rfl rfl rfl ?_
                      first | refine w_getI rfl rfl rfl rfl rfl ?_ | refine w_getR rfl rfl rfl rfl rfl ?_
                      skip
                      refine w_push rfl ?_
                      refine w_ldI rfl rfl ?_
                      refine w_add rfl ?_
                      rw [Int.zero_add]
                      refine w_ald rfl rfl rfl (by omega) rfl ?_
                      skip
                      rw [us_ne (by decide), e37]
                      refine w_call rfl rfl rfl (r_turned hw (by have := MOk_c hM (c := nxc c way) (by omega); rw [Int.zero_add] at this; exact this)) ?_
                      try simp only [hD, e37]
                      refine w_StI_8_3 rfl rfl ?_
                      refine w_inc_8_7 rfl rfl ?_
                      refine w_go rfl ?_
                      have hLx := hL (nxc c way).toNat (by omega)
                      exact l_ray (L := mup L (nxc c way).toNat (max (L (nxc c way).toNat) (lfN D dm h0 (k + 1)))) n (k + 1) ((k : Int) + 1) (nxc c way) (trn way (D (nxc c way).toNat)) (by omega) (by rw [us_ne (by decide), e37]) hM hC (fun i hi => by
                        rw [us_eq]
                        unfold mup
                        split
                        · rfl
                        · rw [l37, hl i hi]) (LOk_up hL (by omega)) (by omega) (by omega) (trn_rng hw) (by omega) h00 hdm (fun s1 hf hs => hP s1 ((Fr.mono rfl f37).tr ((Fr.us rfl).tr hf)) (fun i hi => by rw [rayF_s (by omega) (by omega) b49]; exact hs i hi)))
                 · first
                   | (exfalso; omega)
                   | (refine w_retV rfl ?_
                      exact hP s37 (Fr.mono rfl f37) (fun i hi => by rw [l37, hl i hi]; first | rw [rayF_b (by omega)] | rw [rayF_c b49]))))
       · first
         | (exfalso; omega)
         | (refine w_retV rfl ?_
            exact hP s Fr.rf (fun i hi => by rw [rayF_a (by omega)]; exact hl i hi)))
termination_by (40 - k)
decreasing_by all_goals omega
theorem c_ray {d : Nat} {s : mSt} {w way : Int} {D L : Nat → Int} (hD : s 147 = D) (hM : MOk D) (hC : COk D) (hl : ∀ i, i < 36 → s 154 i = L i) (hL : LOk L) (hw : 0 ≤ w ∧ w < 6) (hway : 0 ≤ way ∧ way < 4) (hh : 0 < shn D w) : CV (d + 3) 202 [.inr (.inr 146), .inl w, .inl way] (s) (fun s1 => Fr [151, 153, 154] s s1 ∧ ∀ i, i < 36 → s1 154 i = rayF D (lfW D w) 40 0 (cwF D w) way L i) := by
  refine CV.mk rfl ?_
  show WP (d + 3) 202 0 [some (.inr (.inr 146)), some (.inl w), some (.inl way), none, none, none, none, none] [] (encA (s)) _
  have hMW := MOk_w hM hw
  have h1 := shn_rng hM hw
  have h2 := dms_rng D w
  refine w_ldI rfl rfl ?_
  refine w_StI_8_3 rfl rfl ?_
  refine w_ldR rfl rfl rfl ?_
  refine w_ldI rfl rfl ?_
  refine w_push rfl ?_
  refine w_callV rfl rfl rfl rfl rfl rfl rfl (r_ofIt (by omega) (by omega)) ?_
  try simp only [hD]
  refine w_StI_8_4 rfl rfl ?_
  refine w_ldR rfl rfl rfl ?_
  refine w_ldI rfl rfl ?_
  refine w_callV rfl rfl rfl rfl rfl rfl rfl (r_shinesOf (by rw [hD]; exact hM) hw) ?_
  try simp only [hD]
  refine w_StI_8_5 rfl rfl ?_
  refine w_ldR rfl rfl rfl ?_
  refine w_ldI rfl rfl ?_
  refine w_callV rfl rfl rfl rfl rfl rfl rfl (r_dimsOf (by rw [hD]; exact hM) hw) ?_
  try simp only [hD]
  refine w_StI_8_6 rfl rfl ?_
  refine w_push rfl ?_
  refine w_StI_8_7 rfl rfl ?_
  exact l_ray (dm := dms D w) (h0 := shn D w) 40 0 0 (cwF D w) way rfl hD hM hC hl hL rfl (by unfold cwF; omega) hway hh (by omega) h2 (fun s1 hf hs => ⟨hf, hs⟩)
theorem l_shine0 {d : Nat} {s : mSt} {Q : mQ} {w : Int} (k : Nat) (i : Int) (hi : i = (k : Int)) (hk : k ≤ 36) (hl : ∀ q, q < k → s 154 q = 0) (kk : ∀ s1, Fr [154] s s1 → (∀ q, q < 36 → s1 154 q = 0) → WP (d + 4) 203 12 [some (.inr (.inr 146)), some (.inl w), some (.inl 36)] [] (encA (s1)) (Q)) : WP (d + 4) 203 2 [some (.inr (.inr 146)), some (.inl w), some (.inl i)] [] (encA (s)) (Q) := by
  subst hi
  refine w_ldI rfl rfl ?_
  refine w_push rfl ?_
  refine w_crGe rfl (by omega) (by omega) (fun b4 => ?_) (fun b4 => ?_)
  · first
    | (exfalso; omega)
    | (obtain rfl : k = 36 := by omega
       exact kk s Fr.rf hl)
  · first
    | (exfalso; omega)
    | (refine w_ldR rfl rfl rfl ?_
       first | refine w_getI rfl rfl rfl rfl rfl ?_ | refine w_getR rfl rfl rfl rfl rfl ?_
       refine w_ldI rfl rfl ?_
       refine w_push rfl ?_
       refine w_ast rfl rfl rfl (by omega) rfl ?_
       refine w_inc_3_2 rfl rfl ?_
       refine w_go rfl ?_
       exact l_shine0 (k + 1) ((k : Int) + 1) (by omega) (by omega) (fun q hq => by
         rw [us_eq]
         unfold mup
         split
         · rfl
         · exact hl q (by omega)) (fun s1 hf hs => kk s1 ((Fr.us rfl).tr hf) hs))
termination_by (36 - k)
decreasing_by all_goals omega
def wyF (D : Nat → Int) (w : Int) : Nat → Int → (Nat → Int) → (Nat → Int)
  | 0, _, L => L
  | n + 1, way, L => if 0 < shn D w then wyF D w n (way + 1) (rayF D (lfW D w) 40 0 (cwF D w) way L) else L
theorem lfW_0 (D : Nat → Int) (w : Int) : lfW D w 0 = shn D w := rfl
theorem lfW_le {D : Nat → Int} (hM : MOk D) {w : Int} (hw : 0 ≤ w ∧ w < 6) (k : Nat) : lfW D w k ≤ shn D w := lfN_le D _ _ (shn_rng hM hw).1 k
theorem wy_li {D : Nat → Int} (hM : MOk D) {w : Int} (hw : 0 ≤ w ∧ w < 6) : wyF D w 4 0 (mup (fun _ => 0) (cwF D w).toNat (shn D w)) = liW D w := by
  have h := shn_rng hM hw
  unfold liW liF
  rw [lfW_0]
  by_cases h0 : 0 < shn D w
  · simp only [wyF, if_pos h0]
    rw [rayF_src (lfW_le hM hw), rayF_src (lfW_le hM hw), rayF_src (lfW_le hM hw), rayF_src (lfW_le hM hw)]
    rfl
  · have h1 : lfW D w 1 ≤ 0 := by have := lfW_le hM hw 1; omega
    simp only [wyF, if_neg h0]
    rw [rayF_0 h1, rayF_0 h1, rayF_0 h1, rayF_0 h1]
theorem liW_L {D : Nat → Int} (hM : MOk D) {w : Int} (hw : 0 ≤ w ∧ w < 6) : LOk (liW D w) := by
  have h := shn_rng hM hw
  have h2 : ∀ k, lfW D w k ≤ 30 := fun k => by have := lfW_le hM hw k; omega
  unfold liW liF
  refine LOk_up (rayF_L h2 _ _ _ _ _ (rayF_L h2 _ _ _ _ _ (rayF_L h2 _ _ _ _ _ (rayF_L h2 _ _ _ _ _ (fun i _ => ⟨Int.le_refl _, by decide⟩))))) (by rw [lfW_0]; omega)
theorem l_shine1 {d : Nat} {s : mSt} {P : mSt → Prop} {w : Int} {D L : Nat → Int} (n : Nat) (way : Int) (hD : s 147 = D) (hM : MOk D) (hC : COk D) (hl : ∀ i, i < 36 → s 154 i = L i) (hL : LOk L) (hw : 0 ≤ w ∧ w < 6) (hk : way + n = 4 ∧ 0 ≤ way) (hP : ∀ s1, Fr [151, 153, 154] s s1 → (∀ i, i < 36 → s1 154 i = wyF D w n way L i) → P s1) : WP (d + 4) 203 24 [some (.inr (.inr 146)), some (.inl w), some (.inl way)] [] (encA (s)) (QV P) := by
  have h1 := shn_rng hM hw
  refine w_ldI rfl rfl ?_
  refine w_push rfl ?_
  refine w_crGe rfl (by omega) (by omega) (fun b26 => ?_) (fun b26 => ?_)
  · first
    | (exfalso; omega)
    | (refine w_retV rfl ?_
       first | (obtain rfl : n = 0 := (by omega); exact hP s Fr.rf hl) | exact hP s Fr.rf (fun i hi => by unfold wyF; rw [if_neg (by omega)]; exact hl i hi))
  · first
    | (exfalso; omega)
    | (obtain ⟨n, rfl⟩ : ∃ m, n = m + 1 := ⟨n - 1, by omega⟩
       refine w_ldR rfl rfl rfl ?_
       refine w_ldI rfl rfl ?_
       refine w_callV rfl rfl rfl rfl rfl rfl rfl (r_shinesOf (by rw [hD]; exact hM) hw) ?_
       try simp only [hD]
       refine w_irLe0 rfl (by omega) (fun b30 => ?_) (fun b30 => ?_)
       · first
         | (exfalso; omega)
         | (refine w_retV rfl ?_
            first | (obtain rfl : n = 0 := (by omega); exact hP s Fr.rf hl) | exact hP s Fr.rf (fun i hi => by unfold wyF; rw [if_neg (by omega)]; exact hl i hi))
       · first
         | (exfalso; omega)
         | (refine w_ldR rfl rfl rfl ?_
            refine w_ldI rfl rfl ?_
            refine w_ldI rfl rfl ?_
            refine w_callWN rfl rfl rfl rfl rfl rfl rfl (c_ray hD hM hC hl hL hw (by omega) (by omega)) (fun s34 p34 => ?_)
            refine w_inc_3_2 rfl rfl ?_
            refine w_go rfl ?_
            obtain ⟨f34, l34⟩ := p34
            exact l_shine1 (L := rayF D (lfW D w) 40 0 (cwF D w) way L) n (way + 1) ((f34.at 147 rfl).trans hD) hM hC l34 (rayF_L (fun k => by have := lfN_le D (dms D w) (shn D w) h1.1 k; unfold lfW; omega) _ _ _ _ _ hL) hw (by omega) (fun s1 hf hs => hP s1 (f34.tr hf) (fun i hi => by unfold wyF; rw [if_pos (by omega)]; exact hs i hi))))
termination_by n
decreasing_by all_goals omega
theorem c_shine2 {d : Nat} {s s0 : mSt} {w : Int} {D : Nat → Int} (hf : Fr [151, 153, 154] s0 s) (hD : s 147 = D) (hM : MOk D) (hC : COk D) (hl : ∀ q, q < 36 → s 154 q = 0) (hw : 0 ≤ w ∧ w < 6) : WP (d + 4) 203 12 [some (.inr (.inr 146)), some (.inl w), some (.inl 36)] [] (encA (s)) (QV (fun s1 => Fr [151, 153, 154] s0 s1 ∧ ∀ i, i < 36 → s1 154 i = liW D w i)) := by
  have hMW := MOk_w hM hw
  have h1 := shn_rng hM hw
  refine w_ldR rfl rfl rfl ?_
  first | refine w_getI rfl rfl rfl rfl rfl ?_ | refine w_getR rfl rfl rfl rfl rfl ?_
  refine w_ldR rfl rfl rfl ?_
  refine w_ldI rfl rfl ?_
  refine w_push rfl ?_
  refine w_callV rfl rfl rfl rfl rfl rfl rfl (r_ofIt (by omega) (by omega)) ?_
  rw [hD]
  refine w_ldR rfl rfl rfl ?_
  refine w_ldI rfl rfl ?_
  refine w_callV rfl rfl rfl rfl rfl rfl rfl (r_shinesOf (by rw [hD]; exact hM) hw) ?_
  rw [hD]
  refine w_ast rfl rfl rfl (by omega) rfl ?_
  refine w_push rfl ?_
  refine w_StI_3_2 rfl rfl ?_
  refine l_shine1 (L := mup (fun _ => 0) (cwF D w).toNat (shn D w)) 4 0 (by rw [us_ne (by decide)]; exact hD) hM hC (fun i hi => ?_) (LOk_up (fun c _ => ⟨Int.le_refl _, by decide⟩) (by omega)) hw (by omega) (fun s1 hf1 hs => ⟨hf.tr ((Fr.us rfl).tr hf1), fun i hi => ?_⟩)
  · rw [us_eq]
    unfold mup cwF
    split
    · rfl
    · exact hl i hi
  · rw [← wy_li hM hw]; exact hs i hi
theorem c_shine {d : Nat} {s : mSt} {w : Int} {D : Nat → Int} (hD : s 147 = D) (hM : MOk D) (hC : COk D) (hw : 0 ≤ w ∧ w < 6) : CV (d + 4) 203 [.inr (.inr 146), .inl w] (s) (fun s1 => Fr [151, 153, 154] s s1 ∧ ∀ i, i < 36 → s1 154 i = liW D w i) := by
  refine CV.mk rfl ?_
  show WP (d + 4) 203 0 [some (.inr (.inr 146)), some (.inl w), none] [] (encA (s)) _
  refine w_push rfl ?_
  refine w_StI_3_2 rfl rfl ?_
  exact l_shine0 0 0 rfl (by omega) (fun q hq => by omega) (fun s1 hf hs => c_shine2 (Fr.mono rfl hf) ((hf.at 147 rfl).trans hD) hM hC hs hw)
def wtF (D : Nat → Int) (p : Int) : Int := gv D 1 (D (69 + 4 * p + 1).toNat) (D (69 + 4 * p + 2).toNat) (D (69 + 4 * p + 3).toNat) (D 38)
/-- by bits: who of the first n is met by the light L -/
def mtF (D L : Nat → Int) : Nat → Int
  | 0 => 0
  | n + 1 => mtF D L n + (if wtF D n ≤ L (D (69 + 4 * (n : Int) + 0).toNat).toNat then 2 ^ n else 0)
def mtW (D : Nat → Int) (w : Int) : Int := mtF D (liW D w) (D 40).toNat
theorem mtF_rng (D L : Nat → Int) : ∀ n : Nat, 0 ≤ mtF D L n ∧ mtF D L n < 2 ^ n
  | 0 => by unfold mtF; omega
  | n + 1 => by
    have ih := mtF_rng D L n
    have h2 : (2 : Int) ^ (n + 1) = 2 * 2 ^ n := by rw [Int.pow_succ]; omega
    unfold mtF
    split <;> omega
theorem or_bit : ∀ n : Fin 10, ∀ a : Fin 1024, a.val < 2 ^ n.val → m_or (a.val : Int) (m_shl 1 (n.val : Int)) = (a.val : Int) + 2 ^ n.val := by decide +kernel
theorem or_no : ∀ a : Fin 1024, m_or (a.val : Int) 0 = (a.val : Int) := by decide +kernel
theorem m_or_bit {a : Int} {n : Nat} (hn : n < 10) (ha : 0 ≤ a ∧ a < 2 ^ n) : m_or a (m_shl 1 n) = a + 2 ^ n := by
  obtain ⟨b, rfl⟩ : ∃ b : Nat, a = (b : Int) := ⟨a.toNat, by omega⟩
  have h1 : b < 2 ^ n := by have := ha.2; rw [show (2 : Int) ^ n = ((2 ^ n : Nat) : Int) by norm_cast] at this; omega
  have h2 : (2 : Nat) ^ n ≤ 2 ^ 10 := Nat.pow_le_pow_right (by decide) (by omega)
  have := or_bit ⟨n, hn⟩ ⟨b, by omega⟩ h1
  simpa using this
theorem m_or_no {a : Int} (ha : 0 ≤ a ∧ a < 1024) : m_or a 0 = a := by
  obtain ⟨b, rfl⟩ : ∃ b : Nat, a = (b : Int) := ⟨a.toNat, by omega⟩
  have := or_no ⟨b, by omega⟩
  simpa using this
theorem mtF_1024 {D L : Nat → Int} {n : Nat} (hn : n ≤ 10) : 0 ≤ mtF D L n ∧ mtF D L n < 1024 := by
  have h := mtF_rng D L n
  have h2 : (2 : Nat) ^ n ≤ 2 ^ 10 := Nat.pow_le_pow_right (by decide) (by omega)
  have h3 : (2 : Int) ^ n = ((2 ^ n : Nat) : Int) := by norm_cast
  omega
theorem c_wantsOf {d : Nat} {s : mSt} {D : Nat → Int} {p : Int} (hp : 0 ≤ p ∧ p < 10) (hD : s 147 = D) (hC : COk D) : CI (d + 3) 204 [.inr (.inr 146), .inl p] s (fun v s1 => v = wtF D p ∧ Fr [151, 153] s s1) := by
  subst hD
  refine ⟨_, _, r_wantsOf hp hC, ?_, ?_⟩
  · rw [gvV_gv (by omega) hC]; rfl
  · unfold gvS
    split
    · exact (Fr.ua rfl).tr (Fr.ua rfl)
    · exact Fr.rf
theorem l_metNow {d : Nat} {s : mSt} {P : Int → mSt → Prop} {D L : Nat → Int} (k : Nat) (i m : Int) (hi : i = (k : Int)) (hm : m = mtF D L k) (hD : s 147 = D) (hM : MOk D) (hC : COk D) (hl : ∀ i, i < 36 → s 154 i = L i) (hL : LOk L) (hk : (k : Int) ≤ D 40) (hP : ∀ s1, Fr [151, 153] s s1 → P (mtF D L (D 40).toNat) s1) : WP (d + 4) 205 4 [some (.inr (.inr 146)), some (.inl m), some (.inl i)] [] (encA (s)) (QI P) := by
  subst hi
  subst hm
  have hM40 := hM.2.1
  have hmr := mtF_rng D L k
  have hwr : 1 ≤ wtF D k ∧ wtF D k ≤ 99 := gv_rng _ _ _ _ _ _
  refine w_ldI rfl rfl ?_
  refine w_ldR rfl rfl rfl ?_
  first | refine w_getI rfl rfl rfl rfl rfl ?_ | refine w_getR rfl rfl rfl rfl rfl ?_
  try simp only [hD]
  refine w_push rfl ?_
  refine w_aldk 40 rfl rfl rfl rfl rfl rfl ?_
  rw [hD]
  refine w_crGe rfl (by omega) (by omega) (fun b9 => ?_) (fun b9 => ?_)
  · first
    | (exfalso; omega)
    | (refine w_ldI rfl rfl ?_
       refine w_retI rfl ?_
       have e : mtF D L k = mtF D L (D 40).toNat := by rw [show k = (D 40).toNat by omega]
       rw [e]
       exact hP s Fr.rf)
  · first
    | (exfalso; omega)
    | (have hp := MOk_p hM (p := (k : Int)) (by omega)
       have hl1 := hL (D (69 + 4 * (k : Int) + 0).toNat).toNat (by omega)
       have hm1 := @mtF_1024 D L k (by omega)
       refine w_ldI rfl rfl ?_
       refine w_ldR rfl rfl rfl ?_
       first | refine w_getI rfl rfl rfl rfl rfl ?_ | refine w_getR rfl rfl rfl rfl rfl ?_
       try simp only [hD]
       refine w_ldR rfl rfl rfl ?_
       refine w_ldI rfl rfl ?_
       refine w_push rfl ?_
       refine w_callV rfl rfl rfl rfl rfl rfl rfl (r_ofOne (by omega) (by omega)) ?_
       try simp only [hD]
       refine w_ald rfl rfl rfl (by omega) rfl ?_
       rw [hl _ (by omega)]
       refine w_ldR rfl rfl rfl ?_
       refine w_ldI rfl rfl ?_
       refine w_callWI rfl rfl rfl rfl rfl rfl rfl (c_wantsOf (by omega) hD hC) (fun v20 s20 p20 => ?_)
       obtain ⟨rfl, f20⟩ := p20
       refine w_crLt rfl (by omega) (by omega) (fun b21 => ?_) (fun b21 => ?_)
       · first
         | (exfalso; omega)
         | (refine w_push rfl ?_
            refine w_bin rfl ?_
            refine w_StI_3_1 rfl rfl ?_
            refine w_inc_3_2 rfl rfl ?_
            refine w_go rfl ?_
            exact l_metNow (k + 1) ((k : Int) + 1) _ (by omega) (by first | (rw [m_or_bit (by omega) hmr, mtF, if_pos (by omega)]) | (rw [m_or_no hm1, mtF, if_neg (by omega)]; omega)) ((f20.at 147 rfl).trans hD) hM hC (fun i hi => by rw [f20.at 154 rfl]; exact hl i hi) hL (by omega) (fun s1 hf => hP s1 (f20.tr hf)))
       · first
         | (exfalso; omega)
         | (refine w_push rfl ?_
            refine w_ldI rfl rfl ?_
            refine w_bin rfl ?_
            refine w_go rfl ?_
            refine w_bin rfl ?_
            refine w_StI_3_1 rfl rfl ?_
            refine w_inc_3_2 rfl rfl ?_
            refine w_go rfl ?_
            exact l_metNow (k + 1) ((k : Int) + 1) _ (by omega) (by first | (rw [m_or_bit (by omega) hmr, mtF, if_pos (by omega)]) | (rw [m_or_no hm1, mtF, if_neg (by omega)]; omega)) ((f20.at 147 rfl).trans hD) hM hC (fun i hi => by rw [f20.at 154 rfl]; exact hl i hi) hL (by omega) (fun s1 hf => hP s1 (f20.tr hf))))
termination_by ((D 40).toNat - k)
decreasing_by all_goals omega
theorem c_metNow {d : Nat} {s : mSt} {D L : Nat → Int} (hD : s 147 = D) (hM : MOk D) (hC : COk D) (hl : ∀ i, i < 36 → s 154 i = L i) (hL : LOk L) : CI (d + 4) 205 [.inr (.inr 146)] (s) (fun v s1 => v = mtF D L (D 40).toNat ∧ Fr [151, 153] s s1) := by
  refine CI.mk rfl ?_
  show WP (d + 4) 205 0 [some (.inr (.inr 146)), none, none] [] (encA (s)) _
  have hM40 := hM.2.1
  refine w_push rfl ?_
  refine w_StI_3_1 rfl rfl ?_
  refine w_push rfl ?_
  refine w_StI_3_2 rfl rfl ?_
  exact l_metNow 0 0 0 rfl rfl hD hM hC hl hL (by omega) (fun s1 hf => ⟨rfl, hf⟩)
theorem c_metBy {d : Nat} {s : mSt} {w : Int} {D : Nat → Int} (hD : s 147 = D) (hM : MOk D) (hC : COk D) (hw : 0 ≤ w ∧ w < 6) : CI (d + 5) 206 [.inr (.inr 146), .inl w] (s) (fun v s1 => v = mtW D w ∧ Fr [151, 153, 154] s s1) := by
  refine CI.mk rfl ?_
  show WP (d + 5) 206 0 [some (.inr (.inr 146)), some (.inl w)] [] (encA (s)) _
  refine w_ldR rfl rfl rfl ?_
  refine w_ldI rfl rfl ?_
  refine w_callWN rfl rfl rfl rfl rfl rfl rfl (c_shine hD hM hC hw) (fun s2 p2 => ?_)
  refine w_ldR rfl rfl rfl ?_
  refine w_callWI rfl rfl rfl rfl rfl rfl rfl (c_metNow ((p2.1.at 147 rfl).trans hD) hM hC p2.2 (liW_L hM hw)) (fun v4 s4 p4 => ?_)
  refine w_retI rfl ?_
  exact ⟨p4.1, p2.1.tr (Fr.mono rfl p4.2)⟩
