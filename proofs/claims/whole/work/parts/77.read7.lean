/-! ===== the text: both calls, the step ===== -/
def cpF (C : List Int) (b : Int) (E : Nat → Int) : Nat → (Nat → Int)
  | 0 => E
  | k + 1 => mup (cpF C b E k) (b + (k : Int)).toNat (C.getD k 0)
theorem cpF_ne {C : List Int} {b : Int} {E : Nat → Int} {j : Nat} : ∀ k : Nat, (∀ i : Nat, i < k → ¬ j = (b + (i : Int)).toNat) → cpF C b E k j = E j
  | 0, _ => rfl
  | k + 1, h => by
    unfold cpF
    rw [mup_ne (h k (by omega))]
    exact cpF_ne k (fun i hi => h i (by omega))
theorem cpF_at {C : List Int} {b : Int} {E : Nat → Int} (hb : 0 ≤ b) {i : Nat} : ∀ k : Nat, i < k → cpF C b E k (b + (i : Int)).toNat = C.getD i 0
  | 0, h => absurd h (Nat.not_lt_zero i)
  | k + 1, h => by
    unfold cpF
    by_cases e : i = k
    · rw [e, mup_eq]
    · rw [mup_ne (by omega)]
      exact cpF_at hb k (by omega)
/-- the reference's numbers behind a text -/
def txF (D : Nat → Int) (u : Int) (t : Pst) : Nat → Int := if t.2.1 < 0 then cpF t.2.2.2 (143 + 50 * u) (mup (mup D 43 0) (121 + u).toNat (t.2.2.2.length : Int)) t.2.2.2.length else mup D 43 0
theorem tx_ne {D : Nat → Int} {u : Int} {t : Pst} (hu : 0 ≤ u ∧ u ≤ 1) (hl : t.2.2.2.length ≤ 50) {j : Nat} (h1 : ¬ j = 43) (h2 : ¬ j = (121 + u).toNat) (h3 : ¬ ((143 + 50 * u).toNat ≤ j ∧ j < (193 + 50 * u).toNat)) : txF D u t j = D j := by
  unfold txF
  by_cases z : t.2.1 < 0
  · rw [if_pos z, cpF_ne _ (fun i hi => by omega), mup_ne h2, mup_ne h1]
  · rw [if_neg z, mup_ne h1]
theorem tx_43 {D : Nat → Int} {u : Int} {t : Pst} (hu : 0 ≤ u ∧ u ≤ 1) (hl : t.2.2.2.length ≤ 50) : txF D u t 43 = 0 := by
  unfold txF
  by_cases z : t.2.1 < 0
  · rw [if_pos z, cpF_ne _ (fun i hi => by omega), mup_ne (by omega), mup_eq]
  · rw [if_neg z, mup_eq]
theorem tx_len {D : Nat → Int} {u : Int} {t : Pst} (hu : 0 ≤ u ∧ u ≤ 1) (hl : t.2.2.2.length ≤ 50) (z : t.2.1 < 0) : txF D u t (121 + u).toNat = (t.2.2.2.length : Int) := by
  unfold txF
  rw [if_pos z, cpF_ne _ (fun i hi => by omega), mup_eq]
theorem tx_at {D : Nat → Int} {u : Int} {t : Pst} (hu : 0 ≤ u ∧ u ≤ 1) (z : t.2.1 < 0) {i : Nat} (hi : i < t.2.2.2.length) : txF D u t (143 + 50 * u + (i : Int)).toNat = t.2.2.2.getD i 0 := by
  unfold txF
  rw [if_pos z]
  exact cpF_at (by omega) _ hi
theorem tx_same {D : Nat → Int} {u : Int} {t : Pst} (hu : 0 ≤ u ∧ u ≤ 1) (z : ¬ t.2.1 < 0) {j : Nat} (h1 : ¬ j = 43) : txF D u t j = D j := by
  unfold txF
  rw [if_neg z, mup_ne h1]
theorem hgt_cg2 {d d1 : Nat → Int} {b : Int} : ∀ k : Nat, (∀ i : Nat, i < k → d1 (b + (i : Int)).toNat = d (b + (i : Int)).toNat) → hgt d1 b k = hgt d b k
  | 0, _ => rfl
  | k + 1, h => by
    unfold hgt
    rw [hgt_cg2 k (fun i hi => h i (by omega)), h k (by omega)]
theorem CodeOk_cg2 {d d1 : Nat → Int} {b n : Int} (h : ∀ i : Nat, i < 50 → d1 (b + (i : Int)).toNat = d (b + (i : Int)).toNat) (hC : CodeOk d b n) : CodeOk d1 b n := by
  obtain ⟨hn, hC⟩ := hC
  refine ⟨hn, fun k hk => ?_⟩
  rw [hgt_cg2 k (fun i hi => h i (by omega)), h k (by omega)]
  exact hC k hk
theorem tx_MOk {D : Nat → Int} {u : Int} {t : Pst} (hM : MOk D) (hu : 0 ≤ u ∧ u ≤ 1) (hl : t.2.2.2.length ≤ 50) : MOk (txF D u t) := by
  have e : ∀ j, j < 121 ∨ 243 ≤ j → ¬ j = 43 → txF D u t j = D j := fun j h1 h2 => tx_ne hu hl h2 (by omega) (by omega)
  obtain ⟨hM39, hM40, hM41, hM43, hM44, hM36, hM37, hM38, hMc, hMw, hMp, hMt, hMb⟩ := hM
  refine ⟨?_, ?_, ?_, ?_, ?_, ?_, ?_, ?_, fun c hc => ?_, fun w hw => ?_, fun p hp => ?_, fun i hi => ?_, fun i hi => ?_⟩
  · rw [e 39 (by omega) (by omega)]; exact hM39
  · rw [e 40 (by omega) (by omega)]; exact hM40
  · rw [e 41 (by omega) (by omega)]; exact hM41
  · rw [tx_43 hu hl]; omega
  · rw [e 44 (by omega) (by omega)]; exact hM44
  · rw [e 36 (by omega) (by omega)]; exact hM36
  · rw [e 37 (by omega) (by omega)]; exact hM37
  · rw [e 38 (by omega) (by omega)]; exact hM38
  · rw [e c (by omega) (by omega)]; exact hMc c hc
  · rw [e _ (by omega) (by omega), e _ (by omega) (by omega), e _ (by omega) (by omega), e _ (by omega) (by omega)]; exact hMw w hw
  · rw [e _ (by omega) (by omega), e _ (by omega) (by omega), e _ (by omega) (by omega), e _ (by omega) (by omega)]; exact hMp p hp
  · rw [e _ (by omega) (by omega)]; exact hMt i hi
  · rw [e _ (by omega) (by omega)]; exact hMb i hi
theorem tx_COk {D : Nat → Int} {u : Int} {t : Pst} (hC : COk D) (hu : 0 ≤ u ∧ u ≤ 1) (hl : t.2.2.2.length ≤ 50) (hw : t.2.1 < 0 → Wfc t.2.2.2) : COk (txF D u t) := by
  have own : CodeOk D (143 + 50 * u) (D (121 + u).toNat) → CodeOk (txF D u t) (143 + 50 * u) (txF D u t (121 + u).toNat) := fun h => by
    by_cases z : t.2.1 < 0
    · rw [tx_len hu hl z]
      exact codeOk_of (fun i hi => tx_at hu z hi) (hw z) hl
    · rw [tx_same hu z (by omega)]
      exact CodeOk_cg2 (fun i hi => tx_same hu z (by omega)) h
  have oth : ∀ v : Int, 0 ≤ v ∧ v ≤ 1 → ¬ v = u → CodeOk D (143 + 50 * v) (D (121 + v).toNat) → CodeOk (txF D u t) (143 + 50 * v) (txF D u t (121 + v).toNat) := fun v hv hne h => by
    rw [tx_ne hu hl (by omega) (by omega) (by omega)]
    exact CodeOk_cg2 (fun i hi => tx_ne hu hl (by omega) (by omega) (by omega)) h
  obtain ⟨h0, h1⟩ := hC
  by_cases e : u = 0
  · subst e
    exact ⟨own h0, oth 1 (by omega) (by omega) h1⟩
  · obtain rfl : u = 1 := by omega
    exact ⟨oth 0 (by omega) (by omega) h0, own h1⟩
theorem l_mtx {d : Nat} {s : mSt} {P : Int → mSt → Prop} {E : Nat → Int} {u n : Int} (hu : 0 ≤ u ∧ u ≤ 1) {C : List Int} (hl : C.length ≤ 50) (h13 : s 146 13 = (C.length : Int)) (hc : ∀ i : Nat, i < C.length → s 152 i = C.getD i 0) (k : Nat) (i : Int) (hi : i = (k : Int)) (hk : k ≤ C.length) (hD : s 147 = cpF C (143 + 50 * u) E k) (hP : ∀ s1, Fr [147] s s1 → s1 147 = cpF C (143 + 50 * u) E C.length → P 1 s1) : WP (d + 60) 192 43 [some (.inr (.inr 146)), some (.inl u), some (.inl n), some (.inl i)] [] (encA (s)) (QI P) := by
  subst hi
  refine w_ldI rfl rfl ?_
  refine w_ldR rfl rfl rfl ?_
  first | refine w_getI rfl rfl rfl rfl rfl ?_ | refine w_getR rfl rfl rfl rfl rfl ?_
  rw [h13]
  refine w_crGe rfl (by omega) (by omega) (fun b46 => ?_) (fun b46 => ?_)
  · first
    | (exfalso; omega)
    | (refine w_push rfl ?_
       refine w_retI rfl ?_
       obtain rfl : k = C.length := by omega
       exact hP s Fr.rf hD)
  · first
    | (exfalso; omega)
    | (refine w_ldR rfl rfl rfl ?_
       first | refine w_getI rfl rfl rfl rfl rfl ?_ | refine w_getR rfl rfl rfl rfl rfl ?_
       refine w_push rfl ?_
       refine w_push rfl ?_
       refine w_ldI rfl rfl ?_
       refine w_mul rfl ?_
       refine w_add rfl ?_
       refine w_ldI rfl rfl ?_
       refine w_add rfl ?_
       refine w_ldR rfl rfl rfl ?_
       first | refine w_getI rfl rfl rfl rfl rfl ?_ | refine w_getR rfl rfl rfl rfl rfl ?_
       refine w_ldI rfl rfl ?_
       refine w_ald rfl rfl rfl (by omega) rfl ?_
       rw [Int.toNat_natCast, hc k (by omega)]
       refine w_ast rfl rfl rfl (by omega) rfl ?_
       refine w_inc_4_3 rfl rfl ?_
       refine w_go rfl ?_
       refine l_mtx hu hl (by rw [us_ne (by decide)]; exact h13) (fun i hi => by rw [us_ne (by decide)]; exact hc i hi) (k + 1) ((k : Int) + 1) (by omega) (by omega) ?_ (fun s1 f e => hP s1 (Fr.tr (Fr.us rfl) f) e)
       rw [us_eq, hD]
       rfl)
termination_by C.length - k
decreasing_by all_goals omega
theorem m_text_y {d : Nat} {s : mSt} {D : Nat → Int} (hD : s 147 = D) (hM : MOk D) (hC : COk D) {u : Int} (hru : -2147483648 ≤ u ∧ u < 2147483648) {T : Nat → Int} (h3 : s 146 3 = T 60) (h21 : s 146 21 = T 61) (hT : ∀ i : Nat, (i : Int) < D 43 → D (243 + i) = T i) (hu : 0 ≤ u ∧ u ≤ 1) : CI (d + 60) 192 [.inr (.inr 146), .inl u] (s) (fun r s1 => ∃ t : Pst, Rd T (D 43) u t ∧ r = (if t.2.1 < 0 then 1 else -10 - t.2.1) ∧ t.2.2.2.length ≤ 50 ∧ s1 147 = txF D u t ∧ (s1 146 3 = T 60 ∧ s1 146 21 = T 61) ∧ Fr [146, 147, 152] s s1) := by
  refine CI.mk rfl ?_
  show WP (d + 60) 192 0 [some (.inr (.inr 146)), some (.inl u), none, none] [] (encA (s)) _
  have hM0 := hM
  obtain ⟨hM39, hM40, hM41, hM43, hM44, hM36, hM37, hM38, hMc, hMw, hMp, hMt, hMb⟩ := hM
  have hTr : ∀ i : Nat, (i : Int) < D 43 → 0 ≤ T i ∧ T i ≤ 255 := fun i hi => by rw [← hT i hi]; exact hMb i (by omega)
  refine w_ldI rfl rfl ?_
  refine w_i2lr rfl (by omega) ?_
  refine w_push rfl ?_
  refine w_push rfl ?_
  refine w_call rfl rfl rfl (r_in (by omega) (by omega) (by omega)) ?_
  try simp only [hD]
  refine w_bNe0 rfl (fun b5 => ?_) (fun b5 => ?_)
  · first
    | (exfalso; omega)
    | (refine w_ldR rfl rfl rfl ?_
       first | refine w_getI rfl rfl rfl rfl rfl ?_ | refine w_getR rfl rfl rfl rfl rfl ?_
       try simp only [hD]
       refine w_push rfl ?_
       refine w_aldk 43 rfl rfl rfl rfl rfl rfl ?_
       try simp only [hD]
       refine w_StI_4_2 rfl rfl ?_
       refine w_ldR rfl rfl rfl ?_
       first | refine w_getI rfl rfl rfl rfl rfl ?_ | refine w_getR rfl rfl rfl rfl rfl ?_
       try simp only [hD]
       refine w_push rfl ?_
       refine w_push rfl ?_
       refine w_astk 43 rfl rfl rfl rfl rfl rfl ?_
       refine w_ldR rfl rfl rfl ?_
       refine w_push rfl ?_
       refine w_ldI rfl rfl ?_
       refine w_ldI rfl rfl ?_
       refine w_callWN rfl rfl rfl rfl rfl rfl rfl (p_reads (T := T) (n := D 43) (by omega) hu (by rw [us_ne (by decide)]; exact h3) (by rw [us_ne (by decide)]; exact h21) (fun i hi => by rw [us_eq, hD, mup_ne (by omega)]; exact hT i hi) hTr (by omega)) (fun s24 p24 => ?_)
       obtain ⟨t, hRd, gP, gO, gd, gF⟩ := p24
       obtain ⟨⟨e5, e3, e21⟩, e6, e7, e8, e9, e10, e13, eC, eT⟩ := id gP
       obtain ⟨o1, o2, o3, o4, o5, o6⟩ := gO
       have hl : t.2.2.2.length ≤ 50 := by omega
       have fS := Fr.tr (Fr.us (A := [146, 147, 152]) (s := s) (a := 147) (i := 43) (v := 0) rfl) (Fr.mono rfl gF)
       refine w_ldR rfl rfl rfl ?_
       first | refine w_getI rfl rfl rfl rfl rfl ?_ | refine w_getR rfl rfl rfl rfl rfl ?_
       try simp only [hD]
       rw [e8]
       refine w_irLt0 rfl (by omega) (fun b27 => ?_) (fun b27 => ?_)
       · first
         | (exfalso; omega)
         | (refine w_ldR rfl rfl rfl ?_
            first | refine w_getI rfl rfl rfl rfl rfl ?_ | refine w_getR rfl rfl rfl rfl rfl ?_
            try simp only [hD]
            refine w_push rfl ?_
            refine w_ldI rfl rfl ?_
            refine w_add rfl ?_
            refine w_ldR rfl rfl rfl ?_
            first | refine w_getI rfl rfl rfl rfl rfl ?_ | refine w_getR rfl rfl rfl rfl rfl ?_
            try simp only [hD]
            rw [e13]
            refine w_ast rfl rfl rfl (by omega) rfl ?_
            refine w_push rfl ?_
            refine w_StI_4_3 rfl rfl ?_
            refine l_mtx (C := t.2.2.2) (E := mup (mup D 43 0) (121 + u).toNat (t.2.2.2.length : Int)) hu hl (by rw [us_ne (by decide)]; exact e13) (fun i hi => by rw [us_ne (by decide)]; exact eC i hi) 0 0 rfl (by omega) ?_ (fun s1 f e => ⟨t, hRd, ?_, hl, ?_, ?_, ?_⟩)
            · rw [us_eq, gF.at 147 rfl, us_eq, hD]
              rfl
            · rw [if_pos (by omega)]
            · rw [e]
              unfold txF
              rw [if_pos (by omega)]
            · rw [f.at 146 rfl, us_ne (by decide)]
              exact ⟨e3, e21⟩
            · exact Fr.tr fS (Fr.tr (Fr.us rfl) (Fr.mono rfl f)))
       · first
         | (exfalso; omega)
         | (refine w_push rfl ?_
            refine w_ldR rfl rfl rfl ?_
            first | refine w_getI rfl rfl rfl rfl rfl ?_ | refine w_getR rfl rfl rfl rfl rfl ?_
            try simp only [hD]
            rw [e8]
            refine w_sub rfl ?_
            refine w_retI rfl ?_
            refine ⟨t, hRd, ?_, hl, ?_, ⟨e3, e21⟩, fS⟩
            · rw [if_neg (by omega)]
            · rw [gF.at 147 rfl, us_eq, hD]
              unfold txF
              rw [if_neg (by omega)]))
  · first
    | (exfalso; omega)
    | (refine w_ldR rfl rfl rfl ?_
       refine w_push rfl ?_
       refine w_callV rfl rfl rfl rfl rfl rfl rfl r_finds1 ?_
       try simp only [hD]
       refine w_retI rfl ?_
       exact ⟨rfl, rfl⟩)
theorem m_text_n {d : Nat} {s : mSt} {D : Nat → Int} (hD : s 147 = D) (hM : MOk D) (hC : COk D) {u : Int} (hru : -2147483648 ≤ u ∧ u < 2147483648) (hy : ¬ (0 ≤ u ∧ u ≤ 1)) : CI (d + 1) 192 [.inr (.inr 146), .inl u] (s) (fun r s1 => r = -1000000000 - 1 ∧ s1 = us s 150 1 (s 150 1 + 1)) := by
  refine CI.mk rfl ?_
  show WP (d + 1) 192 0 [some (.inr (.inr 146)), some (.inl u), none, none] [] (encA (s)) _
  have hM0 := hM
  obtain ⟨hM39, hM40, hM41, hM43, hM44, hM36, hM37, hM38, hMc, hMw, hMp, hMt, hMb⟩ := hM
  refine w_ldI rfl rfl ?_
  refine w_i2lr rfl (by omega) ?_
  refine w_push rfl ?_
  refine w_push rfl ?_
  refine w_call rfl rfl rfl (r_in (by omega) (by omega) (by omega)) ?_
  try simp only [hD]
  refine w_bNe0 rfl (fun b5 => ?_) (fun b5 => ?_)
  · first
    | (exfalso; omega)
    | (exfalso; omega)
  · first
    | (exfalso; omega)
    | (refine w_ldR rfl rfl rfl ?_
       refine w_push rfl ?_
       refine w_callV rfl rfl rfl rfl rfl rfl rfl r_finds1 ?_
       try simp only [hD]
       refine w_retI rfl ?_
       exact ⟨rfl, rfl⟩)
theorem kfi_rng {T : Nat → Int} {n u : Int} {r : Int × List Int} (hk : Kfi T n u (true, 0, [], [], 0, 0, 0) r) (h50 : 0 ≤ n ∧ n ≤ 50) (hR : ∀ i : Nat, (i : Int) < n → 0 ≤ T i ∧ T i ≤ 255) : -1 ≤ r.1 ∧ r.1 ≤ 50 := by
  obtain ⟨m, e⟩ := hk
  have h : ∀ (m : Nat) (k : Kst), KI T n k → krun T n u m k = some r → -1 ≤ r.1 ∧ r.1 ≤ 50 := fun m => by
    induction m with
    | zero => intro k _ e; cases e
    | succ m ih =>
      intro k hi e
      obtain ⟨due, p, dr, pe, op, dp, cm⟩ := k
      cases es : kstep T n u (due, p, dr, pe, op, dp, cm) with
      | inl k' => exact ih k' (hi.step hR es) (kr_l es e)
      | inr r' =>
        have e1 := kr_r es e
        subst e1
        have hp := hi.1
        by_cases hpn : p < n
        · cases due with
          | true =>
            by_cases c1 : 0 < dkK T n p ∨ 0 ≤ nmF u (T p.toNat)
            · rw [ks_opd hpn c1] at es; cases es
            · by_cases c2 : (T p.toNat = 33 ∨ T p.toNat = 40) ∧ op < 5
              · rw [ks_open hpn c1 c2] at es; cases es
              · rw [ks_bad hpn c1 c2] at es; obtain rfl := Sum.inr.inj es; exact ⟨by show -1 ≤ p; omega, by show p ≤ 50; omega⟩
          | false =>
            by_cases c1 : T p.toNat = 41 ∧ ¬ dp = 0
            · rw [ks_close hpn c1] at es; cases es
            · by_cases c2 : rk (T p.toNat) = 0 ∨ (rk (T p.toNat) = 3 ∧ ¬ m_and cm (m_shl 1 dp) = 0)
              · rw [ks_rej hpn c1 c2] at es; obtain rfl := Sum.inr.inj es; exact ⟨by show -1 ≤ p; omega, by show p ≤ 50; omega⟩
              · rw [ks_join hpn c1 c2] at es; cases es
        · by_cases c1 : due = true ∨ 0 < dp
          · rw [ks_end hpn c1] at es; obtain rfl := Sum.inr.inj es; exact ⟨by show -1 ≤ p; omega, by show p ≤ 50; omega⟩
          · cases due with
            | true => exact absurd (Or.inl rfl) c1
            | false => rw [ks_done hpn (fun z => c1 (Or.inr z))] at es; obtain rfl := Sum.inr.inj es; exact ⟨by show (-1 : Int) ≤ -1; omega, by show (-1 : Int) ≤ 50; omega⟩
  exact h m _ ⟨⟨Int.le_refl _, h50.1⟩, by show (0 : Int) + 0 ≤ 0; omega, by show -2 * (0 : Int) + 0 ≤ 0 ∧ (0 : Int) ≤ 5; omega, ⟨Int.le_refl _, Int.le_refl _⟩, fun c hc => absurd hc List.not_mem_nil⟩ e
theorem x_text_0 {d : Nat} {s : mSt} (hI : IvD s)  {T : Nat → Int} {r : Int × List Int} (hT : ∀ i : Nat, (i : Int) < s 147 43 → s 147 (243 + i) = T i) (hk : Kfi T (s 147 43) 0 (true, 0, [], [], 0, 0, 0) r) : CI (d + 7) 116 [.inr (.inr 10), .inl 0] (s) (fun v s1 => v = (if r.1 < 0 then 1 else -10 - r.1) ∧ s1 24 1 = 0 ∧ s1 35 0 = 0 ∧ (r.1 < 0 → s1 36 1 = (r.2.length : Int) ∧ ∀ i : Nat, i < r.2.length → s1 37 i = r.2.getD i 0) ∧ (0 ≤ r.1 → s1 36 = s 36 ∧ s1 37 = s 37) ∧ Fr [24, 35, 36, 37, 39, 40, 41, 42] s s1) := by
  refine CI.mk rfl ?_
  show WP (d + 7) 116 0 [some (.inr (.inr 10)), some (.inl 0), none] [] (encA (s)) _
  have hI0 := hI
  obtain ⟨⟨hM, hC, hN⟩, hV, h8⟩ := hI
  have hV0 := hV
  have hM0 := hM
  obtain ⟨vc, vpl, vga, vse, vne, veg, vre, vtu, vta, vwa, v36, v37, v39, v40, v42, v41, v43, v44, vl0, vl1, vlm⟩ := hV
  obtain ⟨hM39, hM40, hM41, hM43, hM44, hM36, hM37, hM38, hMc, hMw, hMp, hMt, hMb⟩ := hM
  have hTr : ∀ i : Nat, (i : Int) < s 147 43 → 0 ≤ T i ∧ T i ≤ 255 := fun i hi => by rw [← hT i hi]; exact hMb i (by omega)
  have hr32 : -1 ≤ r.1 ∧ r.1 ≤ 50 := kfi_rng hk (by omega) hTr
  refine w_ldI rfl rfl ?_
  refine w_call rfl rfl rfl (k_isUse (by omega)) ?_
  refine w_bNe0 rfl (fun b2 => ?_) (fun b2 => ?_)
  · first
    | (exfalso; omega)
    | (refine w_ldR rfl rfl rfl ?_
       first | refine w_getI rfl rfl rfl rfl rfl ?_ | refine w_getR rfl rfl rfl rfl rfl ?_
       first | refine w_getI rfl rfl rfl rfl rfl ?_ | refine w_getR rfl rfl rfl rfl rfl ?_
       refine w_ldI rfl rfl ?_
       refine w_rld rfl rfl rfl (by omega) rfl ?_
       show WP _ _ _ _ (.inr (.inr 35) :: _) _ _
       refine w_ldR rfl rfl rfl ?_
       first | refine w_getI rfl rfl rfl rfl rfl ?_ | refine w_getR rfl rfl rfl rfl rfl ?_
       first | refine w_getI rfl rfl rfl rfl rfl ?_ | refine w_getR rfl rfl rfl rfl rfl ?_
       refine w_callWI rfl rfl rfl rfl rfl rfl rfl (k_read35 v43 (by omega) (fun i hi => (vta (i : Int) (by omega) hi).trans ((congrArg (s 147) (show (243 + (i : Int)).toNat = 243 + i by omega)).trans (hT i hi))) hTr vl0.1 hk) (fun v15 s15 p15 => ?_)
       obtain ⟨rfl, gF, g0, g1, g2⟩ := p15
       refine w_StI_3_2 rfl rfl ?_
       refine w_ldR rfl rfl rfl ?_
       first | refine w_getI rfl rfl rfl rfl rfl ?_ | refine w_getR rfl rfl rfl rfl rfl ?_
       first | refine w_getI rfl rfl rfl rfl rfl ?_ | refine w_getR rfl rfl rfl rfl rfl ?_
       refine w_callWN rfl rfl rfl rfl rfl rfl rfl k_empty24 (fun s20 p20 => ?_)
       subst p20
       refine w_ldI rfl rfl ?_
       refine w_irGe0 rfl (by omega) (fun b22 => ?_) (fun b22 => ?_)
       · first
         | (exfalso; omega)
         | (refine w_push rfl ?_
            refine w_ldI rfl rfl ?_
            refine w_sub rfl ?_
            refine w_retI rfl ?_
            refine ⟨?_, by rw [us_eq, mup_eq], by rw [us_ne (by decide)]; exact g0, fun z => ?_, fun z => ?_, Fr.tr (Fr.mono rfl gF) (Fr.us rfl)⟩
            · first
              | rw [if_pos (by omega)]
              | rw [if_neg (by omega)]
            · rw [us_ne (by decide), us_ne (by decide)]
              exact g1 z
            · rw [us_ne (by decide), us_ne (by decide)]
              exact g2 z)
       · first
         | (exfalso; omega)
         | (refine w_push rfl ?_
            refine w_go rfl ?_
            refine w_retI rfl ?_
            refine ⟨?_, by rw [us_eq, mup_eq], by rw [us_ne (by decide)]; exact g0, fun z => ?_, fun z => ?_, Fr.tr (Fr.mono rfl gF) (Fr.us rfl)⟩
            · first
              | rw [if_pos (by omega)]
              | rw [if_neg (by omega)]
            · rw [us_ne (by decide), us_ne (by decide)]
              exact g1 z
            · rw [us_ne (by decide), us_ne (by decide)]
              exact g2 z))
  · exact absurd (by omega) b2
theorem x_text_1 {d : Nat} {s : mSt} (hI : IvD s)  {T : Nat → Int} {r : Int × List Int} (hT : ∀ i : Nat, (i : Int) < s 147 43 → s 147 (243 + i) = T i) (hk : Kfi T (s 147 43) 1 (true, 0, [], [], 0, 0, 0) r) : CI (d + 7) 116 [.inr (.inr 10), .inl 1] (s) (fun v s1 => v = (if r.1 < 0 then 1 else -10 - r.1) ∧ s1 24 1 = 0 ∧ s1 43 0 = 1 ∧ (r.1 < 0 → s1 44 1 = (r.2.length : Int) ∧ ∀ i : Nat, i < r.2.length → s1 45 i = r.2.getD i 0) ∧ (0 ≤ r.1 → s1 44 = s 44 ∧ s1 45 = s 45) ∧ Fr [24, 43, 44, 45, 47, 48, 49, 50] s s1) := by
  refine CI.mk rfl ?_
  show WP (d + 7) 116 0 [some (.inr (.inr 10)), some (.inl 1), none] [] (encA (s)) _
  have hI0 := hI
  obtain ⟨⟨hM, hC, hN⟩, hV, h8⟩ := hI
  have hV0 := hV
  have hM0 := hM
  obtain ⟨vc, vpl, vga, vse, vne, veg, vre, vtu, vta, vwa, v36, v37, v39, v40, v42, v41, v43, v44, vl0, vl1, vlm⟩ := hV
  obtain ⟨hM39, hM40, hM41, hM43, hM44, hM36, hM37, hM38, hMc, hMw, hMp, hMt, hMb⟩ := hM
  have hTr : ∀ i : Nat, (i : Int) < s 147 43 → 0 ≤ T i ∧ T i ≤ 255 := fun i hi => by rw [← hT i hi]; exact hMb i (by omega)
  have hr32 : -1 ≤ r.1 ∧ r.1 ≤ 50 := kfi_rng hk (by omega) hTr
  refine w_ldI rfl rfl ?_
  refine w_call rfl rfl rfl (k_isUse (by omega)) ?_
  refine w_bNe0 rfl (fun b2 => ?_) (fun b2 => ?_)
  · first
    | (exfalso; omega)
    | (refine w_ldR rfl rfl rfl ?_
       first | refine w_getI rfl rfl rfl rfl rfl ?_ | refine w_getR rfl rfl rfl rfl rfl ?_
       first | refine w_getI rfl rfl rfl rfl rfl ?_ | refine w_getR rfl rfl rfl rfl rfl ?_
       refine w_ldI rfl rfl ?_
       refine w_rld rfl rfl rfl (by omega) rfl ?_
       show WP _ _ _ _ (.inr (.inr 43) :: _) _ _
       refine w_ldR rfl rfl rfl ?_
       first | refine w_getI rfl rfl rfl rfl rfl ?_ | refine w_getR rfl rfl rfl rfl rfl ?_
       first | refine w_getI rfl rfl rfl rfl rfl ?_ | refine w_getR rfl rfl rfl rfl rfl ?_
       refine w_callWI rfl rfl rfl rfl rfl rfl rfl (k_read43 v43 (by omega) (fun i hi => (vta (i : Int) (by omega) hi).trans ((congrArg (s 147) (show (243 + (i : Int)).toNat = 243 + i by omega)).trans (hT i hi))) hTr vl1.1 hk) (fun v15 s15 p15 => ?_)
       obtain ⟨rfl, gF, g0, g1, g2⟩ := p15
       refine w_StI_3_2 rfl rfl ?_
       refine w_ldR rfl rfl rfl ?_
       first | refine w_getI rfl rfl rfl rfl rfl ?_ | refine w_getR rfl rfl rfl rfl rfl ?_
       first | refine w_getI rfl rfl rfl rfl rfl ?_ | refine w_getR rfl rfl rfl rfl rfl ?_
       refine w_callWN rfl rfl rfl rfl rfl rfl rfl k_empty24 (fun s20 p20 => ?_)
       subst p20
       refine w_ldI rfl rfl ?_
       refine w_irGe0 rfl (by omega) (fun b22 => ?_) (fun b22 => ?_)
       · first
         | (exfalso; omega)
         | (refine w_push rfl ?_
            refine w_ldI rfl rfl ?_
            refine w_sub rfl ?_
            refine w_retI rfl ?_
            refine ⟨?_, by rw [us_eq, mup_eq], by rw [us_ne (by decide)]; exact g0, fun z => ?_, fun z => ?_, Fr.tr (Fr.mono rfl gF) (Fr.us rfl)⟩
            · first
              | rw [if_pos (by omega)]
              | rw [if_neg (by omega)]
            · rw [us_ne (by decide), us_ne (by decide)]
              exact g1 z
            · rw [us_ne (by decide), us_ne (by decide)]
              exact g2 z)
       · first
         | (exfalso; omega)
         | (refine w_push rfl ?_
            refine w_go rfl ?_
            refine w_retI rfl ?_
            refine ⟨?_, by rw [us_eq, mup_eq], by rw [us_ne (by decide)]; exact g0, fun z => ?_, fun z => ?_, Fr.tr (Fr.mono rfl gF) (Fr.us rfl)⟩
            · first
              | rw [if_pos (by omega)]
              | rw [if_neg (by omega)]
            · rw [us_ne (by decide), us_ne (by decide)]
              exact g1 z
            · rw [us_ne (by decide), us_ne (by decide)]
              exact g2 z))
  · exact absurd (by omega) b2
theorem x_text_n {d : Nat} {s : mSt} (hI : IvD s) {u : Int} (hru : -2147483648 ≤ u ∧ u < 2147483648) (hy : ¬ (0 ≤ u ∧ u ≤ 1)) : CI (d + 7) 116 [.inr (.inr 10), .inl u] (s) (fun r s1 => r = -1000000000 - 1 ∧ s1 = us s 132 1 (s 132 1 + 1)) := by
  refine CI.mk rfl ?_
  show WP (d + 7) 116 0 [some (.inr (.inr 10)), some (.inl u), none] [] (encA (s)) _
  have hI0 := hI
  obtain ⟨⟨hM, hC, hN⟩, hV, h8⟩ := hI
  have hV0 := hV
  have hM0 := hM
  obtain ⟨vc, vpl, vga, vse, vne, veg, vre, vtu, vta, vwa, v36, v37, v39, v40, v42, v41, v43, v44, vl0, vl1, vlm⟩ := hV
  obtain ⟨hM39, hM40, hM41, hM43, hM44, hM36, hM37, hM38, hMc, hMw, hMp, hMt, hMb⟩ := hM
  refine w_ldI rfl rfl ?_
  refine w_call rfl rfl rfl (k_isUse (by omega)) ?_
  refine w_bNe0 rfl (fun b2 => ?_) (fun b2 => ?_)
  · first
    | (exfalso; omega)
    | (exfalso; omega)
  · first
    | (exfalso; omega)
    | (refine w_ldR rfl rfl rfl ?_
       refine w_push rfl ?_
       refine w_callWI rfl rfl rfl rfl rfl rfl rfl k_error1 (fun v5 s5 p5 => ?_)
       obtain ⟨rfl, rfl⟩ := p5
       refine w_retI rfl ?_
       exact ⟨rfl, rfl⟩)
theorem VN13.text0 {s s1 : mSt} {D : Nat → Int} {t : Pst} (hV : VN13 s D) (hM : MOk D) (hl : t.2.2.2.length ≤ 50) (hf : Fr [24, 35, 36, 37, 39, 40, 41, 42, 146, 147, 152] s s1) (h24 : s1 24 1 = 0) (hL : LwR s1 35 (txF D 0 t) 0) : VN13 s1 (txF D 0 t) := by
  have e : ∀ j, j < 121 ∨ (123 ≤ j ∧ j < 143) ∨ 243 ≤ j → ¬ j = 43 → txF D 0 t j = D j := fun j h1 h2 => tx_ne (by omega) hl h2 (by omega) (by omega)
  have b41 := hM.2.2.1
  have b44 := hM.2.2.2.2.1
  obtain ⟨vc, vpl, vga, vse, vne, veg, vre, vtu, vta, vwa, v36, v37, v39, v40, v42, v41, v43, v44, vl0, vl1, vlm⟩ := hV
  exact ⟨fun i h1 h2 => by rw [hf.at 14 rfl, e _ (by omega) (by omega)]; exact vc i h1 h2,
    fun i h1 h2 => by rw [hf.at 16 rfl, e _ (by omega) (by omega)]; exact vpl i h1 h2,
    fun i h1 h2 => by rw [hf.at 17 rfl, e _ (by omega) (by omega)]; exact vga i h1 h2,
    fun i h1 h2 => by rw [hf.at 18 rfl, e _ (by omega) (by omega)]; exact vse i h1 h2,
    fun i h1 h2 => by rw [hf.at 19 rfl, e _ (by omega) (by omega)]; exact vne i h1 h2,
    fun i h1 h2 => by rw [hf.at 20 rfl, e _ (by omega) (by omega)]; exact veg i h1 h2,
    fun i h1 h2 => by rw [hf.at 21 rfl, e _ (by omega) (by omega)]; exact vre i h1 h2,
    fun i h1 h2 => by rw [e 41 (by omega) (by omega)] at h2; rw [hf.at 23 rfl, e _ (by omega) (by omega)]; exact vtu i h1 h2,
    fun i h1 h2 => by rw [tx_43 (by omega) hl] at h2; omega,
    fun i h1 h2 => by rw [e 44 (by omega) (by omega)] at h2; rw [hf.at 27 rfl, e _ (by omega) (by omega)]; exact vwa i h1 h2,
    by rw [hf.at 13 rfl, e 36 (by omega) (by omega)]; exact v36,
    by rw [hf.at 13 rfl, e 37 (by omega) (by omega)]; exact v37,
    by rw [hf.at 13 rfl, e 39 (by omega) (by omega)]; exact v39,
    by rw [hf.at 13 rfl, e 40 (by omega) (by omega)]; exact v40,
    by rw [hf.at 13 rfl, e 42 (by omega) (by omega)]; exact v42,
    by rw [hf.at 22 rfl, e 41 (by omega) (by omega)]; exact v41,
    by rw [h24, tx_43 (by omega) hl],
    by rw [hf.at 26 rfl, e 44 (by omega) (by omega)]; exact v44,
    hL,
    ⟨by rw [hf.at 43 rfl]; exact vl1.1, by rw [hf.at 44 rfl, tx_ne (by omega) hl (by omega) (by omega) (by omega)]; exact vl1.2.1, fun i h1 h2 h3 => by rw [tx_ne (by omega) hl (by omega) (by omega) (by omega)] at h2; rw [hf.at 45 rfl, tx_ne (by omega) hl (by omega) (by omega) (by omega)]; exact vl1.2.2 i h1 h2 h3⟩,
    fun i h1 h2 => by rw [hf.at 15 rfl, e _ (by omega) (by omega), e _ (by omega) (by omega)]; exact LampAt.fr rfl hf (vlm i h1 h2)⟩
theorem LwR.text0 {s s1 : mSt} {D : Nat → Int} {t : Pst} (hl : t.2.2.2.length ≤ 50) (h0 : s1 35 0 = 0) (h : LwR s 35 D 0) (ha : t.2.1 < 0 → s1 36 1 = ((cd t).length : Int) ∧ ∀ i : Nat, i < (cd t).length → s1 37 i = (cd t).getD i 0) (hb : ¬ t.2.1 < 0 → s1 36 = s 36 ∧ s1 37 = s 37) : LwR s1 35 (txF D 0 t) 0 := by
  have hcl : (cd t).length = t.2.2.2.length := List.length_map _
  by_cases z : t.2.1 < 0
  · obtain ⟨a1, a2⟩ := ha z
    refine ⟨h0, by rw [tx_len (by omega) hl z, ← hcl]; exact a1, fun i i0 i1 i2 => ?_⟩
    rw [tx_len (by omega) hl z] at i1
    obtain ⟨k, rfl⟩ : ∃ k : Nat, i = (k : Int) := ⟨i.toNat, by omega⟩
    rw [tx_at (by omega) z (show k < t.2.2.2.length by omega), Int.toNat_natCast]
    refine (a2 k (by omega)).trans ?_
    unfold cd
    have hk : k < t.2.2.2.length := by omega
    simp [List.getD, List.getElem?_map, List.getElem?_eq_getElem hk]
  · obtain ⟨b1, b2⟩ := hb z
    refine ⟨h0, by rw [b1, tx_same (by omega) z (by omega)]; exact h.2.1, fun i i0 i1 i2 => ?_⟩
    rw [tx_same (by omega) z (by omega)] at i1
    rw [b2, tx_same (by omega) z (by omega)]
    exact h.2.2 i i0 i1 i2
theorem VN13.text1 {s s1 : mSt} {D : Nat → Int} {t : Pst} (hV : VN13 s D) (hM : MOk D) (hl : t.2.2.2.length ≤ 50) (hf : Fr [24, 43, 44, 45, 47, 48, 49, 50, 146, 147, 152] s s1) (h24 : s1 24 1 = 0) (hL : LwR s1 43 (txF D 1 t) 1) : VN13 s1 (txF D 1 t) := by
  have e : ∀ j, j < 121 ∨ (123 ≤ j ∧ j < 143) ∨ 243 ≤ j → ¬ j = 43 → txF D 1 t j = D j := fun j h1 h2 => tx_ne (by omega) hl h2 (by omega) (by omega)
  have b41 := hM.2.2.1
  have b44 := hM.2.2.2.2.1
  obtain ⟨vc, vpl, vga, vse, vne, veg, vre, vtu, vta, vwa, v36, v37, v39, v40, v42, v41, v43, v44, vl0, vl1, vlm⟩ := hV
  exact ⟨fun i h1 h2 => by rw [hf.at 14 rfl, e _ (by omega) (by omega)]; exact vc i h1 h2,
    fun i h1 h2 => by rw [hf.at 16 rfl, e _ (by omega) (by omega)]; exact vpl i h1 h2,
    fun i h1 h2 => by rw [hf.at 17 rfl, e _ (by omega) (by omega)]; exact vga i h1 h2,
    fun i h1 h2 => by rw [hf.at 18 rfl, e _ (by omega) (by omega)]; exact vse i h1 h2,
    fun i h1 h2 => by rw [hf.at 19 rfl, e _ (by omega) (by omega)]; exact vne i h1 h2,
    fun i h1 h2 => by rw [hf.at 20 rfl, e _ (by omega) (by omega)]; exact veg i h1 h2,
    fun i h1 h2 => by rw [hf.at 21 rfl, e _ (by omega) (by omega)]; exact vre i h1 h2,
    fun i h1 h2 => by rw [e 41 (by omega) (by omega)] at h2; rw [hf.at 23 rfl, e _ (by omega) (by omega)]; exact vtu i h1 h2,
    fun i h1 h2 => by rw [tx_43 (by omega) hl] at h2; omega,
    fun i h1 h2 => by rw [e 44 (by omega) (by omega)] at h2; rw [hf.at 27 rfl, e _ (by omega) (by omega)]; exact vwa i h1 h2,
    by rw [hf.at 13 rfl, e 36 (by omega) (by omega)]; exact v36,
    by rw [hf.at 13 rfl, e 37 (by omega) (by omega)]; exact v37,
    by rw [hf.at 13 rfl, e 39 (by omega) (by omega)]; exact v39,
    by rw [hf.at 13 rfl, e 40 (by omega) (by omega)]; exact v40,
    by rw [hf.at 13 rfl, e 42 (by omega) (by omega)]; exact v42,
    by rw [hf.at 22 rfl, e 41 (by omega) (by omega)]; exact v41,
    by rw [h24, tx_43 (by omega) hl],
    by rw [hf.at 26 rfl, e 44 (by omega) (by omega)]; exact v44,
    ⟨by rw [hf.at 35 rfl]; exact vl0.1, by rw [hf.at 36 rfl, tx_ne (by omega) hl (by omega) (by omega) (by omega)]; exact vl0.2.1, fun i h1 h2 h3 => by rw [tx_ne (by omega) hl (by omega) (by omega) (by omega)] at h2; rw [hf.at 37 rfl, tx_ne (by omega) hl (by omega) (by omega) (by omega)]; exact vl0.2.2 i h1 h2 h3⟩,
    hL,
    fun i h1 h2 => by rw [hf.at 15 rfl, e _ (by omega) (by omega), e _ (by omega) (by omega)]; exact LampAt.fr rfl hf (vlm i h1 h2)⟩
theorem LwR.text1 {s s1 : mSt} {D : Nat → Int} {t : Pst} (hl : t.2.2.2.length ≤ 50) (h0 : s1 43 0 = 1) (h : LwR s 43 D 1) (ha : t.2.1 < 0 → s1 44 1 = ((cd t).length : Int) ∧ ∀ i : Nat, i < (cd t).length → s1 45 i = (cd t).getD i 0) (hb : ¬ t.2.1 < 0 → s1 44 = s 44 ∧ s1 45 = s 45) : LwR s1 43 (txF D 1 t) 1 := by
  have hcl : (cd t).length = t.2.2.2.length := List.length_map _
  by_cases z : t.2.1 < 0
  · obtain ⟨a1, a2⟩ := ha z
    refine ⟨h0, by rw [tx_len (by omega) hl z, ← hcl]; exact a1, fun i i0 i1 i2 => ?_⟩
    rw [tx_len (by omega) hl z] at i1
    obtain ⟨k, rfl⟩ : ∃ k : Nat, i = (k : Int) := ⟨i.toNat, by omega⟩
    rw [tx_at (by omega) z (show k < t.2.2.2.length by omega), Int.toNat_natCast]
    refine (a2 k (by omega)).trans ?_
    unfold cd
    have hk : k < t.2.2.2.length := by omega
    simp [List.getD, List.getElem?_map, List.getElem?_eq_getElem hk]
  · obtain ⟨b1, b2⟩ := hb z
    refine ⟨h0, by rw [b1, tx_same (by omega) z (by omega)]; exact h.2.1, fun i i0 i1 i2 => ?_⟩
    rw [tx_same (by omega) z (by omega)] at i1
    rw [b2, tx_same (by omega) z (by omega)]
    exact h.2.2 i i0 i1 i2
theorem Inv.vil2 {s s1 : mSt} {X : Nat → Int} {N : Int} {cnt cnt1 : Int} (hc : cnt ≤ cnt1) (hf : Fr [24, 35, 36, 37, 39, 40, 41, 42, 43, 44, 45, 47, 48, 49, 50, 146, 147, 152] s s1) (h3 : s1 146 3 = s 146 3) (h21 : s1 146 21 = s 146 21) (hD : IvD s1) (hT : IvT s1) (h : Inv X N s cnt) : Inv X N s1 cnt1 := by
  obtain ⟨a1, a2, a3, a4, a5, a6, a7, a8, a9⟩ := h
  exact ⟨hD, a2.fr rfl rfl (by rw [hf.at 10 rfl]) h3 hc hf, a3.fr rfl rfl hf, a4.fr rfl rfl rfl h21 hf, a5.fr rfl hf, hT, a7.fr rfl hc hf, a8.fr rfl rfl hf, a9.fr rfl rfl rfl rfl hf⟩
def txT (s : mSt) (i : Nat) : Int := if i = 60 then s 146 3 else if i = 61 then s 146 21 else s 147 (243 + i)
theorem txT_i {s : mSt} {n : Int} (h : n ≤ 50) : ∀ i : Nat, (i : Int) < n → s 147 (243 + i) = txT s i := fun i hi => by
  unfold txT
  rw [if_neg (by omega), if_neg (by omega)]
theorem st_text {X : Nat → Int} {N : Int} {d : Nat} {s : mSt} {cnt : Int} (hI : Inv X N s cnt) {u : Int} (hru : -2147483648 ≤ u ∧ u < 2147483648) : Step X N (d + 150) s cnt 116 192 [.inl u] := by
  have hI0 := hI
  obtain ⟨hD, -, -, -, -, hT, -, hX, hU⟩ := hI
  have hD0 := hD
  obtain ⟨⟨hM, hC, hN⟩, hV, h8⟩ := hD
  have hV0 := hV
  have hM0 := hM
  obtain ⟨vc, vpl, vga, vse, vne, veg, vre, vtu, vta, vwa, v36, v37, v39, v40, v42, v41, v43, v44, vl0, vl1, vlm⟩ := hV
  obtain ⟨hM39, hM40, hM41, hM43, hM44, hM36, hM37, hM38, hMc, hMw, hMp, hMt, hMb⟩ := hM
  by_cases hy : 0 ≤ u ∧ u ≤ 1
  · by_cases hu0 : u = 0
    · subst hu0
      obtain ⟨-, -, -, t0, hRd0, -⟩ := m_text_y (d := 0) rfl hM0 hC (u := 0) (by omega) (T := txT s) rfl rfl (txT_i (by omega)) (by omega)
      have hk0 := rd_class (by omega) hRd0
      obtain ⟨r1, s1, k1, hr, x24, x0, xa, xb, f1⟩ := x_text_0 (d := d + 143) hD0 (T := txT s) (txT_i (by omega)) hk0
      have e : s1 147 = s 147 := f1.at 147 rfl
      obtain ⟨r2, s2, k2, t, hRd, hr2, hl, e2, ⟨e3, e21⟩, f2⟩ := m_text_y (d := d + 90) (s := s1) e hM0 hC (u := 0) (by omega) (T := txT s) (congrFun (f1.at 146 rfl) 3) (congrFun (f1.at 146 rfl) 21) (txT_i (by omega)) (by omega)
      have hk := rd_class (by omega) hRd
      have eR := Kfi.one_way hk0 hk
      rw [eR] at hr xa xb
      have hf : Fr [24, 35, 36, 37, 39, 40, 41, 42, 43, 44, 45, 47, 48, 49, 50, 146, 147, 152] s s2 := (Fr.mono rfl f1).tr (Fr.mono rfl f2)
      have hLw := LwR.text0 (s := s) (s1 := s2) (D := s 147) hl (by rw [f2.at 35 rfl]; exact x0) vl0 (fun z => by
        rw [if_pos z] at xa
        rw [f2.at 36 rfl, f2.at 37 rfl]
        exact xa (by show (-1 : Int) < 0; omega)) (fun z => by
        rw [if_neg z] at xb
        rw [f2.at 36 rfl, f2.at 37 rfl]
        exact xb (by show 0 ≤ t.2.1; omega))
      have hV2 := VN13.text0 (s1 := s2) hV0 hM0 hl (Fr.tr (Fr.mono rfl f1) (Fr.mono rfl f2)) (by rw [f2.at 24 rfl]; exact x24) hLw
      refine Step.mk (by first | exact ⟨(f1.at 1 rfl).trans hX.2.1, (congrFun (f1.at 0 rfl) 1).trans hX.2.2⟩ | exact ⟨hX.2.1, hX.2.2⟩ | exact ⟨by rw [hs1, us_ne (by decide)]; exact hX.2.1, by rw [hs1, us_ne (by decide)]; exact hX.2.2⟩ | exact ⟨by rw [hs1, us_ne (by decide), us_ne (by decide)]; exact hX.2.1, by rw [hs1, us_ne (by decide), us_ne (by decide)]; exact hX.2.2⟩ | exact ⟨by rw [e1, us_ne (by decide), f1.at 1 rfl]; exact hX.2.1, by rw [e1, us_ne (by decide), f1.at 0 rfl]; exact hX.2.2⟩ | exact ⟨by rw [ft.at 1 rfl, hx 1 (by decide) (by decide)]; exact hX.2.1, by rw [ft.at 0 rfl, et, newL_0, mup_ne (by decide)]; exact hX.2.2⟩) k1 k2 ?_ ?_
      · rw [hr2, hr]
        by_cases z : t.2.1 < 0
        · rw [if_pos z, if_pos z, if_pos (by show (-1 : Int) < 0; omega)]
        · rw [if_neg z, if_neg z, if_neg (show ¬ t.2.1 < 0 from z)]
      · refine hI0.vil2 (by omega) hf e3 e21 (IvD.mk e2 (tx_MOk hM0 (by omega) hl) (tx_COk hC (by omega) hl (rd_wf hRd)) (by rw [tx_ne (by omega) hl (by omega) (by omega) (by omega)]; exact hN) hV2 (by rw [hf.at 13 rfl, tx_ne (by omega) hl (by omega) (by omega) (by omega)]; exact h8)) (hT.d (fun i hi => by rw [e2]; exact tx_ne (by omega) hl (by omega) (by omega) (by omega)) (hf.at 148 rfl) (hf.at 149 rfl))
    · obtain rfl : u = 1 := by omega
      obtain ⟨-, -, -, t0, hRd0, -⟩ := m_text_y (d := 0) rfl hM0 hC (u := 1) (by omega) (T := txT s) rfl rfl (txT_i (by omega)) (by omega)
      have hk0 := rd_class (by omega) hRd0
      obtain ⟨r1, s1, k1, hr, x24, x0, xa, xb, f1⟩ := x_text_1 (d := d + 143) hD0 (T := txT s) (txT_i (by omega)) hk0
      have e : s1 147 = s 147 := f1.at 147 rfl
      obtain ⟨r2, s2, k2, t, hRd, hr2, hl, e2, ⟨e3, e21⟩, f2⟩ := m_text_y (d := d + 90) (s := s1) e hM0 hC (u := 1) (by omega) (T := txT s) (congrFun (f1.at 146 rfl) 3) (congrFun (f1.at 146 rfl) 21) (txT_i (by omega)) (by omega)
      have hk := rd_class (by omega) hRd
      have eR := Kfi.one_way hk0 hk
      rw [eR] at hr xa xb
      have hf : Fr [24, 35, 36, 37, 39, 40, 41, 42, 43, 44, 45, 47, 48, 49, 50, 146, 147, 152] s s2 := (Fr.mono rfl f1).tr (Fr.mono rfl f2)
      have hLw := LwR.text1 (s := s) (s1 := s2) (D := s 147) hl (by rw [f2.at 43 rfl]; exact x0) vl1 (fun z => by
        rw [if_pos z] at xa
        rw [f2.at 44 rfl, f2.at 45 rfl]
        exact xa (by show (-1 : Int) < 0; omega)) (fun z => by
        rw [if_neg z] at xb
        rw [f2.at 44 rfl, f2.at 45 rfl]
        exact xb (by show 0 ≤ t.2.1; omega))
      have hV2 := VN13.text1 (s1 := s2) hV0 hM0 hl (Fr.tr (Fr.mono rfl f1) (Fr.mono rfl f2)) (by rw [f2.at 24 rfl]; exact x24) hLw
      refine Step.mk (by first | exact ⟨(f1.at 1 rfl).trans hX.2.1, (congrFun (f1.at 0 rfl) 1).trans hX.2.2⟩ | exact ⟨hX.2.1, hX.2.2⟩ | exact ⟨by rw [hs1, us_ne (by decide)]; exact hX.2.1, by rw [hs1, us_ne (by decide)]; exact hX.2.2⟩ | exact ⟨by rw [hs1, us_ne (by decide), us_ne (by decide)]; exact hX.2.1, by rw [hs1, us_ne (by decide), us_ne (by decide)]; exact hX.2.2⟩ | exact ⟨by rw [e1, us_ne (by decide), f1.at 1 rfl]; exact hX.2.1, by rw [e1, us_ne (by decide), f1.at 0 rfl]; exact hX.2.2⟩ | exact ⟨by rw [ft.at 1 rfl, hx 1 (by decide) (by decide)]; exact hX.2.1, by rw [ft.at 0 rfl, et, newL_0, mup_ne (by decide)]; exact hX.2.2⟩) k1 k2 ?_ ?_
      · rw [hr2, hr]
        by_cases z : t.2.1 < 0
        · rw [if_pos z, if_pos z, if_pos (by show (-1 : Int) < 0; omega)]
        · rw [if_neg z, if_neg z, if_neg (show ¬ t.2.1 < 0 from z)]
      · refine hI0.vil2 (by omega) hf e3 e21 (IvD.mk e2 (tx_MOk hM0 (by omega) hl) (tx_COk hC (by omega) hl (rd_wf hRd)) (by rw [tx_ne (by omega) hl (by omega) (by omega) (by omega)]; exact hN) hV2 (by rw [hf.at 13 rfl, tx_ne (by omega) hl (by omega) (by omega) (by omega)]; exact h8)) (hT.d (fun i hi => by rw [e2]; exact tx_ne (by omega) hl (by omega) (by omega) (by omega)) (hf.at 148 rfl) (hf.at 149 rfl))
  · obtain ⟨r1, s1, k1, hr, hs1⟩ := x_text_n (d := d + 143) hD0 hru hy
    have e : s1 147 = s 147 := by rw [hs1]; exact us_ne (by decide)
    obtain ⟨r2, s2, k2, hr2, hs2⟩ := m_text_n (d := d + 149) (s := s1) e hM0 hC hru hy
    rw [hs2] at k2
    exact Step.mk (by first | exact ⟨(f1.at 1 rfl).trans hX.2.1, (congrFun (f1.at 0 rfl) 1).trans hX.2.2⟩ | exact ⟨hX.2.1, hX.2.2⟩ | exact ⟨by rw [hs1, us_ne (by decide)]; exact hX.2.1, by rw [hs1, us_ne (by decide)]; exact hX.2.2⟩ | exact ⟨by rw [hs1, us_ne (by decide), us_ne (by decide)]; exact hX.2.1, by rw [hs1, us_ne (by decide), us_ne (by decide)]; exact hX.2.2⟩ | exact ⟨by rw [e1, us_ne (by decide), f1.at 1 rfl]; exact hX.2.1, by rw [e1, us_ne (by decide), f1.at 0 rfl]; exact hX.2.2⟩ | exact ⟨by rw [ft.at 1 rfl, hx 1 (by decide) (by decide)]; exact hX.2.1, by rw [ft.at 0 rfl, et, newL_0, mup_ne (by decide)]; exact hX.2.2⟩) k1 k2 (by rw [hr, hr2]) (hI0.err2 hs1)
theorem StT_ok (X : Nat → Int) (N : Int) : StT X N := fun d s cnt u hI h1 => st_text hI h1
