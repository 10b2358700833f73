/-! ===== the text: the class's read ===== -/
theorem k_copyR36_39 {d : Nat} {s : mSt} (hs : 0 ≤ s 39 1 ∧ s 39 1 ≤ 50) : CV (d + 1) 72 [.inr (.inr 36), .inr (.inr 39)] (s) (fun s1 => s1 36 1 = s 39 1 ∧ (∀ i : Int, 0 ≤ i → i < s 39 1 → s1 37 i.toNat = s 40 i.toNat) ∧ Fr [36, 37] s s1) := by
  refine CV.mk rfl ?_
  show WP (d + 1) 72 0 [some (.inr (.inr 36)), some (.inr (.inr 39))] [] (encA (s)) _
  refine w_ldR rfl rfl rfl ?_
  refine w_ldR rfl rfl rfl ?_
  first | refine w_getI rfl rfl rfl rfl rfl ?_ | refine w_getR rfl rfl rfl rfl rfl ?_
  refine w_ldR rfl rfl rfl ?_
  first | refine w_getI rfl rfl rfl rfl rfl ?_ | refine w_getR rfl rfl rfl rfl rfl ?_
  refine w_alen rfl rfl rfl ?_
  refine w_m2 rfl rfl ?_
  rw [m_min_id (by omega) (by omega), show min (s 39 1) ((50 : Nat) : Int) = s 39 1 by omega]
  refine w_putI rfl rfl rfl rfl rfl rfl rfl ?_
  refine w_ldR rfl rfl rfl ?_
  first | refine w_getI rfl rfl rfl rfl rfl ?_ | refine w_getR rfl rfl rfl rfl rfl ?_
  refine w_push rfl ?_
  refine w_ldR rfl rfl rfl ?_
  first | refine w_getI rfl rfl rfl rfl rfl ?_ | refine w_getR rfl rfl rfl rfl rfl ?_
  refine w_push rfl ?_
  refine w_ldR rfl rfl rfl ?_
  first | refine w_getI rfl rfl rfl rfl rfl ?_ | refine w_getR rfl rfl rfl rfl rfl ?_
  rw [us_eq, mup_eq]
  refine w_cpy rfl rfl rfl rfl rfl (by omega) (by omega) (by omega) (by omega) (by omega) rfl rfl rfl ?_
  refine w_retV rfl ?_
  refine ⟨by rw [ua_ne (by decide), us_eq, mup_eq], fun i h1 h2 => ?_, (Fr.us rfl).tr (Fr.ua rfl)⟩
  rw [ua_eq, mcpy_i (by omega), us_ne (by decide)]
theorem k_copyR44_47 {d : Nat} {s : mSt} (hs : 0 ≤ s 47 1 ∧ s 47 1 ≤ 50) : CV (d + 1) 72 [.inr (.inr 44), .inr (.inr 47)] (s) (fun s1 => s1 44 1 = s 47 1 ∧ (∀ i : Int, 0 ≤ i → i < s 47 1 → s1 45 i.toNat = s 48 i.toNat) ∧ Fr [44, 45] s s1) := by
  refine CV.mk rfl ?_
  show WP (d + 1) 72 0 [some (.inr (.inr 44)), some (.inr (.inr 47))] [] (encA (s)) _
  refine w_ldR rfl rfl rfl ?_
  refine w_ldR rfl rfl rfl ?_
  first | refine w_getI rfl rfl rfl rfl rfl ?_ | refine w_getR rfl rfl rfl rfl rfl ?_
  refine w_ldR rfl rfl rfl ?_
  first | refine w_getI rfl rfl rfl rfl rfl ?_ | refine w_getR rfl rfl rfl rfl rfl ?_
  refine w_alen rfl rfl rfl ?_
  refine w_m2 rfl rfl ?_
  rw [m_min_id (by omega) (by omega), show min (s 47 1) ((50 : Nat) : Int) = s 47 1 by omega]
  refine w_putI rfl rfl rfl rfl rfl rfl rfl ?_
  refine w_ldR rfl rfl rfl ?_
  first | refine w_getI rfl rfl rfl rfl rfl ?_ | refine w_getR rfl rfl rfl rfl rfl ?_
  refine w_push rfl ?_
  refine w_ldR rfl rfl rfl ?_
  first | refine w_getI rfl rfl rfl rfl rfl ?_ | refine w_getR rfl rfl rfl rfl rfl ?_
  refine w_push rfl ?_
  refine w_ldR rfl rfl rfl ?_
  first | refine w_getI rfl rfl rfl rfl rfl ?_ | refine w_getR rfl rfl rfl rfl rfl ?_
  rw [us_eq, mup_eq]
  refine w_cpy rfl rfl rfl rfl rfl (by omega) (by omega) (by omega) (by omega) (by omega) rfl rfl rfl ?_
  refine w_retV rfl ?_
  refine ⟨by rw [ua_ne (by decide), us_eq, mup_eq], fun i h1 h2 => ?_, (Fr.us rfl).tr (Fr.ua rfl)⟩
  rw [ua_eq, mcpy_i (by omega), us_ne (by decide)]
def KI (T : Nat → Int) (n : Int) : Kst → Prop
  | (_, p, dr, pe, op, dp, _) => (0 ≤ p ∧ p ≤ n) ∧ (dr.length : Int) + pe.length ≤ p ∧ (-2 * p + pe.length ≤ op ∧ op ≤ 5) ∧ (0 ≤ dp ∧ dp ≤ p) ∧ ∀ c ∈ pe, 0 ≤ c ∧ c ≤ 255
theorem odP_rng {T : Nat → Int} {n p : Int} (hp : p < n) : 1 ≤ odP T n p ∧ p + odP T n p ≤ n := by
  obtain ⟨w1, w2, w3⟩ := dg_rng (T := T) (n := n) 4 (p, -1, 0, []) 0 (by show p ≤ n; omega)
  have e : dkK T n p = (dgP T n 4 (p, -1, 0, []) 0).1.1 - p := rfl
  unfold odP
  split
  · omega
  · omega
theorem KI.step {T : Nat → Int} {n u : Int} (hR : ∀ i : Nat, (i : Int) < n → 0 ≤ T i ∧ T i ≤ 255) {due : Bool} {p op dp cm : Int} {dr pe : List Int} {k' : Kst} (h : KI T n (due, p, dr, pe, op, dp, cm)) (e : kstep T n u (due, p, dr, pe, op, dp, cm) = .inl k') : KI T n k' := by
  obtain ⟨h1, h2, h3, h4, h5⟩ := h
  by_cases hp : p < n
  · have hb := hR p.toNat (by omega)
    have ho := odP_rng (T := T) hp
    cases due with
    | true =>
      by_cases c1 : 0 < dkK T n p ∨ 0 ≤ nmF u (T p.toNat)
      · rw [ks_opd hp c1] at e
        obtain rfl := Sum.inl.inj e
        obtain ⟨a1, a2, a3, a4⟩ := wnP_len pe (dr ++ [odK T n u p]) op
        rw [len_1] at a1
        exact ⟨by omega, by omega, by omega, by omega, fun x hx => h5 x (a3 x hx)⟩
      · by_cases c2 : (T p.toNat = 33 ∨ T p.toNat = 40) ∧ op < 5
        · rw [ks_open hp c1 c2] at e
          obtain rfl := Sum.inl.inj e
          refine ⟨by omega, ?_, ?_, ?_, fun x hx => ?_⟩
          · rw [List.length_cons]; omega
          · rw [List.length_cons]; omega
          · unfold onD
            split <;> omega
          · rcases List.mem_cons.mp hx with z | z
            · rw [z]; exact hb
            · exact h5 x z
        · rw [ks_bad hp c1 c2] at e
          cases e
    | false =>
      by_cases c1 : T p.toNat = 41 ∧ ¬ dp = 0
      · rw [ks_close hp c1] at e
        obtain rfl := Sum.inl.inj e
        obtain ⟨b1, b2, b3⟩ := wdP_len (r := 1) pe dr
        obtain ⟨a1, a2, a3, a4⟩ := wnP_len (wdP 1 dr pe).2.tail (wdP 1 dr pe).1 (op - 1)
        rw [List.length_tail] at a1 a2 a4
        exact ⟨by omega, by omega, by omega, by omega, fun x hx => h5 x (b3 x (List.mem_of_mem_tail (a3 x hx)))⟩
      · by_cases c2 : rk (T p.toNat) = 0 ∨ (rk (T p.toNat) = 3 ∧ ¬ m_and cm (m_shl 1 dp) = 0)
        · rw [ks_rej hp c1 c2] at e
          cases e
        · rw [ks_join hp c1 c2] at e
          obtain rfl := Sum.inl.inj e
          obtain ⟨b1, b2, b3⟩ := wdP_len (r := rk (T p.toNat)) pe dr
          refine ⟨by omega, ?_, ?_, by omega, fun x hx => ?_⟩
          · rw [List.length_cons]; omega
          · rw [List.length_cons]; omega
          · rcases List.mem_cons.mp hx with z | z
            · rw [z]; exact hb
            · exact h5 x (b3 x z)
  · by_cases c1 : due = true ∨ 0 < dp
    · rw [ks_end hp c1] at e
      cases e
    · cases due with
      | true => exact absurd (Or.inl rfl) c1
      | false =>
        rw [ks_done hp (fun z => c1 (Or.inr z))] at e
        cases e
theorem kr_l {T : Nat → Int} {n u : Int} {m : Nat} {k k' : Kst} {r : Int × List Int} (h : kstep T n u k = .inl k') (e : krun T n u (m + 1) k = some r) : krun T n u m k' = some r := by
  simp only [krun, h] at e
  exact e
theorem kr_r {T : Nat → Int} {n u : Int} {m : Nat} {k : Kst} {r r' : Int × List Int} (h : kstep T n u k = .inr r') (e : krun T n u (m + 1) k = some r) : r' = r := by
  simp only [krun, h] at e
  exact Option.some.inj e
theorem kr_up {T : Nat → Int} {n u : Int} {r : Int × List Int} : ∀ (m : Nat) (k : Kst), krun T n u m k = some r → krun T n u (m + 1) k = some r
  | 0, _, h => by cases h
  | m + 1, k, h => by
    cases e : kstep T n u k with
    | inl k' =>
      have h1 := kr_up m k' (kr_l e h)
      show (match kstep T n u k with | .inl k' => krun T n u (m + 1) k' | .inr r => some r) = some r
      rw [e]
      exact h1
    | inr r' =>
      have h1 := kr_r e h
      show (match kstep T n u k with | .inl k' => krun T n u (m + 1) k' | .inr r => some r) = some r
      rw [e, h1]
theorem kr_le {T : Nat → Int} {n u : Int} {r : Int × List Int} {m : Nat} {k : Kst} (h : krun T n u m k = some r) : ∀ q : Nat, krun T n u (m + q) k = some r
  | 0 => h
  | q + 1 => kr_up _ _ (kr_le h q)
theorem Kfi.one_way {T : Nat → Int} {n u : Int} {k : Kst} {r r' : Int × List Int} (h : Kfi T n u k r) (h' : Kfi T n u k r') : r = r' := by
  obtain ⟨m, e⟩ := h
  obtain ⟨m', e'⟩ := h'
  have e1 := kr_le e m'
  have e2 := kr_le e' m
  rw [Nat.add_comm] at e2
  rw [e1] at e2
  exact Option.some.inj e2
def dI (due : Bool) : Int := if due = true then 1 else 0
theorem y_opd35 {d : Nat} {s : mSt} {P : Int → mSt → Prop} {l4 l5 : Option mAV} {T : Nat → Int} {n p : Int} (hn : s 24 1 = n) (h50 : 0 ≤ n ∧ n ≤ 50) (hT : ∀ i : Nat, (i : Int) < n → s 25 i = T i) (hR : ∀ i : Nat, (i : Int) < n → 0 ≤ T i ∧ T i ≤ 255) {dr pe : List Int} {op dp cm : Int} (hK : KS35 s dr pe op dp cm) (hu : s 35 0 = 0) (hi : KI T n (true, p, dr, pe, op, dp, cm)) (hp : p < n) (hc : (0 < dkK T n p ∨ 0 ≤ nmF 0 (T p.toNat))) (kk : ∀ s1 l4 l5, KS35 s1 (wnP (dr ++ [odK T n 0 p]) pe op).1 (wnP (dr ++ [odK T n 0 p]) pe op).2.1 (wnP (dr ++ [odK T n 0 p]) pe op).2.2 dp cm → Fr [35, 39, 40, 41, 42] s s1 → WP (d + 6) 39 19 [some (.inr (.inr 35)), some (.inr (.inr 24)), some (.inl 0), some (.inl (p + odP T n p)), l4, l5] [] (encA (s1)) (QI P)) : WP (d + 6) 39 19 [some (.inr (.inr 35)), some (.inr (.inr 24)), some (.inl 1), some (.inl (p)), l4, l5] [] (encA (s)) (QI P) := by
  obtain ⟨i1, i2, i3, i4, i5⟩ := hi
  have hTp := hR p.toNat (by omega)
  obtain ⟨h1, h2, h3, h4, h5, h6, h7, h0⟩ := id hK
  refine w_ldI rfl rfl ?_
  refine w_ldR rfl rfl rfl ?_
  first | refine w_getI rfl rfl rfl rfl rfl ?_ | refine w_getR rfl rfl rfl rfl rfl ?_
  rw [hn]
  refine w_crGe rfl (by omega) (by omega) (fun b22 => ?_) (fun b22 => ?_)
  · (exfalso; omega)
  · first
    | (exfalso; omega)
    | (refine w_ldR rfl rfl rfl ?_
       refine w_ldI rfl rfl ?_
       refine w_callV rfl rfl rfl rfl rfl rfl rfl (k_at24 (by omega) (by omega)) ?_
       rw [show rowAt s 24 p = T p.toNat from (if_pos (by omega)).trans (hT _ (by omega))]
       refine w_StI_6_4 rfl rfl ?_
       refine w_ldI rfl rfl ?_
       refine w_irEq0 rfl (by omega) (fun b28 => ?_) (fun b28 => ?_)
       · (exfalso; omega)
       · first
         | (exfalso; omega)
         | (refine w_ldR rfl rfl rfl ?_
            refine w_ldR rfl rfl rfl ?_
            refine w_ldI rfl rfl ?_
            refine w_callWI rfl rfl rfl rfl rfl rfl rfl (k_tk35 hn h50 hT hR (by omega) hK hu (by omega) i5) (fun v32 s32 p32 => ?_)
            obtain ⟨q1, q2⟩ := p32
            obtain ⟨rfl, gK, gF⟩ := q2 hc
            have hod := odP_rng (T := T) hp
            refine w_go rfl ?_
            refine w_StI_6_5 rfl rfl ?_
            refine w_ldI rfl rfl ?_
            refine w_irLe0 rfl (by omega) (fun b37 => ?_) (fun b37 => ?_)
            · (exfalso; omega)
            · first
              | (exfalso; omega)
              | (refine w_push rfl ?_
                 refine w_StI_6_2 rfl rfl ?_
                 refine w_ldI rfl rfl ?_
                 refine w_ldI rfl rfl ?_
                 refine w_add rfl ?_
                 refine w_StI_6_3 rfl rfl ?_
                 refine w_go rfl ?_
                 refine w_go rfl ?_
                 exact kk _ _ _ gK (Fr.mono rfl gF))))
theorem y_open35 {d : Nat} {s : mSt} {P : Int → mSt → Prop} {l4 l5 : Option mAV} {T : Nat → Int} {n p : Int} (hn : s 24 1 = n) (h50 : 0 ≤ n ∧ n ≤ 50) (hT : ∀ i : Nat, (i : Int) < n → s 25 i = T i) (hR : ∀ i : Nat, (i : Int) < n → 0 ≤ T i ∧ T i ≤ 255) {dr pe : List Int} {op dp cm : Int} (hK : KS35 s dr pe op dp cm) (hu : s 35 0 = 0) (hi : KI T n (true, p, dr, pe, op, dp, cm)) (hp : p < n) (hc : ¬ (0 < dkK T n p ∨ 0 ≤ nmF 0 (T p.toNat))) (ho : ((T p.toNat = 33 ∨ T p.toNat = 40) ∧ op < 5)) (kk : ∀ s1 l4 l5, KS35 s1 dr (T p.toNat :: pe) (op + 1) (onD (T p.toNat) dp) (onC (T p.toNat) dp cm) → Fr [35, 39, 40, 41, 42] s s1 → WP (d + 6) 39 19 [some (.inr (.inr 35)), some (.inr (.inr 24)), some (.inl 1), some (.inl (p + 1)), l4, l5] [] (encA (s1)) (QI P)) : WP (d + 6) 39 19 [some (.inr (.inr 35)), some (.inr (.inr 24)), some (.inl 1), some (.inl (p)), l4, l5] [] (encA (s)) (QI P) := by
  obtain ⟨i1, i2, i3, i4, i5⟩ := hi
  have hTp := hR p.toNat (by omega)
  obtain ⟨h1, h2, h3, h4, h5, h6, h7, h0⟩ := id hK
  refine w_ldI rfl rfl ?_
  refine w_ldR rfl rfl rfl ?_
  first | refine w_getI rfl rfl rfl rfl rfl ?_ | refine w_getR rfl rfl rfl rfl rfl ?_
  rw [hn]
  refine w_crGe rfl (by omega) (by omega) (fun b22 => ?_) (fun b22 => ?_)
  · (exfalso; omega)
  · first
    | (exfalso; omega)
    | (refine w_ldR rfl rfl rfl ?_
       refine w_ldI rfl rfl ?_
       refine w_callV rfl rfl rfl rfl rfl rfl rfl (k_at24 (by omega) (by omega)) ?_
       rw [show rowAt s 24 p = T p.toNat from (if_pos (by omega)).trans (hT _ (by omega))]
       refine w_StI_6_4 rfl rfl ?_
       refine w_ldI rfl rfl ?_
       refine w_irEq0 rfl (by omega) (fun b28 => ?_) (fun b28 => ?_)
       · (exfalso; omega)
       · first
         | (exfalso; omega)
         | (refine w_ldR rfl rfl rfl ?_
            refine w_ldR rfl rfl rfl ?_
            refine w_ldI rfl rfl ?_
            refine w_callWI rfl rfl rfl rfl rfl rfl rfl (k_tk35 hn h50 hT hR (by omega) hK hu (by omega) i5) (fun v32 s32 p32 => ?_)
            obtain ⟨q1, q2⟩ := p32
            have q3 := q1 hc
            obtain ⟨rfl, rfl⟩ := q3
            refine w_go rfl ?_
            refine w_StI_6_5 rfl rfl ?_
            refine w_ldI rfl rfl ?_
            refine w_irLe0 rfl (by omega) (fun b37 => ?_) (fun b37 => ?_)
            · first
              | (exfalso; omega)
              | (refine w_ldI rfl rfl ?_
                 refine w_irEq0 rfl (by omega) (fun b46 => ?_) (fun b46 => ?_)
                 · (exfalso; omega)
                 · first
                   | (exfalso; omega)
                   | (refine w_ldR rfl rfl rfl ?_
                      refine w_ldI rfl rfl ?_
                      refine w_callWI rfl rfl rfl rfl rfl rfl rfl (k_opens35 (b := T p.toNat) hK (by omega) i5 hTp (by omega) (by omega)) (fun v49 s49 p49 => ?_)
                      obtain ⟨rfl, e1, e2⟩ := p49
                      refine w_bEq0 rfl (fun b50 => ?_) (fun b50 => ?_)
                      · exact absurd ho b50
                      · first
                        | (exfalso; omega)
                        | (refine w_go rfl ?_
                           refine w_inc_6_3 rfl rfl ?_
                           refine w_go rfl ?_
                           refine w_go rfl ?_
                           obtain ⟨gK, gF⟩ := e1 ho
                           exact kk _ _ _ gK (Fr.mono rfl gF))))
            · (exfalso; omega)))
theorem y_bad35 {d : Nat} {s : mSt} {P : Int → mSt → Prop} {l4 l5 : Option mAV} {T : Nat → Int} {n p : Int} (hn : s 24 1 = n) (h50 : 0 ≤ n ∧ n ≤ 50) (hT : ∀ i : Nat, (i : Int) < n → s 25 i = T i) (hR : ∀ i : Nat, (i : Int) < n → 0 ≤ T i ∧ T i ≤ 255) {dr pe : List Int} {op dp cm : Int} (hK : KS35 s dr pe op dp cm) (hu : s 35 0 = 0) (hi : KI T n (true, p, dr, pe, op, dp, cm)) (hp : p < n) (hc : ¬ (0 < dkK T n p ∨ 0 ≤ nmF 0 (T p.toNat))) (ho : ¬ ((T p.toNat = 33 ∨ T p.toNat = 40) ∧ op < 5)) (kk : P p s) : WP (d + 6) 39 19 [some (.inr (.inr 35)), some (.inr (.inr 24)), some (.inl 1), some (.inl (p)), l4, l5] [] (encA (s)) (QI P) := by
  obtain ⟨i1, i2, i3, i4, i5⟩ := hi
  have hTp := hR p.toNat (by omega)
  obtain ⟨h1, h2, h3, h4, h5, h6, h7, h0⟩ := id hK
  refine w_ldI rfl rfl ?_
  refine w_ldR rfl rfl rfl ?_
  first | refine w_getI rfl rfl rfl rfl rfl ?_ | refine w_getR rfl rfl rfl rfl rfl ?_
  rw [hn]
  refine w_crGe rfl (by omega) (by omega) (fun b22 => ?_) (fun b22 => ?_)
  · (exfalso; omega)
  · first
    | (exfalso; omega)
    | (refine w_ldR rfl rfl rfl ?_
       refine w_ldI rfl rfl ?_
       refine w_callV rfl rfl rfl rfl rfl rfl rfl (k_at24 (by omega) (by omega)) ?_
       rw [show rowAt s 24 p = T p.toNat from (if_pos (by omega)).trans (hT _ (by omega))]
       refine w_StI_6_4 rfl rfl ?_
       refine w_ldI rfl rfl ?_
       refine w_irEq0 rfl (by omega) (fun b28 => ?_) (fun b28 => ?_)
       · (exfalso; omega)
       · first
         | (exfalso; omega)
         | (refine w_ldR rfl rfl rfl ?_
            refine w_ldR rfl rfl rfl ?_
            refine w_ldI rfl rfl ?_
            refine w_callWI rfl rfl rfl rfl rfl rfl rfl (k_tk35 hn h50 hT hR (by omega) hK hu (by omega) i5) (fun v32 s32 p32 => ?_)
            obtain ⟨q1, q2⟩ := p32
            have q3 := q1 hc
            obtain ⟨rfl, rfl⟩ := q3
            refine w_go rfl ?_
            refine w_StI_6_5 rfl rfl ?_
            refine w_ldI rfl rfl ?_
            refine w_irLe0 rfl (by omega) (fun b37 => ?_) (fun b37 => ?_)
            · first
              | (exfalso; omega)
              | (refine w_ldI rfl rfl ?_
                 refine w_irEq0 rfl (by omega) (fun b46 => ?_) (fun b46 => ?_)
                 · (exfalso; omega)
                 · first
                   | (exfalso; omega)
                   | (refine w_ldR rfl rfl rfl ?_
                      refine w_ldI rfl rfl ?_
                      refine w_callWI rfl rfl rfl rfl rfl rfl rfl (k_opens35 (b := T p.toNat) hK (by omega) i5 hTp (by omega) (by omega)) (fun v49 s49 p49 => ?_)
                      obtain ⟨rfl, e1, e2⟩ := p49
                      refine w_bEq0 rfl (fun b50 => ?_) (fun b50 => ?_)
                      · first
                        | (exfalso; omega)
                        | (refine w_ldI rfl rfl ?_
                           refine w_irNe0 rfl (by omega) (fun b59 => ?_) (fun b59 => ?_)
                           · first
                             | (exfalso; omega)
                             | (refine w_ldI rfl rfl ?_
                                refine w_retI rfl ?_
                                have e3 := e2 ho
                                subst e3
                                exact kk)
                           · (exfalso; omega))
                      · exact absurd b50 ho))
            · (exfalso; omega)))
theorem y_close35 {d : Nat} {s : mSt} {P : Int → mSt → Prop} {l4 l5 : Option mAV} {T : Nat → Int} {n p : Int} (hn : s 24 1 = n) (h50 : 0 ≤ n ∧ n ≤ 50) (hT : ∀ i : Nat, (i : Int) < n → s 25 i = T i) (hR : ∀ i : Nat, (i : Int) < n → 0 ≤ T i ∧ T i ≤ 255) {dr pe : List Int} {op dp cm : Int} (hK : KS35 s dr pe op dp cm) (hu : s 35 0 = 0) (hi : KI T n (false, p, dr, pe, op, dp, cm)) (hp : p < n) (hc : (T p.toNat = 41 ∧ ¬ dp = 0)) (kk : ∀ s1 l4 l5, KS35 s1 (wnP (wdP 1 dr pe).1 (wdP 1 dr pe).2.tail (op - 1)).1 (wnP (wdP 1 dr pe).1 (wdP 1 dr pe).2.tail (op - 1)).2.1 (wnP (wdP 1 dr pe).1 (wdP 1 dr pe).2.tail (op - 1)).2.2 (dp - 1) cm → Fr [35, 39, 40, 41, 42] s s1 → WP (d + 6) 39 19 [some (.inr (.inr 35)), some (.inr (.inr 24)), some (.inl 0), some (.inl (p + 1)), l4, l5] [] (encA (s1)) (QI P)) : WP (d + 6) 39 19 [some (.inr (.inr 35)), some (.inr (.inr 24)), some (.inl 0), some (.inl (p)), l4, l5] [] (encA (s)) (QI P) := by
  obtain ⟨i1, i2, i3, i4, i5⟩ := hi
  have hTp := hR p.toNat (by omega)
  obtain ⟨h1, h2, h3, h4, h5, h6, h7, h0⟩ := id hK
  refine w_ldI rfl rfl ?_
  refine w_ldR rfl rfl rfl ?_
  first | refine w_getI rfl rfl rfl rfl rfl ?_ | refine w_getR rfl rfl rfl rfl rfl ?_
  rw [hn]
  refine w_crGe rfl (by omega) (by omega) (fun b22 => ?_) (fun b22 => ?_)
  · (exfalso; omega)
  · first
    | (exfalso; omega)
    | (refine w_ldR rfl rfl rfl ?_
       refine w_ldI rfl rfl ?_
       refine w_callV rfl rfl rfl rfl rfl rfl rfl (k_at24 (by omega) (by omega)) ?_
       rw [show rowAt s 24 p = T p.toNat from (if_pos (by omega)).trans (hT _ (by omega))]
       refine w_StI_6_4 rfl rfl ?_
       refine w_ldI rfl rfl ?_
       refine w_irEq0 rfl (by omega) (fun b28 => ?_) (fun b28 => ?_)
       · first
         | (exfalso; omega)
         | (refine w_push rfl ?_
            refine w_StI_6_5 rfl rfl ?_
            refine w_ldI rfl rfl ?_
            refine w_irLe0 rfl (by omega) (fun b37 => ?_) (fun b37 => ?_)
            · first
              | (exfalso; omega)
              | (refine w_ldI rfl rfl ?_
                 refine w_irEq0 rfl (by omega) (fun b46 => ?_) (fun b46 => ?_)
                 · first
                   | (exfalso; omega)
                   | (refine w_ldR rfl rfl rfl ?_
                      refine w_ldI rfl rfl ?_
                      refine w_callWI rfl rfl rfl rfl rfl rfl rfl (k_closes35 (b := T p.toNat) hK (by omega) i5 hTp (by omega) (by omega)) (fun v54 s54 p54 => ?_)
                      obtain ⟨rfl, e1, e2⟩ := p54
                      refine w_bEq0 rfl (fun b55 => ?_) (fun b55 => ?_)
                      · exact absurd hc b55
                      · first
                        | (exfalso; omega)
                        | (refine w_inc_6_3 rfl rfl ?_
                           refine w_go rfl ?_
                           refine w_go rfl ?_
                           obtain ⟨gK, gF⟩ := e1 hc
                           exact kk _ _ _ gK (Fr.mono rfl gF)))
                 · (exfalso; omega))
            · (exfalso; omega))
       · (exfalso; omega))
theorem y_rej35 {d : Nat} {s : mSt} {P : Int → mSt → Prop} {l4 l5 : Option mAV} {T : Nat → Int} {n p : Int} (hn : s 24 1 = n) (h50 : 0 ≤ n ∧ n ≤ 50) (hT : ∀ i : Nat, (i : Int) < n → s 25 i = T i) (hR : ∀ i : Nat, (i : Int) < n → 0 ≤ T i ∧ T i ≤ 255) {dr pe : List Int} {op dp cm : Int} (hK : KS35 s dr pe op dp cm) (hu : s 35 0 = 0) (hi : KI T n (false, p, dr, pe, op, dp, cm)) (hp : p < n) (hc : ¬ (T p.toNat = 41 ∧ ¬ dp = 0)) (hj : (rk (T p.toNat) = 0 ∨ (rk (T p.toNat) = 3 ∧ ¬ m_and cm (m_shl 1 dp) = 0))) (kk : P p s) : WP (d + 6) 39 19 [some (.inr (.inr 35)), some (.inr (.inr 24)), some (.inl 0), some (.inl (p)), l4, l5] [] (encA (s)) (QI P) := by
  obtain ⟨i1, i2, i3, i4, i5⟩ := hi
  have hTp := hR p.toNat (by omega)
  obtain ⟨h1, h2, h3, h4, h5, h6, h7, h0⟩ := id hK
  refine w_ldI rfl rfl ?_
  refine w_ldR rfl rfl rfl ?_
  first | refine w_getI rfl rfl rfl rfl rfl ?_ | refine w_getR rfl rfl rfl rfl rfl ?_
  rw [hn]
  refine w_crGe rfl (by omega) (by omega) (fun b22 => ?_) (fun b22 => ?_)
  · (exfalso; omega)
  · first
    | (exfalso; omega)
    | (refine w_ldR rfl rfl rfl ?_
       refine w_ldI rfl rfl ?_
       refine w_callV rfl rfl rfl rfl rfl rfl rfl (k_at24 (by omega) (by omega)) ?_
       rw [show rowAt s 24 p = T p.toNat from (if_pos (by omega)).trans (hT _ (by omega))]
       refine w_StI_6_4 rfl rfl ?_
       refine w_ldI rfl rfl ?_
       refine w_irEq0 rfl (by omega) (fun b28 => ?_) (fun b28 => ?_)
       · first
         | (exfalso; omega)
         | (refine w_push rfl ?_
            refine w_StI_6_5 rfl rfl ?_
            refine w_ldI rfl rfl ?_
            refine w_irLe0 rfl (by omega) (fun b37 => ?_) (fun b37 => ?_)
            · first
              | (exfalso; omega)
              | (refine w_ldI rfl rfl ?_
                 refine w_irEq0 rfl (by omega) (fun b46 => ?_) (fun b46 => ?_)
                 · first
                   | (exfalso; omega)
                   | (refine w_ldR rfl rfl rfl ?_
                      refine w_ldI rfl rfl ?_
                      refine w_callWI rfl rfl rfl rfl rfl rfl rfl (k_closes35 (b := T p.toNat) hK (by omega) i5 hTp (by omega) (by omega)) (fun v54 s54 p54 => ?_)
                      obtain ⟨rfl, e1, e2⟩ := p54
                      refine w_bEq0 rfl (fun b55 => ?_) (fun b55 => ?_)
                      · first
                        | (exfalso; omega)
                        | (have e3 := e2 hc
                           subst e3
                           refine w_ldI rfl rfl ?_
                           refine w_irNe0 rfl (by omega) (fun b59 => ?_) (fun b59 => ?_)
                           · (exfalso; omega)
                           · first
                             | (exfalso; omega)
                             | (refine w_ldR rfl rfl rfl ?_
                                refine w_ldI rfl rfl ?_
                                refine w_callWI rfl rfl rfl rfl rfl rfl rfl (k_joins35 (b := T p.toNat) hK (by omega) i5 hTp (by omega) (by omega)) (fun v62 s62 p62 => ?_)
                                obtain ⟨rfl, f1, f2⟩ := p62
                                refine w_bEq0 rfl (fun b63 => ?_) (fun b63 => ?_)
                                · first
                                  | (exfalso; omega)
                                  | (refine w_ldI rfl rfl ?_
                                     refine w_retI rfl ?_
                                     have f3 := f2 (fun z => z hj)
                                     subst f3
                                     exact kk)
                                · exact absurd hj b63))
                      · exact absurd b55 hc)
                 · (exfalso; omega))
            · (exfalso; omega))
       · (exfalso; omega))
theorem y_join_35 {d : Nat} {s : mSt} {P : Int → mSt → Prop} {l4 l5 : Option mAV} {T : Nat → Int} {n p : Int} (hn : s 24 1 = n) (h50 : 0 ≤ n ∧ n ≤ 50) (hT : ∀ i : Nat, (i : Int) < n → s 25 i = T i) (hR : ∀ i : Nat, (i : Int) < n → 0 ≤ T i ∧ T i ≤ 255) {dr pe : List Int} {op dp cm : Int} (hK : KS35 s dr pe op dp cm) (hu : s 35 0 = 0) (hi : KI T n (false, p, dr, pe, op, dp, cm)) (hp : p < n) (hc : ¬ (T p.toNat = 41 ∧ ¬ dp = 0)) (hj : ¬ (rk (T p.toNat) = 0 ∨ (rk (T p.toNat) = 3 ∧ ¬ m_and cm (m_shl 1 dp) = 0))) (kk : ∀ s1 l4 l5, KS35 s1 (wdP (rk (T p.toNat)) dr pe).1 (T p.toNat :: (wdP (rk (T p.toNat)) dr pe).2) op dp (cmK (T p.toNat) dp cm) → Fr [35, 39, 40, 41, 42] s s1 → WP (d + 6) 39 19 [some (.inr (.inr 35)), some (.inr (.inr 24)), some (.inl 1), some (.inl (p + 1)), l4, l5] [] (encA (s1)) (QI P)) : WP (d + 6) 39 19 [some (.inr (.inr 35)), some (.inr (.inr 24)), some (.inl 0), some (.inl (p)), l4, l5] [] (encA (s)) (QI P) := by
  obtain ⟨i1, i2, i3, i4, i5⟩ := hi
  have hTp := hR p.toNat (by omega)
  obtain ⟨h1, h2, h3, h4, h5, h6, h7, h0⟩ := id hK
  refine w_ldI rfl rfl ?_
  refine w_ldR rfl rfl rfl ?_
  first | refine w_getI rfl rfl rfl rfl rfl ?_ | refine w_getR rfl rfl rfl rfl rfl ?_
  rw [hn]
  refine w_crGe rfl (by omega) (by omega) (fun b22 => ?_) (fun b22 => ?_)
  · (exfalso; omega)
  · first
    | (exfalso; omega)
    | (refine w_ldR rfl rfl rfl ?_
       refine w_ldI rfl rfl ?_
       refine w_callV rfl rfl rfl rfl rfl rfl rfl (k_at24 (by omega) (by omega)) ?_
       rw [show rowAt s 24 p = T p.toNat from (if_pos (by omega)).trans (hT _ (by omega))]
       refine w_StI_6_4 rfl rfl ?_
       refine w_ldI rfl rfl ?_
       refine w_irEq0 rfl (by omega) (fun b28 => ?_) (fun b28 => ?_)
       · first
         | (exfalso; omega)
         | (refine w_push rfl ?_
            refine w_StI_6_5 rfl rfl ?_
            refine w_ldI rfl rfl ?_
            refine w_irLe0 rfl (by omega) (fun b37 => ?_) (fun b37 => ?_)
            · first
              | (exfalso; omega)
              | (refine w_ldI rfl rfl ?_
                 refine w_irEq0 rfl (by omega) (fun b46 => ?_) (fun b46 => ?_)
                 · first
                   | (exfalso; omega)
                   | (refine w_ldR rfl rfl rfl ?_
                      refine w_ldI rfl rfl ?_
                      refine w_callWI rfl rfl rfl rfl rfl rfl rfl (k_closes35 (b := T p.toNat) hK (by omega) i5 hTp (by omega) (by omega)) (fun v54 s54 p54 => ?_)
                      obtain ⟨rfl, e1, e2⟩ := p54
                      refine w_bEq0 rfl (fun b55 => ?_) (fun b55 => ?_)
                      · first
                        | (exfalso; omega)
                        | (have e3 := e2 hc
                           subst e3
                           refine w_ldI rfl rfl ?_
                           refine w_irNe0 rfl (by omega) (fun b59 => ?_) (fun b59 => ?_)
                           · (exfalso; omega)
                           · first
                             | (exfalso; omega)
                             | (refine w_ldR rfl rfl rfl ?_
                                refine w_ldI rfl rfl ?_
                                refine w_callWI rfl rfl rfl rfl rfl rfl rfl (k_joins35 (b := T p.toNat) hK (by omega) i5 hTp (by omega) (by omega)) (fun v62 s62 p62 => ?_)
                                obtain ⟨rfl, f1, f2⟩ := p62
                                refine w_bEq0 rfl (fun b63 => ?_) (fun b63 => ?_)
                                · exact absurd hj b63
                                · first
                                  | (exfalso; omega)
                                  | (refine w_push rfl ?_
                                     refine w_StI_6_2 rfl rfl ?_
                                     refine w_inc_6_3 rfl rfl ?_
                                     refine w_go rfl ?_
                                     refine w_go rfl ?_
                                     obtain ⟨gK, gF⟩ := f1 hj
                                     exact kk _ _ _ gK (Fr.mono rfl gF))))
                      · exact absurd b55 hc)
                 · (exfalso; omega))
            · (exfalso; omega))
       · (exfalso; omega))
theorem y_end35 {d : Nat} {s : mSt} {P : Int → mSt → Prop} {l4 l5 : Option mAV} {due : Bool} {T : Nat → Int} {n p : Int} (hn : s 24 1 = n) (h50 : 0 ≤ n ∧ n ≤ 50) (hT : ∀ i : Nat, (i : Int) < n → s 25 i = T i) (hR : ∀ i : Nat, (i : Int) < n → 0 ≤ T i ∧ T i ≤ 255) {dr pe : List Int} {op dp cm : Int} (hK : KS35 s dr pe op dp cm) (hu : s 35 0 = 0) (hi : KI T n (due, p, dr, pe, op, dp, cm)) (hp : ¬ p < n) (hc : due = true ∨ 0 < dp) (kk : P p s) : WP (d + 6) 39 19 [some (.inr (.inr 35)), some (.inr (.inr 24)), some (.inl (dI due)), some (.inl (p)), l4, l5] [] (encA (s)) (QI P) := by
  obtain ⟨i1, i2, i3, i4, i5⟩ := hi
  obtain ⟨h1, h2, h3, h4, h5, h6, h7, h0⟩ := id hK
  have hd : (due = true ∧ dI due = 1) ∨ (due = false ∧ dI due = 0) := by
    cases due
    · exact Or.inr ⟨rfl, rfl⟩
    · exact Or.inl ⟨rfl, rfl⟩
  refine w_ldI rfl rfl ?_
  refine w_ldR rfl rfl rfl ?_
  first | refine w_getI rfl rfl rfl rfl rfl ?_ | refine w_getR rfl rfl rfl rfl rfl ?_
  rw [hn]
  refine w_crGe rfl (by omega) (by omega) (fun b22 => ?_) (fun b22 => ?_)
  · first
    | (exfalso; omega)
    | (refine w_ldI rfl rfl ?_
       refine w_irNe0 rfl (by omega) (fun b72 => ?_) (fun b72 => ?_)
       · first
         | (exfalso; omega)
         | (refine w_ldI rfl rfl ?_
            refine w_retI rfl ?_
            exact kk)
       · first
         | (exfalso; omega)
         | (refine w_ldR rfl rfl rfl ?_
            first | refine w_getI rfl rfl rfl rfl rfl ?_ | refine w_getR rfl rfl rfl rfl rfl ?_
            rw [h6]
            refine w_irLe0 rfl (by omega) (fun b75 => ?_) (fun b75 => ?_)
            · exfalso
              rcases hc with z | z
              · rcases hd with w | w
                · omega
                · rw [z] at w; exact absurd w.1 (by decide)
              · omega
            · first
              | (exfalso; omega)
              | (refine w_ldI rfl rfl ?_
                 refine w_retI rfl ?_
                 exact kk)))
  · (exfalso; omega)
theorem y_done35 {d : Nat} {s : mSt} {P : Int → mSt → Prop} {l4 l5 : Option mAV} {T : Nat → Int} {n p : Int} (hn : s 24 1 = n) (h50 : 0 ≤ n ∧ n ≤ 50) (hT : ∀ i : Nat, (i : Int) < n → s 25 i = T i) (hR : ∀ i : Nat, (i : Int) < n → 0 ≤ T i ∧ T i ≤ 255) {dr pe : List Int} {op dp cm : Int} (hK : KS35 s dr pe op dp cm) (hu : s 35 0 = 0) (hi : KI T n (false, p, dr, pe, op, dp, cm)) (hp : ¬ p < n) (hc : ¬ 0 < dp) (kk : (∀ s1 : mSt, s1 36 1 = ((wdP 1 dr pe).1.length : Int) → (∀ i : Nat, i < (wdP 1 dr pe).1.length → s1 37 i = (wdP 1 dr pe).1.getD i 0) → Fr [35, 36, 37, 39, 40, 41, 42] s s1 → s1 35 0 = s 35 0 → P (-1) s1)) : WP (d + 6) 39 19 [some (.inr (.inr 35)), some (.inr (.inr 24)), some (.inl 0), some (.inl (p)), l4, l5] [] (encA (s)) (QI P) := by
  obtain ⟨i1, i2, i3, i4, i5⟩ := hi
  obtain ⟨h1, h2, h3, h4, h5, h6, h7, h0⟩ := id hK
  obtain ⟨l1, l2, l3⟩ := wdP_len (r := 1) pe dr
  refine w_ldI rfl rfl ?_
  refine w_ldR rfl rfl rfl ?_
  first | refine w_getI rfl rfl rfl rfl rfl ?_ | refine w_getR rfl rfl rfl rfl rfl ?_
  rw [hn]
  refine w_crGe rfl (by omega) (by omega) (fun b22 => ?_) (fun b22 => ?_)
  · first
    | (exfalso; omega)
    | (refine w_ldI rfl rfl ?_
       refine w_irNe0 rfl (by omega) (fun b72 => ?_) (fun b72 => ?_)
       · (exfalso; omega)
       · first
         | (exfalso; omega)
         | (refine w_ldR rfl rfl rfl ?_
            first | refine w_getI rfl rfl rfl rfl rfl ?_ | refine w_getR rfl rfl rfl rfl rfl ?_
            rw [h6]
            refine w_irLe0 rfl (by omega) (fun b75 => ?_) (fun b75 => ?_)
            · first
              | (exfalso; omega)
              | (refine w_ldR rfl rfl rfl ?_
                 refine w_push rfl ?_
                 refine w_callWN rfl rfl rfl rfl rfl rfl rfl (k_wd35 (r := 0) (by omega) hK (by omega) i5) (fun s80 p80 => ?_)
                 obtain ⟨gK, gF⟩ := p80
                 rw [show max (1 : Int) 0 = 1 by decide] at gK
                 obtain ⟨g1, g2, g3, g4, g5, g6, g7, g0⟩ := id gK
                 refine w_ldR rfl rfl rfl ?_
                 first | refine w_getI rfl rfl rfl rfl rfl ?_ | refine w_getR rfl rfl rfl rfl rfl ?_
                 refine w_ldR rfl rfl rfl ?_
                 first | refine w_getI rfl rfl rfl rfl rfl ?_ | refine w_getR rfl rfl rfl rfl rfl ?_
                 refine w_callWN rfl rfl rfl rfl rfl rfl rfl (k_copyR36_39 (by omega)) (fun s85 p85 => ?_)
                 obtain ⟨z1, z2, z3⟩ := p85
                 refine w_push rfl ?_
                 refine w_retI rfl ?_
                 exact kk _ (z1.trans g1) (fun i hi => (z2 (i : Int) (by omega) (by omega)).trans (g2 i hi)) (Fr.tr (Fr.mono rfl gF) (Fr.mono rfl z3)) ((congrFun (z3.at 35 rfl) 0).trans (congrFun (gF.at 35 rfl) 0)))
            · (exfalso; omega)))
  · (exfalso; omega)
theorem y_read35 {d : Nat} {P : Int → mSt → Prop} {T : Nat → Int} {n : Int} {r : Int × List Int} (h50 : 0 ≤ n ∧ n ≤ 50) (hR : ∀ i : Nat, (i : Int) < n → 0 ≤ T i ∧ T i ≤ 255) : ∀ (m : Nat) (s : mSt) (l4 l5 : Option mAV) (due : Bool) (p : Int) (dr pe : List Int) (op dp cm : Int), s 24 1 = n → (∀ i : Nat, (i : Int) < n → s 25 i = T i) → KS35 s dr pe op dp cm → s 35 0 = 0 → krun T n 0 m (due, p, dr, pe, op, dp, cm) = some r → KI T n (due, p, dr, pe, op, dp, cm) → (∀ s1 : mSt, Fr [35, 36, 37, 39, 40, 41, 42] s s1 → s1 35 0 = 0 → (r.1 < 0 → s1 36 1 = (r.2.length : Int) ∧ ∀ i : Nat, i < r.2.length → s1 37 i = r.2.getD i 0) → (0 ≤ r.1 → s1 36 = s 36 ∧ s1 37 = s 37) → P r.1 s1) → WP (d + 6) 39 19 [some (.inr (.inr 35)), some (.inr (.inr 24)), some (.inl (dI due)), some (.inl (p)), l4, l5] [] (encA (s)) (QI P)
  | 0, _, _, _, _, _, _, _, _, _, _, _, _, _, _, e, _, _ => by cases e
  | m + 1, s, l4, l5, due, p, dr, pe, op, dp, cm, hn, hT, hK, hu, e, hi, kk => by
    have next : ∀ (due1 : Bool) (p1 : Int) (dr1 pe1 : List Int) (op1 dp1 cm1 : Int), kstep T n 0 (due, p, dr, pe, op, dp, cm) = .inl (due1, p1, dr1, pe1, op1, dp1, cm1) → ∀ s1 l4 l5, KS35 s1 dr1 pe1 op1 dp1 cm1 → Fr [35, 39, 40, 41, 42] s s1 → WP (d + 6) 39 19 [some (.inr (.inr 35)), some (.inr (.inr 24)), some (.inl (dI due1)), some (.inl (p1)), l4, l5] [] (encA (s1)) (QI P) := fun due1 p1 dr1 pe1 op1 dp1 cm1 es s1 l4 l5 gK gF => y_read35 h50 hR m s1 l4 l5 due1 p1 dr1 pe1 op1 dp1 cm1 ((congrFun (gF.at 24 rfl) 1).trans hn) (fun i hi => (congrFun (gF.at 25 rfl) i).trans (hT i hi)) gK gK.2.2.2.2.2.2.2 (kr_l es e) (hi.step hR es) (fun s2 g1 gq g2 g3 => kk s2 (Fr.tr (Fr.mono rfl gF) g1) gq g2 (fun z => ⟨(g3 z).1.trans (gF.at 36 rfl), (g3 z).2.trans (gF.at 37 rfl)⟩))
    have stop : ∀ f : Int, 0 ≤ f → kstep T n 0 (due, p, dr, pe, op, dp, cm) = .inr (f, []) → P f s := fun f hf es => by
      have e1 := kr_r es e
      have k1 := kk s Fr.rf hu (fun z => by rw [← e1] at z; exact absurd z (by show ¬ f < 0; omega)) (fun _ => ⟨rfl, rfl⟩)
      rw [← e1] at k1
      exact k1
    have hp0 : 0 ≤ p := hi.1.1
    by_cases hp : p < n
    · cases due with
      | true =>
        by_cases hc : (0 < dkK T n p ∨ 0 ≤ nmF 0 (T p.toNat))
        · exact y_opd35 hn h50 hT hR hK hu hi hp hc (fun s1 l4 l5 gK gF => next _ _ _ _ _ _ _ (ks_opd hp hc) s1 l4 l5 gK gF)
        · by_cases ho : ((T p.toNat = 33 ∨ T p.toNat = 40) ∧ op < 5)
          · exact y_open35 hn h50 hT hR hK hu hi hp hc ho (fun s1 l4 l5 gK gF => next _ _ _ _ _ _ _ (ks_open hp hc ho) s1 l4 l5 gK gF)
          · exact y_bad35 hn h50 hT hR hK hu hi hp hc ho (stop p hp0 (ks_bad hp hc ho))
      | false =>
        by_cases hc : (T p.toNat = 41 ∧ ¬ dp = 0)
        · exact y_close35 hn h50 hT hR hK hu hi hp hc (fun s1 l4 l5 gK gF => next _ _ _ _ _ _ _ (ks_close hp hc) s1 l4 l5 gK gF)
        · by_cases hj : (rk (T p.toNat) = 0 ∨ (rk (T p.toNat) = 3 ∧ ¬ m_and cm (m_shl 1 dp) = 0))
          · exact y_rej35 hn h50 hT hR hK hu hi hp hc hj (stop p hp0 (ks_rej hp hc hj))
          · exact y_join_35 hn h50 hT hR hK hu hi hp hc hj (fun s1 l4 l5 gK gF => next _ _ _ _ _ _ _ (ks_join hp hc hj) s1 l4 l5 gK gF)
    · by_cases hc : due = true ∨ 0 < dp
      · exact y_end35 hn h50 hT hR hK hu hi hp hc (stop p hp0 (ks_end hp hc))
      · cases due with
        | true => exact absurd (Or.inl rfl) hc
        | false =>
          have hd : ¬ 0 < dp := fun z => hc (Or.inr z)
          refine y_done35 hn h50 hT hR hK hu hi hp hd (fun s1 z1 z2 z3 z4 => ?_)
          have e1 := kr_r (ks_done hp hd) e
          have k1 := kk s1 z3 (z4.trans hu) (fun _ => by rw [← e1]; exact ⟨z1, z2⟩) (fun z => by rw [← e1] at z; exact absurd z (by show ¬ (0 : Int) ≤ -1; omega))
          rw [← e1] at k1
          exact k1
theorem k_read35 {d : Nat} {s : mSt} {T : Nat → Int} {n : Int} {r : Int × List Int} (hn : s 24 1 = n) (h50 : 0 ≤ n ∧ n ≤ 50) (hT : ∀ i : Nat, (i : Int) < n → s 25 i = T i) (hR : ∀ i : Nat, (i : Int) < n → 0 ≤ T i ∧ T i ≤ 255) (hu : s 35 0 = 0) (hk : Kfi T n 0 (true, 0, [], [], 0, 0, 0) r) : CI (d + 6) 39 [.inr (.inr 35), .inr (.inr 24)] (s) (fun v s1 => v = r.1 ∧ Fr [35, 36, 37, 39, 40, 41, 42] s s1 ∧ s1 35 0 = 0 ∧ (r.1 < 0 → s1 36 1 = (r.2.length : Int) ∧ ∀ i : Nat, i < r.2.length → s1 37 i = r.2.getD i 0) ∧ (0 ≤ r.1 → s1 36 = s 36 ∧ s1 37 = s 37)) := by
  refine CI.mk rfl ?_
  show WP (d + 6) 39 0 [some (.inr (.inr 35)), some (.inr (.inr 24)), none, none, none, none] [] (encA (s)) _
  refine w_ldR rfl rfl rfl ?_
  first | refine w_getI rfl rfl rfl rfl rfl ?_ | refine w_getR rfl rfl rfl rfl rfl ?_
  refine w_callWN rfl rfl rfl rfl rfl rfl rfl k_empty39 (fun s2 p2 => ?_)
  subst p2
  refine w_ldR rfl rfl rfl ?_
  first | refine w_getI rfl rfl rfl rfl rfl ?_ | refine w_getR rfl rfl rfl rfl rfl ?_
  refine w_callWN rfl rfl rfl rfl rfl rfl rfl k_empty41 (fun s5 p5 => ?_)
  subst p5
  refine w_ldR rfl rfl rfl ?_
  refine w_push rfl ?_
  refine w_putI rfl rfl rfl rfl rfl rfl rfl ?_
  refine w_ldR rfl rfl rfl ?_
  refine w_push rfl ?_
  refine w_putI rfl rfl rfl rfl rfl rfl rfl ?_
  refine w_ldR rfl rfl rfl ?_
  refine w_push rfl ?_
  refine w_putI rfl rfl rfl rfl rfl rfl rfl ?_
  refine w_push rfl ?_
  refine w_StI_6_2 rfl rfl ?_
  refine w_push rfl ?_
  refine w_StI_6_3 rfl rfl ?_
  obtain ⟨m, e⟩ := hk
  have fS := Fr.tr (Fr.tr (Fr.tr (Fr.tr (Fr.us (A := [35, 39, 40, 41, 42]) (s := s) (a := 39) (i := 1) (v := 0) rfl) (Fr.us (a := 41) (i := 1) (v := 0) rfl)) (Fr.us (a := 35) (i := 5) (v := 0) rfl)) (Fr.us (a := 35) (i := 6) (v := 0) rfl)) (Fr.us (a := 35) (i := 7) (v := 0) rfl)
  refine y_read35 h50 hR m _ none none true 0 [] [] 0 0 0 ((congrFun (fS.at 24 rfl) 1).trans hn) (fun i hi => (congrFun (fS.at 25 rfl) i).trans (hT i hi)) ⟨?_, ?_, ?_, ?_, ?_, ?_, ?_, ?_⟩ ?_ e ⟨by omega, by show (0 : Int) + 0 ≤ 0; omega, by show -2 * (0 : Int) + 0 ≤ 0 ∧ (0 : Int) ≤ 5; omega, by omega, fun c hc => absurd hc List.not_mem_nil⟩ (fun s1 g1 gq g2 g3 => ⟨rfl, Fr.tr (Fr.mono rfl fS) g1, gq, g2, fun z => ⟨(g3 z).1.trans (fS.at 36 rfl), (g3 z).2.trans (fS.at 37 rfl)⟩⟩)
  · rw [us_ne (by decide), us_ne (by decide), us_ne (by decide), us_ne (by decide), us_eq, mup_eq]; rfl
  · exact fun i hi => absurd hi (Nat.not_lt_zero i)
  · rw [us_ne (by decide), us_ne (by decide), us_ne (by decide), us_eq, mup_eq]; rfl
  · exact trivial
  · rw [us_eq, us_eq, us_eq]; rfl
  · rw [us_eq, us_eq, us_eq]; rfl
  · rw [us_eq, us_eq, us_eq]; rfl
  · rw [us_eq, us_eq, us_eq, us_ne (by decide), us_ne (by decide)]; exact hu
  · rw [us_eq, us_eq, us_eq, us_ne (by decide), us_ne (by decide)]; exact hu
theorem y_opd43 {d : Nat} {s : mSt} {P : Int → mSt → Prop} {l4 l5 : Option mAV} {T : Nat → Int} {n p : Int} (hn : s 24 1 = n) (h50 : 0 ≤ n ∧ n ≤ 50) (hT : ∀ i : Nat, (i : Int) < n → s 25 i = T i) (hR : ∀ i : Nat, (i : Int) < n → 0 ≤ T i ∧ T i ≤ 255) {dr pe : List Int} {op dp cm : Int} (hK : KS43 s dr pe op dp cm) (hu : s 43 0 = 1) (hi : KI T n (true, p, dr, pe, op, dp, cm)) (hp : p < n) (hc : (0 < dkK T n p ∨ 0 ≤ nmF 1 (T p.toNat))) (kk : ∀ s1 l4 l5, KS43 s1 (wnP (dr ++ [odK T n 1 p]) pe op).1 (wnP (dr ++ [odK T n 1 p]) pe op).2.1 (wnP (dr ++ [odK T n 1 p]) pe op).2.2 dp cm → Fr [43, 47, 48, 49, 50] s s1 → WP (d + 6) 39 19 [some (.inr (.inr 43)), some (.inr (.inr 24)), some (.inl 0), some (.inl (p + odP T n p)), l4, l5] [] (encA (s1)) (QI P)) : WP (d + 6) 39 19 [some (.inr (.inr 43)), some (.inr (.inr 24)), some (.inl 1), some (.inl (p)), l4, l5] [] (encA (s)) (QI P) := by
  obtain ⟨i1, i2, i3, i4, i5⟩ := hi
  have hTp := hR p.toNat (by omega)
  obtain ⟨h1, h2, h3, h4, h5, h6, h7, h0⟩ := id hK
  refine w_ldI rfl rfl ?_
  refine w_ldR rfl rfl rfl ?_
  first | refine w_getI rfl rfl rfl rfl rfl ?_ | refine w_getR rfl rfl rfl rfl rfl ?_
  rw [hn]
  refine w_crGe rfl (by omega) (by omega) (fun b22 => ?_) (fun b22 => ?_)
  · (exfalso; omega)
  · first
    | (exfalso; omega)
    | (refine w_ldR rfl rfl rfl ?_
       refine w_ldI rfl rfl ?_
       refine w_callV rfl rfl rfl rfl rfl rfl rfl (k_at24 (by omega) (by omega)) ?_
       rw [show rowAt s 24 p = T p.toNat from (if_pos (by omega)).trans (hT _ (by omega))]
       refine w_StI_6_4 rfl rfl ?_
       refine w_ldI rfl rfl ?_
       refine w_irEq0 rfl (by omega) (fun b28 => ?_) (fun b28 => ?_)
       · (exfalso; omega)
       · first
         | (exfalso; omega)
         | (refine w_ldR rfl rfl rfl ?_
            refine w_ldR rfl rfl rfl ?_
            refine w_ldI rfl rfl ?_
            refine w_callWI rfl rfl rfl rfl rfl rfl rfl (k_tk43 hn h50 hT hR (by omega) hK hu (by omega) i5) (fun v32 s32 p32 => ?_)
            obtain ⟨q1, q2⟩ := p32
            obtain ⟨rfl, gK, gF⟩ := q2 hc
            have hod := odP_rng (T := T) hp
            refine w_go rfl ?_
            refine w_StI_6_5 rfl rfl ?_
            refine w_ldI rfl rfl ?_
            refine w_irLe0 rfl (by omega) (fun b37 => ?_) (fun b37 => ?_)
            · (exfalso; omega)
            · first
              | (exfalso; omega)
              | (refine w_push rfl ?_
                 refine w_StI_6_2 rfl rfl ?_
                 refine w_ldI rfl rfl ?_
                 refine w_ldI rfl rfl ?_
                 refine w_add rfl ?_
                 refine w_StI_6_3 rfl rfl ?_
                 refine w_go rfl ?_
                 refine w_go rfl ?_
                 exact kk _ _ _ gK (Fr.mono rfl gF))))
theorem y_open43 {d : Nat} {s : mSt} {P : Int → mSt → Prop} {l4 l5 : Option mAV} {T : Nat → Int} {n p : Int} (hn : s 24 1 = n) (h50 : 0 ≤ n ∧ n ≤ 50) (hT : ∀ i : Nat, (i : Int) < n → s 25 i = T i) (hR : ∀ i : Nat, (i : Int) < n → 0 ≤ T i ∧ T i ≤ 255) {dr pe : List Int} {op dp cm : Int} (hK : KS43 s dr pe op dp cm) (hu : s 43 0 = 1) (hi : KI T n (true, p, dr, pe, op, dp, cm)) (hp : p < n) (hc : ¬ (0 < dkK T n p ∨ 0 ≤ nmF 1 (T p.toNat))) (ho : ((T p.toNat = 33 ∨ T p.toNat = 40) ∧ op < 5)) (kk : ∀ s1 l4 l5, KS43 s1 dr (T p.toNat :: pe) (op + 1) (onD (T p.toNat) dp) (onC (T p.toNat) dp cm) → Fr [43, 47, 48, 49, 50] s s1 → WP (d + 6) 39 19 [some (.inr (.inr 43)), some (.inr (.inr 24)), some (.inl 1), some (.inl (p + 1)), l4, l5] [] (encA (s1)) (QI P)) : WP (d + 6) 39 19 [some (.inr (.inr 43)), some (.inr (.inr 24)), some (.inl 1), some (.inl (p)), l4, l5] [] (encA (s)) (QI P) := by
  obtain ⟨i1, i2, i3, i4, i5⟩ := hi
  have hTp := hR p.toNat (by omega)
  obtain ⟨h1, h2, h3, h4, h5, h6, h7, h0⟩ := id hK
  refine w_ldI rfl rfl ?_
  refine w_ldR rfl rfl rfl ?_
  first | refine w_getI rfl rfl rfl rfl rfl ?_ | refine w_getR rfl rfl rfl rfl rfl ?_
  rw [hn]
  refine w_crGe rfl (by omega) (by omega) (fun b22 => ?_) (fun b22 => ?_)
  · (exfalso; omega)
  · first
    | (exfalso; omega)
    | (refine w_ldR rfl rfl rfl ?_
       refine w_ldI rfl rfl ?_
       refine w_callV rfl rfl rfl rfl rfl rfl rfl (k_at24 (by omega) (by omega)) ?_
       rw [show rowAt s 24 p = T p.toNat from (if_pos (by omega)).trans (hT _ (by omega))]
       refine w_StI_6_4 rfl rfl ?_
       refine w_ldI rfl rfl ?_
       refine w_irEq0 rfl (by omega) (fun b28 => ?_) (fun b28 => ?_)
       · (exfalso; omega)
       · first
         | (exfalso; omega)
         | (refine w_ldR rfl rfl rfl ?_
            refine w_ldR rfl rfl rfl ?_
            refine w_ldI rfl rfl ?_
            refine w_callWI rfl rfl rfl rfl rfl rfl rfl (k_tk43 hn h50 hT hR (by omega) hK hu (by omega) i5) (fun v32 s32 p32 => ?_)
            obtain ⟨q1, q2⟩ := p32
            have q3 := q1 hc
            obtain ⟨rfl, rfl⟩ := q3
            refine w_go rfl ?_
            refine w_StI_6_5 rfl rfl ?_
            refine w_ldI rfl rfl ?_
            refine w_irLe0 rfl (by omega) (fun b37 => ?_) (fun b37 => ?_)
            · first
              | (exfalso; omega)
              | (refine w_ldI rfl rfl ?_
                 refine w_irEq0 rfl (by omega) (fun b46 => ?_) (fun b46 => ?_)
                 · (exfalso; omega)
                 · first
                   | (exfalso; omega)
                   | (refine w_ldR rfl rfl rfl ?_
                      refine w_ldI rfl rfl ?_
                      refine w_callWI rfl rfl rfl rfl rfl rfl rfl (k_opens43 (b := T p.toNat) hK (by omega) i5 hTp (by omega) (by omega)) (fun v49 s49 p49 => ?_)
                      obtain ⟨rfl, e1, e2⟩ := p49
                      refine w_bEq0 rfl (fun b50 => ?_) (fun b50 => ?_)
                      · exact absurd ho b50
                      · first
                        | (exfalso; omega)
                        | (refine w_go rfl ?_
                           refine w_inc_6_3 rfl rfl ?_
                           refine w_go rfl ?_
                           refine w_go rfl ?_
                           obtain ⟨gK, gF⟩ := e1 ho
                           exact kk _ _ _ gK (Fr.mono rfl gF))))
            · (exfalso; omega)))
theorem y_bad43 {d : Nat} {s : mSt} {P : Int → mSt → Prop} {l4 l5 : Option mAV} {T : Nat → Int} {n p : Int} (hn : s 24 1 = n) (h50 : 0 ≤ n ∧ n ≤ 50) (hT : ∀ i : Nat, (i : Int) < n → s 25 i = T i) (hR : ∀ i : Nat, (i : Int) < n → 0 ≤ T i ∧ T i ≤ 255) {dr pe : List Int} {op dp cm : Int} (hK : KS43 s dr pe op dp cm) (hu : s 43 0 = 1) (hi : KI T n (true, p, dr, pe, op, dp, cm)) (hp : p < n) (hc : ¬ (0 < dkK T n p ∨ 0 ≤ nmF 1 (T p.toNat))) (ho : ¬ ((T p.toNat = 33 ∨ T p.toNat = 40) ∧ op < 5)) (kk : P p s) : WP (d + 6) 39 19 [some (.inr (.inr 43)), some (.inr (.inr 24)), some (.inl 1), some (.inl (p)), l4, l5] [] (encA (s)) (QI P) := by
  obtain ⟨i1, i2, i3, i4, i5⟩ := hi
  have hTp := hR p.toNat (by omega)
  obtain ⟨h1, h2, h3, h4, h5, h6, h7, h0⟩ := id hK
  refine w_ldI rfl rfl ?_
  refine w_ldR rfl rfl rfl ?_
  first | refine w_getI rfl rfl rfl rfl rfl ?_ | refine w_getR rfl rfl rfl rfl rfl ?_
  rw [hn]
  refine w_crGe rfl (by omega) (by omega) (fun b22 => ?_) (fun b22 => ?_)
  · (exfalso; omega)
  · first
    | (exfalso; omega)
    | (refine w_ldR rfl rfl rfl ?_
       refine w_ldI rfl rfl ?_
       refine w_callV rfl rfl rfl rfl rfl rfl rfl (k_at24 (by omega) (by omega)) ?_
       rw [show rowAt s 24 p = T p.toNat from (if_pos (by omega)).trans (hT _ (by omega))]
       refine w_StI_6_4 rfl rfl ?_
       refine w_ldI rfl rfl ?_
       refine w_irEq0 rfl (by omega) (fun b28 => ?_) (fun b28 => ?_)
       · (exfalso; omega)
       · first
         | (exfalso; omega)
         | (refine w_ldR rfl rfl rfl ?_
            refine w_ldR rfl rfl rfl ?_
            refine w_ldI rfl rfl ?_
            refine w_callWI rfl rfl rfl rfl rfl rfl rfl (k_tk43 hn h50 hT hR (by omega) hK hu (by omega) i5) (fun v32 s32 p32 => ?_)
            obtain ⟨q1, q2⟩ := p32
            have q3 := q1 hc
            obtain ⟨rfl, rfl⟩ := q3
            refine w_go rfl ?_
            refine w_StI_6_5 rfl rfl ?_
            refine w_ldI rfl rfl ?_
            refine w_irLe0 rfl (by omega) (fun b37 => ?_) (fun b37 => ?_)
            · first
              | (exfalso; omega)
              | (refine w_ldI rfl rfl ?_
                 refine w_irEq0 rfl (by omega) (fun b46 => ?_) (fun b46 => ?_)
                 · (exfalso; omega)
                 · first
                   | (exfalso; omega)
                   | (refine w_ldR rfl rfl rfl ?_
                      refine w_ldI rfl rfl ?_
                      refine w_callWI rfl rfl rfl rfl rfl rfl rfl (k_opens43 (b := T p.toNat) hK (by omega) i5 hTp (by omega) (by omega)) (fun v49 s49 p49 => ?_)
                      obtain ⟨rfl, e1, e2⟩ := p49
                      refine w_bEq0 rfl (fun b50 => ?_) (fun b50 => ?_)
                      · first
                        | (exfalso; omega)
                        | (refine w_ldI rfl rfl ?_
                           refine w_irNe0 rfl (by omega) (fun b59 => ?_) (fun b59 => ?_)
                           · first
                             | (exfalso; omega)
                             | (refine w_ldI rfl rfl ?_
                                refine w_retI rfl ?_
                                have e3 := e2 ho
                                subst e3
                                exact kk)
                           · (exfalso; omega))
                      · exact absurd b50 ho))
            · (exfalso; omega)))
theorem y_close43 {d : Nat} {s : mSt} {P : Int → mSt → Prop} {l4 l5 : Option mAV} {T : Nat → Int} {n p : Int} (hn : s 24 1 = n) (h50 : 0 ≤ n ∧ n ≤ 50) (hT : ∀ i : Nat, (i : Int) < n → s 25 i = T i) (hR : ∀ i : Nat, (i : Int) < n → 0 ≤ T i ∧ T i ≤ 255) {dr pe : List Int} {op dp cm : Int} (hK : KS43 s dr pe op dp cm) (hu : s 43 0 = 1) (hi : KI T n (false, p, dr, pe, op, dp, cm)) (hp : p < n) (hc : (T p.toNat = 41 ∧ ¬ dp = 0)) (kk : ∀ s1 l4 l5, KS43 s1 (wnP (wdP 1 dr pe).1 (wdP 1 dr pe).2.tail (op - 1)).1 (wnP (wdP 1 dr pe).1 (wdP 1 dr pe).2.tail (op - 1)).2.1 (wnP (wdP 1 dr pe).1 (wdP 1 dr pe).2.tail (op - 1)).2.2 (dp - 1) cm → Fr [43, 47, 48, 49, 50] s s1 → WP (d + 6) 39 19 [some (.inr (.inr 43)), some (.inr (.inr 24)), some (.inl 0), some (.inl (p + 1)), l4, l5] [] (encA (s1)) (QI P)) : WP (d + 6) 39 19 [some (.inr (.inr 43)), some (.inr (.inr 24)), some (.inl 0), some (.inl (p)), l4, l5] [] (encA (s)) (QI P) := by
  obtain ⟨i1, i2, i3, i4, i5⟩ := hi
  have hTp := hR p.toNat (by omega)
  obtain ⟨h1, h2, h3, h4, h5, h6, h7, h0⟩ := id hK
  refine w_ldI rfl rfl ?_
  refine w_ldR rfl rfl rfl ?_
  first | refine w_getI rfl rfl rfl rfl rfl ?_ | refine w_getR rfl rfl rfl rfl rfl ?_
  rw [hn]
  refine w_crGe rfl (by omega) (by omega) (fun b22 => ?_) (fun b22 => ?_)
  · (exfalso; omega)
  · first
    | (exfalso; omega)
    | (refine w_ldR rfl rfl rfl ?_
       refine w_ldI rfl rfl ?_
       refine w_callV rfl rfl rfl rfl rfl rfl rfl (k_at24 (by omega) (by omega)) ?_
       rw [show rowAt s 24 p = T p.toNat from (if_pos (by omega)).trans (hT _ (by omega))]
       refine w_StI_6_4 rfl rfl ?_
       refine w_ldI rfl rfl ?_
       refine w_irEq0 rfl (by omega) (fun b28 => ?_) (fun b28 => ?_)
       · first
         | (exfalso; omega)
         | (refine w_push rfl ?_
            refine w_StI_6_5 rfl rfl ?_
            refine w_ldI rfl rfl ?_
            refine w_irLe0 rfl (by omega) (fun b37 => ?_) (fun b37 => ?_)
            · first
              | (exfalso; omega)
              | (refine w_ldI rfl rfl ?_
                 refine w_irEq0 rfl (by omega) (fun b46 => ?_) (fun b46 => ?_)
                 · first
                   | (exfalso; omega)
                   | (refine w_ldR rfl rfl rfl ?_
                      refine w_ldI rfl rfl ?_
                      refine w_callWI rfl rfl rfl rfl rfl rfl rfl (k_closes43 (b := T p.toNat) hK (by omega) i5 hTp (by omega) (by omega)) (fun v54 s54 p54 => ?_)
                      obtain ⟨rfl, e1, e2⟩ := p54
                      refine w_bEq0 rfl (fun b55 => ?_) (fun b55 => ?_)
                      · exact absurd hc b55
                      · first
                        | (exfalso; omega)
                        | (refine w_inc_6_3 rfl rfl ?_
                           refine w_go rfl ?_
                           refine w_go rfl ?_
                           obtain ⟨gK, gF⟩ := e1 hc
                           exact kk _ _ _ gK (Fr.mono rfl gF)))
                 · (exfalso; omega))
            · (exfalso; omega))
       · (exfalso; omega))
theorem y_rej43 {d : Nat} {s : mSt} {P : Int → mSt → Prop} {l4 l5 : Option mAV} {T : Nat → Int} {n p : Int} (hn : s 24 1 = n) (h50 : 0 ≤ n ∧ n ≤ 50) (hT : ∀ i : Nat, (i : Int) < n → s 25 i = T i) (hR : ∀ i : Nat, (i : Int) < n → 0 ≤ T i ∧ T i ≤ 255) {dr pe : List Int} {op dp cm : Int} (hK : KS43 s dr pe op dp cm) (hu : s 43 0 = 1) (hi : KI T n (false, p, dr, pe, op, dp, cm)) (hp : p < n) (hc : ¬ (T p.toNat = 41 ∧ ¬ dp = 0)) (hj : (rk (T p.toNat) = 0 ∨ (rk (T p.toNat) = 3 ∧ ¬ m_and cm (m_shl 1 dp) = 0))) (kk : P p s) : WP (d + 6) 39 19 [some (.inr (.inr 43)), some (.inr (.inr 24)), some (.inl 0), some (.inl (p)), l4, l5] [] (encA (s)) (QI P) := by
  obtain ⟨i1, i2, i3, i4, i5⟩ := hi
  have hTp := hR p.toNat (by omega)
  obtain ⟨h1, h2, h3, h4, h5, h6, h7, h0⟩ := id hK
  refine w_ldI rfl rfl ?_
  refine w_ldR rfl rfl rfl ?_
  first | refine w_getI rfl rfl rfl rfl rfl ?_ | refine w_getR rfl rfl rfl rfl rfl ?_
  rw [hn]
  refine w_crGe rfl (by omega) (by omega) (fun b22 => ?_) (fun b22 => ?_)
  · (exfalso; omega)
  · first
    | (exfalso; omega)
    | (refine w_ldR rfl rfl rfl ?_
       refine w_ldI rfl rfl ?_
       refine w_callV rfl rfl rfl rfl rfl rfl rfl (k_at24 (by omega) (by omega)) ?_
       rw [show rowAt s 24 p = T p.toNat from (if_pos (by omega)).trans (hT _ (by omega))]
       refine w_StI_6_4 rfl rfl ?_
       refine w_ldI rfl rfl ?_
       refine w_irEq0 rfl (by omega) (fun b28 => ?_) (fun b28 => ?_)
       · first
         | (exfalso; omega)
         | (refine w_push rfl ?_
            refine w_StI_6_5 rfl rfl ?_
            refine w_ldI rfl rfl ?_
            refine w_irLe0 rfl (by omega) (fun b37 => ?_) (fun b37 => ?_)
            · first
              | (exfalso; omega)
              | (refine w_ldI rfl rfl ?_
                 refine w_irEq0 rfl (by omega) (fun b46 => ?_) (fun b46 => ?_)
                 · first
                   | (exfalso; omega)
                   | (refine w_ldR rfl rfl rfl ?_
                      refine w_ldI rfl rfl ?_
                      refine w_callWI rfl rfl rfl rfl rfl rfl rfl (k_closes43 (b := T p.toNat) hK (by omega) i5 hTp (by omega) (by omega)) (fun v54 s54 p54 => ?_)
                      obtain ⟨rfl, e1, e2⟩ := p54
                      refine w_bEq0 rfl (fun b55 => ?_) (fun b55 => ?_)
                      · first
                        | (exfalso; omega)
                        | (have e3 := e2 hc
                           subst e3
                           refine w_ldI rfl rfl ?_
                           refine w_irNe0 rfl (by omega) (fun b59 => ?_) (fun b59 => ?_)
                           · (exfalso; omega)
                           · first
                             | (exfalso; omega)
                             | (refine w_ldR rfl rfl rfl ?_
                                refine w_ldI rfl rfl ?_
                                refine w_callWI rfl rfl rfl rfl rfl rfl rfl (k_joins43 (b := T p.toNat) hK (by omega) i5 hTp (by omega) (by omega)) (fun v62 s62 p62 => ?_)
                                obtain ⟨rfl, f1, f2⟩ := p62
                                refine w_bEq0 rfl (fun b63 => ?_) (fun b63 => ?_)
                                · first
                                  | (exfalso; omega)
                                  | (refine w_ldI rfl rfl ?_
                                     refine w_retI rfl ?_
                                     have f3 := f2 (fun z => z hj)
                                     subst f3
                                     exact kk)
                                · exact absurd hj b63))
                      · exact absurd b55 hc)
                 · (exfalso; omega))
            · (exfalso; omega))
       · (exfalso; omega))
theorem y_join_43 {d : Nat} {s : mSt} {P : Int → mSt → Prop} {l4 l5 : Option mAV} {T : Nat → Int} {n p : Int} (hn : s 24 1 = n) (h50 : 0 ≤ n ∧ n ≤ 50) (hT : ∀ i : Nat, (i : Int) < n → s 25 i = T i) (hR : ∀ i : Nat, (i : Int) < n → 0 ≤ T i ∧ T i ≤ 255) {dr pe : List Int} {op dp cm : Int} (hK : KS43 s dr pe op dp cm) (hu : s 43 0 = 1) (hi : KI T n (false, p, dr, pe, op, dp, cm)) (hp : p < n) (hc : ¬ (T p.toNat = 41 ∧ ¬ dp = 0)) (hj : ¬ (rk (T p.toNat) = 0 ∨ (rk (T p.toNat) = 3 ∧ ¬ m_and cm (m_shl 1 dp) = 0))) (kk : ∀ s1 l4 l5, KS43 s1 (wdP (rk (T p.toNat)) dr pe).1 (T p.toNat :: (wdP (rk (T p.toNat)) dr pe).2) op dp (cmK (T p.toNat) dp cm) → Fr [43, 47, 48, 49, 50] s s1 → WP (d + 6) 39 19 [some (.inr (.inr 43)), some (.inr (.inr 24)), some (.inl 1), some (.inl (p + 1)), l4, l5] [] (encA (s1)) (QI P)) : WP (d + 6) 39 19 [some (.inr (.inr 43)), some (.inr (.inr 24)), some (.inl 0), some (.inl (p)), l4, l5] [] (encA (s)) (QI P) := by
  obtain ⟨i1, i2, i3, i4, i5⟩ := hi
  have hTp := hR p.toNat (by omega)
  obtain ⟨h1, h2, h3, h4, h5, h6, h7, h0⟩ := id hK
  refine w_ldI rfl rfl ?_
  refine w_ldR rfl rfl rfl ?_
  first | refine w_getI rfl rfl rfl rfl rfl ?_ | refine w_getR rfl rfl rfl rfl rfl ?_
  rw [hn]
  refine w_crGe rfl (by omega) (by omega) (fun b22 => ?_) (fun b22 => ?_)
  · (exfalso; omega)
  · first
    | (exfalso; omega)
    | (refine w_ldR rfl rfl rfl ?_
       refine w_ldI rfl rfl ?_
       refine w_callV rfl rfl rfl rfl rfl rfl rfl (k_at24 (by omega) (by omega)) ?_
       rw [show rowAt s 24 p = T p.toNat from (if_pos (by omega)).trans (hT _ (by omega))]
       refine w_StI_6_4 rfl rfl ?_
       refine w_ldI rfl rfl ?_
       refine w_irEq0 rfl (by omega) (fun b28 => ?_) (fun b28 => ?_)
       · first
         | (exfalso; omega)
         | (refine w_push rfl ?_
            refine w_StI_6_5 rfl rfl ?_
            refine w_ldI rfl rfl ?_
            refine w_irLe0 rfl (by omega) (fun b37 => ?_) (fun b37 => ?_)
            · first
              | (exfalso; omega)
              | (refine w_ldI rfl rfl ?_
                 refine w_irEq0 rfl (by omega) (fun b46 => ?_) (fun b46 => ?_)
                 · first
                   | (exfalso; omega)
                   | (refine w_ldR rfl rfl rfl ?_
                      refine w_ldI rfl rfl ?_
                      refine w_callWI rfl rfl rfl rfl rfl rfl rfl (k_closes43 (b := T p.toNat) hK (by omega) i5 hTp (by omega) (by omega)) (fun v54 s54 p54 => ?_)
                      obtain ⟨rfl, e1, e2⟩ := p54
                      refine w_bEq0 rfl (fun b55 => ?_) (fun b55 => ?_)
                      · first
                        | (exfalso; omega)
                        | (have e3 := e2 hc
                           subst e3
                           refine w_ldI rfl rfl ?_
                           refine w_irNe0 rfl (by omega) (fun b59 => ?_) (fun b59 => ?_)
                           · (exfalso; omega)
                           · first
                             | (exfalso; omega)
                             | (refine w_ldR rfl rfl rfl ?_
                                refine w_ldI rfl rfl ?_
                                refine w_callWI rfl rfl rfl rfl rfl rfl rfl (k_joins43 (b := T p.toNat) hK (by omega) i5 hTp (by omega) (by omega)) (fun v62 s62 p62 => ?_)
                                obtain ⟨rfl, f1, f2⟩ := p62
                                refine w_bEq0 rfl (fun b63 => ?_) (fun b63 => ?_)
                                · exact absurd hj b63
                                · first
                                  | (exfalso; omega)
                                  | (refine w_push rfl ?_
                                     refine w_StI_6_2 rfl rfl ?_
                                     refine w_inc_6_3 rfl rfl ?_
                                     refine w_go rfl ?_
                                     refine w_go rfl ?_
                                     obtain ⟨gK, gF⟩ := f1 hj
                                     exact kk _ _ _ gK (Fr.mono rfl gF))))
                      · exact absurd b55 hc)
                 · (exfalso; omega))
            · (exfalso; omega))
       · (exfalso; omega))
theorem y_end43 {d : Nat} {s : mSt} {P : Int → mSt → Prop} {l4 l5 : Option mAV} {due : Bool} {T : Nat → Int} {n p : Int} (hn : s 24 1 = n) (h50 : 0 ≤ n ∧ n ≤ 50) (hT : ∀ i : Nat, (i : Int) < n → s 25 i = T i) (hR : ∀ i : Nat, (i : Int) < n → 0 ≤ T i ∧ T i ≤ 255) {dr pe : List Int} {op dp cm : Int} (hK : KS43 s dr pe op dp cm) (hu : s 43 0 = 1) (hi : KI T n (due, p, dr, pe, op, dp, cm)) (hp : ¬ p < n) (hc : due = true ∨ 0 < dp) (kk : P p s) : WP (d + 6) 39 19 [some (.inr (.inr 43)), some (.inr (.inr 24)), some (.inl (dI due)), some (.inl (p)), l4, l5] [] (encA (s)) (QI P) := by
  obtain ⟨i1, i2, i3, i4, i5⟩ := hi
  obtain ⟨h1, h2, h3, h4, h5, h6, h7, h0⟩ := id hK
  have hd : (due = true ∧ dI due = 1) ∨ (due = false ∧ dI due = 0) := by
    cases due
    · exact Or.inr ⟨rfl, rfl⟩
    · exact Or.inl ⟨rfl, rfl⟩
  refine w_ldI rfl rfl ?_
  refine w_ldR rfl rfl rfl ?_
  first | refine w_getI rfl rfl rfl rfl rfl ?_ | refine w_getR rfl rfl rfl rfl rfl ?_
  rw [hn]
  refine w_crGe rfl (by omega) (by omega) (fun b22 => ?_) (fun b22 => ?_)
  · first
    | (exfalso; omega)
    | (refine w_ldI rfl rfl ?_
       refine w_irNe0 rfl (by omega) (fun b72 => ?_) (fun b72 => ?_)
       · first
         | (exfalso; omega)
         | (refine w_ldI rfl rfl ?_
            refine w_retI rfl ?_
            exact kk)
       · first
         | (exfalso; omega)
         | (refine w_ldR rfl rfl rfl ?_
            first | refine w_getI rfl rfl rfl rfl rfl ?_ | refine w_getR rfl rfl rfl rfl rfl ?_
            rw [h6]
            refine w_irLe0 rfl (by omega) (fun b75 => ?_) (fun b75 => ?_)
            · exfalso
              rcases hc with z | z
              · rcases hd with w | w
                · omega
                · rw [z] at w; exact absurd w.1 (by decide)
              · omega
            · first
              | (exfalso; omega)
              | (refine w_ldI rfl rfl ?_
                 refine w_retI rfl ?_
                 exact kk)))
  · (exfalso; omega)
theorem y_done43 {d : Nat} {s : mSt} {P : Int → mSt → Prop} {l4 l5 : Option mAV} {T : Nat → Int} {n p : Int} (hn : s 24 1 = n) (h50 : 0 ≤ n ∧ n ≤ 50) (hT : ∀ i : Nat, (i : Int) < n → s 25 i = T i) (hR : ∀ i : Nat, (i : Int) < n → 0 ≤ T i ∧ T i ≤ 255) {dr pe : List Int} {op dp cm : Int} (hK : KS43 s dr pe op dp cm) (hu : s 43 0 = 1) (hi : KI T n (false, p, dr, pe, op, dp, cm)) (hp : ¬ p < n) (hc : ¬ 0 < dp) (kk : (∀ s1 : mSt, s1 44 1 = ((wdP 1 dr pe).1.length : Int) → (∀ i : Nat, i < (wdP 1 dr pe).1.length → s1 45 i = (wdP 1 dr pe).1.getD i 0) → Fr [43, 44, 45, 47, 48, 49, 50] s s1 → s1 43 0 = s 43 0 → P (-1) s1)) : WP (d + 6) 39 19 [some (.inr (.inr 43)), some (.inr (.inr 24)), some (.inl 0), some (.inl (p)), l4, l5] [] (encA (s)) (QI P) := by
  obtain ⟨i1, i2, i3, i4, i5⟩ := hi
  obtain ⟨h1, h2, h3, h4, h5, h6, h7, h0⟩ := id hK
  obtain ⟨l1, l2, l3⟩ := wdP_len (r := 1) pe dr
  refine w_ldI rfl rfl ?_
  refine w_ldR rfl rfl rfl ?_
  first | refine w_getI rfl rfl rfl rfl rfl ?_ | refine w_getR rfl rfl rfl rfl rfl ?_
  rw [hn]
  refine w_crGe rfl (by omega) (by omega) (fun b22 => ?_) (fun b22 => ?_)
  · first
    | (exfalso; omega)
    | (refine w_ldI rfl rfl ?_
       refine w_irNe0 rfl (by omega) (fun b72 => ?_) (fun b72 => ?_)
       · (exfalso; omega)
       · first
         | (exfalso; omega)
         | (refine w_ldR rfl rfl rfl ?_
            first | refine w_getI rfl rfl rfl rfl rfl ?_ | refine w_getR rfl rfl rfl rfl rfl ?_
            rw [h6]
            refine w_irLe0 rfl (by omega) (fun b75 => ?_) (fun b75 => ?_)
            · first
              | (exfalso; omega)
              | (refine w_ldR rfl rfl rfl ?_
                 refine w_push rfl ?_
                 refine w_callWN rfl rfl rfl rfl rfl rfl rfl (k_wd43 (r := 0) (by omega) hK (by omega) i5) (fun s80 p80 => ?_)
                 obtain ⟨gK, gF⟩ := p80
                 rw [show max (1 : Int) 0 = 1 by decide] at gK
                 obtain ⟨g1, g2, g3, g4, g5, g6, g7, g0⟩ := id gK
                 refine w_ldR rfl rfl rfl ?_
                 first | refine w_getI rfl rfl rfl rfl rfl ?_ | refine w_getR rfl rfl rfl rfl rfl ?_
                 refine w_ldR rfl rfl rfl ?_
                 first | refine w_getI rfl rfl rfl rfl rfl ?_ | refine w_getR rfl rfl rfl rfl rfl ?_
                 refine w_callWN rfl rfl rfl rfl rfl rfl rfl (k_copyR44_47 (by omega)) (fun s85 p85 => ?_)
                 obtain ⟨z1, z2, z3⟩ := p85
                 refine w_push rfl ?_
                 refine w_retI rfl ?_
                 exact kk _ (z1.trans g1) (fun i hi => (z2 (i : Int) (by omega) (by omega)).trans (g2 i hi)) (Fr.tr (Fr.mono rfl gF) (Fr.mono rfl z3)) ((congrFun (z3.at 43 rfl) 0).trans (congrFun (gF.at 43 rfl) 0)))
            · (exfalso; omega)))
  · (exfalso; omega)
theorem y_read43 {d : Nat} {P : Int → mSt → Prop} {T : Nat → Int} {n : Int} {r : Int × List Int} (h50 : 0 ≤ n ∧ n ≤ 50) (hR : ∀ i : Nat, (i : Int) < n → 0 ≤ T i ∧ T i ≤ 255) : ∀ (m : Nat) (s : mSt) (l4 l5 : Option mAV) (due : Bool) (p : Int) (dr pe : List Int) (op dp cm : Int), s 24 1 = n → (∀ i : Nat, (i : Int) < n → s 25 i = T i) → KS43 s dr pe op dp cm → s 43 0 = 1 → krun T n 1 m (due, p, dr, pe, op, dp, cm) = some r → KI T n (due, p, dr, pe, op, dp, cm) → (∀ s1 : mSt, Fr [43, 44, 45, 47, 48, 49, 50] s s1 → s1 43 0 = 1 → (r.1 < 0 → s1 44 1 = (r.2.length : Int) ∧ ∀ i : Nat, i < r.2.length → s1 45 i = r.2.getD i 0) → (0 ≤ r.1 → s1 44 = s 44 ∧ s1 45 = s 45) → P r.1 s1) → WP (d + 6) 39 19 [some (.inr (.inr 43)), some (.inr (.inr 24)), some (.inl (dI due)), some (.inl (p)), l4, l5] [] (encA (s)) (QI P)
  | 0, _, _, _, _, _, _, _, _, _, _, _, _, _, _, e, _, _ => by cases e
  | m + 1, s, l4, l5, due, p, dr, pe, op, dp, cm, hn, hT, hK, hu, e, hi, kk => by
    have next : ∀ (due1 : Bool) (p1 : Int) (dr1 pe1 : List Int) (op1 dp1 cm1 : Int), kstep T n 1 (due, p, dr, pe, op, dp, cm) = .inl (due1, p1, dr1, pe1, op1, dp1, cm1) → ∀ s1 l4 l5, KS43 s1 dr1 pe1 op1 dp1 cm1 → Fr [43, 47, 48, 49, 50] s s1 → WP (d + 6) 39 19 [some (.inr (.inr 43)), some (.inr (.inr 24)), some (.inl (dI due1)), some (.inl (p1)), l4, l5] [] (encA (s1)) (QI P) := fun due1 p1 dr1 pe1 op1 dp1 cm1 es s1 l4 l5 gK gF => y_read43 h50 hR m s1 l4 l5 due1 p1 dr1 pe1 op1 dp1 cm1 ((congrFun (gF.at 24 rfl) 1).trans hn) (fun i hi => (congrFun (gF.at 25 rfl) i).trans (hT i hi)) gK gK.2.2.2.2.2.2.2 (kr_l es e) (hi.step hR es) (fun s2 g1 gq g2 g3 => kk s2 (Fr.tr (Fr.mono rfl gF) g1) gq g2 (fun z => ⟨(g3 z).1.trans (gF.at 44 rfl), (g3 z).2.trans (gF.at 45 rfl)⟩))
    have stop : ∀ f : Int, 0 ≤ f → kstep T n 1 (due, p, dr, pe, op, dp, cm) = .inr (f, []) → P f s := fun f hf es => by
      have e1 := kr_r es e
      have k1 := kk s Fr.rf hu (fun z => by rw [← e1] at z; exact absurd z (by show ¬ f < 0; omega)) (fun _ => ⟨rfl, rfl⟩)
      rw [← e1] at k1
      exact k1
    have hp0 : 0 ≤ p := hi.1.1
    by_cases hp : p < n
    · cases due with
      | true =>
        by_cases hc : (0 < dkK T n p ∨ 0 ≤ nmF 1 (T p.toNat))
        · exact y_opd43 hn h50 hT hR hK hu hi hp hc (fun s1 l4 l5 gK gF => next _ _ _ _ _ _ _ (ks_opd hp hc) s1 l4 l5 gK gF)
        · by_cases ho : ((T p.toNat = 33 ∨ T p.toNat = 40) ∧ op < 5)
          · exact y_open43 hn h50 hT hR hK hu hi hp hc ho (fun s1 l4 l5 gK gF => next _ _ _ _ _ _ _ (ks_open hp hc ho) s1 l4 l5 gK gF)
          · exact y_bad43 hn h50 hT hR hK hu hi hp hc ho (stop p hp0 (ks_bad hp hc ho))
      | false =>
        by_cases hc : (T p.toNat = 41 ∧ ¬ dp = 0)
        · exact y_close43 hn h50 hT hR hK hu hi hp hc (fun s1 l4 l5 gK gF => next _ _ _ _ _ _ _ (ks_close hp hc) s1 l4 l5 gK gF)
        · by_cases hj : (rk (T p.toNat) = 0 ∨ (rk (T p.toNat) = 3 ∧ ¬ m_and cm (m_shl 1 dp) = 0))
          · exact y_rej43 hn h50 hT hR hK hu hi hp hc hj (stop p hp0 (ks_rej hp hc hj))
          · exact y_join_43 hn h50 hT hR hK hu hi hp hc hj (fun s1 l4 l5 gK gF => next _ _ _ _ _ _ _ (ks_join hp hc hj) s1 l4 l5 gK gF)
    · by_cases hc : due = true ∨ 0 < dp
      · exact y_end43 hn h50 hT hR hK hu hi hp hc (stop p hp0 (ks_end hp hc))
      · cases due with
        | true => exact absurd (Or.inl rfl) hc
        | false =>
          have hd : ¬ 0 < dp := fun z => hc (Or.inr z)
          refine y_done43 hn h50 hT hR hK hu hi hp hd (fun s1 z1 z2 z3 z4 => ?_)
          have e1 := kr_r (ks_done hp hd) e
          have k1 := kk s1 z3 (z4.trans hu) (fun _ => by rw [← e1]; exact ⟨z1, z2⟩) (fun z => by rw [← e1] at z; exact absurd z (by show ¬ (0 : Int) ≤ -1; omega))
          rw [← e1] at k1
          exact k1
theorem k_read43 {d : Nat} {s : mSt} {T : Nat → Int} {n : Int} {r : Int × List Int} (hn : s 24 1 = n) (h50 : 0 ≤ n ∧ n ≤ 50) (hT : ∀ i : Nat, (i : Int) < n → s 25 i = T i) (hR : ∀ i : Nat, (i : Int) < n → 0 ≤ T i ∧ T i ≤ 255) (hu : s 43 0 = 1) (hk : Kfi T n 1 (true, 0, [], [], 0, 0, 0) r) : CI (d + 6) 39 [.inr (.inr 43), .inr (.inr 24)] (s) (fun v s1 => v = r.1 ∧ Fr [43, 44, 45, 47, 48, 49, 50] s s1 ∧ s1 43 0 = 1 ∧ (r.1 < 0 → s1 44 1 = (r.2.length : Int) ∧ ∀ i : Nat, i < r.2.length → s1 45 i = r.2.getD i 0) ∧ (0 ≤ r.1 → s1 44 = s 44 ∧ s1 45 = s 45)) := by
  refine CI.mk rfl ?_
  show WP (d + 6) 39 0 [some (.inr (.inr 43)), some (.inr (.inr 24)), none, none, none, none] [] (encA (s)) _
  refine w_ldR rfl rfl rfl ?_
  first | refine w_getI rfl rfl rfl rfl rfl ?_ | refine w_getR rfl rfl rfl rfl rfl ?_
  refine w_callWN rfl rfl rfl rfl rfl rfl rfl k_empty47 (fun s2 p2 => ?_)
  subst p2
  refine w_ldR rfl rfl rfl ?_
  first | refine w_getI rfl rfl rfl rfl rfl ?_ | refine w_getR rfl rfl rfl rfl rfl ?_
  refine w_callWN rfl rfl rfl rfl rfl rfl rfl k_empty49 (fun s5 p5 => ?_)
  subst p5
  refine w_ldR rfl rfl rfl ?_
  refine w_push rfl ?_
  refine w_putI rfl rfl rfl rfl rfl rfl rfl ?_
  refine w_ldR rfl rfl rfl ?_
  refine w_push rfl ?_
  refine w_putI rfl rfl rfl rfl rfl rfl rfl ?_
  refine w_ldR rfl rfl rfl ?_
  refine w_push rfl ?_
  refine w_putI rfl rfl rfl rfl rfl rfl rfl ?_
  refine w_push rfl ?_
  refine w_StI_6_2 rfl rfl ?_
  refine w_push rfl ?_
  refine w_StI_6_3 rfl rfl ?_
  obtain ⟨m, e⟩ := hk
  have fS := Fr.tr (Fr.tr (Fr.tr (Fr.tr (Fr.us (A := [43, 47, 48, 49, 50]) (s := s) (a := 47) (i := 1) (v := 0) rfl) (Fr.us (a := 49) (i := 1) (v := 0) rfl)) (Fr.us (a := 43) (i := 5) (v := 0) rfl)) (Fr.us (a := 43) (i := 6) (v := 0) rfl)) (Fr.us (a := 43) (i := 7) (v := 0) rfl)
  refine y_read43 h50 hR m _ none none true 0 [] [] 0 0 0 ((congrFun (fS.at 24 rfl) 1).trans hn) (fun i hi => (congrFun (fS.at 25 rfl) i).trans (hT i hi)) ⟨?_, ?_, ?_, ?_, ?_, ?_, ?_, ?_⟩ ?_ e ⟨by omega, by show (0 : Int) + 0 ≤ 0; omega, by show -2 * (0 : Int) + 0 ≤ 0 ∧ (0 : Int) ≤ 5; omega, by omega, fun c hc => absurd hc List.not_mem_nil⟩ (fun s1 g1 gq g2 g3 => ⟨rfl, Fr.tr (Fr.mono rfl fS) g1, gq, g2, fun z => ⟨(g3 z).1.trans (fS.at 44 rfl), (g3 z).2.trans (fS.at 45 rfl)⟩⟩)
  · rw [us_ne (by decide), us_ne (by decide), us_ne (by decide), us_ne (by decide), us_eq, mup_eq]; rfl
  · exact fun i hi => absurd hi (Nat.not_lt_zero i)
  · rw [us_ne (by decide), us_ne (by decide), us_ne (by decide), us_eq, mup_eq]; rfl
  · exact trivial
  · rw [us_eq, us_eq, us_eq]; rfl
  · rw [us_eq, us_eq, us_eq]; rfl
  · rw [us_eq, us_eq, us_eq]; rfl
  · rw [us_eq, us_eq, us_eq, us_ne (by decide), us_ne (by decide)]; exact hu
  · rw [us_eq, us_eq, us_eq, us_ne (by decide), us_ne (by decide)]; exact hu
