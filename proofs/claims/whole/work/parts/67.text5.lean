/-! ===== the text: the reference's unit, all levels together ===== -/
theorem dg_ok {T : Nat → Int} {n : Int} : ∀ (k : Nat) (t : Pst) (v : Int), POk T n t → POk T n (dgP T n k t v).1 ∧ (dgP T n k t v).1.2 = t.2 ∧ t.1 ≤ (dgP T n k t v).1.1 ∧ (dgP T n k t v).1.1 ≤ t.1 + (k : Int)
  | 0, t, v, h => ⟨h, rfl, Int.le_refl _, by show t.1 ≤ t.1 + ((0 : Nat) : Int); omega⟩
  | k + 1, t, v, h => by
    unfold dgP
    by_cases e : 48 ≤ hereP T n t ∧ hereP T n t ≤ 57
    · rw [if_pos e]
      have hlt := here_lt (T := T) (n := n) (t := t) (by omega)
      obtain ⟨a, b, c, g⟩ := dg_ok (T := T) (n := n) k (advP 1 t) (10 * v + hereP T n t - 48) (h.adv hlt.1)
      have c : t.1 + 1 ≤ _ := c
      have g : _ ≤ t.1 + 1 + (k : Int) := g
      exact ⟨a, b, by omega, by omega⟩
    · rw [if_neg e]
      exact ⟨h, rfl, Int.le_refl _, by show t.1 ≤ t.1 + ((k + 1 : Nat) : Int); omega⟩
theorem dg_no {T : Nat → Int} {n : Int} {k : Nat} {t : Pst} {v : Int} (h : ¬ (48 ≤ hereP T n t ∧ hereP T n t ≤ 57)) : dgP T n k t v = (t, v) := by
  cases k with
  | zero => rfl
  | succ k => unfold dgP; rw [if_neg h]
theorem dg_yes {T : Nat → Int} {n : Int} {k : Nat} {t : Pst} {v : Int} (hk : k < 4) (h : 48 ≤ hereP T n t ∧ hereP T n t ≤ 57) : dgP T n (4 - k) t v = dgP T n (4 - (k + 1)) (advP 1 t) (10 * v + hereP T n t - 48) := by
  rw [show 4 - k = (4 - (k + 1)) + 1 by omega]
  conv => lhs; unfold dgP
  rw [if_pos h]
theorem nm_here {T : Nat → Int} {n u : Int} {t : Pst} (h : 0 ≤ nmF u (hereP T n t)) : t.1 < n ∧ t.2.1 < 0 := here_lt (fun e => by
  rw [e] at h
  unfold nmF at h
  split at h <;> revert h <;> decide)
theorem Rp.name {T : Nat → Int} {n u : Int} {t : Pst} (hc : ¬ (hereP T n t = 33 ∨ hereP T n t = 40)) (h : 0 ≤ nmF u (hereP T n t)) : Rp T n u 1 6 t (layP (10000 + nmF u (hereP T n t)) (advP 1 t)) := by
  unfold Rp
  rw [if_neg (by omega), if_pos rfl, if_neg hc, if_pos h]
theorem Rp.dig {T : Nat → Int} {n u : Int} {t : Pst} (hc : ¬ (hereP T n t = 33 ∨ hereP T n t = 40)) (h : ¬ 0 ≤ nmF u (hereP T n t)) : Rp T n u 1 6 t (layP (dgP T n 4 t 0).2 (if (dgP T n 4 t 0).1.1 = t.1 then wrP (dgP T n 4 t 0).1 else (dgP T n 4 t 0).1)) := by
  unfold Rp
  rw [if_neg (by omega), if_pos rfl, if_neg hc, if_neg h]
theorem l_dig {d : Nat} {s : mSt} {P : mSt → Prop} {T : Nat → Int} {n u c nm p0 : Int} (k : Nat) (t : Pst) (kk v : Int) (hkk : kk = (k : Int)) (hk : k ≤ 4) (hP : PS T n u s t) (hO : POk T n t) (hp : t.1 = p0 + (k : Int)) (hK : ∀ s1 (k2 : Int), PS T n u s1 (dgP T n (4 - k) t v).1 → k2 = (dgP T n (4 - k) t v).1.1 - p0 → Fr [146, 152] s s1 → WP (d + 2) 187 62 [some (.inr (.inr 146)), some (.inl c), some (.inl nm), some (.inl ((dgP T n (4 - k) t v).2)), some (.inl k2)] [] (encA (s1)) (QV P)) : WP (d + 2) 187 35 [some (.inr (.inr 146)), some (.inl c), some (.inl nm), some (.inl v), some (.inl kk)] [] (encA (s)) (QV P) := by
  subst hkk
  have hh := hereP_rng hO
  refine w_ldI rfl rfl ?_
  refine w_push rfl ?_
  refine w_crGe rfl (by omega) (by omega) (fun b37 => ?_) (fun b37 => ?_)
  · first
    | (exfalso; omega)
    | (first
       | (rw [dg_no b44] at hK
          exact hK s _ hP (by show (k : Int) = t.1 - p0; omega) Fr.rf)
       | (obtain rfl : k = 4 := by omega
          exact hK s _ hP (by show ((4 : Nat) : Int) = t.1 - p0; omega) Fr.rf))
  · first
    | (exfalso; omega)
    | (refine w_ldR rfl rfl rfl ?_
       refine w_callV rfl rfl rfl rfl rfl rfl rfl (p_here hP hO) ?_
       refine w_i2lr rfl (by omega) ?_
       refine w_push rfl ?_
       refine w_push rfl ?_
       refine w_call rfl rfl rfl (r_in (by omega) (by omega) (by omega)) ?_
       refine w_bEq0 rfl (fun b44 => ?_) (fun b44 => ?_)
       · first
         | (exfalso; omega)
         | (first
            | (rw [dg_no b44] at hK
               exact hK s _ hP (by show (k : Int) = t.1 - p0; omega) Fr.rf)
            | (obtain rfl : k = 4 := by omega
               exact hK s _ hP (by show ((4 : Nat) : Int) = t.1 - p0; omega) Fr.rf))
       · first
         | (exfalso; omega)
         | (have hlt := here_lt (T := T) (n := n) (t := t) (by omega)
            rw [dg_yes (by omega) b44] at hK
            refine w_push rfl ?_
            refine w_ldI rfl rfl ?_
            refine w_mul rfl ?_
            refine w_ldR rfl rfl rfl ?_
            refine w_callV rfl rfl rfl rfl rfl rfl rfl (p_here hP hO) ?_
            refine w_add rfl ?_
            refine w_push rfl ?_
            refine w_sub rfl ?_
            refine w_StI_5_3 rfl rfl ?_
            refine w_ldR rfl rfl rfl ?_
            first | refine w_dupI rfl ?_ | refine w_dupR rfl ?_
            first | refine w_getI rfl rfl rfl rfl rfl ?_ | refine w_getR rfl rfl rfl rfl rfl ?_
            refine w_push rfl ?_
            refine w_add rfl ?_
            refine w_putI rfl rfl rfl rfl rfl rfl rfl ?_
            rw [show s 146 6 = t.1 from hP.2.1]
            refine w_inc_5_4 rfl rfl ?_
            refine w_go rfl ?_
            exact l_dig (k + 1) (advP 1 t) ((k : Int) + 1) _ (by omega) (by omega) (PS.adv hP) (hO.adv hlt.1) (by show t.1 + 1 = p0 + ((k + 1 : Nat) : Int); omega) (fun s1 k2 r1 r2 r3 => hK s1 k2 r1 r2 ((Fr.us rfl).tr r3))))
termination_by 4 - k
decreasing_by all_goals omega
theorem z_lay {d : Nat} {s : mSt} {P : mSt → Prop} {T : Nat → Int} {n u c nm v kk : Int} {t : Pst} (hP : PS T n u s t) (hO : POk T n t) (hL : t.2.1 < 0 → (t.2.2.2.length : Int) < t.1) (hK : ∀ s1, PS T n u s1 (layP v t) → Fr [146, 152] s s1 → P s1) : WP (d + 2) 187 66 [some (.inr (.inr 146)), some (.inl c), some (.inl nm), some (.inl (v)), some (.inl kk)] [] (encA (s)) (QV P) := by
  refine w_ldR rfl rfl rfl ?_
  refine w_ldI rfl rfl ?_
  refine w_callWN rfl rfl rfl rfl rfl rfl rfl (p_lay hP hO hL) (fun s68 p68 => ?_)
  refine w_retV rfl ?_
  exact hK _ p68.1 p68.2
theorem z_unit {d : Nat} {s : mSt} {P : mSt → Prop} {T : Nat → Int} {n u c nm v kk : Int} {t : Pst} (hk : 0 ≤ kk ∧ kk ≤ 4) (hP : PS T n u s t) (hO : POk T n t) (hL : ¬ kk = 0 → t.2.1 < 0 → (t.2.2.2.length : Int) < t.1) (hK : ∀ s1, PS T n u s1 (layP v (if kk = 0 then wrP t else t)) → Fr [146, 152] s s1 → P s1) : WP (d + 2) 187 62 [some (.inr (.inr 146)), some (.inl c), some (.inl nm), some (.inl (v)), some (.inl kk)] [] (encA (s)) (QV P) := by
  refine w_ldI rfl rfl ?_
  refine w_irNe0 rfl (by omega) (fun b63 => ?_) (fun b63 => ?_)
  · first
    | (exfalso; omega)
    | (first
       | (rw [if_neg b63] at hK
          exact z_lay hP hO (hL b63) hK)
       | (rw [if_pos (by omega)] at hK
          exact z_lay hP.wr (Grow.wr hO).1 (fun q => by have := wrP_f hO.2.1.1; omega) (fun s1 r1 r2 => hK s1 r1 ((Fr.us rfl).tr r2))))
  · first
    | (exfalso; omega)
    | (refine w_ldR rfl rfl rfl ?_
       refine w_callWN rfl rfl rfl rfl rfl rfl rfl (p_wrong hP hO) (fun s65 p65 => ?_)
       subst p65
       first
       | (rw [if_neg b63] at hK
          exact z_lay hP hO (hL b63) hK)
       | (rw [if_pos (by omega)] at hK
          exact z_lay hP.wr (Grow.wr hO).1 (fun q => by have := wrP_f hO.2.1.1; omega) (fun s1 r1 r2 => hK s1 r1 ((Fr.us rfl).tr r2))))
theorem dg_grow {T : Nat → Int} {n : Int} {t : Pst} (hO : POk T n t) : Grow T n t (layP (dgP T n 4 t 0).2 (if (dgP T n 4 t 0).1.1 = t.1 then wrP (dgP T n 4 t 0).1 else (dgP T n 4 t 0).1)) := by
  obtain ⟨a1, a2, a3, a4⟩ := dg_ok (T := T) (n := n) 4 t 0 hO
  have g0 : Grow T n t (dgP T n 4 t 0).1 := ⟨a1, by rw [a2], a3, by rw [a2]; omega⟩
  by_cases z : (dgP T n 4 t 0).1.1 = t.1
  · rw [if_pos z, layP_f (wrP_f a1.2.1.1)]
    exact g0.tr (Grow.wr a1)
  · rw [if_neg z]
    obtain ⟨h1, h2, h3, h4, h5, h6⟩ := a1
    unfold layP
    split
    · have hl : (((dgP T n 4 t 0).1.2.2.2 ++ [(dgP T n 4 t 0).2]).length : Int) = (dgP T n 4 t 0).1.2.2.2.length + 1 := by rw [List.length_append]; rfl
      have ho := hO.2.2.2.2.1
      have e2 : ((dgP T n 4 t 0).1.2.2.2.length : Int) = t.2.2.2.length := by rw [a2]
      exact ⟨⟨h1, h2, h3, h4, by show (((dgP T n 4 t 0).1.2.2.2 ++ [(dgP T n 4 t 0).2]).length : Int) ≤ (dgP T n 4 t 0).1.1; omega, h6⟩, g0.2.1, a3, by show (((dgP T n 4 t 0).1.2.2.2 ++ [(dgP T n 4 t 0).2]).length : Int) - t.2.2.2.length ≤ (dgP T n 4 t 0).1.1 - t.1; omega⟩
    · exact g0
theorem p_unit {T : Nat → Int} {n u : Int} {m : Nat} (hE : RU T n u 181 1 7 m) (hU : RU T n u 187 6 2 m) : RU T n u 187 6 2 (m + 1) := by
  intro d s t hP hO hm hd
  refine CV.mk rfl ?_
  show WP (d + 2) 187 0 [some (.inr (.inr 146)), none, none, none, none] [] (encA (s)) _
  have hh := hereP_rng hO
  have hn := nmF_rng u (hereP T n t)
  refine w_ldR rfl rfl rfl ?_
  refine w_callV rfl rfl rfl rfl rfl rfl rfl (p_here hP hO) ?_
  refine w_StI_5_1 rfl rfl ?_
  refine w_ldI rfl rfl ?_
  refine w_push rfl ?_
  refine w_crEq rfl (by omega) (by omega) (fun b5 => ?_) (fun b5 => ?_)
  · first
    | (exfalso; omega)
    | (refine w_ldR rfl rfl rfl ?_
       refine w_ldI rfl rfl ?_
       refine w_callWN rfl rfl rfl rfl rfl rfl rfl (p_opens hE hU hP hO (by omega) hd rfl (by omega)) (fun s11 p11 => ?_)
       refine w_retV rfl ?_
       exact p11)
  · first
    | (exfalso; omega)
    | (refine w_ldI rfl rfl ?_
       refine w_push rfl ?_
       refine w_crNe rfl (by omega) (by omega) (fun b8 => ?_) (fun b8 => ?_)
       · first
         | (exfalso; omega)
         | (refine w_ldR rfl rfl rfl ?_
            refine w_ldI rfl rfl ?_
            refine w_callV rfl rfl rfl rfl rfl rfl rfl (p_nameOf hP.2.2.2.2.2.1 hh) ?_
            refine w_StI_5_2 rfl rfl ?_
            refine w_ldI rfl rfl ?_
            refine w_irLt0 rfl (by omega) (fun b18 => ?_) (fun b18 => ?_)
            · first
              | (exfalso; omega)
              | (refine w_push rfl ?_
                 refine w_StI_5_3 rfl rfl ?_
                 refine w_push rfl ?_
                 refine w_StI_5_4 rfl rfl ?_
                 obtain ⟨a1, a2, a3, a4⟩ := dg_ok (T := T) (n := n) 4 t 0 hO
                 refine l_dig (p0 := t.1) 0 t 0 0 rfl (by omega) hP hO (by show t.1 = t.1 + ((0 : Nat) : Int); omega) (fun s1 k2 r1 r2 r3 => ?_)
                 have r2 : k2 = (dgP T n 4 t 0).1.1 - t.1 := r2
                 have ho := hO.2.2.2.2.1
                 refine z_unit (by omega) r1 a1 (fun q1 q2 => by
                   show ((dgP T n 4 t 0).1.2.2.2.length : Int) < (dgP T n 4 t 0).1.1
                   rw [a2]
                   omega) (fun s2 r4 r5 => ?_)
                 have q := Rp.dig (T := T) (n := n) (u := u) (t := t) (by omega) (by omega)
                 have e : (if k2 = 0 then wrP (dgP T n (4 - 0) t 0).1 else (dgP T n (4 - 0) t 0).1) = (if (dgP T n 4 t 0).1.1 = t.1 then wrP (dgP T n 4 t 0).1 else (dgP T n 4 t 0).1) := by
                   by_cases z : k2 = 0
                   · rw [if_pos z, if_pos (by omega)]
                   · rw [if_neg z, if_neg (by omega)]
                 rw [e] at r4
                 exact ⟨1, _, q, r4, dg_grow hO, r3.tr r5⟩)
            · first
              | (exfalso; omega)
              | (have hlt := nm_here (T := T) (n := n) (t := t) (u := u) (by omega)
                 obtain ⟨gG, gL⟩ := Grow.lay (v := 10000 + nmF u (hereP T n t)) hO hlt.1 (Grow.rf (hO.adv hlt.1))
                 refine w_ldR rfl rfl rfl ?_
                 first | refine w_dupI rfl ?_ | refine w_dupR rfl ?_
                 first | refine w_getI rfl rfl rfl rfl rfl ?_ | refine w_getR rfl rfl rfl rfl rfl ?_
                 refine w_push rfl ?_
                 refine w_add rfl ?_
                 refine w_putI rfl rfl rfl rfl rfl rfl rfl ?_
                 rw [show s 146 6 = t.1 from hP.2.1]
                 refine w_ldR rfl rfl rfl ?_
                 refine w_push rfl ?_
                 refine w_ldI rfl rfl ?_
                 refine w_add rfl ?_
                 refine w_callWN rfl rfl rfl rfl rfl rfl rfl (p_lay (PS.adv hP) (hO.adv hlt.1) gL) (fun s29 p29 => ?_)
                 obtain ⟨gP, f29⟩ := p29
                 refine w_retV rfl ?_
                 exact ⟨1, _, Rp.name (by omega) (by omega), gP, gG, (Fr.us (A := [146, 152]) (s := s) (a := 146) (i := 6) (v := t.1 + 1) rfl).tr f29⟩))
       · first
         | (exfalso; omega)
         | (refine w_ldR rfl rfl rfl ?_
            refine w_ldI rfl rfl ?_
            refine w_callWN rfl rfl rfl rfl rfl rfl rfl (p_opens hE hU hP hO (by omega) hd rfl (by omega)) (fun s11 p11 => ?_)
            refine w_retV rfl ?_
            exact p11))
theorem p_all {T : Nat → Int} {n u : Int} : ∀ m : Nat, RU T n u 187 6 2 m ∧ RU T n u 181 1 7 m
  | 0 => ⟨fun d s t _ hO hm _ => by have := hO.2.1; exfalso; omega, fun d s t _ hO hm _ => by have := hO.2.1; exfalso; omega⟩
  | m + 1 => by
    have ih := p_all (T := T) (n := n) (u := u) m
    have hU := p_unit ih.2 ih.1
    exact ⟨hU, p_either (p_both (p_compared (p_sum (p_product hU))))⟩
