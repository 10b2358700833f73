/-! ===== the text: the reference's compared, both, either ===== -/
theorem p_compared {T : Nat → Int} {n u : Int} {m : Nat} (hU : RU T n u 184 4 4 m) : RU T n u 183 3 5 m := by
  intro d s t hP hO hm hd
  refine CV.mk rfl ?_
  show WP (d + 5) 183 0 [some (.inr (.inr 146)), none] [] (encA (s)) _
  refine w_ldR rfl rfl rfl ?_
  refine w_callWN rfl rfl rfl rfl rfl rfl rfl (hU d _ _ hP hO hm hd) (fun s1 p1 => ?_)
  obtain ⟨F1, t1, k1, gP1, gG1, f1⟩ := p1
  refine w_ldR rfl rfl rfl ?_
  refine w_callV rfl rfl rfl rfl rfl rfl rfl (p_here gP1 gG1.1) ?_
  have hh := hereP_rng gG1.1
  refine w_StI_2_1 rfl rfl ?_
  refine w_ldI rfl rfl ?_
  refine w_push rfl ?_
  refine w_crEq rfl (by omega) (by omega) (fun b7 => ?_) (fun b7 => ?_)
  · first
    | (exfalso; omega)
    | (refine w_ldR rfl rfl rfl ?_
       first | refine w_dupI rfl ?_ | refine w_dupR rfl ?_
       first | refine w_getI rfl rfl rfl rfl rfl ?_ | refine w_getR rfl rfl rfl rfl rfl ?_
       refine w_push rfl ?_
       refine w_add rfl ?_
       refine w_putI rfl rfl rfl rfl rfl rfl rfl ?_
       refine w_ldR rfl rfl rfl ?_
       rw [show s1 146 6 = t1.1 from gP1.2.1]
       have hrk : rk (hereP T n t1) = 3 := rk_3.2 (by omega)
       have hlt := rk_here (T := T) (n := n) (t := t1) (by omega)
       have hO1 := gG1.1.adv hlt.1
       refine w_callWN rfl rfl rfl rfl rfl rfl rfl (hU d _ _ (PS.adv gP1) hO1 (by have := gG1.2.2.1; show n - (t1.1 + 1) < (m : Int); omega) (by show 9 * (5 - t1.2.2.1) + 2 ≤ (d : Int); rw [gG1.2.1]; exact hd)) (fun s21 p21 => ?_)
       obtain ⟨F21, t21, k21, gP21, gG21, f21⟩ := p21
       refine w_ldR rfl rfl rfl ?_
       refine w_push rfl ?_
       refine w_ldI rfl rfl ?_
       refine w_add rfl ?_
       obtain ⟨gG, gL⟩ := Grow.lay (v := 20000 + hereP T n t1) gG1.1 hlt.1 gG21
       refine w_callWN rfl rfl rfl rfl rfl rfl rfl (p_lay gP21 gG21.1 gL) (fun s26 p26 => ?_)
       obtain ⟨gP, f26⟩ := p26
       refine w_retV rfl ?_
       first
       | exact ⟨_, _, Rp.seq (l := 3) (by omega) k1 (Rp.comp hrk k21), gP, gG1.tr gG, f1.tr (((Fr.us (A := [146, 152]) (s := s1) (a := 146) (i := 6) (v := t1.1 + 1) rfl).tr f21).tr f26)⟩
       | exact ⟨_, t1, Rp.seq (l := 3) (by omega) k1 (Rp.stop (by omega) (fun e => by have := rk_3.1 (e.trans (by rfl)); omega)), gP1, gG1, f1⟩)
  · first
    | (exfalso; omega)
    | (refine w_ldI rfl rfl ?_
       refine w_push rfl ?_
       refine w_crEq rfl (by omega) (by omega) (fun b10 => ?_) (fun b10 => ?_)
       · first
         | (exfalso; omega)
         | (refine w_ldR rfl rfl rfl ?_
            first | refine w_dupI rfl ?_ | refine w_dupR rfl ?_
            first | refine w_getI rfl rfl rfl rfl rfl ?_ | refine w_getR rfl rfl rfl rfl rfl ?_
            refine w_push rfl ?_
            refine w_add rfl ?_
            refine w_putI rfl rfl rfl rfl rfl rfl rfl ?_
            refine w_ldR rfl rfl rfl ?_
            rw [show s1 146 6 = t1.1 from gP1.2.1]
            have hrk : rk (hereP T n t1) = 3 := rk_3.2 (by omega)
            have hlt := rk_here (T := T) (n := n) (t := t1) (by omega)
            have hO1 := gG1.1.adv hlt.1
            refine w_callWN rfl rfl rfl rfl rfl rfl rfl (hU d _ _ (PS.adv gP1) hO1 (by have := gG1.2.2.1; show n - (t1.1 + 1) < (m : Int); omega) (by show 9 * (5 - t1.2.2.1) + 2 ≤ (d : Int); rw [gG1.2.1]; exact hd)) (fun s21 p21 => ?_)
            obtain ⟨F21, t21, k21, gP21, gG21, f21⟩ := p21
            refine w_ldR rfl rfl rfl ?_
            refine w_push rfl ?_
            refine w_ldI rfl rfl ?_
            refine w_add rfl ?_
            obtain ⟨gG, gL⟩ := Grow.lay (v := 20000 + hereP T n t1) gG1.1 hlt.1 gG21
            refine w_callWN rfl rfl rfl rfl rfl rfl rfl (p_lay gP21 gG21.1 gL) (fun s26 p26 => ?_)
            obtain ⟨gP, f26⟩ := p26
            refine w_retV rfl ?_
            first
            | exact ⟨_, _, Rp.seq (l := 3) (by omega) k1 (Rp.comp hrk k21), gP, gG1.tr gG, f1.tr (((Fr.us (A := [146, 152]) (s := s1) (a := 146) (i := 6) (v := t1.1 + 1) rfl).tr f21).tr f26)⟩
            | exact ⟨_, t1, Rp.seq (l := 3) (by omega) k1 (Rp.stop (by omega) (fun e => by have := rk_3.1 (e.trans (by rfl)); omega)), gP1, gG1, f1⟩)
       · first
         | (exfalso; omega)
         | (refine w_ldI rfl rfl ?_
            refine w_push rfl ?_
            refine w_crNe rfl (by omega) (by omega) (fun b13 => ?_) (fun b13 => ?_)
            · first
              | (exfalso; omega)
              | (refine w_retV rfl ?_
                 first
                 | exact ⟨_, _, Rp.seq (l := 3) (by omega) k1 (Rp.comp hrk k21), gP, gG1.tr gG, f1.tr (((Fr.us (A := [146, 152]) (s := s1) (a := 146) (i := 6) (v := t1.1 + 1) rfl).tr f21).tr f26)⟩
                 | exact ⟨_, t1, Rp.seq (l := 3) (by omega) k1 (Rp.stop (by omega) (fun e => by have := rk_3.1 (e.trans (by rfl)); omega)), gP1, gG1, f1⟩)
            · first
              | (exfalso; omega)
              | (refine w_ldR rfl rfl rfl ?_
                 first | refine w_dupI rfl ?_ | refine w_dupR rfl ?_
                 first | refine w_getI rfl rfl rfl rfl rfl ?_ | refine w_getR rfl rfl rfl rfl rfl ?_
                 refine w_push rfl ?_
                 refine w_add rfl ?_
                 refine w_putI rfl rfl rfl rfl rfl rfl rfl ?_
                 refine w_ldR rfl rfl rfl ?_
                 rw [show s1 146 6 = t1.1 from gP1.2.1]
                 have hrk : rk (hereP T n t1) = 3 := rk_3.2 (by omega)
                 have hlt := rk_here (T := T) (n := n) (t := t1) (by omega)
                 have hO1 := gG1.1.adv hlt.1
                 refine w_callWN rfl rfl rfl rfl rfl rfl rfl (hU d _ _ (PS.adv gP1) hO1 (by have := gG1.2.2.1; show n - (t1.1 + 1) < (m : Int); omega) (by show 9 * (5 - t1.2.2.1) + 2 ≤ (d : Int); rw [gG1.2.1]; exact hd)) (fun s21 p21 => ?_)
                 obtain ⟨F21, t21, k21, gP21, gG21, f21⟩ := p21
                 refine w_ldR rfl rfl rfl ?_
                 refine w_push rfl ?_
                 refine w_ldI rfl rfl ?_
                 refine w_add rfl ?_
                 obtain ⟨gG, gL⟩ := Grow.lay (v := 20000 + hereP T n t1) gG1.1 hlt.1 gG21
                 refine w_callWN rfl rfl rfl rfl rfl rfl rfl (p_lay gP21 gG21.1 gL) (fun s26 p26 => ?_)
                 obtain ⟨gP, f26⟩ := p26
                 refine w_retV rfl ?_
                 first
                 | exact ⟨_, _, Rp.seq (l := 3) (by omega) k1 (Rp.comp hrk k21), gP, gG1.tr gG, f1.tr (((Fr.us (A := [146, 152]) (s := s1) (a := 146) (i := 6) (v := t1.1 + 1) rfl).tr f21).tr f26)⟩
                 | exact ⟨_, t1, Rp.seq (l := 3) (by omega) k1 (Rp.stop (by omega) (fun e => by have := rk_3.1 (e.trans (by rfl)); omega)), gP1, gG1, f1⟩)))
theorem l_pboth {d : Nat} {s : mSt} {P : mSt → Prop} {T : Nat → Int} {n u : Int} {m : Nat} {t : Pst} (hU : RU T n u 183 3 5 m) (hP : PS T n u s t) (hO : POk T n t) (hm : n - t.1 < (m : Int)) (hd : 9 * (5 - t.2.2.1) + 2 ≤ (d : Int)) (hK : ∀ F t' s1, Rp T n u F 12 t t' → PS T n u s1 t' → Grow T n t t' → Fr [146, 152] s s1 → P s1) : WP (d + 6) 182 2 [some (.inr (.inr 146))] [] (encA (s)) (QV P) := by
  have hh := hereP_rng hO
  refine w_ldR rfl rfl rfl ?_
  refine w_push rfl ?_
  refine w_callWI rfl rfl rfl rfl rfl rfl rfl (p_takes hP hO (by omega)) (fun v4 s4 p4 => ?_)
  obtain ⟨rfl, h4⟩ := p4
  refine w_bEq0 rfl (fun b5 => ?_) (fun b5 => ?_)
  · first
    | (exfalso; omega)
    | (refine w_retV rfl ?_
       rw [if_neg b5] at h4
       subst h4
       exact hK 1 t _ (Rp.stop (by omega) (fun e => b5 (rk_2.1 (e.trans (by rfl))))) hP (Grow.rf hO) Fr.rf)
  · first
    | (exfalso; omega)
    | (rw [if_pos b5] at h4
       subst h4
       have hrk : rk (hereP T n t) = ((12 : Nat) : Int) - 10 := by rw [rk_2.2 b5]; rfl
       have hlt := rk_here (T := T) (n := n) (t := t) (by omega)
       have hO1 := hO.adv hlt.1
       refine w_ldR rfl rfl rfl ?_
       refine w_callWN rfl rfl rfl rfl rfl rfl rfl (hU d _ _ (PS.adv hP) hO1 (by show n - (t.1 + 1) < (m : Int); omega) hd) (fun s7 p7 => ?_)
       obtain ⟨F7, t7, k7, gP7, gG7, f7⟩ := p7
       refine w_ldR rfl rfl rfl ?_
       refine w_push rfl ?_
       rw [show (20038 : Int) = 20000 + hereP T n t by omega]
       obtain ⟨gG, gL⟩ := Grow.lay (v := 20000 + hereP T n t) hO hlt.1 gG7
       have g3 : t.1 + 1 ≤ t7.1 := gG7.2.2.1
       refine w_callWN rfl rfl rfl rfl rfl rfl rfl (p_lay gP7 gG7.1 gL) (fun s10 p10 => ?_)
       obtain ⟨gP, f10⟩ := p10
       have fS := ((Fr.us (A := [146, 152]) (s := s) (a := 146) (i := 6) (v := t.1 + 1) rfl).tr f7).tr f10
       refine w_go rfl ?_
       exact l_pboth hU gP gG.1 (by show n - (layP (20000 + hereP T n t) t7).1 < (m : Int); rw [layP_1]; omega) (by rw [gG.2.1]; exact hd) (fun F t' s1 r1 r2 r3 r4 => hK _ t' s1 (Rp.join (by omega) (by omega) hrk k7 r1) r2 (gG.tr r3) (fS.tr r4)))
termination_by (n - t.1).toNat
decreasing_by all_goals (first | omega | (rw [layP_1]; omega))
theorem p_both {T : Nat → Int} {n u : Int} {m : Nat} (hU : RU T n u 183 3 5 m) : RU T n u 182 2 6 m := by
  intro d s t hP hO hm hd
  refine CV.mk rfl ?_
  show WP (d + 6) 182 0 [some (.inr (.inr 146))] [] (encA (s)) _
  refine w_ldR rfl rfl rfl ?_
  refine w_callWN rfl rfl rfl rfl rfl rfl rfl (hU d _ _ hP hO hm hd) (fun s1 p1 => ?_)
  obtain ⟨F0, t0, k0, gP0, gG0, f0⟩ := p1
  exact l_pboth hU gP0 gG0.1 (by have := gG0.2.2.1; omega) (by rw [gG0.2.1]; exact hd) (fun F t' s1 r1 r2 r3 r4 => ⟨_, t', Rp.seq (by omega) k0 r1, r2, gG0.tr r3, f0.tr r4⟩)
theorem l_peither {d : Nat} {s : mSt} {P : mSt → Prop} {T : Nat → Int} {n u : Int} {m : Nat} {t : Pst} (hU : RU T n u 182 2 6 m) (hP : PS T n u s t) (hO : POk T n t) (hm : n - t.1 < (m : Int)) (hd : 9 * (5 - t.2.2.1) + 2 ≤ (d : Int)) (hK : ∀ F t' s1, Rp T n u F 11 t t' → PS T n u s1 t' → Grow T n t t' → Fr [146, 152] s s1 → P s1) : WP (d + 7) 181 2 [some (.inr (.inr 146))] [] (encA (s)) (QV P) := by
  have hh := hereP_rng hO
  refine w_ldR rfl rfl rfl ?_
  refine w_push rfl ?_
  refine w_callWI rfl rfl rfl rfl rfl rfl rfl (p_takes hP hO (by omega)) (fun v4 s4 p4 => ?_)
  obtain ⟨rfl, h4⟩ := p4
  refine w_bEq0 rfl (fun b5 => ?_) (fun b5 => ?_)
  · first
    | (exfalso; omega)
    | (refine w_retV rfl ?_
       rw [if_neg b5] at h4
       subst h4
       exact hK 1 t _ (Rp.stop (by omega) (fun e => b5 (rk_1.1 (e.trans (by rfl))))) hP (Grow.rf hO) Fr.rf)
  · first
    | (exfalso; omega)
    | (rw [if_pos b5] at h4
       subst h4
       have hrk : rk (hereP T n t) = ((11 : Nat) : Int) - 10 := by rw [rk_1.2 b5]; rfl
       have hlt := rk_here (T := T) (n := n) (t := t) (by omega)
       have hO1 := hO.adv hlt.1
       refine w_ldR rfl rfl rfl ?_
       refine w_callWN rfl rfl rfl rfl rfl rfl rfl (hU d _ _ (PS.adv hP) hO1 (by show n - (t.1 + 1) < (m : Int); omega) hd) (fun s7 p7 => ?_)
       obtain ⟨F7, t7, k7, gP7, gG7, f7⟩ := p7
       refine w_ldR rfl rfl rfl ?_
       refine w_push rfl ?_
       rw [show (20124 : Int) = 20000 + hereP T n t by omega]
       obtain ⟨gG, gL⟩ := Grow.lay (v := 20000 + hereP T n t) hO hlt.1 gG7
       have g3 : t.1 + 1 ≤ t7.1 := gG7.2.2.1
       refine w_callWN rfl rfl rfl rfl rfl rfl rfl (p_lay gP7 gG7.1 gL) (fun s10 p10 => ?_)
       obtain ⟨gP, f10⟩ := p10
       have fS := ((Fr.us (A := [146, 152]) (s := s) (a := 146) (i := 6) (v := t.1 + 1) rfl).tr f7).tr f10
       refine w_go rfl ?_
       exact l_peither hU gP gG.1 (by show n - (layP (20000 + hereP T n t) t7).1 < (m : Int); rw [layP_1]; omega) (by rw [gG.2.1]; exact hd) (fun F t' s1 r1 r2 r3 r4 => hK _ t' s1 (Rp.join (by omega) (by omega) hrk k7 r1) r2 (gG.tr r3) (fS.tr r4)))
termination_by (n - t.1).toNat
decreasing_by all_goals (first | omega | (rw [layP_1]; omega))
theorem p_either {T : Nat → Int} {n u : Int} {m : Nat} (hU : RU T n u 182 2 6 m) : RU T n u 181 1 7 m := by
  intro d s t hP hO hm hd
  refine CV.mk rfl ?_
  show WP (d + 7) 181 0 [some (.inr (.inr 146))] [] (encA (s)) _
  refine w_ldR rfl rfl rfl ?_
  refine w_callWN rfl rfl rfl rfl rfl rfl rfl (hU d _ _ hP hO hm hd) (fun s1 p1 => ?_)
  obtain ⟨F0, t0, k0, gP0, gG0, f0⟩ := p1
  exact l_peither hU gP0 gG0.1 (by have := gG0.2.2.1; omega) (by rw [gG0.2.1]; exact hd) (fun F t' s1 r1 r2 r3 r4 => ⟨_, t', Rp.seq (by omega) k0 r1, r2, gG0.tr r3, f0.tr r4⟩)
