/-! ===== the text: the grammar as a relation (by how deep), the reference's reading ===== -/
def dgP (T : Nat → Int) (n : Int) : Nat → Pst → Int → Pst × Int
  | 0, t, v => (t, v)
  | k + 1, t, v => if 48 ≤ hereP T n t ∧ hereP T n t ≤ 57 then dgP T n k (advP 1 t) (10 * v + hereP T n t - 48) else (t, v)
/-- levels: 1 either, 2 both, 3 compared, 4 sum, 5 product, 6 unit; 10 + l: what follows behind the first of level l -/
def Rp (T : Nat → Int) (n u : Int) : Nat → Nat → Pst → Pst → Prop
  | 0, _, _, _ => False
  | F + 1, l, t, t' =>
    if l ≤ 5 then ∃ t1, Rp T n u F (l + 1) t t1 ∧ Rp T n u F (10 + l) t1 t'
    else if l = 6 then
      (if hereP T n t = 33 ∨ hereP T n t = 40 then
        (if t.2.2.1 = 5 then t' = wrP t
         else if hereP T n t = 33 then ∃ t1, Rp T n u F 6 (advP 1 (dpP 1 t)) t1 ∧ t' = dpP (-1) (layP 20033 t1)
         else ∃ t1, Rp T n u F 1 (advP 1 (dpP 1 t)) t1 ∧ t' = dpP (-1) (if hereP T n t1 = 41 then advP 1 t1 else wrP t1))
       else if 0 ≤ nmF u (hereP T n t) then t' = layP (10000 + nmF u (hereP T n t)) (advP 1 t)
       else t' = layP (dgP T n 4 t 0).2 (if (dgP T n 4 t 0).1.1 = t.1 then wrP (dgP T n 4 t 0).1 else (dgP T n 4 t 0).1))
    else if rk (hereP T n t) = (l : Int) - 10 then ∃ t1, Rp T n u F (l - 9) (advP 1 t) t1 ∧ (if l = 13 then t' = layP (20000 + hereP T n t) t1 else Rp T n u F l (layP (20000 + hereP T n t) t1) t')
    else t' = t
theorem Rp.up {T : Nat → Int} {n u : Int} : ∀ (F l : Nat) (t t' : Pst), Rp T n u F l t t' → Rp T n u (F + 1) l t t'
  | 0, _, _, _, h => False.elim h
  | F + 1, l, t, t', h => by
    have ih := fun l t t' => Rp.up (T := T) (n := n) (u := u) F l t t'
    unfold Rp at h ⊢
    by_cases h1 : l ≤ 5
    · rw [if_pos h1] at h ⊢
      obtain ⟨t1, a, b⟩ := h
      exact ⟨t1, ih _ _ _ a, ih _ _ _ b⟩
    · rw [if_neg h1] at h ⊢
      by_cases h2 : l = 6
      · rw [if_pos h2] at h ⊢
        by_cases h3 : hereP T n t = 33 ∨ hereP T n t = 40
        · rw [if_pos h3] at h ⊢
          by_cases h4 : t.2.2.1 = 5
          · rw [if_pos h4] at h ⊢; exact h
          · rw [if_neg h4] at h ⊢
            by_cases h5 : hereP T n t = 33
            · rw [if_pos h5] at h ⊢
              obtain ⟨t1, a, b⟩ := h
              exact ⟨t1, ih _ _ _ a, b⟩
            · rw [if_neg h5] at h ⊢
              obtain ⟨t1, a, b⟩ := h
              exact ⟨t1, ih _ _ _ a, b⟩
        · rw [if_neg h3] at h ⊢; exact h
      · rw [if_neg h2] at h ⊢
        by_cases h3 : rk (hereP T n t) = (l : Int) - 10
        · rw [if_pos h3] at h ⊢
          obtain ⟨t1, a, b⟩ := h
          refine ⟨t1, ih _ _ _ a, ?_⟩
          by_cases h4 : l = 13
          · rw [if_pos h4] at b ⊢; exact b
          · rw [if_neg h4] at b ⊢; exact ih _ _ _ b
        · rw [if_neg h3] at h ⊢; exact h
theorem Rp.le {T : Nat → Int} {n u : Int} {F l : Nat} {t t' : Pst} (h : Rp T n u F l t t') : ∀ k : Nat, Rp T n u (F + k) l t t'
  | 0 => h
  | k + 1 => Rp.up _ _ _ _ (Rp.le h k)
theorem Rp.seq {T : Nat → Int} {n u : Int} {F G l : Nat} {t t1 t' : Pst} (hl : l ≤ 5) (h : Rp T n u F (l + 1) t t1) (k : Rp T n u G (10 + l) t1 t') : Rp T n u (F + G + 1) l t t' := by
  unfold Rp
  rw [if_pos hl]
  exact ⟨t1, h.le G, by have := k.le F; rwa [Nat.add_comm G F] at this⟩
theorem Rp.stop {T : Nat → Int} {n u : Int} {l : Nat} {t : Pst} (hl : 11 ≤ l) (h : ¬ rk (hereP T n t) = (l : Int) - 10) : Rp T n u 1 l t t := by
  unfold Rp
  rw [if_neg (by omega), if_neg (by omega), if_neg h]
theorem Rp.join {T : Nat → Int} {n u : Int} {F G l : Nat} {t t1 t' : Pst} (hl : 11 ≤ l) (h3 : ¬ l = 13) (h : rk (hereP T n t) = (l : Int) - 10) (k : Rp T n u F (l - 9) (advP 1 t) t1) (k2 : Rp T n u G l (layP (20000 + hereP T n t) t1) t') : Rp T n u (F + G + 1) l t t' := by
  unfold Rp
  rw [if_neg (by omega), if_neg (by omega), if_pos h]
  refine ⟨t1, k.le G, ?_⟩
  rw [if_neg h3]
  have := k2.le F
  rwa [Nat.add_comm G F] at this
theorem Rp.comp {T : Nat → Int} {n u : Int} {F : Nat} {t t1 : Pst} (h : rk (hereP T n t) = 3) (k : Rp T n u F 4 (advP 1 t) t1) : Rp T n u (F + 1) 13 t (layP (20000 + hereP T n t) t1) := by
  unfold Rp
  rw [if_neg (by omega), if_neg (by omega), if_pos (by omega)]
  exact ⟨t1, k, by rw [if_pos rfl]⟩
def Grow (T : Nat → Int) (n : Int) (t t' : Pst) : Prop := POk T n t' ∧ t'.2.2.1 = t.2.2.1 ∧ t.1 ≤ t'.1 ∧ (t'.2.2.2.length : Int) - t.2.2.2.length ≤ t'.1 - t.1
theorem Grow.rf {T : Nat → Int} {n : Int} {t : Pst} (h : POk T n t) : Grow T n t t := ⟨h, rfl, Int.le_refl _, by omega⟩
theorem Grow.tr {T : Nat → Int} {n : Int} {t t1 t2 : Pst} (h : Grow T n t t1) (k : Grow T n t1 t2) : Grow T n t t2 := ⟨k.1, k.2.1.trans h.2.1, Int.le_trans h.2.2.1 k.2.2.1, by have := h.2.2.2; have := k.2.2.2; omega⟩
theorem here_lt {T : Nat → Int} {n : Int} {t : Pst} (h : ¬ hereP T n t = -1) : t.1 < n ∧ t.2.1 < 0 := by
  unfold hereP at h
  by_cases k : t.1 < n ∧ t.2.1 < 0
  · exact k
  · rw [if_neg k] at h; exact absurd rfl h
theorem rk_here {T : Nat → Int} {n : Int} {t : Pst} (h : ¬ rk (hereP T n t) = 0) : t.1 < n ∧ t.2.1 < 0 := here_lt (fun e => h (by rw [e]; rfl))
theorem POk.adv {T : Nat → Int} {n : Int} {t : Pst} (h : POk T n t) (k : t.1 < n) : POk T n (advP 1 t) := by
  obtain ⟨h1, h2, h3, h4, h5, h6⟩ := h
  exact ⟨h1, ⟨by show 0 ≤ t.1 + 1; omega, by show t.1 + 1 ≤ n; omega⟩, h3, h4, by show (t.2.2.2.length : Int) ≤ t.1 + 1; omega, h6⟩
theorem PS.adv {T : Nat → Int} {n u : Int} {s : mSt} {t : Pst} (h : PS T n u s t) : PS T n u (us s 146 6 (t.1 + 1)) (advP 1 t) := by
  obtain ⟨e5, e6, e7, e8, e9, e10, e13, eC, eT⟩ := h
  refine ⟨?_, ?_, ?_, ?_, ?_, ?_, ?_, ?_, ?_⟩
  · exact ⟨by rw [us_eq, mup_ne (by decide)]; exact e5.1, by rw [us_eq, mup_ne (by decide)]; exact e5.2.1, by rw [us_eq, mup_ne (by decide)]; exact e5.2.2⟩
  · rw [us_eq, mup_eq]; rfl
  · rw [us_eq, mup_ne (by decide)]; exact e7
  · rw [us_eq, mup_ne (by decide)]; exact e8
  · rw [us_eq, mup_ne (by decide)]; exact e9
  · rw [us_eq, mup_ne (by decide)]; exact e10
  · rw [us_eq, mup_ne (by decide)]; exact e13
  · intro i hi; rw [us_ne (by decide)]; exact eC i hi
  · intro i hi; rw [us_ne (by decide)]; exact eT i hi
/-- a sign read, what stands behind it read, the sign laid -/
theorem Grow.lay {T : Nat → Int} {n v : Int} {t t1 : Pst} (h : POk T n t) (k : t.1 < n) (g : Grow T n (advP 1 t) t1) : Grow T n t (layP v t1) ∧ (t1.2.1 < 0 → (t1.2.2.2.length : Int) < t1.1) := by
  obtain ⟨h1, h2, h3, h4, h5, h6⟩ := h
  obtain ⟨⟨a1, a2, a3, a4, a5, a6⟩, g2, g3, g4⟩ := g
  have g2 : t1.2.2.1 = t.2.2.1 := g2
  have g3 : t.1 + 1 ≤ t1.1 := g3
  have g4 : (t1.2.2.2.length : Int) - t.2.2.2.length ≤ t1.1 - (t.1 + 1) := g4
  refine ⟨?_, fun _ => by omega⟩
  unfold layP
  split
  · have hl : ((t1.2.2.2 ++ [v]).length : Int) = t1.2.2.2.length + 1 := by rw [List.length_append]; rfl
    exact ⟨⟨a1, a2, a3, a4, by show ((t1.2.2.2 ++ [v]).length : Int) ≤ t1.1; omega, a6⟩, g2, by show t.1 ≤ t1.1; omega, by show ((t1.2.2.2 ++ [v]).length : Int) - t.2.2.2.length ≤ t1.1 - t.1; omega⟩
  · exact ⟨⟨a1, a2, a3, a4, a5, a6⟩, g2, by omega, by omega⟩
def RU (T : Nat → Int) (n u : Int) (mt l h m : Nat) : Prop := ∀ (d : Nat) (s : mSt) (t : Pst), PS T n u s t → POk T n t → n - t.1 < (m : Int) → 9 * (5 - t.2.2.1) + 2 ≤ (d : Int) → CV (d + h) mt [.inr (.inr 146)] s (fun s1 => ∃ F t', Rp T n u F l t t' ∧ PS T n u s1 t' ∧ Grow T n t t' ∧ Fr [146, 152] s s1)
theorem layP_1 {v : Int} {t : Pst} : (layP v t).1 = t.1 := by
  unfold layP
  split
  · rfl
  · rfl
theorem rk_1 {c : Int} : rk c = 1 ↔ c = 124 := by
  unfold rk
  constructor
  · intro h
    repeat' split at h
    all_goals omega
  · rintro rfl
    rfl
theorem rk_3 {c : Int} : rk c = 3 ↔ c = 60 ∨ c = 61 ∨ c = 62 := by
  unfold rk
  constructor
  · intro h
    repeat' split at h
    all_goals omega
  · intro h
    rcases h with rfl | rfl | rfl <;> rfl
theorem rk_2 {c : Int} : rk c = 2 ↔ c = 38 := by
  unfold rk
  constructor
  · intro h
    repeat' split at h
    all_goals omega
  · rintro rfl
    rfl
theorem rk_4 {c : Int} : rk c = 4 ↔ c = 43 ∨ c = 45 := by
  unfold rk
  constructor
  · intro h
    repeat' split at h
    all_goals omega
  · intro h
    rcases h with rfl | rfl <;> rfl
theorem rk_5 {c : Int} : rk c = 5 ↔ c = 42 ∨ c = 47 ∨ c = 37 := by
  unfold rk
  constructor
  · intro h
    repeat' split at h
    all_goals omega
  · intro h
    rcases h with rfl | rfl | rfl <;> rfl
theorem l_pproduct {d : Nat} {s : mSt} {P : mSt → Prop} {T : Nat → Int} {n u : Int} {m : Nat} {t : Pst} (hU : RU T n u 187 6 2 m) {l1 : Option mAV} (hP : PS T n u s t) (hO : POk T n t) (hm : n - t.1 < (m : Int)) (hd : 9 * (5 - t.2.2.1) + 2 ≤ (d : Int)) (hK : ∀ F t' s1, Rp T n u F 15 t t' → PS T n u s1 t' → Grow T n t t' → Fr [146, 152] s s1 → P s1) : WP (d + 3) 185 2 [some (.inr (.inr 146)), l1] [] (encA (s)) (QV P) := by
  have hh := hereP_rng hO
  have e6 := hP.2.1
  refine w_ldR rfl rfl rfl ?_
  refine w_callV rfl rfl rfl rfl rfl rfl rfl (p_here hP hO) ?_
  refine w_push rfl ?_
  refine w_crEq rfl (by omega) (by omega) (fun b5 => ?_) (fun b5 => ?_)
  · first
    | (exfalso; omega)
    | (refine w_ldR rfl rfl rfl ?_
       refine w_callV rfl rfl rfl rfl rfl rfl rfl (p_here hP hO) ?_
       refine w_StI_2_1 rfl rfl ?_
       refine w_ldR rfl rfl rfl ?_
       first | refine w_dupI rfl ?_ | refine w_dupR rfl ?_
       first | refine w_getI rfl rfl rfl rfl rfl ?_ | refine w_getR rfl rfl rfl rfl rfl ?_
       refine w_push rfl ?_
       refine w_add rfl ?_
       refine w_putI rfl rfl rfl rfl rfl rfl rfl ?_
       refine w_ldR rfl rfl rfl ?_
       rw [e6]
       have hrk : rk (hereP T n t) = ((15 : Nat) : Int) - 10 := by rw [rk_5.2 (by omega)]; rfl
       have hlt := rk_here (T := T) (n := n) (t := t) (by omega)
       have hO1 := hO.adv hlt.1
       refine w_callWN rfl rfl rfl rfl rfl rfl rfl (hU d _ _ (PS.adv hP) hO1 (by show n - (t.1 + 1) < (m : Int); omega) hd) (fun s24 p24 => ?_)
       obtain ⟨F24, t24, k24, gP24, gG24, f24⟩ := p24
       refine w_ldR rfl rfl rfl ?_
       refine w_push rfl ?_
       refine w_ldI rfl rfl ?_
       refine w_add rfl ?_
       obtain ⟨gG, gL⟩ := Grow.lay (v := 20000 + hereP T n t) hO hlt.1 gG24
       have g3 : t.1 + 1 ≤ t24.1 := gG24.2.2.1
       refine w_callWN rfl rfl rfl rfl rfl rfl rfl (p_lay gP24 gG24.1 gL) (fun s29 p29 => ?_)
       obtain ⟨gP, f29⟩ := p29
       have gO := gG.1
       have fS := ((Fr.us (A := [146, 152]) (s := s) (a := 146) (i := 6) (v := t.1 + 1) rfl).tr f24).tr f29
       refine w_go rfl ?_
       exact l_pproduct hU gP gO (by show n - (layP (20000 + hereP T n t) t24).1 < (m : Int); rw [layP_1]; omega) (by rw [gG.2.1]; exact hd) (fun F t' s1 r1 r2 r3 r4 => hK _ t' s1 (Rp.join (by omega) (by omega) hrk k24 r1) r2 (gG.tr r3) (fS.tr r4)))
  · first
    | (exfalso; omega)
    | (refine w_ldR rfl rfl rfl ?_
       refine w_callV rfl rfl rfl rfl rfl rfl rfl (p_here hP hO) ?_
       refine w_push rfl ?_
       refine w_crEq rfl (by omega) (by omega) (fun b9 => ?_) (fun b9 => ?_)
       · first
         | (exfalso; omega)
         | (refine w_ldR rfl rfl rfl ?_
            refine w_callV rfl rfl rfl rfl rfl rfl rfl (p_here hP hO) ?_
            refine w_StI_2_1 rfl rfl ?_
            refine w_ldR rfl rfl rfl ?_
            first | refine w_dupI rfl ?_ | refine w_dupR rfl ?_
            first | refine w_getI rfl rfl rfl rfl rfl ?_ | refine w_getR rfl rfl rfl rfl rfl ?_
            refine w_push rfl ?_
            refine w_add rfl ?_
            refine w_putI rfl rfl rfl rfl rfl rfl rfl ?_
            refine w_ldR rfl rfl rfl ?_
            rw [e6]
            have hrk : rk (hereP T n t) = ((15 : Nat) : Int) - 10 := by rw [rk_5.2 (by omega)]; rfl
            have hlt := rk_here (T := T) (n := n) (t := t) (by omega)
            have hO1 := hO.adv hlt.1
            refine w_callWN rfl rfl rfl rfl rfl rfl rfl (hU d _ _ (PS.adv hP) hO1 (by show n - (t.1 + 1) < (m : Int); omega) hd) (fun s24 p24 => ?_)
            obtain ⟨F24, t24, k24, gP24, gG24, f24⟩ := p24
            refine w_ldR rfl rfl rfl ?_
            refine w_push rfl ?_
            refine w_ldI rfl rfl ?_
            refine w_add rfl ?_
            obtain ⟨gG, gL⟩ := Grow.lay (v := 20000 + hereP T n t) hO hlt.1 gG24
            have g3 : t.1 + 1 ≤ t24.1 := gG24.2.2.1
            refine w_callWN rfl rfl rfl rfl rfl rfl rfl (p_lay gP24 gG24.1 gL) (fun s29 p29 => ?_)
            obtain ⟨gP, f29⟩ := p29
            have gO := gG.1
            have fS := ((Fr.us (A := [146, 152]) (s := s) (a := 146) (i := 6) (v := t.1 + 1) rfl).tr f24).tr f29
            refine w_go rfl ?_
            exact l_pproduct hU gP gO (by show n - (layP (20000 + hereP T n t) t24).1 < (m : Int); rw [layP_1]; omega) (by rw [gG.2.1]; exact hd) (fun F t' s1 r1 r2 r3 r4 => hK _ t' s1 (Rp.join (by omega) (by omega) hrk k24 r1) r2 (gG.tr r3) (fS.tr r4)))
       · first
         | (exfalso; omega)
         | (refine w_ldR rfl rfl rfl ?_
            refine w_callV rfl rfl rfl rfl rfl rfl rfl (p_here hP hO) ?_
            refine w_push rfl ?_
            refine w_crNe rfl (by omega) (by omega) (fun b13 => ?_) (fun b13 => ?_)
            · first
              | (exfalso; omega)
              | (refine w_retV rfl ?_
                 exact hK 1 t s (Rp.stop (by omega) (fun e => by have := rk_5.1 (e.trans (by rfl)); omega)) hP (Grow.rf hO) Fr.rf)
            · first
              | (exfalso; omega)
              | (refine w_ldR rfl rfl rfl ?_
                 refine w_callV rfl rfl rfl rfl rfl rfl rfl (p_here hP hO) ?_
                 refine w_StI_2_1 rfl rfl ?_
                 refine w_ldR rfl rfl rfl ?_
                 first | refine w_dupI rfl ?_ | refine w_dupR rfl ?_
                 first | refine w_getI rfl rfl rfl rfl rfl ?_ | refine w_getR rfl rfl rfl rfl rfl ?_
                 refine w_push rfl ?_
                 refine w_add rfl ?_
                 refine w_putI rfl rfl rfl rfl rfl rfl rfl ?_
                 refine w_ldR rfl rfl rfl ?_
                 rw [e6]
                 have hrk : rk (hereP T n t) = ((15 : Nat) : Int) - 10 := by rw [rk_5.2 (by omega)]; rfl
                 have hlt := rk_here (T := T) (n := n) (t := t) (by omega)
                 have hO1 := hO.adv hlt.1
                 refine w_callWN rfl rfl rfl rfl rfl rfl rfl (hU d _ _ (PS.adv hP) hO1 (by show n - (t.1 + 1) < (m : Int); omega) hd) (fun s24 p24 => ?_)
                 obtain ⟨F24, t24, k24, gP24, gG24, f24⟩ := p24
                 refine w_ldR rfl rfl rfl ?_
                 refine w_push rfl ?_
                 refine w_ldI rfl rfl ?_
                 refine w_add rfl ?_
                 obtain ⟨gG, gL⟩ := Grow.lay (v := 20000 + hereP T n t) hO hlt.1 gG24
                 have g3 : t.1 + 1 ≤ t24.1 := gG24.2.2.1
                 refine w_callWN rfl rfl rfl rfl rfl rfl rfl (p_lay gP24 gG24.1 gL) (fun s29 p29 => ?_)
                 obtain ⟨gP, f29⟩ := p29
                 have gO := gG.1
                 have fS := ((Fr.us (A := [146, 152]) (s := s) (a := 146) (i := 6) (v := t.1 + 1) rfl).tr f24).tr f29
                 refine w_go rfl ?_
                 exact l_pproduct hU gP gO (by show n - (layP (20000 + hereP T n t) t24).1 < (m : Int); rw [layP_1]; omega) (by rw [gG.2.1]; exact hd) (fun F t' s1 r1 r2 r3 r4 => hK _ t' s1 (Rp.join (by omega) (by omega) hrk k24 r1) r2 (gG.tr r3) (fS.tr r4)))))
termination_by (n - t.1).toNat
decreasing_by all_goals (first | omega | (rw [layP_1]; omega))
theorem p_product {T : Nat → Int} {n u : Int} {m : Nat} (hU : RU T n u 187 6 2 m) : RU T n u 185 5 3 m := by
  intro d s t hP hO hm hd
  refine CV.mk rfl ?_
  show WP (d + 3) 185 0 [some (.inr (.inr 146)), none] [] (encA (s)) _
  refine w_ldR rfl rfl rfl ?_
  refine w_callWN rfl rfl rfl rfl rfl rfl rfl (hU d _ _ hP hO hm hd) (fun s1 p1 => ?_)
  obtain ⟨F0, t0, k0, gP0, gG0, f0⟩ := p1
  exact l_pproduct hU gP0 gG0.1 (by have := gG0.2.2.1; omega) (by rw [gG0.2.1]; exact hd) (fun F t' s1 r1 r2 r3 r4 => ⟨_, t', Rp.seq (by omega) k0 r1, r2, gG0.tr r3, f0.tr r4⟩)
theorem l_psum {d : Nat} {s : mSt} {P : mSt → Prop} {T : Nat → Int} {n u : Int} {m : Nat} {t : Pst} (hU : RU T n u 185 5 3 m) {l1 : Option mAV} (hP : PS T n u s t) (hO : POk T n t) (hm : n - t.1 < (m : Int)) (hd : 9 * (5 - t.2.2.1) + 2 ≤ (d : Int)) (hK : ∀ F t' s1, Rp T n u F 14 t t' → PS T n u s1 t' → Grow T n t t' → Fr [146, 152] s s1 → P s1) : WP (d + 4) 184 2 [some (.inr (.inr 146)), l1] [] (encA (s)) (QV P) := by
  have hh := hereP_rng hO
  have e6 := hP.2.1
  refine w_ldR rfl rfl rfl ?_
  refine w_callV rfl rfl rfl rfl rfl rfl rfl (p_here hP hO) ?_
  refine w_push rfl ?_
  refine w_crEq rfl (by omega) (by omega) (fun b5 => ?_) (fun b5 => ?_)
  · first
    | (exfalso; omega)
    | (refine w_ldR rfl rfl rfl ?_
       refine w_callV rfl rfl rfl rfl rfl rfl rfl (p_here hP hO) ?_
       refine w_StI_2_1 rfl rfl ?_
       refine w_ldR rfl rfl rfl ?_
       first | refine w_dupI rfl ?_ | refine w_dupR rfl ?_
       first | refine w_getI rfl rfl rfl rfl rfl ?_ | refine w_getR rfl rfl rfl rfl rfl ?_
       refine w_push rfl ?_
       refine w_add rfl ?_
       refine w_putI rfl rfl rfl rfl rfl rfl rfl ?_
       refine w_ldR rfl rfl rfl ?_
       rw [e6]
       have hrk : rk (hereP T n t) = ((14 : Nat) : Int) - 10 := by rw [rk_4.2 (by omega)]; rfl
       have hlt := rk_here (T := T) (n := n) (t := t) (by omega)
       have hO1 := hO.adv hlt.1
       refine w_callWN rfl rfl rfl rfl rfl rfl rfl (hU d _ _ (PS.adv hP) hO1 (by show n - (t.1 + 1) < (m : Int); omega) hd) (fun s20 p20 => ?_)
       obtain ⟨F20, t20, k20, gP20, gG20, f20⟩ := p20
       refine w_ldR rfl rfl rfl ?_
       refine w_push rfl ?_
       refine w_ldI rfl rfl ?_
       refine w_add rfl ?_
       obtain ⟨gG, gL⟩ := Grow.lay (v := 20000 + hereP T n t) hO hlt.1 gG20
       have g3 : t.1 + 1 ≤ t20.1 := gG20.2.2.1
       refine w_callWN rfl rfl rfl rfl rfl rfl rfl (p_lay gP20 gG20.1 gL) (fun s25 p25 => ?_)
       obtain ⟨gP, f25⟩ := p25
       have gO := gG.1
       have fS := ((Fr.us (A := [146, 152]) (s := s) (a := 146) (i := 6) (v := t.1 + 1) rfl).tr f20).tr f25
       refine w_go rfl ?_
       exact l_psum hU gP gO (by show n - (layP (20000 + hereP T n t) t20).1 < (m : Int); rw [layP_1]; omega) (by rw [gG.2.1]; exact hd) (fun F t' s1 r1 r2 r3 r4 => hK _ t' s1 (Rp.join (by omega) (by omega) hrk k20 r1) r2 (gG.tr r3) (fS.tr r4)))
  · first
    | (exfalso; omega)
    | (refine w_ldR rfl rfl rfl ?_
       refine w_callV rfl rfl rfl rfl rfl rfl rfl (p_here hP hO) ?_
       refine w_push rfl ?_
       refine w_crNe rfl (by omega) (by omega) (fun b9 => ?_) (fun b9 => ?_)
       · first
         | (exfalso; omega)
         | (refine w_retV rfl ?_
            exact hK 1 t s (Rp.stop (by omega) (fun e => by have := rk_4.1 (e.trans (by rfl)); omega)) hP (Grow.rf hO) Fr.rf)
       · first
         | (exfalso; omega)
         | (refine w_ldR rfl rfl rfl ?_
            refine w_callV rfl rfl rfl rfl rfl rfl rfl (p_here hP hO) ?_
            refine w_StI_2_1 rfl rfl ?_
            refine w_ldR rfl rfl rfl ?_
            first | refine w_dupI rfl ?_ | refine w_dupR rfl ?_
            first | refine w_getI rfl rfl rfl rfl rfl ?_ | refine w_getR rfl rfl rfl rfl rfl ?_
            refine w_push rfl ?_
            refine w_add rfl ?_
            refine w_putI rfl rfl rfl rfl rfl rfl rfl ?_
            refine w_ldR rfl rfl rfl ?_
            rw [e6]
            have hrk : rk (hereP T n t) = ((14 : Nat) : Int) - 10 := by rw [rk_4.2 (by omega)]; rfl
            have hlt := rk_here (T := T) (n := n) (t := t) (by omega)
            have hO1 := hO.adv hlt.1
            refine w_callWN rfl rfl rfl rfl rfl rfl rfl (hU d _ _ (PS.adv hP) hO1 (by show n - (t.1 + 1) < (m : Int); omega) hd) (fun s20 p20 => ?_)
            obtain ⟨F20, t20, k20, gP20, gG20, f20⟩ := p20
            refine w_ldR rfl rfl rfl ?_
            refine w_push rfl ?_
            refine w_ldI rfl rfl ?_
            refine w_add rfl ?_
            obtain ⟨gG, gL⟩ := Grow.lay (v := 20000 + hereP T n t) hO hlt.1 gG20
            have g3 : t.1 + 1 ≤ t20.1 := gG20.2.2.1
            refine w_callWN rfl rfl rfl rfl rfl rfl rfl (p_lay gP20 gG20.1 gL) (fun s25 p25 => ?_)
            obtain ⟨gP, f25⟩ := p25
            have gO := gG.1
            have fS := ((Fr.us (A := [146, 152]) (s := s) (a := 146) (i := 6) (v := t.1 + 1) rfl).tr f20).tr f25
            refine w_go rfl ?_
            exact l_psum hU gP gO (by show n - (layP (20000 + hereP T n t) t20).1 < (m : Int); rw [layP_1]; omega) (by rw [gG.2.1]; exact hd) (fun F t' s1 r1 r2 r3 r4 => hK _ t' s1 (Rp.join (by omega) (by omega) hrk k20 r1) r2 (gG.tr r3) (fS.tr r4))))
termination_by (n - t.1).toNat
decreasing_by all_goals (first | omega | (rw [layP_1]; omega))
theorem p_sum {T : Nat → Int} {n u : Int} {m : Nat} (hU : RU T n u 185 5 3 m) : RU T n u 184 4 4 m := by
  intro d s t hP hO hm hd
  refine CV.mk rfl ?_
  show WP (d + 4) 184 0 [some (.inr (.inr 146)), none] [] (encA (s)) _
  refine w_ldR rfl rfl rfl ?_
  refine w_callWN rfl rfl rfl rfl rfl rfl rfl (hU d _ _ hP hO hm hd) (fun s1 p1 => ?_)
  obtain ⟨F0, t0, k0, gP0, gG0, f0⟩ := p1
  exact l_psum hU gP0 gG0.1 (by have := gG0.2.2.1; omega) (by rw [gG0.2.1]; exact hd) (fun F t' s1 r1 r2 r3 r4 => ⟨_, t', Rp.seq (by omega) k0 r1, r2, gG0.tr r3, f0.tr r4⟩)
