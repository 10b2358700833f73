/-! ===== the text: the reference's opens ===== -/
theorem wrP_1 (t : Pst) : (wrP t).1 = t.1 := by
  unfold wrP
  split <;> rfl
theorem wrP_2 (t : Pst) : (wrP t).2.2 = t.2.2 := by
  unfold wrP
  split <;> rfl
theorem wrP_f {t : Pst} (h : 0 ≤ t.1) : 0 ≤ (wrP t).2.1 := by
  unfold wrP
  split
  · exact h
  · omega
theorem layP_f {v : Int} {t : Pst} (h : 0 ≤ t.2.1) : layP v t = t := by
  unfold layP
  rw [if_neg (by omega)]
theorem PS.wr {T : Nat → Int} {n u : Int} {s : mSt} {t : Pst} (h : PS T n u s t) : PS T n u (us s 146 8 (wrP t).2.1) (wrP t) := by
  obtain ⟨e5, e6, e7, e8, e9, e10, e13, eC, eT⟩ := h
  refine ⟨?_, ?_, ?_, ?_, ?_, ?_, ?_, ?_, ?_⟩
  · exact ⟨by rw [us_eq, mup_ne (by decide)]; exact e5.1, by rw [us_eq, mup_ne (by decide)]; exact e5.2.1, by rw [us_eq, mup_ne (by decide)]; exact e5.2.2⟩
  · rw [us_eq, mup_ne (by decide), wrP_1]; exact e6
  · rw [us_eq, mup_ne (by decide)]; exact e7
  · rw [us_eq, mup_eq]
  · rw [us_eq, mup_ne (by decide), wrP_2]; exact e9
  · rw [us_eq, mup_ne (by decide)]; exact e10
  · rw [us_eq, mup_ne (by decide), wrP_2]; exact e13
  · rw [wrP_2]; intro i hi; rw [us_ne (by decide)]; exact eC i hi
  · intro i hi; rw [us_ne (by decide)]; exact eT i hi
theorem PS.dp {T : Nat → Int} {n u k : Int} {s : mSt} {t : Pst} (h : PS T n u s t) : PS T n u (us s 146 9 (t.2.2.1 + k)) (dpP k t) := by
  obtain ⟨e5, e6, e7, e8, e9, e10, e13, eC, eT⟩ := h
  refine ⟨?_, ?_, ?_, ?_, ?_, ?_, ?_, ?_, ?_⟩
  · exact ⟨by rw [us_eq, mup_ne (by decide)]; exact e5.1, by rw [us_eq, mup_ne (by decide)]; exact e5.2.1, by rw [us_eq, mup_ne (by decide)]; exact e5.2.2⟩
  · rw [us_eq, mup_ne (by decide)]; exact e6
  · rw [us_eq, mup_ne (by decide)]; exact e7
  · rw [us_eq, mup_ne (by decide)]; exact e8
  · rw [us_eq, mup_eq]; rfl
  · rw [us_eq, mup_ne (by decide)]; exact e10
  · rw [us_eq, mup_ne (by decide)]; exact e13
  · intro i hi; rw [us_ne (by decide)]; exact eC i hi
  · intro i hi; rw [us_ne (by decide)]; exact eT i hi
theorem Grow.wr {T : Nat → Int} {n : Int} {t : Pst} (h : POk T n t) : Grow T n t (wrP t) := by
  obtain ⟨h1, h2, h3, h4, h5, h6⟩ := h
  refine ⟨⟨h1, by rw [wrP_1]; exact h2, ?_, by rw [wrP_2]; exact h4, by rw [wrP_1, wrP_2]; exact h5, h6⟩, by rw [wrP_2], by rw [wrP_1]; exact Int.le_refl _, by rw [wrP_1, wrP_2]; omega⟩
  unfold wrP
  split
  · show -1 ≤ t.1 ∧ t.1 ≤ n
    omega
  · exact h3
theorem POk.dp {T : Nat → Int} {n k : Int} {t : Pst} (h : POk T n t) (hk : 0 ≤ t.2.2.1 + k ∧ t.2.2.1 + k ≤ 5) : POk T n (dpP k t) := by
  obtain ⟨h1, h2, h3, h4, h5, h6⟩ := h
  exact ⟨h1, h2, h3, hk, h5, h6⟩
theorem Grow.dp {T : Nat → Int} {n : Int} {t t1 : Pst} (h : POk T n t) (g : Grow T n (dpP 1 t) t1) : Grow T n t (dpP (-1) t1) := by
  obtain ⟨g1, g2, g3, g4⟩ := g
  have g2 : t1.2.2.1 = t.2.2.1 + 1 := g2
  have h4 := h.2.2.2.1
  exact ⟨g1.dp (by omega), by show t1.2.2.1 + -1 = t.2.2.1; omega, g3, g4⟩
theorem Grow.step {T : Nat → Int} {n : Int} {t t1 : Pst} (h : POk T n t) (k : t.1 < n) (g : Grow T n (advP 1 t) t1) : Grow T n t t1 := by
  obtain ⟨g1, g2, g3, g4⟩ := g
  have g3 : t.1 + 1 ≤ t1.1 := g3
  have g4 : (t1.2.2.2.length : Int) - t.2.2.2.length ≤ t1.1 - (t.1 + 1) := g4
  exact ⟨g1, g2, by omega, by omega⟩
theorem Grow.adv {T : Nat → Int} {n : Int} {t : Pst} (h : POk T n t) (k : t.1 < n) : Grow T n t (advP 1 t) := (Grow.rf (h.adv k)).step h k
theorem Rp.deep {T : Nat → Int} {n u : Int} {t : Pst} (hc : hereP T n t = 33 ∨ hereP T n t = 40) (h5 : t.2.2.1 = 5) : Rp T n u 1 6 t (wrP t) := by
  unfold Rp
  rw [if_neg (by omega), if_pos rfl, if_pos hc, if_pos h5]
theorem Rp.no {T : Nat → Int} {n u : Int} {F : Nat} {t t1 : Pst} (hc : hereP T n t = 33) (h5 : ¬ t.2.2.1 = 5) (k : Rp T n u F 6 (advP 1 (dpP 1 t)) t1) : Rp T n u (F + 1) 6 t (dpP (-1) (layP 20033 t1)) := by
  unfold Rp
  rw [if_neg (by omega), if_pos rfl, if_pos (Or.inl hc), if_neg h5, if_pos hc]
  exact ⟨t1, k, rfl⟩
theorem Rp.par {T : Nat → Int} {n u : Int} {F : Nat} {t t1 : Pst} (hc : hereP T n t = 40) (h5 : ¬ t.2.2.1 = 5) (k : Rp T n u F 1 (advP 1 (dpP 1 t)) t1) : Rp T n u (F + 1) 6 t (dpP (-1) (if hereP T n t1 = 41 then advP 1 t1 else wrP t1)) := by
  unfold Rp
  rw [if_neg (by omega), if_pos rfl, if_pos (Or.inr hc), if_neg h5, if_neg (by omega)]
  exact ⟨t1, k, rfl⟩
theorem p_opens {d : Nat} {s : mSt} {T : Nat → Int} {n u : Int} {m : Nat} (hE : RU T n u 181 1 7 m) (hU : RU T n u 187 6 2 m) {t : Pst} {c : Int} (hP : PS T n u s t) (hO : POk T n t) (hm : n - t.1 < (m : Int) + 1) (hd : 9 * (5 - t.2.2.1) + 2 ≤ (d : Int)) (hcc : c = hereP T n t) (hc : c = 33 ∨ c = 40) : CV (d + 1) 186 [.inr (.inr 146), .inl c] (s) (fun s1 => ∃ F t', Rp T n u F 6 t t' ∧ PS T n u s1 t' ∧ Grow T n t t' ∧ Fr [146, 152] s s1) := by
  refine CV.mk rfl ?_
  show WP (d + 1) 186 0 [some (.inr (.inr 146)), some (.inl c)] [] (encA (s)) _
  have e9 := hP.2.2.2.2.1
  have e6 := hP.2.1
  have h4 := hO.2.2.2.1
  have hlt := here_lt (T := T) (n := n) (t := t) (by omega)
  refine w_ldR rfl rfl rfl ?_
  first | refine w_getI rfl rfl rfl rfl rfl ?_ | refine w_getR rfl rfl rfl rfl rfl ?_
  refine w_push rfl ?_
  refine w_crNe rfl (by omega) (by omega) (fun b3 => ?_) (fun b3 => ?_)
  · first
    | (exfalso; omega)
    | (obtain ⟨e, rfl⟩ : ∃ e, d = e + 7 := ⟨d - 7, by omega⟩
       refine w_ldR rfl rfl rfl ?_
       first | refine w_dupI rfl ?_ | refine w_dupR rfl ?_
       first | refine w_getI rfl rfl rfl rfl rfl ?_ | refine w_getR rfl rfl rfl rfl rfl ?_
       refine w_push rfl ?_
       refine w_add rfl ?_
       refine w_putI rfl rfl rfl rfl rfl rfl rfl ?_
       rw [e9]
       refine w_ldR rfl rfl rfl ?_
       first | refine w_dupI rfl ?_ | refine w_dupR rfl ?_
       first | refine w_getI rfl rfl rfl rfl rfl ?_ | refine w_getR rfl rfl rfl rfl rfl ?_
       refine w_push rfl ?_
       refine w_add rfl ?_
       refine w_putI rfl rfl rfl rfl rfl rfl rfl ?_
       rw [show us s 146 9 (t.2.2.1 + 1) 146 6 = t.1 by rw [us_eq, mup_ne (by decide)]; exact e6]
       have hO1 : POk T n (dpP 1 t) := hO.dp (by omega)
       have hO2 := hO1.adv hlt.1
       refine w_ldI rfl rfl ?_
       refine w_push rfl ?_
       refine w_crNe rfl (by omega) (by omega) (fun b21 => ?_) (fun b21 => ?_)
       · first
         | (exfalso; omega)
         | (refine w_ldR rfl rfl rfl ?_
            refine w_callWN rfl rfl rfl rfl rfl rfl rfl (hE e _ (advP 1 (dpP 1 t)) (PS.adv (t := dpP 1 t) (PS.dp (k := 1) hP)) hO2 (by show n - (t.1 + 1) < (m : Int); omega) (by show 9 * (5 - (t.2.2.1 + 1)) + 2 ≤ (e : Int); omega)) (fun s29 p29 => ?_)
            obtain ⟨F29, t29, k29, gP29, gG29, f29⟩ := p29
            refine w_ldR rfl rfl rfl ?_
            refine w_push rfl ?_
            refine w_callWI rfl rfl rfl rfl rfl rfl rfl (p_takes gP29 gG29.1 (by omega)) (fun v32 s32 p32 => ?_)
            obtain ⟨rfl, h32⟩ := p32
            refine w_bNe0 rfl (fun b33 => ?_) (fun b33 => ?_)
            · first
              | (exfalso; omega)
              | (refine w_ldR rfl rfl rfl ?_
                 first | refine w_dupI rfl ?_ | refine w_dupR rfl ?_
                 first | refine w_getI rfl rfl rfl rfl rfl ?_ | refine w_getR rfl rfl rfl rfl rfl ?_
                 refine w_push rfl ?_
                 refine w_sub rfl ?_
                 refine w_putI rfl rfl rfl rfl rfl rfl rfl ?_
                 refine w_retV rfl ?_
                 first
                 | (rw [show s26 146 9 = (layP 20033 t23).2.2.1 from gP.2.2.2.2.1]
                    exact ⟨_, _, Rp.no (by omega) (by omega) k23, PS.dp (k := -1) gP, Grow.dp hO gG, ((((Fr.us (A := [146, 152]) (s := s) (a := 146) (i := 9) (v := t.2.2.1 + 1) rfl).tr (Fr.us (i := 6) (v := t.1 + 1) rfl)).tr f23).tr f26).tr (Fr.us rfl)⟩)
                 | (rw [if_pos b33] at h32
                    subst h32
                    have q := Rp.par (by omega) (by omega) k29
                    rw [if_pos b33] at q
                    have hlq := here_lt (T := T) (n := n) (t := t29) (by omega)
                    have gQ := PS.adv gP29
                    rw [show us s29 146 6 (t29.1 + 1) 146 9 = (advP 1 t29).2.2.1 from gQ.2.2.2.2.1]
                    exact ⟨_, _, q, PS.dp (k := -1) gQ, Grow.dp hO ((gG29.step hO1 hlt.1).tr (Grow.adv gG29.1 hlq.1)), ((((Fr.us (A := [146, 152]) (s := s) (a := 146) (i := 9) (v := t.2.2.1 + 1) rfl).tr (Fr.us (i := 6) (v := t.1 + 1) rfl)).tr f29).tr (Fr.us rfl)).tr (Fr.us rfl)⟩)
                 | (have q := Rp.par (by omega) (by omega) k29
                    rw [if_neg b33] at q
                    have gQ := PS.wr gP29
                    rw [show us s32 146 8 (wrP t29).2.1 146 9 = (wrP t29).2.2.1 from gQ.2.2.2.2.1]
                    exact ⟨_, _, q, PS.dp (k := -1) gQ, Grow.dp hO ((gG29.step hO1 hlt.1).tr (Grow.wr gG29.1)), ((((Fr.us (A := [146, 152]) (s := s) (a := 146) (i := 9) (v := t.2.2.1 + 1) rfl).tr (Fr.us (i := 6) (v := t.1 + 1) rfl)).tr f29).tr (Fr.us rfl)).tr (Fr.us rfl)⟩))
            · first
              | (exfalso; omega)
              | (rw [if_neg b33] at h32
                 subst h32
                 refine w_ldR rfl rfl rfl ?_
                 refine w_callWN rfl rfl rfl rfl rfl rfl rfl (p_wrong gP29 gG29.1) (fun s35 p35 => ?_)
                 subst p35
                 refine w_ldR rfl rfl rfl ?_
                 first | refine w_dupI rfl ?_ | refine w_dupR rfl ?_
                 first | refine w_getI rfl rfl rfl rfl rfl ?_ | refine w_getR rfl rfl rfl rfl rfl ?_
                 refine w_push rfl ?_
                 refine w_sub rfl ?_
                 refine w_putI rfl rfl rfl rfl rfl rfl rfl ?_
                 refine w_retV rfl ?_
                 first
                 | (rw [show s26 146 9 = (layP 20033 t23).2.2.1 from gP.2.2.2.2.1]
                    exact ⟨_, _, Rp.no (by omega) (by omega) k23, PS.dp (k := -1) gP, Grow.dp hO gG, ((((Fr.us (A := [146, 152]) (s := s) (a := 146) (i := 9) (v := t.2.2.1 + 1) rfl).tr (Fr.us (i := 6) (v := t.1 + 1) rfl)).tr f23).tr f26).tr (Fr.us rfl)⟩)
                 | (rw [if_pos b33] at h32
                    subst h32
                    have q := Rp.par (by omega) (by omega) k29
                    rw [if_pos b33] at q
                    have hlq := here_lt (T := T) (n := n) (t := t29) (by omega)
                    have gQ := PS.adv gP29
                    rw [show us s29 146 6 (t29.1 + 1) 146 9 = (advP 1 t29).2.2.1 from gQ.2.2.2.2.1]
                    exact ⟨_, _, q, PS.dp (k := -1) gQ, Grow.dp hO ((gG29.step hO1 hlt.1).tr (Grow.adv gG29.1 hlq.1)), ((((Fr.us (A := [146, 152]) (s := s) (a := 146) (i := 9) (v := t.2.2.1 + 1) rfl).tr (Fr.us (i := 6) (v := t.1 + 1) rfl)).tr f29).tr (Fr.us rfl)).tr (Fr.us rfl)⟩)
                 | (have q := Rp.par (by omega) (by omega) k29
                    rw [if_neg b33] at q
                    have gQ := PS.wr gP29
                    rw [show us s32 146 8 (wrP t29).2.1 146 9 = (wrP t29).2.2.1 from gQ.2.2.2.2.1]
                    exact ⟨_, _, q, PS.dp (k := -1) gQ, Grow.dp hO ((gG29.step hO1 hlt.1).tr (Grow.wr gG29.1)), ((((Fr.us (A := [146, 152]) (s := s) (a := 146) (i := 9) (v := t.2.2.1 + 1) rfl).tr (Fr.us (i := 6) (v := t.1 + 1) rfl)).tr f29).tr (Fr.us rfl)).tr (Fr.us rfl)⟩)))
       · first
         | (exfalso; omega)
         | (refine w_ldR rfl rfl rfl ?_
            refine w_callWN rfl rfl rfl rfl rfl rfl rfl (hU (e + 5) _ (advP 1 (dpP 1 t)) (PS.adv (t := dpP 1 t) (PS.dp (k := 1) hP)) hO2 (by show n - (t.1 + 1) < (m : Int); omega) (by show 9 * (5 - (t.2.2.1 + 1)) + 2 ≤ ((e + 5 : Nat) : Int); omega)) (fun s23 p23 => ?_)
            obtain ⟨F23, t23, k23, gP23, gG23, f23⟩ := p23
            refine w_ldR rfl rfl rfl ?_
            refine w_push rfl ?_
            obtain ⟨gG, gL⟩ := Grow.lay (v := 20033) hO1 hlt.1 gG23
            refine w_callWN rfl rfl rfl rfl rfl rfl rfl (p_lay gP23 gG23.1 gL) (fun s26 p26 => ?_)
            obtain ⟨gP, f26⟩ := p26
            refine w_go rfl ?_
            refine w_ldR rfl rfl rfl ?_
            first | refine w_dupI rfl ?_ | refine w_dupR rfl ?_
            first | refine w_getI rfl rfl rfl rfl rfl ?_ | refine w_getR rfl rfl rfl rfl rfl ?_
            refine w_push rfl ?_
            refine w_sub rfl ?_
            refine w_putI rfl rfl rfl rfl rfl rfl rfl ?_
            refine w_retV rfl ?_
            first
            | (rw [show s26 146 9 = (layP 20033 t23).2.2.1 from gP.2.2.2.2.1]
               exact ⟨_, _, Rp.no (by omega) (by omega) k23, PS.dp (k := -1) gP, Grow.dp hO gG, ((((Fr.us (A := [146, 152]) (s := s) (a := 146) (i := 9) (v := t.2.2.1 + 1) rfl).tr (Fr.us (i := 6) (v := t.1 + 1) rfl)).tr f23).tr f26).tr (Fr.us rfl)⟩)
            | (rw [if_pos b33] at h32
               subst h32
               have q := Rp.par (by omega) (by omega) k29
               rw [if_pos b33] at q
               have hlq := here_lt (T := T) (n := n) (t := t29) (by omega)
               have gQ := PS.adv gP29
               rw [show us s29 146 6 (t29.1 + 1) 146 9 = (advP 1 t29).2.2.1 from gQ.2.2.2.2.1]
               exact ⟨_, _, q, PS.dp (k := -1) gQ, Grow.dp hO ((gG29.step hO1 hlt.1).tr (Grow.adv gG29.1 hlq.1)), ((((Fr.us (A := [146, 152]) (s := s) (a := 146) (i := 9) (v := t.2.2.1 + 1) rfl).tr (Fr.us (i := 6) (v := t.1 + 1) rfl)).tr f29).tr (Fr.us rfl)).tr (Fr.us rfl)⟩)
            | (have q := Rp.par (by omega) (by omega) k29
               rw [if_neg b33] at q
               have gQ := PS.wr gP29
               rw [show us s32 146 8 (wrP t29).2.1 146 9 = (wrP t29).2.2.1 from gQ.2.2.2.2.1]
               exact ⟨_, _, q, PS.dp (k := -1) gQ, Grow.dp hO ((gG29.step hO1 hlt.1).tr (Grow.wr gG29.1)), ((((Fr.us (A := [146, 152]) (s := s) (a := 146) (i := 9) (v := t.2.2.1 + 1) rfl).tr (Fr.us (i := 6) (v := t.1 + 1) rfl)).tr f29).tr (Fr.us rfl)).tr (Fr.us rfl)⟩)))
  · first
    | (exfalso; omega)
    | (refine w_ldR rfl rfl rfl ?_
       refine w_callWN rfl rfl rfl rfl rfl rfl rfl (p_wrong hP hO) (fun s5 p5 => ?_)
       subst p5
       refine w_retV rfl ?_
       exact ⟨1, wrP t, Rp.deep (by omega) (by omega), hP.wr, Grow.wr hO, Fr.us rfl⟩)
