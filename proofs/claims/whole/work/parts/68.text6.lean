/-! ===== the text: the reference's reads ===== -/
def p0P : Pst := (0, -1, 0, [])
def finP (n : Int) (t : Pst) : Pst := if t.2.1 < 0 ∧ t.1 < n then wrP t else t
/-- what the text of n signs T gives for a use, by the grammar -/
def Rd (T : Nat → Int) (n u : Int) (t : Pst) : Prop := ∃ F t1, Rp T n u F 1 p0P t1 ∧ t = finP n t1
theorem p_reads {d : Nat} {s : mSt} {T : Nat → Int} {n u : Int} (hn : 0 ≤ n ∧ n ≤ 50) (hu : 0 ≤ u ∧ u ≤ 1) (h3 : s 146 3 = T 60) (h21 : s 146 21 = T 61) (hT : ∀ i : Nat, (i : Int) < n → s 147 (243 + i) = T i) (hR : ∀ i : Nat, (i : Int) < n → 0 ≤ T i ∧ T i ≤ 255) (hd : 47 ≤ d) : CV (d + 8) 188 [.inr (.inr 146), .inl 243, .inl n, .inl u] (s) (fun s1 => ∃ t, Rd T n u t ∧ PS T n u s1 t ∧ POk T n t ∧ t.2.2.1 = 0 ∧ Fr [146, 152] s s1) := by
  refine CV.mk rfl ?_
  show WP (d + 8) 188 0 [some (.inr (.inr 146)), some (.inl 243), some (.inl n), some (.inl u)] [] (encA (s)) _
  have hE := (p_all (T := T) (n := n) (u := u) 51).2
  have hO : POk T n p0P := ⟨hn, ⟨by show (0 : Int) ≤ 0; omega, by show (0 : Int) ≤ n; omega⟩, ⟨by show (-1 : Int) ≤ -1; omega, by show (-1 : Int) ≤ n; omega⟩, ⟨by show (0 : Int) ≤ 0; omega, by show (0 : Int) ≤ 5; omega⟩, by show ((0 : Nat) : Int) ≤ 0; omega, hR⟩
  refine w_ldR rfl rfl rfl ?_
  refine w_ldI rfl rfl ?_
  refine w_putI rfl rfl rfl rfl rfl rfl rfl ?_
  refine w_ldR rfl rfl rfl ?_
  refine w_push rfl ?_
  refine w_putI rfl rfl rfl rfl rfl rfl rfl ?_
  refine w_ldR rfl rfl rfl ?_
  refine w_ldI rfl rfl ?_
  refine w_putI rfl rfl rfl rfl rfl rfl rfl ?_
  refine w_ldR rfl rfl rfl ?_
  refine w_push rfl ?_
  refine w_putI rfl rfl rfl rfl rfl rfl rfl ?_
  refine w_ldR rfl rfl rfl ?_
  refine w_push rfl ?_
  refine w_putI rfl rfl rfl rfl rfl rfl rfl ?_
  refine w_ldR rfl rfl rfl ?_
  refine w_push rfl ?_
  refine w_putI rfl rfl rfl rfl rfl rfl rfl ?_
  refine w_ldR rfl rfl rfl ?_
  refine w_ldI rfl rfl ?_
  refine w_push rfl ?_
  refine w_crNe rfl (by omega) (by omega) (fun b21 => ?_) (fun b21 => ?_)
  · first
    | (exfalso; omega)
    | (refine w_push rfl ?_
       refine w_putI rfl rfl rfl rfl rfl rfl rfl ?_
       refine w_ldR rfl rfl rfl ?_
       refine w_callWN rfl rfl rfl rfl rfl rfl rfl (hE d _ p0P ⟨⟨by simp only [us_eq]; rfl, by simp only [us_eq]; exact h3, by simp only [us_eq]; exact h21⟩, by simp only [us_eq]; rfl, by simp only [us_eq]; rfl, by simp only [us_eq]; rfl, by simp only [us_eq]; rfl, by simp only [us_eq]; (first | (rw [if_pos b21]; rfl) | (rw [if_neg b21]; rfl)), by simp only [us_eq]; rfl, fun i hi => absurd hi (Nat.not_lt_zero i), fun i hi => by rw [us_ne (by decide), us_ne (by decide), us_ne (by decide), us_ne (by decide), us_ne (by decide), us_ne (by decide), us_ne (by decide)]; exact hT i hi⟩ hO (by show n - 0 < ((51 : Nat) : Int); omega) (by show 9 * (5 - (0 : Int)) + 2 ≤ (d : Int); omega)) (fun s27 p27 => ?_)
       obtain ⟨F, t, kR, gP, gG, f27⟩ := p27
       have g8 := gP.2.2.2.1
       have g6 := gP.2.1
       have g7 := gP.2.2.1
       have gO := gG.1
       have gd : t.2.2.1 = 0 := gG.2.1
       obtain ⟨o1, o2, o3, o4, o5, o6⟩ := gO
       have fS := (((((((Fr.us (A := [146, 152]) (s := s) (a := 146) (i := 5) (v := 243) rfl).tr (Fr.us rfl)).tr (Fr.us rfl)).tr (Fr.us rfl)).tr (Fr.us rfl)).tr (Fr.us rfl)).tr (Fr.us rfl)).tr f27
       refine w_ldR rfl rfl rfl ?_
       first | refine w_getI rfl rfl rfl rfl rfl ?_ | refine w_getR rfl rfl rfl rfl rfl ?_
       refine w_irGe0 rfl (by omega) (fun b30 => ?_) (fun b30 => ?_)
       · first
         | (exfalso; omega)
         | (refine w_retV rfl ?_
            first
            | exact ⟨finP n t, ⟨F, t, kR, rfl⟩, by unfold finP; rw [if_pos (by omega)]; exact gP.wr, by unfold finP; rw [if_pos (by omega)]; exact (Grow.wr gG.1).1, by unfold finP; rw [if_pos (by omega), wrP_2]; exact gd, fS.tr (Fr.us rfl)⟩
            | exact ⟨finP n t, ⟨F, t, kR, rfl⟩, by unfold finP; rw [if_neg (by omega)]; exact gP, by unfold finP; rw [if_neg (by omega)]; exact gG.1, by unfold finP; rw [if_neg (by omega)]; exact gd, fS⟩)
       · first
         | (exfalso; omega)
         | (refine w_ldR rfl rfl rfl ?_
            first | refine w_getI rfl rfl rfl rfl rfl ?_ | refine w_getR rfl rfl rfl rfl rfl ?_
            refine w_ldR rfl rfl rfl ?_
            first | refine w_getI rfl rfl rfl rfl rfl ?_ | refine w_getR rfl rfl rfl rfl rfl ?_
            refine w_crGe rfl (by omega) (by omega) (fun b35 => ?_) (fun b35 => ?_)
            · first
              | (exfalso; omega)
              | (refine w_retV rfl ?_
                 first
                 | exact ⟨finP n t, ⟨F, t, kR, rfl⟩, by unfold finP; rw [if_pos (by omega)]; exact gP.wr, by unfold finP; rw [if_pos (by omega)]; exact (Grow.wr gG.1).1, by unfold finP; rw [if_pos (by omega), wrP_2]; exact gd, fS.tr (Fr.us rfl)⟩
                 | exact ⟨finP n t, ⟨F, t, kR, rfl⟩, by unfold finP; rw [if_neg (by omega)]; exact gP, by unfold finP; rw [if_neg (by omega)]; exact gG.1, by unfold finP; rw [if_neg (by omega)]; exact gd, fS⟩)
            · first
              | (exfalso; omega)
              | (refine w_ldR rfl rfl rfl ?_
                 refine w_callWN rfl rfl rfl rfl rfl rfl rfl (p_wrong gP gG.1) (fun s37 p37 => ?_)
                 subst p37
                 refine w_retV rfl ?_
                 first
                 | exact ⟨finP n t, ⟨F, t, kR, rfl⟩, by unfold finP; rw [if_pos (by omega)]; exact gP.wr, by unfold finP; rw [if_pos (by omega)]; exact (Grow.wr gG.1).1, by unfold finP; rw [if_pos (by omega), wrP_2]; exact gd, fS.tr (Fr.us rfl)⟩
                 | exact ⟨finP n t, ⟨F, t, kR, rfl⟩, by unfold finP; rw [if_neg (by omega)]; exact gP, by unfold finP; rw [if_neg (by omega)]; exact gG.1, by unfold finP; rw [if_neg (by omega)]; exact gd, fS⟩)))
  · first
    | (exfalso; omega)
    | (refine w_push rfl ?_
       refine w_go rfl ?_
       refine w_putI rfl rfl rfl rfl rfl rfl rfl ?_
       refine w_ldR rfl rfl rfl ?_
       refine w_callWN rfl rfl rfl rfl rfl rfl rfl (hE d _ p0P ⟨⟨by simp only [us_eq]; rfl, by simp only [us_eq]; exact h3, by simp only [us_eq]; exact h21⟩, by simp only [us_eq]; rfl, by simp only [us_eq]; rfl, by simp only [us_eq]; rfl, by simp only [us_eq]; rfl, by simp only [us_eq]; (first | (rw [if_pos b21]; rfl) | (rw [if_neg b21]; rfl)), by simp only [us_eq]; rfl, fun i hi => absurd hi (Nat.not_lt_zero i), fun i hi => by rw [us_ne (by decide), us_ne (by decide), us_ne (by decide), us_ne (by decide), us_ne (by decide), us_ne (by decide), us_ne (by decide)]; exact hT i hi⟩ hO (by show n - 0 < ((51 : Nat) : Int); omega) (by show 9 * (5 - (0 : Int)) + 2 ≤ (d : Int); omega)) (fun s27 p27 => ?_)
       obtain ⟨F, t, kR, gP, gG, f27⟩ := p27
       have g8 := gP.2.2.2.1
       have g6 := gP.2.1
       have g7 := gP.2.2.1
       have gO := gG.1
       have gd : t.2.2.1 = 0 := gG.2.1
       obtain ⟨o1, o2, o3, o4, o5, o6⟩ := gO
       have fS := (((((((Fr.us (A := [146, 152]) (s := s) (a := 146) (i := 5) (v := 243) rfl).tr (Fr.us rfl)).tr (Fr.us rfl)).tr (Fr.us rfl)).tr (Fr.us rfl)).tr (Fr.us rfl)).tr (Fr.us rfl)).tr f27
       refine w_ldR rfl rfl rfl ?_
       first | refine w_getI rfl rfl rfl rfl rfl ?_ | refine w_getR rfl rfl rfl rfl rfl ?_
       refine w_irGe0 rfl (by omega) (fun b30 => ?_) (fun b30 => ?_)
       · first
         | (exfalso; omega)
         | (refine w_retV rfl ?_
            first
            | exact ⟨finP n t, ⟨F, t, kR, rfl⟩, by unfold finP; rw [if_pos (by omega)]; exact gP.wr, by unfold finP; rw [if_pos (by omega)]; exact (Grow.wr gG.1).1, by unfold finP; rw [if_pos (by omega), wrP_2]; exact gd, fS.tr (Fr.us rfl)⟩
            | exact ⟨finP n t, ⟨F, t, kR, rfl⟩, by unfold finP; rw [if_neg (by omega)]; exact gP, by unfold finP; rw [if_neg (by omega)]; exact gG.1, by unfold finP; rw [if_neg (by omega)]; exact gd, fS⟩)
       · first
         | (exfalso; omega)
         | (refine w_ldR rfl rfl rfl ?_
            first | refine w_getI rfl rfl rfl rfl rfl ?_ | refine w_getR rfl rfl rfl rfl rfl ?_
            refine w_ldR rfl rfl rfl ?_
            first | refine w_getI rfl rfl rfl rfl rfl ?_ | refine w_getR rfl rfl rfl rfl rfl ?_
            refine w_crGe rfl (by omega) (by omega) (fun b35 => ?_) (fun b35 => ?_)
            · first
              | (exfalso; omega)
              | (refine w_retV rfl ?_
                 first
                 | exact ⟨finP n t, ⟨F, t, kR, rfl⟩, by unfold finP; rw [if_pos (by omega)]; exact gP.wr, by unfold finP; rw [if_pos (by omega)]; exact (Grow.wr gG.1).1, by unfold finP; rw [if_pos (by omega), wrP_2]; exact gd, fS.tr (Fr.us rfl)⟩
                 | exact ⟨finP n t, ⟨F, t, kR, rfl⟩, by unfold finP; rw [if_neg (by omega)]; exact gP, by unfold finP; rw [if_neg (by omega)]; exact gG.1, by unfold finP; rw [if_neg (by omega)]; exact gd, fS⟩)
            · first
              | (exfalso; omega)
              | (refine w_ldR rfl rfl rfl ?_
                 refine w_callWN rfl rfl rfl rfl rfl rfl rfl (p_wrong gP gG.1) (fun s37 p37 => ?_)
                 subst p37
                 refine w_retV rfl ?_
                 first
                 | exact ⟨finP n t, ⟨F, t, kR, rfl⟩, by unfold finP; rw [if_pos (by omega)]; exact gP.wr, by unfold finP; rw [if_pos (by omega)]; exact (Grow.wr gG.1).1, by unfold finP; rw [if_pos (by omega), wrP_2]; exact gd, fS.tr (Fr.us rfl)⟩
                 | exact ⟨finP n t, ⟨F, t, kR, rfl⟩, by unfold finP; rw [if_neg (by omega)]; exact gP, by unfold finP; rw [if_neg (by omega)]; exact gG.1, by unfold finP; rw [if_neg (by omega)]; exact gd, fS⟩)))
