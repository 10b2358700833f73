/-! ===== the text: the grammar, plainly, and the reference's small calls ===== -/
/-- how strongly a sign joins -/
def rk (c : Int) : Int := if c = 124 then 1 else if c = 38 then 2 else if c = 60 ∨ c = 61 ∨ c = 62 then 3 else if c = 43 ∨ c = 45 then 4 else if c = 42 ∨ c = 47 ∨ c = 37 then 5 else 0
/-- which name a letter is -/
def nmF (u c : Int) : Int := if u = 1 then (if c = 110 then 0 else if c = 101 then 1 else if c = 114 then 2 else if c = 116 then 3 else -1) else (if c = 102 then 0 else if c = 100 then 1 else if c = 108 then 2 else if c = 115 then 3 else -1)
/-- place, fault, depth, what is laid -/
abbrev Pst := Int × Int × Int × List Int
def hereP (T : Nat → Int) (n : Int) (t : Pst) : Int := if t.1 < n ∧ t.2.1 < 0 then T t.1.toNat else -1
def layP (v : Int) (t : Pst) : Pst := if t.2.1 < 0 then (t.1, t.2.1, t.2.2.1, t.2.2.2 ++ [v]) else t
def wrP (t : Pst) : Pst := if t.2.1 < 0 then (t.1, t.1, t.2.2) else t
def advP (k : Int) (t : Pst) : Pst := (t.1 + k, t.2)
def dpP (k : Int) (t : Pst) : Pst := (t.1, t.2.1, t.2.2.1 + k, t.2.2.2)
/-- the reference's reader stands so -/
def PS (T : Nat → Int) (n u : Int) (s : mSt) (t : Pst) : Prop := (s 146 5 = 243 ∧ s 146 3 = T 60 ∧ s 146 21 = T 61) ∧ s 146 6 = t.1 ∧ s 146 7 = n ∧ s 146 8 = t.2.1 ∧ s 146 9 = t.2.2.1 ∧ s 146 10 = (if u = 1 then 1 else 0) ∧ s 146 13 = (t.2.2.2.length : Int) ∧ (∀ i : Nat, i < t.2.2.2.length → s 152 i = t.2.2.2.getD i 0) ∧ ∀ i : Nat, (i : Int) < n → s 147 (243 + i) = T i
/-- bounds of what the reader holds -/
def POk (T : Nat → Int) (n : Int) (t : Pst) : Prop := (0 ≤ n ∧ n ≤ 50) ∧ (0 ≤ t.1 ∧ t.1 ≤ n) ∧ (-1 ≤ t.2.1 ∧ t.2.1 ≤ n) ∧ (0 ≤ t.2.2.1 ∧ t.2.2.1 ≤ 5) ∧ ((t.2.2.2.length : Int) ≤ t.1) ∧ ∀ i : Nat, (i : Int) < n → 0 ≤ T i ∧ T i ≤ 255
theorem hereP_rng {T : Nat → Int} {n : Int} {t : Pst} (h : POk T n t) : -1 ≤ hereP T n t ∧ hereP T n t ≤ 255 := by
  obtain ⟨h1, h2, h3, h4, h5, h6⟩ := h
  unfold hereP
  split
  · have := h6 t.1.toNat (by omega)
    omega
  · omega
theorem nmF_rng (u c : Int) : -1 ≤ nmF u c ∧ nmF u c ≤ 3 := by
  unfold nmF
  repeat' split
  all_goals omega
theorem p_here {d : Nat} {s : mSt} {T : Nat → Int} {n u : Int} {t : Pst} (hP : PS T n u s t) (hO : POk T n t)  : Call (d + 0) 176 [.inr (.inr 146)] (encA (s)) (some (.inl (hereP T n t))) (encA (s)) := by
  refine CI.ex (CI.mk rfl ?_)
  show WP (d + 0) 176 0 [some (.inr (.inr 146))] [] (encA (s)) _
  obtain ⟨⟨e5, e3, e21⟩, e6, e7, e8, e9, e10, e13, eC, eT⟩ := hP
  obtain ⟨h1, h2, h3, h4, h5, h6⟩ := hO
  refine w_ldR rfl rfl rfl ?_
  first | refine w_getI rfl rfl rfl rfl rfl ?_ | refine w_getR rfl rfl rfl rfl rfl ?_
  refine w_ldR rfl rfl rfl ?_
  first | refine w_getI rfl rfl rfl rfl rfl ?_ | refine w_getR rfl rfl rfl rfl rfl ?_
  refine w_crGe rfl (by omega) (by omega) (fun b4 => ?_) (fun b4 => ?_)
  · first
    | (exfalso; omega)
    | (refine w_push rfl ?_
       refine w_retI rfl ?_
       refine ⟨?_, rfl⟩
       unfold hereP
       first | rw [if_pos (by omega)] | rw [if_neg (by omega)])
  · first
    | (exfalso; omega)
    | (refine w_ldR rfl rfl rfl ?_
       first | refine w_getI rfl rfl rfl rfl rfl ?_ | refine w_getR rfl rfl rfl rfl rfl ?_
       refine w_irGe0 rfl (by omega) (fun b7 => ?_) (fun b7 => ?_)
       · first
         | (exfalso; omega)
         | (refine w_push rfl ?_
            refine w_retI rfl ?_
            refine ⟨?_, rfl⟩
            unfold hereP
            first | rw [if_pos (by omega)] | rw [if_neg (by omega)])
       · first
         | (exfalso; omega)
         | (refine w_ldR rfl rfl rfl ?_
            first | refine w_getI rfl rfl rfl rfl rfl ?_ | refine w_getR rfl rfl rfl rfl rfl ?_
            refine w_ldR rfl rfl rfl ?_
            first | refine w_getI rfl rfl rfl rfl rfl ?_ | refine w_getR rfl rfl rfl rfl rfl ?_
            refine w_ldR rfl rfl rfl ?_
            first | refine w_getI rfl rfl rfl rfl rfl ?_ | refine w_getR rfl rfl rfl rfl rfl ?_
            refine w_add rfl ?_
            refine w_ald rfl rfl rfl (by omega) rfl ?_
            rw [show (s 146 5 + s 146 6).toNat = 243 + t.1.toNat by omega, eT _ (by omega)]
            refine w_go rfl ?_
            refine w_retI rfl ?_
            refine ⟨?_, rfl⟩
            unfold hereP
            first | rw [if_pos (by omega)] | rw [if_neg (by omega)]))
theorem p_wrong {d : Nat} {s : mSt} {T : Nat → Int} {n u : Int} {t : Pst} (hP : PS T n u s t) (hO : POk T n t)  : CV (d + 0) 177 [.inr (.inr 146)] (s) (fun s1 => s1 = us s 146 8 (wrP t).2.1) := by
  refine CV.mk rfl ?_
  show WP (d + 0) 177 0 [some (.inr (.inr 146))] [] (encA (s)) _
  obtain ⟨⟨e5, e3, e21⟩, e6, e7, e8, e9, e10, e13, eC, eT⟩ := hP
  obtain ⟨h1, h2, h3, h4, h5, h6⟩ := hO
  refine w_ldR rfl rfl rfl ?_
  refine w_ldR rfl rfl rfl ?_
  first | refine w_getI rfl rfl rfl rfl rfl ?_ | refine w_getR rfl rfl rfl rfl rfl ?_
  refine w_irGe0 rfl (by omega) (fun b3 => ?_) (fun b3 => ?_)
  · first
    | (exfalso; omega)
    | (refine w_ldR rfl rfl rfl ?_
       first | refine w_getI rfl rfl rfl rfl rfl ?_ | refine w_getR rfl rfl rfl rfl rfl ?_
       refine w_putI rfl rfl rfl rfl rfl rfl rfl ?_
       refine w_retV rfl ?_
       unfold wrP
       first | (rw [if_pos (by omega), e6]) | (rw [if_neg (by omega), e8]))
  · first
    | (exfalso; omega)
    | (refine w_ldR rfl rfl rfl ?_
       first | refine w_getI rfl rfl rfl rfl rfl ?_ | refine w_getR rfl rfl rfl rfl rfl ?_
       refine w_go rfl ?_
       refine w_putI rfl rfl rfl rfl rfl rfl rfl ?_
       refine w_retV rfl ?_
       unfold wrP
       first | (rw [if_pos (by omega), e6]) | (rw [if_neg (by omega), e8]))
theorem p_nameOf {d : Nat} {s : mSt} {u c : Int} (hu : s 146 10 = (if u = 1 then 1 else 0)) (hc : -1 ≤ c ∧ c ≤ 255) : Call (d + 0) 179 [.inr (.inr 146), .inl c] (encA (s)) (some (.inl (nmF u c))) (encA (s)) := by
  refine CI.ex (CI.mk rfl ?_)
  show WP (d + 0) 179 0 [some (.inr (.inr 146)), some (.inl c)] [] (encA (s)) _
  refine w_ldR rfl rfl rfl ?_
  first | refine w_getI rfl rfl rfl rfl rfl ?_ | refine w_getR rfl rfl rfl rfl rfl ?_
  rw [hu]
  refine w_irEq0 rfl (by split <;> omega) (fun b2 => ?_) (fun b2 => ?_)
  · first
    | (exfalso; omega)
    | (refine w_ldI rfl rfl ?_
       refine w_push rfl ?_
       refine w_crNe rfl (by omega) (by omega) (fun b27 => ?_) (fun b27 => ?_)
       · first
         | (exfalso; omega)
         | (refine w_ldI rfl rfl ?_
            refine w_push rfl ?_
            refine w_crNe rfl (by omega) (by omega) (fun b32 => ?_) (fun b32 => ?_)
            · first
              | (exfalso; omega)
              | (refine w_ldI rfl rfl ?_
                 refine w_push rfl ?_
                 refine w_crNe rfl (by omega) (by omega) (fun b37 => ?_) (fun b37 => ?_)
                 · first
                   | (exfalso; omega)
                   | (refine w_ldI rfl rfl ?_
                      refine w_push rfl ?_
                      refine w_crNe rfl (by omega) (by omega) (fun b42 => ?_) (fun b42 => ?_)
                      · first
                        | (exfalso; omega)
                        | (refine w_push rfl ?_
                           refine w_retI rfl ?_
                           refine ⟨?_, rfl⟩
                           unfold nmF
                           repeat' split
                           all_goals omega)
                      · first
                        | (exfalso; omega)
                        | (refine w_push rfl ?_
                           refine w_go rfl ?_
                           refine w_retI rfl ?_
                           refine ⟨?_, rfl⟩
                           unfold nmF
                           repeat' split
                           all_goals omega))
                 · first
                   | (exfalso; omega)
                   | (refine w_push rfl ?_
                      refine w_go rfl ?_
                      refine w_retI rfl ?_
                      refine ⟨?_, rfl⟩
                      unfold nmF
                      repeat' split
                      all_goals omega))
            · first
              | (exfalso; omega)
              | (refine w_push rfl ?_
                 refine w_go rfl ?_
                 refine w_retI rfl ?_
                 refine ⟨?_, rfl⟩
                 unfold nmF
                 repeat' split
                 all_goals omega))
       · first
         | (exfalso; omega)
         | (refine w_push rfl ?_
            refine w_go rfl ?_
            refine w_retI rfl ?_
            refine ⟨?_, rfl⟩
            unfold nmF
            repeat' split
            all_goals omega))
  · first
    | (exfalso; omega)
    | (refine w_ldI rfl rfl ?_
       refine w_push rfl ?_
       refine w_crNe rfl (by omega) (by omega) (fun b5 => ?_) (fun b5 => ?_)
       · first
         | (exfalso; omega)
         | (refine w_ldI rfl rfl ?_
            refine w_push rfl ?_
            refine w_crNe rfl (by omega) (by omega) (fun b10 => ?_) (fun b10 => ?_)
            · first
              | (exfalso; omega)
              | (refine w_ldI rfl rfl ?_
                 refine w_push rfl ?_
                 refine w_crNe rfl (by omega) (by omega) (fun b15 => ?_) (fun b15 => ?_)
                 · first
                   | (exfalso; omega)
                   | (refine w_ldI rfl rfl ?_
                      refine w_push rfl ?_
                      refine w_crNe rfl (by omega) (by omega) (fun b20 => ?_) (fun b20 => ?_)
                      · first
                        | (exfalso; omega)
                        | (refine w_push rfl ?_
                           refine w_retI rfl ?_
                           refine ⟨?_, rfl⟩
                           unfold nmF
                           repeat' split
                           all_goals omega)
                      · first
                        | (exfalso; omega)
                        | (refine w_push rfl ?_
                           refine w_go rfl ?_
                           refine w_retI rfl ?_
                           refine ⟨?_, rfl⟩
                           unfold nmF
                           repeat' split
                           all_goals omega))
                 · first
                   | (exfalso; omega)
                   | (refine w_push rfl ?_
                      refine w_go rfl ?_
                      refine w_retI rfl ?_
                      refine ⟨?_, rfl⟩
                      unfold nmF
                      repeat' split
                      all_goals omega))
            · first
              | (exfalso; omega)
              | (refine w_push rfl ?_
                 refine w_go rfl ?_
                 refine w_retI rfl ?_
                 refine ⟨?_, rfl⟩
                 unfold nmF
                 repeat' split
                 all_goals omega))
       · first
         | (exfalso; omega)
         | (refine w_push rfl ?_
            refine w_go rfl ?_
            refine w_retI rfl ?_
            refine ⟨?_, rfl⟩
            unfold nmF
            repeat' split
            all_goals omega))
theorem p_takes {d : Nat} {s : mSt} {T : Nat → Int} {n u : Int} {t : Pst} (hP : PS T n u s t) (hO : POk T n t) {c : Int} (hc : 0 ≤ c ∧ c ≤ 255) : CI (d + 1) 178 [.inr (.inr 146), .inl c] (s) (fun r s1 => r = bI (hereP T n t = c) ∧ s1 = (if hereP T n t = c then us s 146 6 (t.1 + 1) else s)) := by
  refine CI.mk rfl ?_
  show WP (d + 1) 178 0 [some (.inr (.inr 146)), some (.inl c)] [] (encA (s)) _
  have hh := hereP_rng hO
  have hP0 := hP
  have hO0 := hO
  obtain ⟨⟨e5, e3, e21⟩, e6, e7, e8, e9, e10, e13, eC, eT⟩ := hP
  obtain ⟨h1, h2, h3, h4, h5, h6⟩ := hO
  refine w_ldR rfl rfl rfl ?_
  refine w_callV rfl rfl rfl rfl rfl rfl rfl (p_here hP0 hO0) ?_
  refine w_ldI rfl rfl ?_
  refine w_crEq rfl (by omega) (by omega) (fun b3 => ?_) (fun b3 => ?_)
  · first
    | (exfalso; omega)
    | (refine w_ldR rfl rfl rfl ?_
       first | refine w_dupI rfl ?_ | refine w_dupR rfl ?_
       first | refine w_getI rfl rfl rfl rfl rfl ?_ | refine w_getR rfl rfl rfl rfl rfl ?_
       rw [e6]
       refine w_push rfl ?_
       refine w_add rfl ?_
       refine w_putI rfl rfl rfl rfl rfl rfl rfl ?_
       refine w_push rfl ?_
       refine w_retB rfl (by first | exact bI_01 _ | decide | omega) ?_
       unfold bI
       first | (rw [if_pos (by omega), if_pos (by omega)]; exact ⟨rfl, rfl⟩) | (rw [if_neg (by omega), if_neg (by omega)]; exact ⟨rfl, rfl⟩))
  · first
    | (exfalso; omega)
    | (refine w_push rfl ?_
       refine w_retB rfl (by first | exact bI_01 _ | decide | omega) ?_
       unfold bI
       first | (rw [if_pos (by omega), if_pos (by omega)]; exact ⟨rfl, rfl⟩) | (rw [if_neg (by omega), if_neg (by omega)]; exact ⟨rfl, rfl⟩))
theorem lay_C {s : mSt} {C : List Int} {v : Int} (h : ∀ i : Nat, i < C.length → s 152 i = C.getD i 0) : ∀ i : Nat, i < (C ++ [v]).length → mup (s 152) C.length v i = (C ++ [v]).getD i 0 := by
  intro i hi
  rw [List.length_append] at hi
  have hi : i < C.length + 1 := hi
  by_cases e : i = C.length
  · subst e
    rw [mup_eq]
    simp
  · rw [mup_ne e, h i (by omega)]
    simp [List.getD, List.getElem?_append_left (show i < C.length by omega)]
theorem p_lay {d : Nat} {s : mSt} {T : Nat → Int} {n u : Int} {t : Pst} (hP : PS T n u s t) (hO : POk T n t) (hL : t.2.1 < 0 → (t.2.2.2.length : Int) < t.1) {v : Int} : CV (d + 0) 180 [.inr (.inr 146), .inl v] (s) (fun s1 => PS T n u s1 (layP v t) ∧ Fr [146, 152] s s1) := by
  refine CV.mk rfl ?_
  show WP (d + 0) 180 0 [some (.inr (.inr 146)), some (.inl v)] [] (encA (s)) _
  have hP0 := hP
  obtain ⟨⟨e5, e3, e21⟩, e6, e7, e8, e9, e10, e13, eC, eT⟩ := hP
  obtain ⟨h1, h2, h3, h4, h5, h6⟩ := hO
  refine w_ldR rfl rfl rfl ?_
  first | refine w_getI rfl rfl rfl rfl rfl ?_ | refine w_getR rfl rfl rfl rfl rfl ?_
  refine w_irGe0 rfl (by omega) (fun b2 => ?_) (fun b2 => ?_)
  · first
    | (exfalso; omega)
    | (refine w_retV rfl ?_
       unfold layP
       first
       | (rw [if_neg (by omega)]; exact ⟨hP0, Fr.rf⟩)
       | (rw [if_pos (by omega)]
          refine ⟨⟨?_, ?_, ?_, ?_, ?_, ?_, ?_, ?_, ?_⟩, (Fr.us rfl).tr (Fr.us rfl)⟩
          · exact ⟨by rw [us_eq, mup_ne (by decide), us_ne (by decide)]; exact e5, by rw [us_eq, mup_ne (by decide), us_ne (by decide)]; exact e3, by rw [us_eq, mup_ne (by decide), us_ne (by decide)]; exact e21⟩
          · rw [us_eq, mup_ne (by decide), us_ne (by decide)]; exact e6
          · rw [us_eq, mup_ne (by decide), us_ne (by decide)]; exact e7
          · rw [us_eq, mup_ne (by decide), us_ne (by decide)]; exact e8
          · rw [us_eq, mup_ne (by decide), us_ne (by decide)]; exact e9
          · rw [us_eq, mup_ne (by decide), us_ne (by decide)]; exact e10
          · rw [us_eq, mup_eq]
            show (t.2.2.2.length : Int) + 1 = ((t.2.2.2 ++ [v]).length : Int)
            rw [List.length_append]
            rfl
          · intro i hi
            rw [us_ne (by decide), us_eq]
            exact lay_C eC i hi
          · intro i hi
            rw [us_ne (by decide), us_ne (by decide)]
            exact eT i hi))
  · first
    | (exfalso; omega)
    | (refine w_ldR rfl rfl rfl ?_
       first | refine w_getI rfl rfl rfl rfl rfl ?_ | refine w_getR rfl rfl rfl rfl rfl ?_
       refine w_ldR rfl rfl rfl ?_
       first | refine w_getI rfl rfl rfl rfl rfl ?_ | refine w_getR rfl rfl rfl rfl rfl ?_
       refine w_ldI rfl rfl ?_
       refine w_ast rfl rfl rfl (by omega) rfl ?_
       rw [e13, Int.toNat_natCast]
       refine w_ldR rfl rfl rfl ?_
       first | refine w_dupI rfl ?_ | refine w_dupR rfl ?_
       first | refine w_getI rfl rfl rfl rfl rfl ?_ | refine w_getR rfl rfl rfl rfl rfl ?_
       refine w_push rfl ?_
       rw [us_ne (by decide), e13]
       refine w_add rfl ?_
       refine w_putI rfl rfl rfl rfl rfl rfl rfl ?_
       refine w_retV rfl ?_
       unfold layP
       first
       | (rw [if_neg (by omega)]; exact ⟨hP0, Fr.rf⟩)
       | (rw [if_pos (by omega)]
          refine ⟨⟨?_, ?_, ?_, ?_, ?_, ?_, ?_, ?_, ?_⟩, (Fr.us rfl).tr (Fr.us rfl)⟩
          · exact ⟨by rw [us_eq, mup_ne (by decide), us_ne (by decide)]; exact e5, by rw [us_eq, mup_ne (by decide), us_ne (by decide)]; exact e3, by rw [us_eq, mup_ne (by decide), us_ne (by decide)]; exact e21⟩
          · rw [us_eq, mup_ne (by decide), us_ne (by decide)]; exact e6
          · rw [us_eq, mup_ne (by decide), us_ne (by decide)]; exact e7
          · rw [us_eq, mup_ne (by decide), us_ne (by decide)]; exact e8
          · rw [us_eq, mup_ne (by decide), us_ne (by decide)]; exact e9
          · rw [us_eq, mup_ne (by decide), us_ne (by decide)]; exact e10
          · rw [us_eq, mup_eq]
            show (t.2.2.2.length : Int) + 1 = ((t.2.2.2 ++ [v]).length : Int)
            rw [List.length_append]
            rfl
          · intro i hi
            rw [us_ne (by decide), us_eq]
            exact lay_C eC i hi
          · intro i hi
            rw [us_ne (by decide), us_ne (by decide)]
            exact eT i hi))
