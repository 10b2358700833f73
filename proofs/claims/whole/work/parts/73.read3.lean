/-! ===== the text: what the grammar gives can be worked out ===== -/
def dlt (v : Int) : Int := if v < 20000 then 1 else if v = 20033 then 0 else -1
def hgx (C : List Int) : Nat → Int
  | 0 => 0
  | k + 1 => hgx C k + dlt (C.getD k 0)
def Cnd (v h : Int) : Prop := (0 ≤ v ∧ v < 20200) ∧ (v ≤ 20000 → v < 10004) ∧ 0 ≤ h ∧ (v = 20033 → 1 ≤ h) ∧ (20000 ≤ v → v ≠ 20033 → 2 ≤ h)
def Wfc (C : List Int) : Prop := ∀ k : Nat, k < C.length → Cnd (C.getD k 0) (hgx C k)
theorem getD_l {C : List Int} {v : Int} {i : Nat} (h : i < C.length) : (C ++ [v]).getD i 0 = C.getD i 0 := by
  simp [List.getD, List.getElem?_append_left h]
theorem getD_r {C : List Int} {v : Int} : (C ++ [v]).getD C.length 0 = v := by
  simp [List.getD]
theorem hgx_l {C : List Int} {v : Int} : ∀ k : Nat, k ≤ C.length → hgx (C ++ [v]) k = hgx C k
  | 0, _ => rfl
  | k + 1, h => by
    unfold hgx
    rw [hgx_l k (by omega), getD_l (by omega)]
theorem len_1 {C : List Int} {v : Int} : (C ++ [v]).length = C.length + 1 := by
  rw [List.length_append]
  rfl
theorem hgx_r {C : List Int} {v : Int} : hgx (C ++ [v]) (C ++ [v]).length = hgx C C.length + dlt v := by
  rw [len_1]
  show hgx (C ++ [v]) C.length + dlt ((C ++ [v]).getD C.length 0) = _
  rw [hgx_l _ (Nat.le_refl _), getD_r]
theorem Wfc.snoc {C : List Int} {v : Int} (h : Wfc C) (k : Cnd v (hgx C C.length)) : Wfc (C ++ [v]) := fun i hi => by
  rw [len_1] at hi
  rw [hgx_l i (by omega)]
  by_cases e : i = C.length
  · rw [e, getD_r]
    exact k
  · rw [getD_l (by omega)]
    exact h i (by omega)
theorem dlt_s {c : Int} (h : ¬ rk c = 0) : dlt (20000 + c) = -1 := by
  have h1 := rk_pos h
  unfold dlt
  rw [if_neg (by omega), if_neg (fun e => h (by rw [show c = 33 by omega]; rfl))]
theorem dlt_v {v : Int} (h : v < 20000) : dlt v = 1 := if_pos h
theorem dg_up {T : Nat → Int} {n : Int} : ∀ (k : Nat) (t : Pst) (v : Int), t.1 ≤ (dgP T n k t v).1.1
  | 0, t, v => Int.le_refl _
  | k + 1, t, v => by
    unfold dgP
    by_cases z : 48 ≤ hereP T n t ∧ hereP T n t ≤ 57
    · rw [if_pos z]
      have a : t.1 + 1 ≤ _ := dg_up (T := T) (n := n) k (advP 1 t) (10 * v + hereP T n t - 48)
      omega
    · rw [if_neg z]
      exact Int.le_refl _
section WF
variable {T : Nat → Int} {n u : Int}
/-- one step more on the pile -/
theorem Rp.wf : ∀ (F l : Nat) (t t' : Pst), (1 ≤ l ∧ l ≤ 6) ∨ 11 ≤ l → Rp T n u F l t t' → 0 ≤ t.1 → 0 ≤ t'.1 ∧ (t'.2.1 < 0 → t.2.1 < 0 ∧ (Wfc t.2.2.2 → 0 ≤ hgx t.2.2.2 t.2.2.2.length → (11 ≤ l → 1 ≤ hgx t.2.2.2 t.2.2.2.length) → Wfc t'.2.2.2 ∧ hgx t'.2.2.2 t'.2.2.2.length = hgx t.2.2.2 t.2.2.2.length + (if l ≤ 6 then 1 else 0)))
  | 0, _, _, _, _, h, _ => False.elim h
  | F + 1, l, t, t', hl, hR, h0 => by
    have ih := fun l t t' => Rp.wf F l t t'
    have hlay : ∀ (v : Int) (t1 : Pst), t1.2.1 < 0 → (layP v t1).2.2.2 = t1.2.2.2 ++ [v] := fun v t1 h => by rw [layP_n h]
    have hlf : ∀ (v : Int) (t1 : Pst), (layP v t1).2.1 = t1.2.1 := fun v t1 => by
      unfold layP
      split <;> rfl
    unfold Rp at hR
    by_cases h1 : l ≤ 5
    · rw [if_pos h1] at hR
      obtain ⟨t1, r1, r2⟩ := hR
      obtain ⟨a1, a2⟩ := ih (l + 1) t t1 (by omega) r1 h0
      obtain ⟨b1, b2⟩ := ih (10 + l) t1 t' (by omega) r2 a1
      refine ⟨b1, fun hf => ?_⟩
      obtain ⟨b3, b4⟩ := b2 hf
      obtain ⟨a3, a4⟩ := a2 b3
      refine ⟨a3, fun w1 w2 _ => ?_⟩
      obtain ⟨w4, w5⟩ := a4 w1 w2 (fun z => by omega)
      rw [if_pos (by omega)] at w5
      obtain ⟨w6, w7⟩ := b4 w4 (by omega) (fun _ => by omega)
      rw [if_neg (by omega)] at w7
      rw [if_pos (by omega)]
      exact ⟨w6, by omega⟩
    · rw [if_neg h1] at hR
      by_cases h2 : l = 6
      · subst h2
        rw [if_pos rfl] at hR
        by_cases h3 : hereP T n t = 33 ∨ hereP T n t = 40
        · rw [if_pos h3] at hR
          have hp := here_lt (T := T) (n := n) (t := t) (by omega)
          by_cases h4 : t.2.2.1 = 5
          · rw [if_pos h4] at hR
            rw [hR, wrP_n hp.2]
            exact ⟨h0, fun z => absurd h0 (by have z : t.1 < 0 := z; omega)⟩
          · rw [if_neg h4] at hR
            by_cases h5 : hereP T n t = 33
            · rw [if_pos h5] at hR
              obtain ⟨t1, r1, rfl⟩ := hR
              obtain ⟨a1, a2⟩ := ih 6 _ t1 (by omega) r1 (show 0 ≤ t.1 + 1 by omega)
              refine ⟨by show 0 ≤ (layP 20033 t1).1; rw [layP_1]; exact a1, fun hf => ?_⟩
              have hf : (layP 20033 t1).2.1 < 0 := hf
              rw [hlf] at hf
              obtain ⟨a3, a4⟩ := a2 hf
              refine ⟨a3, fun w1 w2 _ => ?_⟩
              obtain ⟨w4, w5⟩ := a4 w1 w2 (fun z => by omega)
              have w5 : hgx t1.2.2.2 t1.2.2.2.length = hgx t.2.2.2 t.2.2.2.length + 1 := w5
              show Wfc (layP 20033 t1).2.2.2 ∧ hgx (layP 20033 t1).2.2.2 (layP 20033 t1).2.2.2.length = hgx t.2.2.2 t.2.2.2.length + 1
              rw [hlay _ _ hf]
              refine ⟨w4.snoc ⟨by omega, by omega, by omega, by omega, by omega⟩, ?_⟩
              rw [hgx_r, w5, show dlt 20033 = 0 from rfl]
              omega
            · rw [if_neg h5] at hR
              obtain ⟨t1, r1, rfl⟩ := hR
              obtain ⟨a1, a2⟩ := ih 1 _ t1 (by omega) r1 (show 0 ≤ t.1 + 1 by omega)
              by_cases h6 : hereP T n t1 = 41
              · rw [if_pos h6]
                exact ⟨by show 0 ≤ t1.1 + 1; omega, fun hf => ⟨(a2 hf).1, fun w1 w2 w3 => (a2 hf).2 w1 w2 (fun z => by omega)⟩⟩
              · rw [if_neg h6]
                refine ⟨by show 0 ≤ (wrP t1).1; rw [wrP_1]; exact a1, fun hf => ?_⟩
                have hf : (wrP t1).2.1 < 0 := hf
                have := wrP_f a1
                omega
        · rw [if_neg h3] at hR
          by_cases h4 : 0 ≤ nmF u (hereP T n t)
          · rw [if_pos h4] at hR
            have hp := nm_here h4
            have hr := nmF_rng u (hereP T n t)
            rw [hR, layP_n (show (advP 1 t).2.1 < 0 from hp.2)]
            refine ⟨by show 0 ≤ t.1 + 1; omega, fun _ => ⟨hp.2, fun w1 w2 _ => ?_⟩⟩
            show Wfc (t.2.2.2 ++ [10000 + nmF u (hereP T n t)]) ∧ hgx (t.2.2.2 ++ [10000 + nmF u (hereP T n t)]) (t.2.2.2 ++ [10000 + nmF u (hereP T n t)]).length = hgx t.2.2.2 t.2.2.2.length + 1
            refine ⟨w1.snoc ⟨by omega, by omega, w2, by omega, by omega⟩, ?_⟩
            rw [hgx_r, dlt_v (by omega)]
          · rw [if_neg h4] at hR
            by_cases hf0 : t.2.1 < 0
            · obtain ⟨q1, q2⟩ := dg_same (T := T) (n := n) 4 t 0 hf0
              have hv := dg_v4 (T := T) (n := n) (t := t)
              rw [q2] at hv
              rw [q1, q2] at hR
              have hw1 : t.1 ≤ (dgP T n 4 (t.1, -1, 0, []) 0).1.1 := dg_up 4 _ _
              by_cases h5 : (dgP T n 4 (t.1, -1, 0, []) 0).1.1 = t.1
              · rw [if_pos h5, h5, layP_f (wrP_f h0), wrP_n hf0] at hR
                rw [hR]
                exact ⟨h0, fun z => absurd h0 (by have z : t.1 < 0 := z; omega)⟩
              · rw [if_neg h5, layP_n (show ((dgP T n 4 (t.1, -1, 0, []) 0).1.1, t.2).2.1 < 0 from hf0)] at hR
                rw [hR]
                refine ⟨by show 0 ≤ (dgP T n 4 (t.1, -1, 0, []) 0).1.1; omega, fun _ => ⟨hf0, fun w1 w2 _ => ?_⟩⟩
                show Wfc (t.2.2.2 ++ [(dgP T n 4 (t.1, -1, 0, []) 0).2]) ∧ hgx (t.2.2.2 ++ [(dgP T n 4 (t.1, -1, 0, []) 0).2]) (t.2.2.2 ++ [(dgP T n 4 (t.1, -1, 0, []) 0).2]).length = hgx t.2.2.2 t.2.2.2.length + 1
                refine ⟨w1.snoc ⟨by omega, by omega, w2, by omega, by omega⟩, ?_⟩
                rw [hgx_r, dlt_v (by omega)]
            · have e : dgP T n 4 t 0 = (t, 0) := dg_no (by rw [hereP_f (by omega)]; omega)
              rw [e] at hR
              have hR : t' = layP 0 (if t.1 = t.1 then wrP t else t) := hR
              rw [if_pos rfl, wrP_g (by omega), layP_f (by omega)] at hR
              rw [hR]
              exact ⟨h0, fun z => absurd z hf0⟩
      · rw [if_neg h2] at hR
        by_cases h3 : rk (hereP T n t) = (l : Int) - 10
        · rw [if_pos h3] at hR
          obtain ⟨t1, r1, r2⟩ := hR
          have hp := rk_here (T := T) (n := n) (t := t) (by omega)
          have hr5 := rk_rng (hereP T n t)
          have hbp := rk_pos (c := hereP T n t) (by omega)
          obtain ⟨a1, a2⟩ := ih (l - 9) (advP 1 t) t1 (by omega) r1 (show 0 ≤ t.1 + 1 by omega)
          have hsub : t1.2.1 < 0 → Wfc t.2.2.2 → 1 ≤ hgx t.2.2.2 t.2.2.2.length → Wfc (layP (20000 + hereP T n t) t1).2.2.2 ∧ hgx (layP (20000 + hereP T n t) t1).2.2.2 (layP (20000 + hereP T n t) t1).2.2.2.length = hgx t.2.2.2 t.2.2.2.length := fun hf w1 w2 => by
            obtain ⟨w4, w5⟩ := (a2 hf).2 w1 (by show 0 ≤ hgx t.2.2.2 t.2.2.2.length; omega) (fun z => by omega)
            rw [if_pos (by omega)] at w5
            have w5 : hgx t1.2.2.2 t1.2.2.2.length = hgx t.2.2.2 t.2.2.2.length + 1 := w5
            rw [hlay _ _ hf]
            refine ⟨w4.snoc ⟨by omega, by omega, by omega, by omega, by omega⟩, ?_⟩
            rw [hgx_r, w5, dlt_s (by omega)]
            omega
          by_cases h4 : l = 13
          · rw [if_pos h4] at r2
            rw [r2]
            refine ⟨by rw [layP_1]; exact a1, fun hf => ?_⟩
            rw [hlf] at hf
            refine ⟨hp.2, fun w1 w2 w3 => ?_⟩
            obtain ⟨w6, w7⟩ := hsub hf w1 (w3 (by omega))
            rw [if_neg (by omega)]
            exact ⟨w6, by omega⟩
          · rw [if_neg h4] at r2
            obtain ⟨b1, b2⟩ := ih l _ t' hl r2 (by rw [layP_1]; exact a1)
            refine ⟨b1, fun hf => ⟨hp.2, fun w1 w2 w3 => ?_⟩⟩
            obtain ⟨b3, b4⟩ := b2 hf
            rw [hlf] at b3
            obtain ⟨w6, w7⟩ := hsub b3 w1 (w3 (by omega))
            rw [if_neg (by omega)] at b4 ⊢
            obtain ⟨w8, w9⟩ := b4 w6 (by omega) (fun _ => by have := w3 (by omega); omega)
            exact ⟨w8, by omega⟩
        · rw [if_neg h3] at hR
          rw [hR]
          refine ⟨h0, fun hf => ⟨hf, fun w1 _ _ => ⟨w1, ?_⟩⟩⟩
          rw [if_neg (by omega)]
          omega
theorem rd_wf {t : Pst} (h : Rd T n u t) (hf : t.2.1 < 0) : Wfc t.2.2.2 := by
  obtain ⟨F, t1, hR, rfl⟩ := h
  obtain ⟨a1, a2⟩ := Rp.wf F 1 p0P t1 (by omega) hR (by show (0 : Int) ≤ 0; omega)
  unfold finP at hf ⊢
  by_cases z : t1.2.1 < 0 ∧ t1.1 < n
  · rw [if_pos z] at hf
    have := wrP_f a1
    omega
  · rw [if_neg z] at hf ⊢
    exact ((a2 hf).2 (fun k hk => absurd hk (Nat.not_lt_zero k)) (by show (0 : Int) ≤ 0; omega) (fun z => by omega)).1
end WF
theorem hgt_hgx {d : Nat → Int} {b : Int} {C : List Int} (h : ∀ i : Nat, i < C.length → d (b + (i : Int)).toNat = C.getD i 0) : ∀ k : Nat, k ≤ C.length → hgt d b k = hgx C k
  | 0, _ => rfl
  | k + 1, hk => by
    unfold hgt hgx dlt
    rw [hgt_hgx h k (by omega), h k (by omega)]
theorem codeOk_of {d : Nat → Int} {b : Int} {C : List Int} (h : ∀ i : Nat, i < C.length → d (b + (i : Int)).toNat = C.getD i 0) (hw : Wfc C) (hl : C.length ≤ 50) : CodeOk d b (C.length : Int) := by
  refine ⟨by omega, fun k hk => ?_⟩
  rw [h k (by omega), hgt_hgx h k (by omega)]
  exact hw k (by omega)
