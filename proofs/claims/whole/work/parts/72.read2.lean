/-! ===== the text: the class's reading gives what the grammar gives ===== -/
def cd (t : Pst) : List Int := t.2.2.2.map tk
def Ok1 (n : Int) (t : Pst) : Prop := (0 ≤ t.1 ∧ t.1 ≤ n) ∧ t.2.1 < 0 ∧ 0 ≤ t.2.2.1 ∧ t.2.2.1 ≤ 5
def Cx (l : Int) (S : List Int) : Prop := ∀ c q, S = c :: q → rk c < l ∧ ¬ c = 33
def Flw (T : Nat → Int) (n l p cm dp : Int) : Prop := p < n → rk (T p.toNat) < l ∨ (rk (T p.toNat) = 3 ∧ l ≤ 3 ∧ ¬ Bz cm dp)
def OutA (T : Nat → Int) (n u : Int) (l : Nat) (t t' : Pst) (S : List Int) (dp cm : Int) (k : Kst) : Prop :=
  (0 ≤ t'.2.1 ∧ Kfi T n u k (t'.2.1, [])) ∨ (Ok1 n t' ∧ t'.2.2.1 = t.2.2.1 ∧ ∃ (E dr : List Int) (cm' : Int), (∀ c ∈ E, (l : Int) ≤ rk c) ∧ dr ++ E.map (fun c => 10000 + c) = cd t' ∧ Cmk cm' ∧ Agb (if l ≤ 3 then dp else dp + 1) cm cm' ∧ Flw T n (l : Int) t'.1 cm' dp ∧ Rch T n u k (false, t'.1, dr, E ++ S, t'.2.2.1, dp, cm'))
def LvA (T : Nat → Int) (n u : Int) (F : Nat) : Prop := ∀ (l : Nat) (t t' : Pst) (S : List Int) (dp cm : Int), 1 ≤ l → l ≤ 6 → Rp T n u F l t t' → Ok1 n t → Cx (l : Int) S → (0 ≤ dp ∧ dp ≤ t.2.2.1) → Cmk cm → (l ≤ 3 → Bz cm dp) → OutA T n u l t t' S dp cm (true, t.1, cd t, S, t.2.2.1, dp, cm)
def LvB (T : Nat → Int) (n u : Int) (F : Nat) : Prop := ∀ (l : Nat) (t t' : Pst) (S : List Int) (dp cm : Int) (E dr : List Int), 1 ≤ l → l ≤ 5 → Rp T n u F (10 + l) t t' → Ok1 n t → Cx (l : Int) S → (0 ≤ dp ∧ dp ≤ t.2.2.1) → Cmk cm → (l = 3 → Bz cm dp) → (∀ c ∈ E, (l : Int) ≤ rk c) → dr ++ E.map (fun c => 10000 + c) = cd t → Flw T n ((l + 1 : Nat) : Int) t.1 cm dp → OutA T n u l t t' S dp cm (false, t.1, dr, E ++ S, t.2.2.1, dp, cm)
def LvU (T : Nat → Int) (n u : Int) (F : Nat) : Prop := ∀ (t t' : Pst) (S : List Int) (j : Nat) (dp cm : Int), Rp T n u F 6 t t' → Ok1 n t → (∀ c q, S = c :: q → ¬ c = 33) → (0 ≤ dp ∧ dp + (j : Int) ≤ t.2.2.1) → Cmk cm →
  (0 ≤ t'.2.1 ∧ Kfi T n u (true, t.1, cd t, List.replicate j 33 ++ S, t.2.2.1, dp, cm) (t'.2.1, [])) ∨ (Ok1 n t' ∧ t'.2.2.1 = t.2.2.1 ∧ ∃ cm' : Int, Cmk cm' ∧ Agb (dp + 1) cm cm' ∧ Rch T n u (true, t.1, cd t, List.replicate j 33 ++ S, t.2.2.1, dp, cm) (false, t'.1, cd t' ++ List.replicate j 10033, S, t'.2.2.1 - (j : Int), dp, cm'))
section RD
variable {T : Nat → Int} {n u : Int}
theorem hereP_eq {t : Pst} (h : t.1 < n ∧ t.2.1 < 0) : hereP T n t = T t.1.toNat := if_pos h
theorem hereP_f {t : Pst} (h : 0 ≤ t.2.1) : hereP T n t = -1 := if_neg (fun k => by omega)
theorem hereP_e {t : Pst} (h : ¬ t.1 < n) : hereP T n t = -1 := if_neg (fun k => h k.1)
theorem layP_n {v : Int} {t : Pst} (h : t.2.1 < 0) : layP v t = (t.1, t.2.1, t.2.2.1, t.2.2.2 ++ [v]) := if_pos h
theorem wrP_n {t : Pst} (h : t.2.1 < 0) : wrP t = (t.1, t.1, t.2.2) := if_pos h
theorem wrP_g {t : Pst} (h : 0 ≤ t.2.1) : wrP t = t := if_neg (by omega)
theorem tk_s {c : Int} (h : 0 ≤ c) : tk (20000 + c) = 10000 + c := by
  unfold tk
  rw [if_neg (by omega), if_neg (by omega)]
  omega
theorem tk_n {c : Int} (h : 0 ≤ c ∧ c ≤ 3) : tk (10000 + c) = -1 - c := by
  unfold tk
  rw [if_neg (by omega), if_pos (by omega)]
  omega
theorem tk_v {c : Int} (h : c < 10000) : tk c = c := if_pos h
theorem rk_rng (c : Int) : 0 ≤ rk c ∧ rk c ≤ 5 := by
  unfold rk
  repeat' split
  all_goals omega
theorem rk_pos {c : Int} (h : ¬ rk c = 0) : 37 ≤ c ∧ c ≤ 124 := by
  unfold rk at h
  repeat' split at h
  all_goals omega
theorem Rp.flt {F l : Nat} {t t' : Pst} (hl : 11 ≤ l) (h : 0 ≤ t.2.1) (k : Rp T n u F l t t') : t' = t := by
  cases F with
  | zero => exact False.elim k
  | succ F =>
    unfold Rp at k
    rw [if_neg (by omega), if_neg (by omega), if_neg (by rw [hereP_f h, show rk (-1) = 0 from rfl]; omega)] at k
    exact k
theorem OutA.pre {l : Nat} {t t2 t' : Pst} {S : List Int} {dp cm cm2 : Int} {k k2 : Kst} (e : t2.2.2.1 = t.2.2.1) (ha : Agb (if l ≤ 3 then dp else dp + 1) cm cm2) (hr : Rch T n u k k2) (o : OutA T n u l t2 t' S dp cm2 k2) : OutA T n u l t t' S dp cm k := by
  rcases o with ⟨f1, f2⟩ | ⟨g1, g2, E, dr, cm3, e1, e2, e3, e4, e5, e6⟩
  · exact Or.inl ⟨f1, hr.fi f2⟩
  · exact Or.inr ⟨g1, g2.trans e, E, dr, cm3, e1, e2, e3, ha.tr e4, e5, hr.tr e6⟩
theorem lvB {F : Nat} (hA : LvA T n u F) (hB : LvB T n u F) : LvB T n u (F + 1) := by
  intro l t t' S dp cm E dr h1 h5 hR hO hS hd hc hb hE hcd hF
  obtain ⟨ho1, ho2, ho3⟩ := id hO
  unfold Rp at hR
  rw [if_neg (by omega), if_neg (by omega), show ((10 + l : Nat) : Int) - 10 = (l : Int) by omega, show 10 + l - 9 = l + 1 by omega] at hR
  by_cases he : rk (hereP T n t) = (l : Int)
  · rw [if_pos he] at hR
    obtain ⟨t1, r1, r2⟩ := hR
    have hp := rk_here (T := T) (n := n) (t := t) (by omega)
    have hT := hereP_eq (T := T) hp
    rw [hT] at he r2
    have hbp := rk_pos (c := T t.1.toNat) (by omega)
    have hk : kstep T n u (false, t.1, dr, E ++ S, t.2.2.1, dp, cm) = .inl (true, t.1 + 1, cd t, T t.1.toNat :: S, t.2.2.1, dp, cmK (T t.1.toNat) dp cm) := by
      rw [ks_join hp.1 (fun z => by rw [z.1, show rk 41 = 0 from rfl] at he; omega) (fun z => by
        rcases z with z | ⟨z1, z2⟩
        · omega
        · exact z2 (hb (by omega))), he, wdP_all E dr S hE (fun c q z => (hS c q z).1), hcd]
    obtain ⟨c1, c2, c3, c4, c5⟩ := cmK_ok (b := T t.1.toNat) hc (show 0 ≤ dp ∧ dp ≤ 5 by omega)
    have o := hA (l + 1) (advP 1 t) t1 (T t.1.toNat :: S) dp (cmK (T t.1.toNat) dp cm) (by omega) (by omega) r1 ⟨⟨by show 0 ≤ t.1 + 1; omega, by show t.1 + 1 ≤ n; omega⟩, ho2, ho3⟩ (fun c q z => by
      have z1 : T t.1.toNat = c := (List.cons.inj z).1
      rw [← z1]
      exact ⟨by omega, fun z2 => by rw [z2, show rk 33 = 0 from rfl] at he; omega⟩) hd c1 (fun z => c2 (by omega))
    have a1 : Agb (if l ≤ 3 then dp else dp + 1) cm (cmK (T t.1.toNat) dp cm) := by
      by_cases z : l ≤ 3
      · rw [if_pos z]; exact c4
      · rw [c5 (by omega)]; exact Agb.rf
    rcases o with ⟨f1, f2⟩ | ⟨g1, g2, E1, dr1, cm3, e1, e2, e3, e4, e5, e6⟩
    · left
      rw [layP_f f1] at r2
      have e : t' = t1 := by
        by_cases h3 : 10 + l = 13
        · rw [if_pos h3] at r2; exact r2
        · rw [if_neg h3] at r2; exact Rp.flt (by omega) f1 r2
      rw [e]
      exact ⟨f1, (Rch.one hk).fi f2⟩
    · have a2 : Agb (if l ≤ 3 then dp else dp + 1) (cmK (T t.1.toNat) dp cm) cm3 := e4.mono (by split <;> split <;> omega)
      have hr : Rch T n u (false, t.1, dr, E ++ S, t.2.2.1, dp, cm) (false, t1.1, dr1, (E1 ++ [T t.1.toNat]) ++ S, t1.2.2.1, dp, cm3) := by
        rw [List.append_assoc]
        exact (Rch.one hk).tr e6
      have hcd1 : dr1 ++ (E1 ++ [T t.1.toNat]).map (fun c => 10000 + c) = (t1.2.2.2 ++ [20000 + T t.1.toNat]).map tk := by
        rw [List.map_append, ← List.append_assoc, e2, List.map_append]
        show cd t1 ++ [10000 + T t.1.toNat] = cd t1 ++ [tk (20000 + T t.1.toNat)]
        rw [tk_s (by omega)]
      have hE1 : ∀ c ∈ E1 ++ [T t.1.toNat], (l : Int) ≤ rk c := fun c hc => by
        rcases List.mem_append.mp hc with z | z
        · have := e1 c z
          omega
        · rw [List.mem_singleton.mp z]
          omega
      have g2 : t1.2.2.1 = t.2.2.1 := g2
      have g1' := g1.2.1
      rw [layP_n g1.2.1] at r2
      by_cases h3 : l = 3
      · subst h3
        rw [if_pos rfl] at r2
        rw [r2]
        right
        refine ⟨g1, g2, E1 ++ [T t.1.toNat], dr1, cm3, hE1, hcd1, e3, a1.tr a2, fun z => ?_, hr⟩
        rcases e5 z with q | ⟨q1, q2, q3⟩
        · by_cases w : rk (T t1.1.toNat) < 3
          · exact Or.inl w
          · refine Or.inr ⟨by show rk (T t1.1.toNat) = 3; have q : rk (T t1.1.toNat) < ((3 + 1 : Nat) : Int) := q; omega, by omega, fun w2 => c3 (by omega) ?_⟩
            exact (e4 dp hd.1 (by rw [if_neg (by omega)]; omega)).mp w2
        · exact absurd q2 (by omega)
      · rw [if_neg (by omega)] at r2
        refine OutA.pre (t2 := (t1.1, t1.2.1, t1.2.2.1, t1.2.2.2 ++ [20000 + T t.1.toNat])) g2 (a1.tr a2) hr (hB l _ t' S dp cm3 (E1 ++ [T t.1.toNat]) dr1 h1 h5 r2 g1 hS ⟨hd.1, by show dp ≤ t1.2.2.1; omega⟩ e3 (fun z => absurd z h3) hE1 hcd1 e5)
  · rw [if_neg he] at hR
    rw [hR]
    right
    refine ⟨hO, rfl, E, dr, cm, hE, hcd, hc, Agb.rf, fun z => ?_, Rch.rf⟩
    rw [hereP_eq ⟨z, ho2⟩] at he
    rcases hF z with q | ⟨q1, q2, q3⟩
    · exact Or.inl (by omega)
    · exact Or.inr ⟨q1, by omega, q3⟩
theorem lvA {F : Nat} (hA : LvA T n u F) (hB : LvB T n u F) (hU : LvU T n u (F + 1)) : LvA T n u (F + 1) := by
  intro l t t' S dp cm h1 h6 hR hO hS hd hc hb
  by_cases hl : l = 6
  · subst hl
    rcases hU t t' S 0 dp cm hR hO (fun c q z => (hS c q z).2) ⟨hd.1, by have := hd.2; omega⟩ hc with ⟨f1, f2⟩ | ⟨g1, g2, cm', c1, c2, c3⟩
    · exact Or.inl ⟨f1, f2⟩
    · refine Or.inr ⟨g1, g2, [], cd t', cm', fun c hc => absurd hc (List.not_mem_nil), by simp, c1, ?_, fun _ => Or.inl ?_, ?_⟩
      · rw [if_neg (by omega)]; exact c2
      · have := rk_rng (T t'.1.toNat)
        omega
      · have c3 : Rch T n u (true, t.1, cd t, S, t.2.2.1, dp, cm) (false, t'.1, cd t' ++ [], S, t'.2.2.1 - ((0 : Nat) : Int), dp, cm') := c3
        rw [List.append_nil, show t'.2.2.1 - ((0 : Nat) : Int) = t'.2.2.1 by omega] at c3
        exact c3
  · unfold Rp at hR
    rw [if_pos (by omega)] at hR
    obtain ⟨t1, r1, r2⟩ := hR
    rcases hA (l + 1) t t1 S dp cm (by omega) (by omega) r1 hO (fun c q z => ⟨by have := (hS c q z).1; omega, (hS c q z).2⟩) hd hc (fun z => hb (by omega)) with ⟨f1, f2⟩ | ⟨g1, g2, E1, dr1, cm3, e1, e2, e3, e4, e5, e6⟩
    · rw [Rp.flt (by omega) f1 r2]
      exact Or.inl ⟨f1, f2⟩
    · refine OutA.pre g2 (e4.mono (by split <;> split <;> omega)) e6 (hB l t1 t' S dp cm3 E1 dr1 h1 (by omega) r2 g1 hS ⟨hd.1, by omega⟩ e3 (fun z => ?_) (fun c hc => by have := e1 c hc; omega) e2 e5)
      subst z
      exact (e4 dp hd.1 (by rw [if_neg (by omega)]; omega)).mpr (hb (by omega))
theorem dg_same : ∀ (k : Nat) (t : Pst) (v : Int), t.2.1 < 0 → (dgP T n k t v).1 = ((dgP T n k (t.1, -1, 0, []) v).1.1, t.2) ∧ (dgP T n k t v).2 = (dgP T n k (t.1, -1, 0, []) v).2
  | 0, t, v, _ => ⟨rfl, rfl⟩
  | k + 1, t, v, h => by
    have e : hereP T n (t.1, -1, 0, []) = hereP T n t := by
      show (if t.1 < n ∧ (-1 : Int) < 0 then T t.1.toNat else -1) = (if t.1 < n ∧ t.2.1 < 0 then T t.1.toNat else -1)
      by_cases z : t.1 < n
      · rw [if_pos (show t.1 < n ∧ (-1 : Int) < 0 from ⟨z, by omega⟩), if_pos (show t.1 < n ∧ t.2.1 < 0 from ⟨z, h⟩)]
      · rw [if_neg (show ¬ (t.1 < n ∧ (-1 : Int) < 0) from fun w => z w.1), if_neg (show ¬ (t.1 < n ∧ t.2.1 < 0) from fun w => z w.1)]
    unfold dgP
    rw [e]
    by_cases z : 48 ≤ hereP T n t ∧ hereP T n t ≤ 57
    · rw [if_pos z, if_pos z]
      exact dg_same k (advP 1 t) _ h
    · rw [if_neg z, if_neg z]
      exact ⟨rfl, rfl⟩
theorem dg_rng : ∀ (k : Nat) (t : Pst) (v : Int), t.1 ≤ n → t.1 ≤ (dgP T n k t v).1.1 ∧ (dgP T n k t v).1.1 ≤ n ∧ (dgP T n k t v).1.1 ≤ t.1 + (k : Int)
  | 0, t, v, h => ⟨Int.le_refl _, h, by show t.1 ≤ t.1 + ((0 : Nat) : Int); omega⟩
  | k + 1, t, v, h => by
    unfold dgP
    by_cases z : 48 ≤ hereP T n t ∧ hereP T n t ≤ 57
    · rw [if_pos z]
      have hp := here_lt (T := T) (n := n) (t := t) (by omega)
      obtain ⟨a, b, c⟩ := dg_rng k (advP 1 t) (10 * v + hereP T n t - 48) (by show t.1 + 1 ≤ n; omega)
      have a : t.1 + 1 ≤ _ := a
      have c : _ ≤ t.1 + 1 + (k : Int) := c
      exact ⟨by omega, b, by omega⟩
    · rw [if_neg z]
      exact ⟨Int.le_refl _, h, by show t.1 ≤ t.1 + ((k + 1 : Nat) : Int); omega⟩
theorem dg_v0 {t : Pst} {v : Int} (h : 0 ≤ v ∧ v < 10000) : 0 ≤ (dgP T n 0 t v).2 ∧ (dgP T n 0 t v).2 < 10000 := h
theorem dg_v1 {t : Pst} {v : Int} (h : 0 ≤ v ∧ v < 1000) : 0 ≤ (dgP T n 1 t v).2 ∧ (dgP T n 1 t v).2 < 10000 := by
  unfold dgP
  by_cases z : 48 ≤ hereP T n t ∧ hereP T n t ≤ 57
  · rw [if_pos z]; exact dg_v0 (by omega)
  · rw [if_neg z]; exact ⟨h.1, by show v < 10000; omega⟩
theorem dg_v2 {t : Pst} {v : Int} (h : 0 ≤ v ∧ v < 100) : 0 ≤ (dgP T n 2 t v).2 ∧ (dgP T n 2 t v).2 < 10000 := by
  unfold dgP
  by_cases z : 48 ≤ hereP T n t ∧ hereP T n t ≤ 57
  · rw [if_pos z]; exact dg_v1 (by omega)
  · rw [if_neg z]; exact ⟨h.1, by show v < 10000; omega⟩
theorem dg_v3 {t : Pst} {v : Int} (h : 0 ≤ v ∧ v < 10) : 0 ≤ (dgP T n 3 t v).2 ∧ (dgP T n 3 t v).2 < 10000 := by
  unfold dgP
  by_cases z : 48 ≤ hereP T n t ∧ hereP T n t ≤ 57
  · rw [if_pos z]; exact dg_v2 (by omega)
  · rw [if_neg z]; exact ⟨h.1, by show v < 10000; omega⟩
theorem dg_v4 {t : Pst} : 0 ≤ (dgP T n 4 t 0).2 ∧ (dgP T n 4 t 0).2 < 10000 := by
  unfold dgP
  by_cases z : 48 ≤ hereP T n t ∧ hereP T n t ≤ 57
  · rw [if_pos z]; exact dg_v3 (by omega)
  · rw [if_neg z]; exact ⟨by show (0 : Int) ≤ 0; omega, by show (0 : Int) < 10000; omega⟩
theorem dk_0 {t : Pst} (h : t.2.1 < 0) (k : ¬ (48 ≤ hereP T n t ∧ hereP T n t ≤ 57)) : dkK T n t.1 = 0 := by
  have e := (dg_same (T := T) (n := n) 4 t 0 h).1
  rw [dg_no k] at e
  have e2 := congrArg (fun q : Pst => q.1) e
  have e : t.1 = (dgP T n 4 (t.1, -1, 0, []) 0).1.1 := e2
  unfold dkK
  omega
theorem nm_33 {c : Int} (h : c = 33 ∨ c = 40) : ¬ 0 ≤ nmF u c := by
  unfold nmF
  rcases h with rfl | rfl
  · split <;> decide
  · split <;> decide
theorem rep_1 (C : List Int) (j : Nat) : (C ++ [20033]).map tk ++ List.replicate j 10033 = C.map tk ++ List.replicate (j + 1) 10033 := by
  rw [List.map_append, List.append_assoc]
  rfl
theorem lvU {F : Nat} (hA : LvA T n u F) (hU : LvU T n u F) : LvU T n u (F + 1) := by
  intro t t' S j dp cm hR hO hS hd hc
  obtain ⟨ho1, ho2, ho3⟩ := id hO
  unfold Rp at hR
  rw [if_neg (by omega), if_pos rfl] at hR
  by_cases h1 : hereP T n t = 33 ∨ hereP T n t = 40
  · rw [if_pos h1] at hR
    have hp := here_lt (T := T) (n := n) (t := t) (by omega)
    have hT := hereP_eq (T := T) hp
    have hdk := dk_0 (T := T) (n := n) ho2 (by omega)
    rw [hT] at h1 hR
    have hno : ¬ (0 < dkK T n t.1 ∨ 0 ≤ nmF u (T t.1.toNat)) := fun z => by
      rcases z with z | z
      · omega
      · exact nm_33 h1 z
    by_cases h2 : t.2.2.1 = 5
    · rw [if_pos h2] at hR
      rw [hR, wrP_n ho2]
      exact Or.inl ⟨ho1.1, Kfi.one (ks_bad hp.1 hno (fun z => by omega))⟩
    · rw [if_neg h2] at hR
      by_cases h3 : T t.1.toNat = 33
      · rw [if_pos h3] at hR
        obtain ⟨t1, r1, rfl⟩ := hR
        have hk : kstep T n u (true, t.1, cd t, List.replicate j 33 ++ S, t.2.2.1, dp, cm) = .inl (true, t.1 + 1, cd t, List.replicate (j + 1) 33 ++ S, t.2.2.1 + 1, dp, cm) := by
          rw [ks_open hp.1 hno ⟨h1, by omega⟩, h3]
          rfl
        rcases hU (advP 1 (dpP 1 t)) t1 S (j + 1) dp cm r1 ⟨⟨by show 0 ≤ t.1 + 1; omega, by show t.1 + 1 ≤ n; omega⟩, ho2, by show 0 ≤ t.2.2.1 + 1; omega, by show t.2.2.1 + 1 ≤ 5; omega⟩ hS ⟨hd.1, by show dp + ((j + 1 : Nat) : Int) ≤ t.2.2.1 + 1; omega⟩ hc with ⟨f1, f2⟩ | ⟨g1, g2, cm', c1, c2, c3⟩
        · rw [layP_f f1]
          exact Or.inl ⟨f1, (Rch.one hk).fi f2⟩
        · rw [layP_n g1.2.1]
          have g2 : t1.2.2.1 = t.2.2.1 + 1 := g2
          refine Or.inr ⟨⟨g1.1, g1.2.1, by show 0 ≤ t1.2.2.1 + -1; omega, by show t1.2.2.1 + -1 ≤ 5; omega⟩, by show t1.2.2.1 + -1 = t.2.2.1; omega, cm', c1, c2, ?_⟩
          show Rch T n u _ (false, t1.1, (t1.2.2.2 ++ [20033]).map tk ++ List.replicate j 10033, S, t1.2.2.1 + -1 - (j : Int), dp, cm')
          rw [rep_1, show t1.2.2.1 + -1 - (j : Int) = t1.2.2.1 - ((j + 1 : Nat) : Int) by omega]
          exact (Rch.one hk).tr c3
      · rw [if_neg h3] at hR
        have h4 : T t.1.toNat = 40 := by omega
        obtain ⟨t1, r1, rfl⟩ := hR
        have hk : kstep T n u (true, t.1, cd t, List.replicate j 33 ++ S, t.2.2.1, dp, cm) = .inl (true, t.1 + 1, cd t, 40 :: (List.replicate j 33 ++ S), t.2.2.1 + 1, dp + 1, m_and cm (m_xor (m_shl 1 (dp + 1)) (-1))) := by
          rw [ks_open hp.1 hno ⟨h1, by omega⟩, h4]
          rfl
        obtain ⟨b1, b2, b3⟩ := bt_clr (d := dp + 1) hc (by omega)
        rcases hA 1 (advP 1 (dpP 1 t)) t1 (40 :: (List.replicate j 33 ++ S)) (dp + 1) (m_and cm (m_xor (m_shl 1 (dp + 1)) (-1))) (by omega) (by omega) r1 ⟨⟨by show 0 ≤ t.1 + 1; omega, by show t.1 + 1 ≤ n; omega⟩, ho2, by show 0 ≤ t.2.2.1 + 1; omega, by show t.2.2.1 + 1 ≤ 5; omega⟩ (fun c q z => by
            have z1 : (40 : Int) = c := (List.cons.inj z).1
            rw [← z1]
            exact ⟨by decide, by decide⟩) ⟨by omega, by show dp + 1 ≤ t.2.2.1 + 1; omega⟩ b1 (fun _ => b2) with ⟨f1, f2⟩ | ⟨g1, g2, E1, dr1, cm3, e1, e2, e3, e4, e5, e6⟩
        · rw [if_neg (by rw [hereP_f f1]; omega), wrP_g f1]
          exact Or.inl ⟨f1, (Rch.one hk).fi f2⟩
        · have g2 : t1.2.2.1 = t.2.2.1 + 1 := g2
          have hag : Agb (dp + 1) cm cm3 := fun e q1 q2 => (e4 e q1 (by rw [if_pos (by omega)]; exact q2)).trans (b3 e q1 (by omega) (by omega))
          by_cases h5 : hereP T n t1 = 41
          · rw [if_pos h5]
            have hp1 := here_lt (T := T) (n := n) (t := t1) (by omega)
            rw [hereP_eq hp1] at h5
            have hk2 : kstep T n u (false, t1.1, dr1, E1 ++ 40 :: (List.replicate j 33 ++ S), t1.2.2.1, dp + 1, cm3) = .inl (false, t1.1 + 1, cd t1 ++ List.replicate j 10033, S, t1.2.2.1 - 1 - (j : Int), dp + 1 - 1, cm3) := by
              rw [ks_close hp1.1 ⟨h5, by omega⟩, wdP_all (r := 1) E1 dr1 _ (fun c hc => by have := e1 c hc; omega) (fun c q z => by
                have z1 : (40 : Int) = c := (List.cons.inj z).1
                rw [← z1]
                decide), e2]
              show (Sum.inl (false, t1.1 + 1, (wnP (cd t1) (List.replicate j 33 ++ S) (t1.2.2.1 - 1)).1, (wnP (cd t1) (List.replicate j 33 ++ S) (t1.2.2.1 - 1)).2.1, (wnP (cd t1) (List.replicate j 33 ++ S) (t1.2.2.1 - 1)).2.2, dp + 1 - 1, cm3) : Kst ⊕ (Int × List Int)) = _
              rw [wnP_all j _ S _ hS]
            refine Or.inr ⟨⟨⟨by have := g1.1.1; show 0 ≤ t1.1 + 1; omega, by show t1.1 + 1 ≤ n; omega⟩, g1.2.1, by show 0 ≤ t1.2.2.1 + -1; omega, by show t1.2.2.1 + -1 ≤ 5; omega⟩, by show t1.2.2.1 + -1 = t.2.2.1; omega, cm3, e3, hag, ?_⟩
            show Rch T n u _ (false, t1.1 + 1, cd t1 ++ List.replicate j 10033, S, t1.2.2.1 + -1 - (j : Int), dp, cm3)
            rw [show t1.2.2.1 + -1 - (j : Int) = t1.2.2.1 - 1 - (j : Int) by omega]
            rw [show dp + 1 - 1 = dp by omega] at hk2
            exact ((Rch.one hk).tr e6).tr (Rch.one hk2)
          · rw [if_neg h5, wrP_n g1.2.1]
            refine Or.inl ⟨g1.1.1, ((Rch.one hk).tr e6).fi (Kfi.one ?_)⟩
            by_cases h6 : t1.1 < n
            · rw [hereP_eq ⟨h6, g1.2.1⟩] at h5
              refine ks_rej h6 (fun z => h5 z.1) ?_
              rcases e5 h6 with q | ⟨q1, q2, q3⟩
              · have := rk_rng (T t1.1.toNat)
                exact Or.inl (by omega)
              · exact Or.inr ⟨q1, q3⟩
            · exact ks_end h6 (Or.inr (by omega))
  · rw [if_neg h1] at hR
    by_cases h2 : 0 ≤ nmF u (hereP T n t)
    · rw [if_pos h2] at hR
      have hp := nm_here h2
      have hT := hereP_eq (T := T) hp
      have hr := nmF_rng u (hereP T n t)
      have hdk := dk_0 (T := T) (n := n) ho2 (fun z => by
        unfold nmF at h2
        repeat' split at h2
        all_goals omega)
      rw [hT] at h2 hR hr
      rw [hR, layP_n (show (advP 1 t).2.1 < 0 from ho2)]
      refine Or.inr ⟨⟨⟨by show 0 ≤ t.1 + 1; omega, by show t.1 + 1 ≤ n; omega⟩, ho2, ho3⟩, rfl, cm, hc, Agb.rf, Rch.one ?_⟩
      rw [ks_opd hp.1 (Or.inr h2), wnP_all j _ S _ hS]
      unfold odP odK
      rw [if_neg (by omega), if_neg (by omega)]
      show (Sum.inl (false, t.1 + 1, (cd t ++ [-1 - nmF u (T t.1.toNat)]) ++ List.replicate j 10033, S, t.2.2.1 - (j : Int), dp, cm) : Kst ⊕ (Int × List Int)) = Sum.inl (false, t.1 + 1, (t.2.2.2 ++ [10000 + nmF u (T t.1.toNat)]).map tk ++ List.replicate j 10033, S, t.2.2.1 - (j : Int), dp, cm)
      rw [List.map_append]
      show _ = (Sum.inl (false, t.1 + 1, (cd t ++ [tk (10000 + nmF u (T t.1.toNat))]) ++ List.replicate j 10033, S, t.2.2.1 - (j : Int), dp, cm) : Kst ⊕ (Int × List Int))
      rw [tk_n ⟨h2, hr.2⟩]
    · rw [if_neg h2] at hR
      obtain ⟨q1, q2⟩ := dg_same (T := T) (n := n) 4 t 0 ho2
      obtain ⟨w1, w2, w3⟩ := dg_rng (T := T) (n := n) 4 (t.1, -1, 0, []) 0 ho1.2
      have w1 : t.1 ≤ (dgP T n 4 (t.1, -1, 0, []) 0).1.1 := w1
      have hv := dg_v4 (T := T) (n := n) (t := t)
      rw [q2] at hv
      rw [q1, q2] at hR
      have hdef : dkK T n t.1 = (dgP T n 4 (t.1, -1, 0, []) 0).1.1 - t.1 := rfl
      by_cases h3 : (dgP T n 4 (t.1, -1, 0, []) 0).1.1 = t.1
      · rw [if_pos h3, h3] at hR
        rw [layP_f (wrP_f ho1.1), wrP_n ho2] at hR
        rw [hR]
        refine Or.inl ⟨ho1.1, Kfi.one ?_⟩
        by_cases h6 : t.1 < n
        · rw [hereP_eq ⟨h6, ho2⟩] at h1 h2
          exact ks_bad h6 (fun z => by
            rcases z with z | z
            · omega
            · exact h2 z) (fun z => h1 z.1)
        · exact ks_end h6 (Or.inl rfl)
      · rw [if_neg h3, layP_n (show ((dgP T n 4 (t.1, -1, 0, []) 0).1.1, t.2).2.1 < 0 from ho2)] at hR
        rw [hR]
        refine Or.inr ⟨⟨⟨by show 0 ≤ (dgP T n 4 (t.1, -1, 0, []) 0).1.1; omega, w2⟩, ho2, ho3⟩, rfl, cm, hc, Agb.rf, Rch.one ?_⟩
        rw [ks_opd (by omega) (Or.inl (by omega)), wnP_all j _ S _ hS]
        unfold odP odK
        rw [if_pos (by omega), if_pos (by omega), show t.1 + dkK T n t.1 = (dgP T n 4 (t.1, -1, 0, []) 0).1.1 by omega]
        show (Sum.inl (false, (dgP T n 4 (t.1, -1, 0, []) 0).1.1, (cd t ++ [dvK T n t.1]) ++ List.replicate j 10033, S, t.2.2.1 - (j : Int), dp, cm) : Kst ⊕ (Int × List Int)) = Sum.inl (false, (dgP T n 4 (t.1, -1, 0, []) 0).1.1, (t.2.2.2 ++ [dvK T n t.1]).map tk ++ List.replicate j 10033, S, t.2.2.1 - (j : Int), dp, cm)
        rw [List.map_append]
        show _ = (Sum.inl (false, (dgP T n 4 (t.1, -1, 0, []) 0).1.1, (cd t ++ [tk (dvK T n t.1)]) ++ List.replicate j 10033, S, t.2.2.1 - (j : Int), dp, cm) : Kst ⊕ (Int × List Int))
        rw [tk_v (show dvK T n t.1 < 10000 from hv.2)]
theorem lv_all : ∀ F : Nat, LvA T n u F ∧ LvB T n u F ∧ LvU T n u F
  | 0 => ⟨fun _ _ _ _ _ _ _ _ h => False.elim h, fun _ _ _ _ _ _ _ _ _ _ h => False.elim h, fun _ _ _ _ _ _ h => False.elim h⟩
  | F + 1 => by
    obtain ⟨a, b, c⟩ := lv_all F
    have c1 := lvU a c
    exact ⟨lvA a b c1, lvB a b, c1⟩
/-- what the class's reading gives, by the grammar -/
theorem rd_class {t : Pst} (hn : 0 ≤ n) (h : Rd T n u t) : Kfi T n u (true, 0, [], [], 0, 0, 0) (if t.2.1 < 0 then (-1, cd t) else (t.2.1, [])) := by
  obtain ⟨F, t1, hR, rfl⟩ := h
  rcases (lv_all (T := T) (n := n) (u := u) F).1 1 p0P t1 [] 0 0 (by omega) (by omega) hR ⟨⟨by show (0 : Int) ≤ 0; omega, hn⟩, by show (-1 : Int) < 0; omega, by show (0 : Int) ≤ 0; omega, by show (0 : Int) ≤ 5; omega⟩ (fun c q z => absurd z (by simp)) ⟨by omega, by show (0 : Int) ≤ 0; omega⟩ ⟨by omega, by omega⟩ (fun _ => (by decide : m_and 0 (m_shl 1 0) = 0)) with ⟨f1, f2⟩ | ⟨g1, g2, E1, dr1, cm3, e1, e2, e3, e4, e5, e6⟩
  · unfold finP
    rw [if_neg (show ¬ (t1.2.1 < 0 ∧ t1.1 < n) by omega), if_neg (by omega)]
    exact f2
  · have g2 : t1.2.2.1 = 0 := g2
    by_cases h6 : t1.1 < n
    · have e : finP n t1 = (t1.1, t1.1, t1.2.2) := (if_pos ⟨g1.2.1, h6⟩ : finP n t1 = wrP t1).trans (wrP_n g1.2.1)
      have h0 : ¬ t1.1 < 0 := by have := g1.1.1; omega
      rw [e]
      show Kfi T n u _ (if t1.1 < 0 then (-1, cd (t1.1, t1.1, t1.2.2)) else (t1.1, []))
      rw [if_neg h0]
      refine e6.fi (Kfi.one (ks_rej h6 (fun z => z.2 rfl) ?_))
      rcases e5 h6 with q | ⟨q1, q2, q3⟩
      · have := rk_rng (T t1.1.toNat)
        exact Or.inl (by omega)
      · exact Or.inr ⟨q1, q3⟩
    · have e : finP n t1 = t1 := if_neg (fun z => h6 z.2)
      rw [e, if_pos g1.2.1]
      refine e6.fi (Kfi.one ?_)
      rw [ks_done h6 (by omega), wdP_all (r := 1) E1 dr1 [] (fun c hc => by have := e1 c hc; omega) (fun c q z => absurd z (by simp)), e2]
end RD
