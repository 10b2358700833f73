/-! ===== the first run: the constructors ===== -/
/-- the state at the law's beginning -/
def sI (X : Nat → Int) (N : Int) (a : Nat) : Nat → Int :=
  if a = 0 then (fun j => if j = 1 then N else 0)
  else if a = 1 then X
  else if a = 13 ∨ a = 51 ∨ a = 89 then (fun j => if j = 3 then 1 else if j = 4 then 1 else 0)
  else if a = 43 ∨ a = 81 ∨ a = 119 then (fun j => if j = 0 then 1 else 0)
  else if 29 ≤ a ∧ a ≤ 34 then (fun j => if j = 0 then (a : Int) - 29 else 0)
  else if 67 ≤ a ∧ a ≤ 72 then (fun j => if j = 0 then (a : Int) - 67 else 0)
  else if 105 ≤ a ∧ a ≤ 110 then (fun j => if j = 0 then (a : Int) - 105 else 0)
  else if a = 15 then (fun j => if j < 6 then 29 + (j : Int) else 0)
  else if a = 53 then (fun j => if j < 6 then 67 + (j : Int) else 0)
  else if a = 91 then (fun j => if j < 6 then 105 + (j : Int) else 0)
  else if a = 147 then (fun j => if j = 37 then 1 else if j = 42 then 1 else 0)
  else (fun _ => 0)
def grow (X : Nat → Int) (N : Int) (f : Nat → mEnt) (a n : Nat) : Nat → mEnt := fun x => if a ≤ x ∧ x < n then enc (sI X N) x else f x
theorem grow_ne {X : Nat → Int} {N : Int} {f : Nat → mEnt} {a n x : Nat} (h : x < a ∨ n ≤ x) : grow X N f a n x = f x := if_neg (by omega)
theorem grow_in {X : Nat → Int} {N : Int} {f : Nat → mEnt} {a n x : Nat} (h : a ≤ x ∧ x < n) : grow X N f a n x = enc (sI X N) x := if_pos h
theorem grow_obj {X : Nat → Int} {N : Int} {f : Nat → mEnt} {a n x c : Nat} {fd : List (Nat ⊕ Nat)} (h : a ≤ x ∧ x < n) (hl : layAt x = some (.inl (c, fd))) : grow X N f a n x = some (.inl (c, fillF (sI X N x) fd)) := (grow_in h).trans (enc_at hl)
def QX (H : mH) : mQ := fun r h => r = none ∧ h = H
theorem QX.mk {d mt : Nat} {as : List mAV} {h H : mH} (e : Nat.ble (mArgs as).length (mPr mt).1 = true) (k : WP d mt 0 (mIn (mPr mt).1 as) [] h (QX H)) : Call d mt as h none H := by
  obtain ⟨r, h', kr, rfl, rfl⟩ := k
  exact ⟨Nat.le_of_ble_eq_true e, kr⟩
section NW
variable {d mt j n sl : Nat} {L : mL} {S : mS} {F : Nat → mEnt} {Q : mQ}
theorem w_retN {h : mH} (hc : (mPr mt).2 j = some opRetV) (k : Q none h) : WP d mt j L [] h Q := ⟨none, h, x_retV hc rfl, k⟩
theorem w_newL {c nx n1 q : Nat} {fs : List mAV} (hc : (mPr mt).2 j = some (opNew c fs nx)) (hn : n + 1 = n1) (hq : fs.length = q) (k : WP d mt nx L (.inr (.inr n) :: S) (n1, sl + q, mup F n (eo c fs)) Q) : WP d mt j L S (n, sl, F) Q := by
  obtain ⟨r, h', kr, z⟩ := k
  subst hn hq
  exact ⟨r, h', x_new hc kr, z⟩
theorem w_newAL {t nx n1 : Nat} {x : Int} (q : Nat) (hc : (mPr mt).2 j = some (opNewA t nx)) (hx : x = (q : Int)) (hq : Nat.ble q 1000 = true) (hn : n + 1 = n1) (k : WP d mt nx L (.inr (.inr n) :: S) (n1, sl + q, mup F n (ep t q (fun _ => 0))) Q) : WP d mt j L (.inl x :: S) (n, sl, F) Q := by
  obtain ⟨r, h', kr, z⟩ := k
  have h1 := Nat.le_of_ble_eq_true hq
  have hw : w32 x = (q : Int) := by rw [hx]; exact w32_id (by omega) (by omega)
  subst hn
  refine ⟨r, h', Run.step hc ?_ kr, z⟩
  unfold opNewA
  dsimp only
  rw [hw, if_pos ⟨by omega, by omega⟩, Int.toNat_natCast]
theorem w_newRL {t nx n1 : Nat} {x : Int} (q : Nat) (hc : (mPr mt).2 j = some (opNewR t nx)) (hx : x = (q : Int)) (hq : Nat.ble q 1000 = true) (hn : n + 1 = n1) (k : WP d mt nx L (.inr (.inr n) :: S) (n1, sl + q, mup F n (er t q (fun _ => 0))) Q) : WP d mt j L (.inl x :: S) (n, sl, F) Q := by
  obtain ⟨r, h', kr, z⟩ := k
  have h1 := Nat.le_of_ble_eq_true hq
  have hw : w32 x = (q : Int) := by rw [hx]; exact w32_id (by omega) (by omega)
  subst hn
  refine ⟨r, h', Run.step hc ?_ kr, z⟩
  unfold opNewR
  dsimp only
  rw [hw, if_pos ⟨by omega, by omega⟩, Int.toNat_natCast]
theorem w_putL {cs : List Nat} {a c t k nx : Nat} {fs : List mAV} {v : mAV} (hc : (mPr mt).2 j = some (opPut cs t k nx)) (ha : Nat.ble 10 a = true) (hg : F a = some (.inl (c, fs))) (hcs : cs.contains c = true) (hk : Nat.ble (k + 1) fs.length = true) (hf : mFit t v = true) (kk : WP d mt nx L S (n, sl, mup F a (eo c (fs.set k v))) Q) : WP d mt j L (v :: .inr (.inr a) :: S) (n, sl, F) Q :=
  w_put0 hc ha hg hcs (Nat.le_of_ble_eq_true hk) hf kk
theorem w_getL {cs : List Nat} {a c k nx : Nat} {fs : List mAV} {v : mAV} (hc : (mPr mt).2 j = some (opGet cs k nx)) (ha : Nat.ble 10 a = true) (hg : F a = some (.inl (c, fs))) (hcs : cs.contains c = true) (hv : fs[k]? = some v) (kk : WP d mt nx L (v :: S) (n, sl, F) Q) : WP d mt j L (.inr (.inr a) :: S) (n, sl, F) Q :=
  w_get0 hc ha hg hcs hv kk
theorem w_rstK {a t nx m v c : Nat} {cs : List Nat} {fs : List mAV} {f : Nat → Nat} {x : Int} (q : Nat) (hc : (mPr mt).2 j = some (opRSt t cs nx)) (ha : Nat.ble 10 a = true) (hv : Nat.ble 10 v = true) (hg : F a = some (.inr (.inr (t, m, f)))) (hgv : F v = some (.inl (c, fs))) (hcs : cs.contains c = true) (hx : x = (q : Int)) (hq : Nat.ble (q + 1) m = true) (hm : Nat.ble m 1000 = true) (kk : WP d mt nx L S (n, sl, mup F a (er t m (mup f q v))) Q) : WP d mt j L (.inr (.inr v) :: .inl x :: .inr (.inr a) :: S) (n, sl, F) Q := by
  have h1 := Nat.le_of_ble_eq_true hq
  have h2 := Nat.le_of_ble_eq_true hm
  have hw : w32 x = (q : Int) := by rw [hx]; exact w32_id (by omega) (by omega)
  refine w_rst0 hc ha hv hg hgv hcs (by rw [hw]; omega) (by rw [hw]; omega) ?_
  rw [hw, Int.toNat_natCast]
  exact kk
theorem w_astK {a nx m : Nat} {f : Nat → Int} {x v : Int} (q : Nat) (hc : (mPr mt).2 j = some (opASt nx)) (ha : Nat.ble 10 a = true) (hg : F a = some (.inr (.inl (0, m, f)))) (hx : x = (q : Int)) (hq : Nat.ble (q + 1) m = true) (hm : Nat.ble m 1000 = true) (kk : WP d mt nx L S (n, sl, mup F a (ep 0 m (mup f q v))) Q) : WP d mt j L (.inl v :: .inl x :: .inr (.inr a) :: S) (n, sl, F) Q := by
  have h1 := Nat.le_of_ble_eq_true hq
  have h2 := Nat.le_of_ble_eq_true hm
  have hw : w32 x = (q : Int) := by rw [hx]; exact w32_id (by omega) (by omega)
  refine w_ast0 hc ha hg (by rw [hw]; omega) (by rw [hw]; omega) ?_
  rw [hw, Int.toNat_natCast]
  exact kk
theorem w_kall {tb : List (Nat × Nat)} {mt' na nx a c : Nat} {as : List mAV} {fs : List mAV} {h1 : mH} (hc : (mPr mt).2 j = some (opCallV tb na nx)) (hn : Nat.ble na S.length = true) (hS : Nat.ble (mWs (S.drop na)) 8 = true) (hs : (S.take na).reverse = .inr (.inr a) :: as) (ha : Nat.ble 10 a = true) (hg : F a = some (.inl (c, fs))) (ht : mTb tb c = some mt') (hk : Call d mt' (.inr (.inr a) :: as) (n, sl, F) none h1) (k : WP (d + 1) mt nx L (S.drop na) h1 Q) : WP (d + 1) mt j L S (n, sl, F) Q :=
  w_callV0 hc hn hS hs ha hg ht hk k
end NW
theorem n_28L {d a c n sl : Nat} {F : Nat → mEnt} {v m x0 x1 : Int} {r : Nat} (ha : Nat.ble 10 a = true) (hcs : [0, 1, 2, 3, 7, 8, 10].contains c = true) (hg : F a = some (.inl (c, [.inl x0, .inl x1, .inr (.inr r)]))) : Call (d + 1) 28 [.inr (.inr a), .inl v, .inl m, .inr (.inr 11)] (n, sl, F) none (n, sl, mup F a (eo c [.inl v, .inl m, .inr (.inr 11)])) := n_28 (h := (n, sl, F)) ha hcs hg
theorem n_61 {d a n n1 sl q : Nat} {x : Int} {F : Nat → mEnt} (ha : Nat.ble 10 a = true) (hg : F a = some (.inl (6, [.inr (.inr 0), .inl 0]))) (hne : Nat.beq a n = false) (hx : x = (q : Int)) (hq : Nat.ble q 1000 = true) (hn : n + 1 = n1) : Call (d + 1) 61 [.inr (.inr a), .inl x] (n, sl, F) none (n1, sl + q, mup (mup F n (ep 0 q (fun _ => 0))) a (eo 6 [.inr (.inr n), .inl 0])) := by
  have h1 := Nat.le_of_ble_eq_true hq
  have hne2 : a ≠ n := fun e => by rw [e, Nat.beq_refl] at hne; cases hne
  refine QX.mk rfl ?_
  show WP (d + 1) 61 0 [some (.inr (.inr a)), some (.inl x)] [] _ _
  refine w_ldR rfl rfl (ble_1 ha) ?_
  refine w_objI rfl (ble_1 ha) rfl ?_
  refine w_ldR rfl rfl (ble_1 ha) ?_
  refine w_push rfl ?_
  refine w_ldI rfl rfl ?_
  refine w_m2 rfl rfl ?_
  rw [m_max_id (by omega) (by omega), show max 0 x = x by omega]
  refine w_newAL q rfl hx hq hn ?_
  refine w_putL rfl ha ((mup_ne hne2).trans hg) rfl rfl rfl ?_
  exact w_retN rfl ⟨rfl, rfl⟩
theorem ref_2 {t a b : Nat} : er t 2 (mup (mup (fun _ => 0) 0 a) 1 b) = er t 2 (fun j => [a, b].getD j 0) := by
  have e : (mup (mup (fun _ => 0) 0 a) 1 b) = (fun j => [a, b].getD j 0) := by
    funext j
    match j with
    | 0 => rfl
    | 1 => rfl
    | j + 2 => rfl
  rw [e]
theorem ref_4 {t a b c e : Nat} : er t 4 (mup (mup (mup (mup (fun _ => 0) 0 a) 1 b) 2 c) 3 e) = er t 4 (fun j => [a, b, c, e].getD j 0) := by
  have e : (mup (mup (mup (mup (fun _ => 0) 0 a) 1 b) 2 c) 3 e) = (fun j => [a, b, c, e].getD j 0) := by
    funext j
    match j with
    | 0 => rfl
    | 1 => rfl
    | 2 => rfl
    | 3 => rfl
    | j + 4 => rfl
  rw [e]
theorem ref_6 {t : Nat} (c : Nat) (z : Int) (h : z = (c : Int)) : er t 6 (mup (mup (mup (mup (mup (mup (fun _ => 0) 0 c) 1 (c + 1)) 2 (c + 2)) 3 (c + 3)) 4 (c + 4)) 5 (c + 5)) = er t 6 (fun j => (if j < 6 then z + (j : Int) else 0).toNat) := by
  have e : (mup (mup (mup (mup (mup (mup (fun _ => 0) 0 c) 1 (c + 1)) 2 (c + 2)) 3 (c + 3)) 4 (c + 4)) 5 (c + 5)) = (fun j : Nat => (if j < 6 then z + (j : Int) else 0).toNat) := by
    funext j
    subst h
    by_cases hj : j < 6
    · rw [if_pos hj]
      rcases (show j = 0 ∨ j = 1 ∨ j = 2 ∨ j = 3 ∨ j = 4 ∨ j = 5 by omega) with rfl | rfl | rfl | rfl | rfl | rfl
      · show c = ((c : Int) + 0).toNat; omega
      · show c + 1 = ((c : Int) + 1).toNat; omega
      · show c + 2 = ((c : Int) + 2).toNat; omega
      · show c + 3 = ((c : Int) + 3).toNat; omega
      · show c + 4 = ((c : Int) + 4).toNat; omega
      · show c + 5 = ((c : Int) + 5).toNat; omega
    · rw [if_neg hj]
      simp (disch := omega) only [mup_ne]
      rfl
  rw [e]
theorem d_147 {n : Nat} : ep 0 n (mup (mup (fun _ => 0) 37 1) 42 1) = ep 0 n (fun j : Nat => if j = 37 then 1 else if j = 42 then 1 else 0) := by
  have e : (mup (mup (fun _ => (0 : Int)) 37 1) 42 1) = (fun j : Nat => if j = 37 then 1 else if j = 42 then 1 else 0) := by
    funext j
    unfold mup
    by_cases h : j = 37
    · subst h; rfl
    · rw [if_neg h, if_neg h]
  rw [e]
theorem n_37_35 {X : Nat → Int} {N : Int} {d sl : Nat} {f : Nat → mEnt} (hg : f 35 = some (.inl (4, [.inl 0, .inr (.inr 0), .inr (.inr 0), .inr (.inr 0), .inr (.inr 0), .inl 0, .inl 0, .inl 0]))) : Call (d + 2) 37 [.inr (.inr 35), .inl 0] (36, sl, f) none (43, sl + 206, grow X N f 35 43) := by
  refine QX.mk rfl ?_
  show WP (d + 2) 37 0 [some (.inr (.inr 35)), some (.inl 0)] [] _ _
  refine w_ldR rfl rfl rfl ?_
  refine w_objI rfl rfl rfl ?_
  refine w_ldR rfl rfl rfl ?_
  refine w_newL (n1 := 37) (q := 2) rfl rfl rfl ?_
  refine w_dupR rfl ?_
  refine w_push rfl ?_
  refine w_kall rfl rfl rfl rfl rfl rfl rfl (n_61 (q := 50) (n1 := 38) rfl rfl rfl rfl rfl rfl) ?_
  refine w_putL rfl rfl hg rfl rfl rfl ?_
  refine w_ldR rfl rfl rfl ?_
  refine w_push rfl ?_
  refine w_newAL (n1 := 39) 50 rfl rfl rfl rfl ?_
  refine w_putL rfl rfl rfl rfl rfl rfl ?_
  refine w_ldR rfl rfl rfl ?_
  refine w_newL (n1 := 40) (q := 2) rfl rfl rfl ?_
  refine w_dupR rfl ?_
  refine w_push rfl ?_
  refine w_kall rfl rfl rfl rfl rfl rfl rfl (n_61 (q := 50) (n1 := 41) rfl rfl rfl rfl rfl rfl) ?_
  refine w_putL rfl rfl rfl rfl rfl rfl ?_
  refine w_ldR rfl rfl rfl ?_
  refine w_newL (n1 := 42) (q := 2) rfl rfl rfl ?_
  refine w_dupR rfl ?_
  refine w_push rfl ?_
  refine w_kall rfl rfl rfl rfl rfl rfl rfl (n_61 (q := 50) (n1 := 43) rfl rfl rfl rfl rfl rfl) ?_
  refine w_putL rfl rfl rfl rfl rfl rfl ?_
  refine w_ldR rfl rfl rfl ?_
  refine w_ldI rfl rfl ?_
  refine w_putL rfl rfl rfl rfl rfl rfl ?_
  refine w_retN rfl ⟨rfl, Prod.ext rfl (Prod.ext (by first | rfl | (dsimp only; omega)) ?_)⟩
  funext x
  dsimp only
  by_cases hx : 35 ≤ x ∧ x < 43
  · rw [grow_in hx]
    obtain rfl | rfl | rfl | rfl | rfl | rfl | rfl | rfl := (by omega : x = 35 ∨ x = 36 ∨ x = 37 ∨ x = 38 ∨ x = 39 ∨ x = 40 ∨ x = 41 ∨ x = 42)
    all_goals first | rfl | exact ref_2 | exact ref_4 | exact ref_6 29 29 rfl | exact ref_6 67 67 rfl | exact ref_6 105 105 rfl | exact d_147
  · rw [grow_ne (by omega)]
    simp (disch := omega) only [mup_ne, grow_ne]
theorem n_37_43 {X : Nat → Int} {N : Int} {d sl : Nat} {f : Nat → mEnt} (hg : f 43 = some (.inl (4, [.inl 0, .inr (.inr 0), .inr (.inr 0), .inr (.inr 0), .inr (.inr 0), .inl 0, .inl 0, .inl 0]))) : Call (d + 2) 37 [.inr (.inr 43), .inl 1] (44, sl, f) none (51, sl + 206, grow X N f 43 51) := by
  refine QX.mk rfl ?_
  show WP (d + 2) 37 0 [some (.inr (.inr 43)), some (.inl 1)] [] _ _
  refine w_ldR rfl rfl rfl ?_
  refine w_objI rfl rfl rfl ?_
  refine w_ldR rfl rfl rfl ?_
  refine w_newL (n1 := 45) (q := 2) rfl rfl rfl ?_
  refine w_dupR rfl ?_
  refine w_push rfl ?_
  refine w_kall rfl rfl rfl rfl rfl rfl rfl (n_61 (q := 50) (n1 := 46) rfl rfl rfl rfl rfl rfl) ?_
  refine w_putL rfl rfl hg rfl rfl rfl ?_
  refine w_ldR rfl rfl rfl ?_
  refine w_push rfl ?_
  refine w_newAL (n1 := 47) 50 rfl rfl rfl rfl ?_
  refine w_putL rfl rfl rfl rfl rfl rfl ?_
  refine w_ldR rfl rfl rfl ?_
  refine w_newL (n1 := 48) (q := 2) rfl rfl rfl ?_
  refine w_dupR rfl ?_
  refine w_push rfl ?_
  refine w_kall rfl rfl rfl rfl rfl rfl rfl (n_61 (q := 50) (n1 := 49) rfl rfl rfl rfl rfl rfl) ?_
  refine w_putL rfl rfl rfl rfl rfl rfl ?_
  refine w_ldR rfl rfl rfl ?_
  refine w_newL (n1 := 50) (q := 2) rfl rfl rfl ?_
  refine w_dupR rfl ?_
  refine w_push rfl ?_
  refine w_kall rfl rfl rfl rfl rfl rfl rfl (n_61 (q := 50) (n1 := 51) rfl rfl rfl rfl rfl rfl) ?_
  refine w_putL rfl rfl rfl rfl rfl rfl ?_
  refine w_ldR rfl rfl rfl ?_
  refine w_ldI rfl rfl ?_
  refine w_putL rfl rfl rfl rfl rfl rfl ?_
  refine w_retN rfl ⟨rfl, Prod.ext rfl (Prod.ext (by first | rfl | (dsimp only; omega)) ?_)⟩
  funext x
  dsimp only
  by_cases hx : 43 ≤ x ∧ x < 51
  · rw [grow_in hx]
    obtain rfl | rfl | rfl | rfl | rfl | rfl | rfl | rfl := (by omega : x = 43 ∨ x = 44 ∨ x = 45 ∨ x = 46 ∨ x = 47 ∨ x = 48 ∨ x = 49 ∨ x = 50)
    all_goals first | rfl | exact ref_2 | exact ref_4 | exact ref_6 29 29 rfl | exact ref_6 67 67 rfl | exact ref_6 105 105 rfl | exact d_147
  · rw [grow_ne (by omega)]
    simp (disch := omega) only [mup_ne, grow_ne]
theorem n_37_73 {X : Nat → Int} {N : Int} {d sl : Nat} {f : Nat → mEnt} (hg : f 73 = some (.inl (4, [.inl 0, .inr (.inr 0), .inr (.inr 0), .inr (.inr 0), .inr (.inr 0), .inl 0, .inl 0, .inl 0]))) : Call (d + 2) 37 [.inr (.inr 73), .inl 0] (74, sl, f) none (81, sl + 206, grow X N f 73 81) := by
  refine QX.mk rfl ?_
  show WP (d + 2) 37 0 [some (.inr (.inr 73)), some (.inl 0)] [] _ _
  refine w_ldR rfl rfl rfl ?_
  refine w_objI rfl rfl rfl ?_
  refine w_ldR rfl rfl rfl ?_
  refine w_newL (n1 := 75) (q := 2) rfl rfl rfl ?_
  refine w_dupR rfl ?_
  refine w_push rfl ?_
  refine w_kall rfl rfl rfl rfl rfl rfl rfl (n_61 (q := 50) (n1 := 76) rfl rfl rfl rfl rfl rfl) ?_
  refine w_putL rfl rfl hg rfl rfl rfl ?_
  refine w_ldR rfl rfl rfl ?_
  refine w_push rfl ?_
  refine w_newAL (n1 := 77) 50 rfl rfl rfl rfl ?_
  refine w_putL rfl rfl rfl rfl rfl rfl ?_
  refine w_ldR rfl rfl rfl ?_
  refine w_newL (n1 := 78) (q := 2) rfl rfl rfl ?_
  refine w_dupR rfl ?_
  refine w_push rfl ?_
  refine w_kall rfl rfl rfl rfl rfl rfl rfl (n_61 (q := 50) (n1 := 79) rfl rfl rfl rfl rfl rfl) ?_
  refine w_putL rfl rfl rfl rfl rfl rfl ?_
  refine w_ldR rfl rfl rfl ?_
  refine w_newL (n1 := 80) (q := 2) rfl rfl rfl ?_
  refine w_dupR rfl ?_
  refine w_push rfl ?_
  refine w_kall rfl rfl rfl rfl rfl rfl rfl (n_61 (q := 50) (n1 := 81) rfl rfl rfl rfl rfl rfl) ?_
  refine w_putL rfl rfl rfl rfl rfl rfl ?_
  refine w_ldR rfl rfl rfl ?_
  refine w_ldI rfl rfl ?_
  refine w_putL rfl rfl rfl rfl rfl rfl ?_
  refine w_retN rfl ⟨rfl, Prod.ext rfl (Prod.ext (by first | rfl | (dsimp only; omega)) ?_)⟩
  funext x
  dsimp only
  by_cases hx : 73 ≤ x ∧ x < 81
  · rw [grow_in hx]
    obtain rfl | rfl | rfl | rfl | rfl | rfl | rfl | rfl := (by omega : x = 73 ∨ x = 74 ∨ x = 75 ∨ x = 76 ∨ x = 77 ∨ x = 78 ∨ x = 79 ∨ x = 80)
    all_goals first | rfl | exact ref_2 | exact ref_4 | exact ref_6 29 29 rfl | exact ref_6 67 67 rfl | exact ref_6 105 105 rfl | exact d_147
  · rw [grow_ne (by omega)]
    simp (disch := omega) only [mup_ne, grow_ne]
theorem n_37_81 {X : Nat → Int} {N : Int} {d sl : Nat} {f : Nat → mEnt} (hg : f 81 = some (.inl (4, [.inl 0, .inr (.inr 0), .inr (.inr 0), .inr (.inr 0), .inr (.inr 0), .inl 0, .inl 0, .inl 0]))) : Call (d + 2) 37 [.inr (.inr 81), .inl 1] (82, sl, f) none (89, sl + 206, grow X N f 81 89) := by
  refine QX.mk rfl ?_
  show WP (d + 2) 37 0 [some (.inr (.inr 81)), some (.inl 1)] [] _ _
  refine w_ldR rfl rfl rfl ?_
  refine w_objI rfl rfl rfl ?_
  refine w_ldR rfl rfl rfl ?_
  refine w_newL (n1 := 83) (q := 2) rfl rfl rfl ?_
  refine w_dupR rfl ?_
  refine w_push rfl ?_
  refine w_kall rfl rfl rfl rfl rfl rfl rfl (n_61 (q := 50) (n1 := 84) rfl rfl rfl rfl rfl rfl) ?_
  refine w_putL rfl rfl hg rfl rfl rfl ?_
  refine w_ldR rfl rfl rfl ?_
  refine w_push rfl ?_
  refine w_newAL (n1 := 85) 50 rfl rfl rfl rfl ?_
  refine w_putL rfl rfl rfl rfl rfl rfl ?_
  refine w_ldR rfl rfl rfl ?_
  refine w_newL (n1 := 86) (q := 2) rfl rfl rfl ?_
  refine w_dupR rfl ?_
  refine w_push rfl ?_
  refine w_kall rfl rfl rfl rfl rfl rfl rfl (n_61 (q := 50) (n1 := 87) rfl rfl rfl rfl rfl rfl) ?_
  refine w_putL rfl rfl rfl rfl rfl rfl ?_
  refine w_ldR rfl rfl rfl ?_
  refine w_newL (n1 := 88) (q := 2) rfl rfl rfl ?_
  refine w_dupR rfl ?_
  refine w_push rfl ?_
  refine w_kall rfl rfl rfl rfl rfl rfl rfl (n_61 (q := 50) (n1 := 89) rfl rfl rfl rfl rfl rfl) ?_
  refine w_putL rfl rfl rfl rfl rfl rfl ?_
  refine w_ldR rfl rfl rfl ?_
  refine w_ldI rfl rfl ?_
  refine w_putL rfl rfl rfl rfl rfl rfl ?_
  refine w_retN rfl ⟨rfl, Prod.ext rfl (Prod.ext (by first | rfl | (dsimp only; omega)) ?_)⟩
  funext x
  dsimp only
  by_cases hx : 81 ≤ x ∧ x < 89
  · rw [grow_in hx]
    obtain rfl | rfl | rfl | rfl | rfl | rfl | rfl | rfl := (by omega : x = 81 ∨ x = 82 ∨ x = 83 ∨ x = 84 ∨ x = 85 ∨ x = 86 ∨ x = 87 ∨ x = 88)
    all_goals first | rfl | exact ref_2 | exact ref_4 | exact ref_6 29 29 rfl | exact ref_6 67 67 rfl | exact ref_6 105 105 rfl | exact d_147
  · rw [grow_ne (by omega)]
    simp (disch := omega) only [mup_ne, grow_ne]
theorem n_37_111 {X : Nat → Int} {N : Int} {d sl : Nat} {f : Nat → mEnt} (hg : f 111 = some (.inl (4, [.inl 0, .inr (.inr 0), .inr (.inr 0), .inr (.inr 0), .inr (.inr 0), .inl 0, .inl 0, .inl 0]))) : Call (d + 2) 37 [.inr (.inr 111), .inl 0] (112, sl, f) none (119, sl + 206, grow X N f 111 119) := by
  refine QX.mk rfl ?_
  show WP (d + 2) 37 0 [some (.inr (.inr 111)), some (.inl 0)] [] _ _
  refine w_ldR rfl rfl rfl ?_
  refine w_objI rfl rfl rfl ?_
  refine w_ldR rfl rfl rfl ?_
  refine w_newL (n1 := 113) (q := 2) rfl rfl rfl ?_
  refine w_dupR rfl ?_
  refine w_push rfl ?_
  refine w_kall rfl rfl rfl rfl rfl rfl rfl (n_61 (q := 50) (n1 := 114) rfl rfl rfl rfl rfl rfl) ?_
  refine w_putL rfl rfl hg rfl rfl rfl ?_
  refine w_ldR rfl rfl rfl ?_
  refine w_push rfl ?_
  refine w_newAL (n1 := 115) 50 rfl rfl rfl rfl ?_
  refine w_putL rfl rfl rfl rfl rfl rfl ?_
  refine w_ldR rfl rfl rfl ?_
  refine w_newL (n1 := 116) (q := 2) rfl rfl rfl ?_
  refine w_dupR rfl ?_
  refine w_push rfl ?_
  refine w_kall rfl rfl rfl rfl rfl rfl rfl (n_61 (q := 50) (n1 := 117) rfl rfl rfl rfl rfl rfl) ?_
  refine w_putL rfl rfl rfl rfl rfl rfl ?_
  refine w_ldR rfl rfl rfl ?_
  refine w_newL (n1 := 118) (q := 2) rfl rfl rfl ?_
  refine w_dupR rfl ?_
  refine w_push rfl ?_
  refine w_kall rfl rfl rfl rfl rfl rfl rfl (n_61 (q := 50) (n1 := 119) rfl rfl rfl rfl rfl rfl) ?_
  refine w_putL rfl rfl rfl rfl rfl rfl ?_
  refine w_ldR rfl rfl rfl ?_
  refine w_ldI rfl rfl ?_
  refine w_putL rfl rfl rfl rfl rfl rfl ?_
  refine w_retN rfl ⟨rfl, Prod.ext rfl (Prod.ext (by first | rfl | (dsimp only; omega)) ?_)⟩
  funext x
  dsimp only
  by_cases hx : 111 ≤ x ∧ x < 119
  · rw [grow_in hx]
    obtain rfl | rfl | rfl | rfl | rfl | rfl | rfl | rfl := (by omega : x = 111 ∨ x = 112 ∨ x = 113 ∨ x = 114 ∨ x = 115 ∨ x = 116 ∨ x = 117 ∨ x = 118)
    all_goals first | rfl | exact ref_2 | exact ref_4 | exact ref_6 29 29 rfl | exact ref_6 67 67 rfl | exact ref_6 105 105 rfl | exact d_147
  · rw [grow_ne (by omega)]
    simp (disch := omega) only [mup_ne, grow_ne]
theorem n_37_119 {X : Nat → Int} {N : Int} {d sl : Nat} {f : Nat → mEnt} (hg : f 119 = some (.inl (4, [.inl 0, .inr (.inr 0), .inr (.inr 0), .inr (.inr 0), .inr (.inr 0), .inl 0, .inl 0, .inl 0]))) : Call (d + 2) 37 [.inr (.inr 119), .inl 1] (120, sl, f) none (127, sl + 206, grow X N f 119 127) := by
  refine QX.mk rfl ?_
  show WP (d + 2) 37 0 [some (.inr (.inr 119)), some (.inl 1)] [] _ _
  refine w_ldR rfl rfl rfl ?_
  refine w_objI rfl rfl rfl ?_
  refine w_ldR rfl rfl rfl ?_
  refine w_newL (n1 := 121) (q := 2) rfl rfl rfl ?_
  refine w_dupR rfl ?_
  refine w_push rfl ?_
  refine w_kall rfl rfl rfl rfl rfl rfl rfl (n_61 (q := 50) (n1 := 122) rfl rfl rfl rfl rfl rfl) ?_
  refine w_putL rfl rfl hg rfl rfl rfl ?_
  refine w_ldR rfl rfl rfl ?_
  refine w_push rfl ?_
  refine w_newAL (n1 := 123) 50 rfl rfl rfl rfl ?_
  refine w_putL rfl rfl rfl rfl rfl rfl ?_
  refine w_ldR rfl rfl rfl ?_
  refine w_newL (n1 := 124) (q := 2) rfl rfl rfl ?_
  refine w_dupR rfl ?_
  refine w_push rfl ?_
  refine w_kall rfl rfl rfl rfl rfl rfl rfl (n_61 (q := 50) (n1 := 125) rfl rfl rfl rfl rfl rfl) ?_
  refine w_putL rfl rfl rfl rfl rfl rfl ?_
  refine w_ldR rfl rfl rfl ?_
  refine w_newL (n1 := 126) (q := 2) rfl rfl rfl ?_
  refine w_dupR rfl ?_
  refine w_push rfl ?_
  refine w_kall rfl rfl rfl rfl rfl rfl rfl (n_61 (q := 50) (n1 := 127) rfl rfl rfl rfl rfl rfl) ?_
  refine w_putL rfl rfl rfl rfl rfl rfl ?_
  refine w_ldR rfl rfl rfl ?_
  refine w_ldI rfl rfl ?_
  refine w_putL rfl rfl rfl rfl rfl rfl ?_
  refine w_retN rfl ⟨rfl, Prod.ext rfl (Prod.ext (by first | rfl | (dsimp only; omega)) ?_)⟩
  funext x
  dsimp only
  by_cases hx : 119 ≤ x ∧ x < 127
  · rw [grow_in hx]
    obtain rfl | rfl | rfl | rfl | rfl | rfl | rfl | rfl := (by omega : x = 119 ∨ x = 120 ∨ x = 121 ∨ x = 122 ∨ x = 123 ∨ x = 124 ∨ x = 125 ∨ x = 126)
    all_goals first | rfl | exact ref_2 | exact ref_4 | exact ref_6 29 29 rfl | exact ref_6 67 67 rfl | exact ref_6 105 105 rfl | exact d_147
  · rw [grow_ne (by omega)]
    simp (disch := omega) only [mup_ne, grow_ne]
theorem n_84_13 {X : Nat → Int} {N : Int} {d sl : Nat} {f : Nat → mEnt} (hg : f 13 = some (.inl (9, [.inr (.inr 0), .inl 0, .inl 0, .inl 0, .inl 0, .inl 0, .inr (.inr 0), .inr (.inr 0), .inr (.inr 0), .inl 0, .inr (.inr 0), .inr (.inr 0), .inr (.inr 0), .inr (.inr 0), .inr (.inr 0), .inr (.inr 0), .inr (.inr 0), .inr (.inr 0)]))) : Call (d + 3) 84 [.inr (.inr 13), .inr (.inr 11)] (14, sl, f) none (51, sl + 630, grow X N f 13 51) := by
  refine QX.mk rfl ?_
  show WP (d + 3) 84 0 [some (.inr (.inr 13)), some (.inr (.inr 11)), none] [] _ _
  refine w_ldR rfl rfl rfl ?_
  refine w_objI rfl rfl rfl ?_
  refine w_ldR rfl rfl rfl ?_
  refine w_push rfl ?_
  refine w_newAL (n1 := 15) 36 rfl rfl rfl rfl ?_
  refine w_putL rfl rfl hg rfl rfl rfl ?_
  refine w_ldR rfl rfl rfl ?_
  refine w_push rfl ?_
  refine w_putL rfl rfl rfl rfl rfl rfl ?_
  refine w_ldR rfl rfl rfl ?_
  refine w_push rfl ?_
  refine w_putL rfl rfl rfl rfl rfl rfl ?_
  refine w_ldR rfl rfl rfl ?_
  refine w_push rfl ?_
  refine w_newRL (n1 := 16) 6 rfl rfl rfl rfl ?_
  refine w_putL rfl rfl rfl rfl rfl rfl ?_
  refine w_ldR rfl rfl rfl ?_
  refine w_push rfl ?_
  refine w_newAL (n1 := 17) 6 rfl rfl rfl rfl ?_
  refine w_putL rfl rfl rfl rfl rfl rfl ?_
  refine w_ldR rfl rfl rfl ?_
  refine w_push rfl ?_
  refine w_newAL (n1 := 18) 6 rfl rfl rfl rfl ?_
  refine w_putL rfl rfl rfl rfl rfl rfl ?_
  refine w_ldR rfl rfl rfl ?_
  refine w_push rfl ?_
  refine w_newAL (n1 := 19) 10 rfl rfl rfl rfl ?_
  refine w_putL rfl rfl rfl rfl rfl rfl ?_
  refine w_ldR rfl rfl rfl ?_
  refine w_push rfl ?_
  refine w_newAL (n1 := 20) 10 rfl rfl rfl rfl ?_
  refine w_putL rfl rfl rfl rfl rfl rfl ?_
  refine w_ldR rfl rfl rfl ?_
  refine w_push rfl ?_
  refine w_newAL (n1 := 21) 10 rfl rfl rfl rfl ?_
  refine w_putL rfl rfl rfl rfl rfl rfl ?_
  refine w_ldR rfl rfl rfl ?_
  refine w_push rfl ?_
  refine w_newAL (n1 := 22) 10 rfl rfl rfl rfl ?_
  refine w_putL rfl rfl rfl rfl rfl rfl ?_
  refine w_ldR rfl rfl rfl ?_
  refine w_newL (n1 := 23) (q := 2) rfl rfl rfl ?_
  refine w_dupR rfl ?_
  refine w_push rfl ?_
  refine w_kall rfl rfl rfl rfl rfl rfl rfl (n_61 (q := 12) (n1 := 24) rfl rfl rfl rfl rfl rfl) ?_
  refine w_putL rfl rfl rfl rfl rfl rfl ?_
  refine w_ldR rfl rfl rfl ?_
  refine w_newL (n1 := 25) (q := 2) rfl rfl rfl ?_
  refine w_dupR rfl ?_
  refine w_push rfl ?_
  refine w_kall rfl rfl rfl rfl rfl rfl rfl (n_61 (q := 50) (n1 := 26) rfl rfl rfl rfl rfl rfl) ?_
  refine w_putL rfl rfl rfl rfl rfl rfl ?_
  refine w_ldR rfl rfl rfl ?_
  refine w_newL (n1 := 27) (q := 2) rfl rfl rfl ?_
  refine w_dupR rfl ?_
  refine w_push rfl ?_
  refine w_kall rfl rfl rfl rfl rfl rfl rfl (n_61 (q := 20) (n1 := 28) rfl rfl rfl rfl rfl rfl) ?_
  refine w_putL rfl rfl rfl rfl rfl rfl ?_
  refine w_ldR rfl rfl rfl ?_
  refine w_push rfl ?_
  refine w_newRL (n1 := 29) 2 rfl rfl rfl rfl ?_
  refine w_putL rfl rfl rfl rfl rfl rfl ?_
  refine w_push rfl ?_
  refine w_StI_3_2 rfl rfl ?_
  refine w_ldI rfl rfl ?_
  refine w_push rfl ?_
  refine w_crGe rfl (by omega) (by omega) (fun b => False.elim (by omega)) (fun _ => ?_)
  refine w_ldR rfl rfl rfl ?_
  refine w_getL rfl rfl rfl rfl rfl ?_
  refine w_ldI rfl rfl ?_
  refine w_newL (n1 := 30) (q := 3) rfl rfl rfl ?_
  refine w_dupR rfl ?_
  refine w_ldI rfl rfl ?_
  refine w_push rfl ?_
  refine w_ldR rfl rfl rfl ?_
  refine w_kall rfl rfl rfl rfl rfl rfl rfl (n_28L rfl rfl rfl) ?_
  refine w_rstK 0 rfl rfl rfl rfl rfl rfl rfl rfl rfl ?_
  refine w_inc_3_2 rfl rfl ?_
  show WP _ _ _ [_, _, some (.inl 1)] _ _ _
  refine w_go rfl ?_
  refine w_ldI rfl rfl ?_
  refine w_push rfl ?_
  refine w_crGe rfl (by omega) (by omega) (fun b => False.elim (by omega)) (fun _ => ?_)
  refine w_ldR rfl rfl rfl ?_
  refine w_getL rfl rfl rfl rfl rfl ?_
  refine w_ldI rfl rfl ?_
  refine w_newL (n1 := 31) (q := 3) rfl rfl rfl ?_
  refine w_dupR rfl ?_
  refine w_ldI rfl rfl ?_
  refine w_push rfl ?_
  refine w_ldR rfl rfl rfl ?_
  refine w_kall rfl rfl rfl rfl rfl rfl rfl (n_28L rfl rfl rfl) ?_
  refine w_rstK 1 rfl rfl rfl rfl rfl rfl rfl rfl rfl ?_
  refine w_inc_3_2 rfl rfl ?_
  show WP _ _ _ [_, _, some (.inl 2)] _ _ _
  refine w_go rfl ?_
  refine w_ldI rfl rfl ?_
  refine w_push rfl ?_
  refine w_crGe rfl (by omega) (by omega) (fun b => False.elim (by omega)) (fun _ => ?_)
  refine w_ldR rfl rfl rfl ?_
  refine w_getL rfl rfl rfl rfl rfl ?_
  refine w_ldI rfl rfl ?_
  refine w_newL (n1 := 32) (q := 3) rfl rfl rfl ?_
  refine w_dupR rfl ?_
  refine w_ldI rfl rfl ?_
  refine w_push rfl ?_
  refine w_ldR rfl rfl rfl ?_
  refine w_kall rfl rfl rfl rfl rfl rfl rfl (n_28L rfl rfl rfl) ?_
  refine w_rstK 2 rfl rfl rfl rfl rfl rfl rfl rfl rfl ?_
  refine w_inc_3_2 rfl rfl ?_
  show WP _ _ _ [_, _, some (.inl 3)] _ _ _
  refine w_go rfl ?_
  refine w_ldI rfl rfl ?_
  refine w_push rfl ?_
  refine w_crGe rfl (by omega) (by omega) (fun b => False.elim (by omega)) (fun _ => ?_)
  refine w_ldR rfl rfl rfl ?_
  refine w_getL rfl rfl rfl rfl rfl ?_
  refine w_ldI rfl rfl ?_
  refine w_newL (n1 := 33) (q := 3) rfl rfl rfl ?_
  refine w_dupR rfl ?_
  refine w_ldI rfl rfl ?_
  refine w_push rfl ?_
  refine w_ldR rfl rfl rfl ?_
  refine w_kall rfl rfl rfl rfl rfl rfl rfl (n_28L rfl rfl rfl) ?_
  refine w_rstK 3 rfl rfl rfl rfl rfl rfl rfl rfl rfl ?_
  refine w_inc_3_2 rfl rfl ?_
  show WP _ _ _ [_, _, some (.inl 4)] _ _ _
  refine w_go rfl ?_
  refine w_ldI rfl rfl ?_
  refine w_push rfl ?_
  refine w_crGe rfl (by omega) (by omega) (fun b => False.elim (by omega)) (fun _ => ?_)
  refine w_ldR rfl rfl rfl ?_
  refine w_getL rfl rfl rfl rfl rfl ?_
  refine w_ldI rfl rfl ?_
  refine w_newL (n1 := 34) (q := 3) rfl rfl rfl ?_
  refine w_dupR rfl ?_
  refine w_ldI rfl rfl ?_
  refine w_push rfl ?_
  refine w_ldR rfl rfl rfl ?_
  refine w_kall rfl rfl rfl rfl rfl rfl rfl (n_28L rfl rfl rfl) ?_
  refine w_rstK 4 rfl rfl rfl rfl rfl rfl rfl rfl rfl ?_
  refine w_inc_3_2 rfl rfl ?_
  show WP _ _ _ [_, _, some (.inl 5)] _ _ _
  refine w_go rfl ?_
  refine w_ldI rfl rfl ?_
  refine w_push rfl ?_
  refine w_crGe rfl (by omega) (by omega) (fun b => False.elim (by omega)) (fun _ => ?_)
  refine w_ldR rfl rfl rfl ?_
  refine w_getL rfl rfl rfl rfl rfl ?_
  refine w_ldI rfl rfl ?_
  refine w_newL (n1 := 35) (q := 3) rfl rfl rfl ?_
  refine w_dupR rfl ?_
  refine w_ldI rfl rfl ?_
  refine w_push rfl ?_
  refine w_ldR rfl rfl rfl ?_
  refine w_kall rfl rfl rfl rfl rfl rfl rfl (n_28L rfl rfl rfl) ?_
  refine w_rstK 5 rfl rfl rfl rfl rfl rfl rfl rfl rfl ?_
  refine w_inc_3_2 rfl rfl ?_
  show WP _ _ _ [_, _, some (.inl 6)] _ _ _
  refine w_go rfl ?_
  refine w_ldI rfl rfl ?_
  refine w_push rfl ?_
  refine w_crGe rfl (by omega) (by omega) (fun _ => ?_) (fun b => False.elim (by omega))
  refine w_push rfl ?_
  refine w_StI_3_2 rfl rfl ?_
  refine w_ldI rfl rfl ?_
  refine w_push rfl ?_
  refine w_crGe rfl (by omega) (by omega) (fun b => False.elim (by omega)) (fun _ => ?_)
  refine w_ldR rfl rfl rfl ?_
  refine w_getL rfl rfl rfl rfl rfl ?_
  refine w_ldI rfl rfl ?_
  refine w_newL (n1 := 36) (q := 8) rfl rfl rfl ?_
  refine w_dupR rfl ?_
  refine w_ldI rfl rfl ?_
  refine w_kall rfl rfl rfl rfl rfl rfl rfl (n_37_35 (X := X) (N := N) rfl) ?_
  refine w_rstK 0 rfl rfl rfl rfl (grow_obj (by decide) rfl) rfl rfl rfl rfl ?_
  refine w_inc_3_2 rfl rfl ?_
  show WP _ _ _ [_, _, some (.inl 1)] _ _ _
  refine w_go rfl ?_
  refine w_ldI rfl rfl ?_
  refine w_push rfl ?_
  refine w_crGe rfl (by omega) (by omega) (fun b => False.elim (by omega)) (fun _ => ?_)
  refine w_ldR rfl rfl rfl ?_
  refine w_getL rfl rfl rfl rfl rfl ?_
  refine w_ldI rfl rfl ?_
  refine w_newL (n1 := 44) (q := 8) rfl rfl rfl ?_
  refine w_dupR rfl ?_
  refine w_ldI rfl rfl ?_
  refine w_kall rfl rfl rfl rfl rfl rfl rfl (n_37_43 (X := X) (N := N) rfl) ?_
  refine w_rstK 1 rfl rfl rfl rfl (grow_obj (by decide) rfl) rfl rfl rfl rfl ?_
  refine w_inc_3_2 rfl rfl ?_
  show WP _ _ _ [_, _, some (.inl 2)] _ _ _
  refine w_go rfl ?_
  refine w_ldI rfl rfl ?_
  refine w_push rfl ?_
  refine w_crGe rfl (by omega) (by omega) (fun _ => ?_) (fun b => False.elim (by omega))
  refine w_retN rfl ⟨rfl, Prod.ext rfl (Prod.ext (by first | rfl | (dsimp only; omega)) ?_)⟩
  funext x
  dsimp only
  by_cases hx : 13 ≤ x ∧ x < 51
  · rw [grow_in hx]
    obtain rfl | rfl | rfl | rfl | rfl | rfl | rfl | rfl | rfl | rfl | rfl | rfl | rfl | rfl | rfl | rfl | rfl | rfl | rfl | rfl | rfl | rfl | rfl | rfl | rfl | rfl | rfl | rfl | rfl | rfl | rfl | rfl | rfl | rfl | rfl | rfl | rfl | rfl := (by omega : x = 13 ∨ x = 14 ∨ x = 15 ∨ x = 16 ∨ x = 17 ∨ x = 18 ∨ x = 19 ∨ x = 20 ∨ x = 21 ∨ x = 22 ∨ x = 23 ∨ x = 24 ∨ x = 25 ∨ x = 26 ∨ x = 27 ∨ x = 28 ∨ x = 29 ∨ x = 30 ∨ x = 31 ∨ x = 32 ∨ x = 33 ∨ x = 34 ∨ x = 35 ∨ x = 36 ∨ x = 37 ∨ x = 38 ∨ x = 39 ∨ x = 40 ∨ x = 41 ∨ x = 42 ∨ x = 43 ∨ x = 44 ∨ x = 45 ∨ x = 46 ∨ x = 47 ∨ x = 48 ∨ x = 49 ∨ x = 50)
    all_goals first | rfl | exact ref_2 | exact ref_4 | exact ref_6 29 29 rfl | exact ref_6 67 67 rfl | exact ref_6 105 105 rfl | exact d_147
  · rw [grow_ne (by omega)]
    simp (disch := omega) only [mup_ne, grow_ne]
theorem n_84_51 {X : Nat → Int} {N : Int} {d sl : Nat} {f : Nat → mEnt} (hg : f 51 = some (.inl (9, [.inr (.inr 0), .inl 0, .inl 0, .inl 0, .inl 0, .inl 0, .inr (.inr 0), .inr (.inr 0), .inr (.inr 0), .inl 0, .inr (.inr 0), .inr (.inr 0), .inr (.inr 0), .inr (.inr 0), .inr (.inr 0), .inr (.inr 0), .inr (.inr 0), .inr (.inr 0)]))) : Call (d + 3) 84 [.inr (.inr 51), .inr (.inr 11)] (52, sl, f) none (89, sl + 630, grow X N f 51 89) := by
  refine QX.mk rfl ?_
  show WP (d + 3) 84 0 [some (.inr (.inr 51)), some (.inr (.inr 11)), none] [] _ _
  refine w_ldR rfl rfl rfl ?_
  refine w_objI rfl rfl rfl ?_
  refine w_ldR rfl rfl rfl ?_
  refine w_push rfl ?_
  refine w_newAL (n1 := 53) 36 rfl rfl rfl rfl ?_
  refine w_putL rfl rfl hg rfl rfl rfl ?_
  refine w_ldR rfl rfl rfl ?_
  refine w_push rfl ?_
  refine w_putL rfl rfl rfl rfl rfl rfl ?_
  refine w_ldR rfl rfl rfl ?_
  refine w_push rfl ?_
  refine w_putL rfl rfl rfl rfl rfl rfl ?_
  refine w_ldR rfl rfl rfl ?_
  refine w_push rfl ?_
  refine w_newRL (n1 := 54) 6 rfl rfl rfl rfl ?_
  refine w_putL rfl rfl rfl rfl rfl rfl ?_
  refine w_ldR rfl rfl rfl ?_
  refine w_push rfl ?_
  refine w_newAL (n1 := 55) 6 rfl rfl rfl rfl ?_
  refine w_putL rfl rfl rfl rfl rfl rfl ?_
  refine w_ldR rfl rfl rfl ?_
  refine w_push rfl ?_
  refine w_newAL (n1 := 56) 6 rfl rfl rfl rfl ?_
  refine w_putL rfl rfl rfl rfl rfl rfl ?_
  refine w_ldR rfl rfl rfl ?_
  refine w_push rfl ?_
  refine w_newAL (n1 := 57) 10 rfl rfl rfl rfl ?_
  refine w_putL rfl rfl rfl rfl rfl rfl ?_
  refine w_ldR rfl rfl rfl ?_
  refine w_push rfl ?_
  refine w_newAL (n1 := 58) 10 rfl rfl rfl rfl ?_
  refine w_putL rfl rfl rfl rfl rfl rfl ?_
  refine w_ldR rfl rfl rfl ?_
  refine w_push rfl ?_
  refine w_newAL (n1 := 59) 10 rfl rfl rfl rfl ?_
  refine w_putL rfl rfl rfl rfl rfl rfl ?_
  refine w_ldR rfl rfl rfl ?_
  refine w_push rfl ?_
  refine w_newAL (n1 := 60) 10 rfl rfl rfl rfl ?_
  refine w_putL rfl rfl rfl rfl rfl rfl ?_
  refine w_ldR rfl rfl rfl ?_
  refine w_newL (n1 := 61) (q := 2) rfl rfl rfl ?_
  refine w_dupR rfl ?_
  refine w_push rfl ?_
  refine w_kall rfl rfl rfl rfl rfl rfl rfl (n_61 (q := 12) (n1 := 62) rfl rfl rfl rfl rfl rfl) ?_
  refine w_putL rfl rfl rfl rfl rfl rfl ?_
  refine w_ldR rfl rfl rfl ?_
  refine w_newL (n1 := 63) (q := 2) rfl rfl rfl ?_
  refine w_dupR rfl ?_
  refine w_push rfl ?_
  refine w_kall rfl rfl rfl rfl rfl rfl rfl (n_61 (q := 50) (n1 := 64) rfl rfl rfl rfl rfl rfl) ?_
  refine w_putL rfl rfl rfl rfl rfl rfl ?_
  refine w_ldR rfl rfl rfl ?_
  refine w_newL (n1 := 65) (q := 2) rfl rfl rfl ?_
  refine w_dupR rfl ?_
  refine w_push rfl ?_
  refine w_kall rfl rfl rfl rfl rfl rfl rfl (n_61 (q := 20) (n1 := 66) rfl rfl rfl rfl rfl rfl) ?_
  refine w_putL rfl rfl rfl rfl rfl rfl ?_
  refine w_ldR rfl rfl rfl ?_
  refine w_push rfl ?_
  refine w_newRL (n1 := 67) 2 rfl rfl rfl rfl ?_
  refine w_putL rfl rfl rfl rfl rfl rfl ?_
  refine w_push rfl ?_
  refine w_StI_3_2 rfl rfl ?_
  refine w_ldI rfl rfl ?_
  refine w_push rfl ?_
  refine w_crGe rfl (by omega) (by omega) (fun b => False.elim (by omega)) (fun _ => ?_)
  refine w_ldR rfl rfl rfl ?_
  refine w_getL rfl rfl rfl rfl rfl ?_
  refine w_ldI rfl rfl ?_
  refine w_newL (n1 := 68) (q := 3) rfl rfl rfl ?_
  refine w_dupR rfl ?_
  refine w_ldI rfl rfl ?_
  refine w_push rfl ?_
  refine w_ldR rfl rfl rfl ?_
  refine w_kall rfl rfl rfl rfl rfl rfl rfl (n_28L rfl rfl rfl) ?_
  refine w_rstK 0 rfl rfl rfl rfl rfl rfl rfl rfl rfl ?_
  refine w_inc_3_2 rfl rfl ?_
  show WP _ _ _ [_, _, some (.inl 1)] _ _ _
  refine w_go rfl ?_
  refine w_ldI rfl rfl ?_
  refine w_push rfl ?_
  refine w_crGe rfl (by omega) (by omega) (fun b => False.elim (by omega)) (fun _ => ?_)
  refine w_ldR rfl rfl rfl ?_
  refine w_getL rfl rfl rfl rfl rfl ?_
  refine w_ldI rfl rfl ?_
  refine w_newL (n1 := 69) (q := 3) rfl rfl rfl ?_
  refine w_dupR rfl ?_
  refine w_ldI rfl rfl ?_
  refine w_push rfl ?_
  refine w_ldR rfl rfl rfl ?_
  refine w_kall rfl rfl rfl rfl rfl rfl rfl (n_28L rfl rfl rfl) ?_
  refine w_rstK 1 rfl rfl rfl rfl rfl rfl rfl rfl rfl ?_
  refine w_inc_3_2 rfl rfl ?_
  show WP _ _ _ [_, _, some (.inl 2)] _ _ _
  refine w_go rfl ?_
  refine w_ldI rfl rfl ?_
  refine w_push rfl ?_
  refine w_crGe rfl (by omega) (by omega) (fun b => False.elim (by omega)) (fun _ => ?_)
  refine w_ldR rfl rfl rfl ?_
  refine w_getL rfl rfl rfl rfl rfl ?_
  refine w_ldI rfl rfl ?_
  refine w_newL (n1 := 70) (q := 3) rfl rfl rfl ?_
  refine w_dupR rfl ?_
  refine w_ldI rfl rfl ?_
  refine w_push rfl ?_
  refine w_ldR rfl rfl rfl ?_
  refine w_kall rfl rfl rfl rfl rfl rfl rfl (n_28L rfl rfl rfl) ?_
  refine w_rstK 2 rfl rfl rfl rfl rfl rfl rfl rfl rfl ?_
  refine w_inc_3_2 rfl rfl ?_
  show WP _ _ _ [_, _, some (.inl 3)] _ _ _
  refine w_go rfl ?_
  refine w_ldI rfl rfl ?_
  refine w_push rfl ?_
  refine w_crGe rfl (by omega) (by omega) (fun b => False.elim (by omega)) (fun _ => ?_)
  refine w_ldR rfl rfl rfl ?_
  refine w_getL rfl rfl rfl rfl rfl ?_
  refine w_ldI rfl rfl ?_
  refine w_newL (n1 := 71) (q := 3) rfl rfl rfl ?_
  refine w_dupR rfl ?_
  refine w_ldI rfl rfl ?_
  refine w_push rfl ?_
  refine w_ldR rfl rfl rfl ?_
  refine w_kall rfl rfl rfl rfl rfl rfl rfl (n_28L rfl rfl rfl) ?_
  refine w_rstK 3 rfl rfl rfl rfl rfl rfl rfl rfl rfl ?_
  refine w_inc_3_2 rfl rfl ?_
  show WP _ _ _ [_, _, some (.inl 4)] _ _ _
  refine w_go rfl ?_
  refine w_ldI rfl rfl ?_
  refine w_push rfl ?_
  refine w_crGe rfl (by omega) (by omega) (fun b => False.elim (by omega)) (fun _ => ?_)
  refine w_ldR rfl rfl rfl ?_
  refine w_getL rfl rfl rfl rfl rfl ?_
  refine w_ldI rfl rfl ?_
  refine w_newL (n1 := 72) (q := 3) rfl rfl rfl ?_
  refine w_dupR rfl ?_
  refine w_ldI rfl rfl ?_
  refine w_push rfl ?_
  refine w_ldR rfl rfl rfl ?_
  refine w_kall rfl rfl rfl rfl rfl rfl rfl (n_28L rfl rfl rfl) ?_
  refine w_rstK 4 rfl rfl rfl rfl rfl rfl rfl rfl rfl ?_
  refine w_inc_3_2 rfl rfl ?_
  show WP _ _ _ [_, _, some (.inl 5)] _ _ _
  refine w_go rfl ?_
  refine w_ldI rfl rfl ?_
  refine w_push rfl ?_
  refine w_crGe rfl (by omega) (by omega) (fun b => False.elim (by omega)) (fun _ => ?_)
  refine w_ldR rfl rfl rfl ?_
  refine w_getL rfl rfl rfl rfl rfl ?_
  refine w_ldI rfl rfl ?_
  refine w_newL (n1 := 73) (q := 3) rfl rfl rfl ?_
  refine w_dupR rfl ?_
  refine w_ldI rfl rfl ?_
  refine w_push rfl ?_
  refine w_ldR rfl rfl rfl ?_
  refine w_kall rfl rfl rfl rfl rfl rfl rfl (n_28L rfl rfl rfl) ?_
  refine w_rstK 5 rfl rfl rfl rfl rfl rfl rfl rfl rfl ?_
  refine w_inc_3_2 rfl rfl ?_
  show WP _ _ _ [_, _, some (.inl 6)] _ _ _
  refine w_go rfl ?_
  refine w_ldI rfl rfl ?_
  refine w_push rfl ?_
  refine w_crGe rfl (by omega) (by omega) (fun _ => ?_) (fun b => False.elim (by omega))
  refine w_push rfl ?_
  refine w_StI_3_2 rfl rfl ?_
  refine w_ldI rfl rfl ?_
  refine w_push rfl ?_
  refine w_crGe rfl (by omega) (by omega) (fun b => False.elim (by omega)) (fun _ => ?_)
  refine w_ldR rfl rfl rfl ?_
  refine w_getL rfl rfl rfl rfl rfl ?_
  refine w_ldI rfl rfl ?_
  refine w_newL (n1 := 74) (q := 8) rfl rfl rfl ?_
  refine w_dupR rfl ?_
  refine w_ldI rfl rfl ?_
  refine w_kall rfl rfl rfl rfl rfl rfl rfl (n_37_73 (X := X) (N := N) rfl) ?_
  refine w_rstK 0 rfl rfl rfl rfl (grow_obj (by decide) rfl) rfl rfl rfl rfl ?_
  refine w_inc_3_2 rfl rfl ?_
  show WP _ _ _ [_, _, some (.inl 1)] _ _ _
  refine w_go rfl ?_
  refine w_ldI rfl rfl ?_
  refine w_push rfl ?_
  refine w_crGe rfl (by omega) (by omega) (fun b => False.elim (by omega)) (fun _ => ?_)
  refine w_ldR rfl rfl rfl ?_
  refine w_getL rfl rfl rfl rfl rfl ?_
  refine w_ldI rfl rfl ?_
  refine w_newL (n1 := 82) (q := 8) rfl rfl rfl ?_
  refine w_dupR rfl ?_
  refine w_ldI rfl rfl ?_
  refine w_kall rfl rfl rfl rfl rfl rfl rfl (n_37_81 (X := X) (N := N) rfl) ?_
  refine w_rstK 1 rfl rfl rfl rfl (grow_obj (by decide) rfl) rfl rfl rfl rfl ?_
  refine w_inc_3_2 rfl rfl ?_
  show WP _ _ _ [_, _, some (.inl 2)] _ _ _
  refine w_go rfl ?_
  refine w_ldI rfl rfl ?_
  refine w_push rfl ?_
  refine w_crGe rfl (by omega) (by omega) (fun _ => ?_) (fun b => False.elim (by omega))
  refine w_retN rfl ⟨rfl, Prod.ext rfl (Prod.ext (by first | rfl | (dsimp only; omega)) ?_)⟩
  funext x
  dsimp only
  by_cases hx : 51 ≤ x ∧ x < 89
  · rw [grow_in hx]
    obtain rfl | rfl | rfl | rfl | rfl | rfl | rfl | rfl | rfl | rfl | rfl | rfl | rfl | rfl | rfl | rfl | rfl | rfl | rfl | rfl | rfl | rfl | rfl | rfl | rfl | rfl | rfl | rfl | rfl | rfl | rfl | rfl | rfl | rfl | rfl | rfl | rfl | rfl := (by omega : x = 51 ∨ x = 52 ∨ x = 53 ∨ x = 54 ∨ x = 55 ∨ x = 56 ∨ x = 57 ∨ x = 58 ∨ x = 59 ∨ x = 60 ∨ x = 61 ∨ x = 62 ∨ x = 63 ∨ x = 64 ∨ x = 65 ∨ x = 66 ∨ x = 67 ∨ x = 68 ∨ x = 69 ∨ x = 70 ∨ x = 71 ∨ x = 72 ∨ x = 73 ∨ x = 74 ∨ x = 75 ∨ x = 76 ∨ x = 77 ∨ x = 78 ∨ x = 79 ∨ x = 80 ∨ x = 81 ∨ x = 82 ∨ x = 83 ∨ x = 84 ∨ x = 85 ∨ x = 86 ∨ x = 87 ∨ x = 88)
    all_goals first | rfl | exact ref_2 | exact ref_4 | exact ref_6 29 29 rfl | exact ref_6 67 67 rfl | exact ref_6 105 105 rfl | exact d_147
  · rw [grow_ne (by omega)]
    simp (disch := omega) only [mup_ne, grow_ne]
theorem n_84_89 {X : Nat → Int} {N : Int} {d sl : Nat} {f : Nat → mEnt} (hg : f 89 = some (.inl (9, [.inr (.inr 0), .inl 0, .inl 0, .inl 0, .inl 0, .inl 0, .inr (.inr 0), .inr (.inr 0), .inr (.inr 0), .inl 0, .inr (.inr 0), .inr (.inr 0), .inr (.inr 0), .inr (.inr 0), .inr (.inr 0), .inr (.inr 0), .inr (.inr 0), .inr (.inr 0)]))) : Call (d + 3) 84 [.inr (.inr 89), .inr (.inr 11)] (90, sl, f) none (127, sl + 630, grow X N f 89 127) := by
  refine QX.mk rfl ?_
  show WP (d + 3) 84 0 [some (.inr (.inr 89)), some (.inr (.inr 11)), none] [] _ _
  refine w_ldR rfl rfl rfl ?_
  refine w_objI rfl rfl rfl ?_
  refine w_ldR rfl rfl rfl ?_
  refine w_push rfl ?_
  refine w_newAL (n1 := 91) 36 rfl rfl rfl rfl ?_
  refine w_putL rfl rfl hg rfl rfl rfl ?_
  refine w_ldR rfl rfl rfl ?_
  refine w_push rfl ?_
  refine w_putL rfl rfl rfl rfl rfl rfl ?_
  refine w_ldR rfl rfl rfl ?_
  refine w_push rfl ?_
  refine w_putL rfl rfl rfl rfl rfl rfl ?_
  refine w_ldR rfl rfl rfl ?_
  refine w_push rfl ?_
  refine w_newRL (n1 := 92) 6 rfl rfl rfl rfl ?_
  refine w_putL rfl rfl rfl rfl rfl rfl ?_
  refine w_ldR rfl rfl rfl ?_
  refine w_push rfl ?_
  refine w_newAL (n1 := 93) 6 rfl rfl rfl rfl ?_
  refine w_putL rfl rfl rfl rfl rfl rfl ?_
  refine w_ldR rfl rfl rfl ?_
  refine w_push rfl ?_
  refine w_newAL (n1 := 94) 6 rfl rfl rfl rfl ?_
  refine w_putL rfl rfl rfl rfl rfl rfl ?_
  refine w_ldR rfl rfl rfl ?_
  refine w_push rfl ?_
  refine w_newAL (n1 := 95) 10 rfl rfl rfl rfl ?_
  refine w_putL rfl rfl rfl rfl rfl rfl ?_
  refine w_ldR rfl rfl rfl ?_
  refine w_push rfl ?_
  refine w_newAL (n1 := 96) 10 rfl rfl rfl rfl ?_
  refine w_putL rfl rfl rfl rfl rfl rfl ?_
  refine w_ldR rfl rfl rfl ?_
  refine w_push rfl ?_
  refine w_newAL (n1 := 97) 10 rfl rfl rfl rfl ?_
  refine w_putL rfl rfl rfl rfl rfl rfl ?_
  refine w_ldR rfl rfl rfl ?_
  refine w_push rfl ?_
  refine w_newAL (n1 := 98) 10 rfl rfl rfl rfl ?_
  refine w_putL rfl rfl rfl rfl rfl rfl ?_
  refine w_ldR rfl rfl rfl ?_
  refine w_newL (n1 := 99) (q := 2) rfl rfl rfl ?_
  refine w_dupR rfl ?_
  refine w_push rfl ?_
  refine w_kall rfl rfl rfl rfl rfl rfl rfl (n_61 (q := 12) (n1 := 100) rfl rfl rfl rfl rfl rfl) ?_
  refine w_putL rfl rfl rfl rfl rfl rfl ?_
  refine w_ldR rfl rfl rfl ?_
  refine w_newL (n1 := 101) (q := 2) rfl rfl rfl ?_
  refine w_dupR rfl ?_
  refine w_push rfl ?_
  refine w_kall rfl rfl rfl rfl rfl rfl rfl (n_61 (q := 50) (n1 := 102) rfl rfl rfl rfl rfl rfl) ?_
  refine w_putL rfl rfl rfl rfl rfl rfl ?_
  refine w_ldR rfl rfl rfl ?_
  refine w_newL (n1 := 103) (q := 2) rfl rfl rfl ?_
  refine w_dupR rfl ?_
  refine w_push rfl ?_
  refine w_kall rfl rfl rfl rfl rfl rfl rfl (n_61 (q := 20) (n1 := 104) rfl rfl rfl rfl rfl rfl) ?_
  refine w_putL rfl rfl rfl rfl rfl rfl ?_
  refine w_ldR rfl rfl rfl ?_
  refine w_push rfl ?_
  refine w_newRL (n1 := 105) 2 rfl rfl rfl rfl ?_
  refine w_putL rfl rfl rfl rfl rfl rfl ?_
  refine w_push rfl ?_
  refine w_StI_3_2 rfl rfl ?_
  refine w_ldI rfl rfl ?_
  refine w_push rfl ?_
  refine w_crGe rfl (by omega) (by omega) (fun b => False.elim (by omega)) (fun _ => ?_)
  refine w_ldR rfl rfl rfl ?_
  refine w_getL rfl rfl rfl rfl rfl ?_
  refine w_ldI rfl rfl ?_
  refine w_newL (n1 := 106) (q := 3) rfl rfl rfl ?_
  refine w_dupR rfl ?_
  refine w_ldI rfl rfl ?_
  refine w_push rfl ?_
  refine w_ldR rfl rfl rfl ?_
  refine w_kall rfl rfl rfl rfl rfl rfl rfl (n_28L rfl rfl rfl) ?_
  refine w_rstK 0 rfl rfl rfl rfl rfl rfl rfl rfl rfl ?_
  refine w_inc_3_2 rfl rfl ?_
  show WP _ _ _ [_, _, some (.inl 1)] _ _ _
  refine w_go rfl ?_
  refine w_ldI rfl rfl ?_
  refine w_push rfl ?_
  refine w_crGe rfl (by omega) (by omega) (fun b => False.elim (by omega)) (fun _ => ?_)
  refine w_ldR rfl rfl rfl ?_
  refine w_getL rfl rfl rfl rfl rfl ?_
  refine w_ldI rfl rfl ?_
  refine w_newL (n1 := 107) (q := 3) rfl rfl rfl ?_
  refine w_dupR rfl ?_
  refine w_ldI rfl rfl ?_
  refine w_push rfl ?_
  refine w_ldR rfl rfl rfl ?_
  refine w_kall rfl rfl rfl rfl rfl rfl rfl (n_28L rfl rfl rfl) ?_
  refine w_rstK 1 rfl rfl rfl rfl rfl rfl rfl rfl rfl ?_
  refine w_inc_3_2 rfl rfl ?_
  show WP _ _ _ [_, _, some (.inl 2)] _ _ _
  refine w_go rfl ?_
  refine w_ldI rfl rfl ?_
  refine w_push rfl ?_
  refine w_crGe rfl (by omega) (by omega) (fun b => False.elim (by omega)) (fun _ => ?_)
  refine w_ldR rfl rfl rfl ?_
  refine w_getL rfl rfl rfl rfl rfl ?_
  refine w_ldI rfl rfl ?_
  refine w_newL (n1 := 108) (q := 3) rfl rfl rfl ?_
  refine w_dupR rfl ?_
  refine w_ldI rfl rfl ?_
  refine w_push rfl ?_
  refine w_ldR rfl rfl rfl ?_
  refine w_kall rfl rfl rfl rfl rfl rfl rfl (n_28L rfl rfl rfl) ?_
  refine w_rstK 2 rfl rfl rfl rfl rfl rfl rfl rfl rfl ?_
  refine w_inc_3_2 rfl rfl ?_
  show WP _ _ _ [_, _, some (.inl 3)] _ _ _
  refine w_go rfl ?_
  refine w_ldI rfl rfl ?_
  refine w_push rfl ?_
  refine w_crGe rfl (by omega) (by omega) (fun b => False.elim (by omega)) (fun _ => ?_)
  refine w_ldR rfl rfl rfl ?_
  refine w_getL rfl rfl rfl rfl rfl ?_
  refine w_ldI rfl rfl ?_
  refine w_newL (n1 := 109) (q := 3) rfl rfl rfl ?_
  refine w_dupR rfl ?_
  refine w_ldI rfl rfl ?_
  refine w_push rfl ?_
  refine w_ldR rfl rfl rfl ?_
  refine w_kall rfl rfl rfl rfl rfl rfl rfl (n_28L rfl rfl rfl) ?_
  refine w_rstK 3 rfl rfl rfl rfl rfl rfl rfl rfl rfl ?_
  refine w_inc_3_2 rfl rfl ?_
  show WP _ _ _ [_, _, some (.inl 4)] _ _ _
  refine w_go rfl ?_
  refine w_ldI rfl rfl ?_
  refine w_push rfl ?_
  refine w_crGe rfl (by omega) (by omega) (fun b => False.elim (by omega)) (fun _ => ?_)
  refine w_ldR rfl rfl rfl ?_
  refine w_getL rfl rfl rfl rfl rfl ?_
  refine w_ldI rfl rfl ?_
  refine w_newL (n1 := 110) (q := 3) rfl rfl rfl ?_
  refine w_dupR rfl ?_
  refine w_ldI rfl rfl ?_
  refine w_push rfl ?_
  refine w_ldR rfl rfl rfl ?_
  refine w_kall rfl rfl rfl rfl rfl rfl rfl (n_28L rfl rfl rfl) ?_
  refine w_rstK 4 rfl rfl rfl rfl rfl rfl rfl rfl rfl ?_
  refine w_inc_3_2 rfl rfl ?_
  show WP _ _ _ [_, _, some (.inl 5)] _ _ _
  refine w_go rfl ?_
  refine w_ldI rfl rfl ?_
  refine w_push rfl ?_
  refine w_crGe rfl (by omega) (by omega) (fun b => False.elim (by omega)) (fun _ => ?_)
  refine w_ldR rfl rfl rfl ?_
  refine w_getL rfl rfl rfl rfl rfl ?_
  refine w_ldI rfl rfl ?_
  refine w_newL (n1 := 111) (q := 3) rfl rfl rfl ?_
  refine w_dupR rfl ?_
  refine w_ldI rfl rfl ?_
  refine w_push rfl ?_
  refine w_ldR rfl rfl rfl ?_
  refine w_kall rfl rfl rfl rfl rfl rfl rfl (n_28L rfl rfl rfl) ?_
  refine w_rstK 5 rfl rfl rfl rfl rfl rfl rfl rfl rfl ?_
  refine w_inc_3_2 rfl rfl ?_
  show WP _ _ _ [_, _, some (.inl 6)] _ _ _
  refine w_go rfl ?_
  refine w_ldI rfl rfl ?_
  refine w_push rfl ?_
  refine w_crGe rfl (by omega) (by omega) (fun _ => ?_) (fun b => False.elim (by omega))
  refine w_push rfl ?_
  refine w_StI_3_2 rfl rfl ?_
  refine w_ldI rfl rfl ?_
  refine w_push rfl ?_
  refine w_crGe rfl (by omega) (by omega) (fun b => False.elim (by omega)) (fun _ => ?_)
  refine w_ldR rfl rfl rfl ?_
  refine w_getL rfl rfl rfl rfl rfl ?_
  refine w_ldI rfl rfl ?_
  refine w_newL (n1 := 112) (q := 8) rfl rfl rfl ?_
  refine w_dupR rfl ?_
  refine w_ldI rfl rfl ?_
  refine w_kall rfl rfl rfl rfl rfl rfl rfl (n_37_111 (X := X) (N := N) rfl) ?_
  refine w_rstK 0 rfl rfl rfl rfl (grow_obj (by decide) rfl) rfl rfl rfl rfl ?_
  refine w_inc_3_2 rfl rfl ?_
  show WP _ _ _ [_, _, some (.inl 1)] _ _ _
  refine w_go rfl ?_
  refine w_ldI rfl rfl ?_
  refine w_push rfl ?_
  refine w_crGe rfl (by omega) (by omega) (fun b => False.elim (by omega)) (fun _ => ?_)
  refine w_ldR rfl rfl rfl ?_
  refine w_getL rfl rfl rfl rfl rfl ?_
  refine w_ldI rfl rfl ?_
  refine w_newL (n1 := 120) (q := 8) rfl rfl rfl ?_
  refine w_dupR rfl ?_
  refine w_ldI rfl rfl ?_
  refine w_kall rfl rfl rfl rfl rfl rfl rfl (n_37_119 (X := X) (N := N) rfl) ?_
  refine w_rstK 1 rfl rfl rfl rfl (grow_obj (by decide) rfl) rfl rfl rfl rfl ?_
  refine w_inc_3_2 rfl rfl ?_
  show WP _ _ _ [_, _, some (.inl 2)] _ _ _
  refine w_go rfl ?_
  refine w_ldI rfl rfl ?_
  refine w_push rfl ?_
  refine w_crGe rfl (by omega) (by omega) (fun _ => ?_) (fun b => False.elim (by omega))
  refine w_retN rfl ⟨rfl, Prod.ext rfl (Prod.ext (by first | rfl | (dsimp only; omega)) ?_)⟩
  funext x
  dsimp only
  by_cases hx : 89 ≤ x ∧ x < 127
  · rw [grow_in hx]
    obtain rfl | rfl | rfl | rfl | rfl | rfl | rfl | rfl | rfl | rfl | rfl | rfl | rfl | rfl | rfl | rfl | rfl | rfl | rfl | rfl | rfl | rfl | rfl | rfl | rfl | rfl | rfl | rfl | rfl | rfl | rfl | rfl | rfl | rfl | rfl | rfl | rfl | rfl := (by omega : x = 89 ∨ x = 90 ∨ x = 91 ∨ x = 92 ∨ x = 93 ∨ x = 94 ∨ x = 95 ∨ x = 96 ∨ x = 97 ∨ x = 98 ∨ x = 99 ∨ x = 100 ∨ x = 101 ∨ x = 102 ∨ x = 103 ∨ x = 104 ∨ x = 105 ∨ x = 106 ∨ x = 107 ∨ x = 108 ∨ x = 109 ∨ x = 110 ∨ x = 111 ∨ x = 112 ∨ x = 113 ∨ x = 114 ∨ x = 115 ∨ x = 116 ∨ x = 117 ∨ x = 118 ∨ x = 119 ∨ x = 120 ∨ x = 121 ∨ x = 122 ∨ x = 123 ∨ x = 124 ∨ x = 125 ∨ x = 126)
    all_goals first | rfl | exact ref_2 | exact ref_4 | exact ref_6 29 29 rfl | exact ref_6 67 67 rfl | exact ref_6 105 105 rfl | exact d_147
  · rw [grow_ne (by omega)]
    simp (disch := omega) only [mup_ne, grow_ne]
theorem n_53 {X : Nat → Int} {N : Int} {d sl : Nat} {f : Nat → mEnt} (hg : f 127 = some (.inl (5, [.inr (.inr 0), .inr (.inr 0)]))) : Call (d + 1) 53 [.inr (.inr 127)] (128, sl, f) none (130, sl + 77, grow X N f 127 130) := by
  refine QX.mk rfl ?_
  show WP (d + 1) 53 0 [some (.inr (.inr 127))] [] _ _
  refine w_ldR rfl rfl rfl ?_
  refine w_objI rfl rfl rfl ?_
  refine w_ldR rfl rfl rfl ?_
  refine w_push rfl ?_
  refine w_newAL (n1 := 129) 41 rfl rfl rfl rfl ?_
  refine w_putL rfl rfl hg rfl rfl rfl ?_
  refine w_ldR rfl rfl rfl ?_
  refine w_push rfl ?_
  refine w_newAL (n1 := 130) 36 rfl rfl rfl rfl ?_
  refine w_putL rfl rfl rfl rfl rfl rfl ?_
  refine w_retN rfl ⟨rfl, Prod.ext rfl (Prod.ext (by first | rfl | (dsimp only; omega)) ?_)⟩
  funext x
  dsimp only
  by_cases hx : 127 ≤ x ∧ x < 130
  · rw [grow_in hx]
    obtain rfl | rfl | rfl := (by omega : x = 127 ∨ x = 128 ∨ x = 129)
    all_goals first | rfl | exact ref_2 | exact ref_4 | exact ref_6 29 29 rfl | exact ref_6 67 67 rfl | exact ref_6 105 105 rfl | exact d_147
  · rw [grow_ne (by omega)]
    simp (disch := omega) only [mup_ne, grow_ne]
