/-! ===== the class: rows, lamps, what a law gives ===== -/
theorem CI.ex {d mt : Nat} {as : List mAV} {s : mSt} {x : Int} (h : CI d mt as s (fun v s1 => v = x ∧ s1 = s)) : Call d mt as (encA s) (some (.inl x)) (encA s) := by
  obtain ⟨v, s1, c, rfl, rfl⟩ := h
  exact c
theorem w32_w32 (x : Int) : w32 (w32 x) = w32 x := w32_id (w32_rng x).1 (w32_rng x).2
def rowAt (s : mSt) (r : Nat) (i : Int) : Int := if 0 ≤ i ∧ i < s r 1 then s (r + 1) i.toNat else 0
def tk (t : Int) : Int := if t < 10000 then t else if t < 20000 then 9999 - t else t - 10000
/-- the classes of the lamps -/
def kc (k : Int) : Nat := if k = 1 then 10 else if k = 2 then 1 else if k = 3 then 8 else if k = 4 then 0 else if k = 5 then 7 else if k = 6 then 2 else 3
def LampA (s : mSt) (a : Nat) (k n m : Int) : Prop := Nat.ble 10 a = true ∧ enc s a = some (.inl (kc k, [.inl n, .inl m, .inr (.inr 11)]))
def lampAdr (a : Nat) : Bool := (29 ≤ a && a ≤ 34) || (67 ≤ a && a ≤ 72) || (105 ≤ a && a ≤ 110) || 164 ≤ a
def LampAt (s : mSt) (r k n m : Int) : Prop := ∃ a : Nat, r = (a : Int) ∧ lampAdr a = true ∧ LampA s a k n m
theorem ble_1 {a : Nat} (h : Nat.ble 10 a = true) : Nat.ble 1 a = true := by
  have := Nat.le_of_ble_eq_true h
  exact Nat.ble_eq_true_of_le (by omega)
theorem k_at36 {d : Nat} {s : mSt} {i : Int} (hi : -2147483648 ≤ i ∧ i < 2147483648) (hs : 0 ≤ s 36 1 ∧ s 36 1 ≤ 50) : Call (d + 0) 64 [.inr (.inr 36), .inl i] (encA (s)) (some (.inl (rowAt s 36 i))) (encA (s)) := by
  refine CI.ex (CI.mk rfl ?_)
  show WP (d + 0) 64 0 [some (.inr (.inr 36)), some (.inl i)] [] (encA (s)) _
  refine w_ldI rfl rfl ?_
  refine w_irLt0 rfl (by omega) (fun b1 => ?_) (fun b1 => ?_)
  · first
    | (exfalso; omega)
    | (refine w_push rfl ?_
       refine w_retI rfl ?_
       refine ⟨?_, rfl⟩
       unfold rowAt
       first | rw [if_pos (by omega)] | rw [if_neg (by omega)])
  · first
    | (exfalso; omega)
    | (refine w_ldI rfl rfl ?_
       refine w_ldR rfl rfl rfl ?_
       first | refine w_getI rfl rfl rfl rfl rfl ?_ | refine w_getR rfl rfl rfl rfl rfl ?_
       refine w_crGe rfl (by omega) (by omega) (fun b5 => ?_) (fun b5 => ?_)
       · first
         | (exfalso; omega)
         | (refine w_push rfl ?_
            refine w_retI rfl ?_
            refine ⟨?_, rfl⟩
            unfold rowAt
            first | rw [if_pos (by omega)] | rw [if_neg (by omega)])
       · first
         | (exfalso; omega)
         | (refine w_ldR rfl rfl rfl ?_
            first | refine w_getI rfl rfl rfl rfl rfl ?_ | refine w_getR rfl rfl rfl rfl rfl ?_
            refine w_ldI rfl rfl ?_
            refine w_ald rfl rfl rfl (by omega) rfl ?_
            refine w_go rfl ?_
            refine w_retI rfl ?_
            refine ⟨?_, rfl⟩
            unfold rowAt
            first | rw [if_pos (by omega)] | rw [if_neg (by omega)]))
theorem k_at44 {d : Nat} {s : mSt} {i : Int} (hi : -2147483648 ≤ i ∧ i < 2147483648) (hs : 0 ≤ s 44 1 ∧ s 44 1 ≤ 50) : Call (d + 0) 64 [.inr (.inr 44), .inl i] (encA (s)) (some (.inl (rowAt s 44 i))) (encA (s)) := by
  refine CI.ex (CI.mk rfl ?_)
  show WP (d + 0) 64 0 [some (.inr (.inr 44)), some (.inl i)] [] (encA (s)) _
  refine w_ldI rfl rfl ?_
  refine w_irLt0 rfl (by omega) (fun b1 => ?_) (fun b1 => ?_)
  · first
    | (exfalso; omega)
    | (refine w_push rfl ?_
       refine w_retI rfl ?_
       refine ⟨?_, rfl⟩
       unfold rowAt
       first | rw [if_pos (by omega)] | rw [if_neg (by omega)])
  · first
    | (exfalso; omega)
    | (refine w_ldI rfl rfl ?_
       refine w_ldR rfl rfl rfl ?_
       first | refine w_getI rfl rfl rfl rfl rfl ?_ | refine w_getR rfl rfl rfl rfl rfl ?_
       refine w_crGe rfl (by omega) (by omega) (fun b5 => ?_) (fun b5 => ?_)
       · first
         | (exfalso; omega)
         | (refine w_push rfl ?_
            refine w_retI rfl ?_
            refine ⟨?_, rfl⟩
            unfold rowAt
            first | rw [if_pos (by omega)] | rw [if_neg (by omega)])
       · first
         | (exfalso; omega)
         | (refine w_ldR rfl rfl rfl ?_
            first | refine w_getI rfl rfl rfl rfl rfl ?_ | refine w_getR rfl rfl rfl rfl rfl ?_
            refine w_ldI rfl rfl ?_
            refine w_ald rfl rfl rfl (by omega) rfl ?_
            refine w_go rfl ?_
            refine w_retI rfl ?_
            refine ⟨?_, rfl⟩
            unfold rowAt
            first | rw [if_pos (by omega)] | rw [if_neg (by omega)]))
theorem k_at112 {d : Nat} {s : mSt} {i : Int} (hi : -2147483648 ≤ i ∧ i < 2147483648) (hs : 0 ≤ s 112 1 ∧ s 112 1 ≤ 50) : Call (d + 0) 64 [.inr (.inr 112), .inl i] (encA (s)) (some (.inl (rowAt s 112 i))) (encA (s)) := by
  refine CI.ex (CI.mk rfl ?_)
  show WP (d + 0) 64 0 [some (.inr (.inr 112)), some (.inl i)] [] (encA (s)) _
  refine w_ldI rfl rfl ?_
  refine w_irLt0 rfl (by omega) (fun b1 => ?_) (fun b1 => ?_)
  · first
    | (exfalso; omega)
    | (refine w_push rfl ?_
       refine w_retI rfl ?_
       refine ⟨?_, rfl⟩
       unfold rowAt
       first | rw [if_pos (by omega)] | rw [if_neg (by omega)])
  · first
    | (exfalso; omega)
    | (refine w_ldI rfl rfl ?_
       refine w_ldR rfl rfl rfl ?_
       first | refine w_getI rfl rfl rfl rfl rfl ?_ | refine w_getR rfl rfl rfl rfl rfl ?_
       refine w_crGe rfl (by omega) (by omega) (fun b5 => ?_) (fun b5 => ?_)
       · first
         | (exfalso; omega)
         | (refine w_push rfl ?_
            refine w_retI rfl ?_
            refine ⟨?_, rfl⟩
            unfold rowAt
            first | rw [if_pos (by omega)] | rw [if_neg (by omega)])
       · first
         | (exfalso; omega)
         | (refine w_ldR rfl rfl rfl ?_
            first | refine w_getI rfl rfl rfl rfl rfl ?_ | refine w_getR rfl rfl rfl rfl rfl ?_
            refine w_ldI rfl rfl ?_
            refine w_ald rfl rfl rfl (by omega) rfl ?_
            refine w_go rfl ?_
            refine w_retI rfl ?_
            refine ⟨?_, rfl⟩
            unfold rowAt
            first | rw [if_pos (by omega)] | rw [if_neg (by omega)]))
theorem k_at120 {d : Nat} {s : mSt} {i : Int} (hi : -2147483648 ≤ i ∧ i < 2147483648) (hs : 0 ≤ s 120 1 ∧ s 120 1 ≤ 50) : Call (d + 0) 64 [.inr (.inr 120), .inl i] (encA (s)) (some (.inl (rowAt s 120 i))) (encA (s)) := by
  refine CI.ex (CI.mk rfl ?_)
  show WP (d + 0) 64 0 [some (.inr (.inr 120)), some (.inl i)] [] (encA (s)) _
  refine w_ldI rfl rfl ?_
  refine w_irLt0 rfl (by omega) (fun b1 => ?_) (fun b1 => ?_)
  · first
    | (exfalso; omega)
    | (refine w_push rfl ?_
       refine w_retI rfl ?_
       refine ⟨?_, rfl⟩
       unfold rowAt
       first | rw [if_pos (by omega)] | rw [if_neg (by omega)])
  · first
    | (exfalso; omega)
    | (refine w_ldI rfl rfl ?_
       refine w_ldR rfl rfl rfl ?_
       first | refine w_getI rfl rfl rfl rfl rfl ?_ | refine w_getR rfl rfl rfl rfl rfl ?_
       refine w_crGe rfl (by omega) (by omega) (fun b5 => ?_) (fun b5 => ?_)
       · first
         | (exfalso; omega)
         | (refine w_push rfl ?_
            refine w_retI rfl ?_
            refine ⟨?_, rfl⟩
            unfold rowAt
            first | rw [if_pos (by omega)] | rw [if_neg (by omega)])
       · first
         | (exfalso; omega)
         | (refine w_ldR rfl rfl rfl ?_
            first | refine w_getI rfl rfl rfl rfl rfl ?_ | refine w_getR rfl rfl rfl rfl rfl ?_
            refine w_ldI rfl rfl ?_
            refine w_ald rfl rfl rfl (by omega) rfl ?_
            refine w_go rfl ?_
            refine w_retI rfl ?_
            refine ⟨?_, rfl⟩
            unfold rowAt
            first | rw [if_pos (by omega)] | rw [if_neg (by omega)]))
theorem k_glows0_0 {d : Nat} {s : mSt} {a : Nat} {n m : Int} (ha : Nat.ble 10 a = true) (hg : enc s a = some (.inl (3, [.inl n, .inl m, .inr (.inr 11)]))) (hm : 0 ≤ m ∧ m ≤ 9) {nt : Int} (hnt : 0 ≤ nt ∧ nt ≤ 30000) : Call (d + 0) 31 [.inr (.inr a), .inl nt] (encA (s)) (some (.inl (9 + m))) (encA (s)) := by
  refine CI.ex (CI.mk rfl ?_)
  show WP (d + 0) 31 0 [some (.inr (.inr a)), some (.inl nt)] [] (encA (s)) _
  refine w_push rfl ?_
  refine w_ldR rfl rfl (ble_1 ha) ?_
  refine w_get0 rfl ha hg rfl rfl ?_
  refine w_add rfl ?_
  refine w_retI rfl ?_
  refine ⟨?_, rfl⟩
  (try rw [m_rem_pos (by omega) (by omega)] at *)
  first
  | rfl
  | rw [m_div_pos (by omega) (by omega)]
  | rw [if_pos (by omega)]
  | rw [if_neg (by omega)]
theorem k_dims0_0 {d : Nat} {s : mSt} {a : Nat} {n m : Int} (ha : Nat.ble 10 a = true) (hg : enc s a = some (.inl (3, [.inl n, .inl m, .inr (.inr 11)])))  : Call (d + 0) 32 [.inr (.inr a)] (encA (s)) (some (.inl (1))) (encA (s)) := by
  refine CI.ex (CI.mk rfl ?_)
  show WP (d + 0) 32 0 [some (.inr (.inr a))] [] (encA (s)) _
  refine w_push rfl ?_
  refine w_retI rfl ?_
  exact ⟨rfl, rfl⟩
theorem k_kind0 {d : Nat} {s : mSt} {a : Nat} {n m : Int} (ha : Nat.ble 10 a = true) (hg : enc s a = some (.inl (3, [.inl n, .inl m, .inr (.inr 11)])))  : Call (d + 0) 29 [.inr (.inr a)] (encA (s)) (some (.inl (0))) (encA (s)) := by
  refine CI.ex (CI.mk rfl ?_)
  show WP (d + 0) 29 0 [some (.inr (.inr a))] [] (encA (s)) _
  refine w_push rfl ?_
  refine w_retI rfl ?_
  exact ⟨rfl, rfl⟩
theorem k_isOf0_0 {d : Nat} {s : mSt} {a : Nat} {n m : Int} (ha : Nat.ble 10 a = true) (hg : enc s a = some (.inl (3, [.inl n, .inl m, .inr (.inr 11)]))) {q : Int} (hq : -2147483648 ≤ q ∧ q < 2147483648) : Call (d + 0) 30 [.inr (.inr a), .inl q] (encA (s)) (some (.inl (bI (q = 0)))) (encA (s)) := by
  refine CI.ex (CI.mk rfl ?_)
  show WP (d + 0) 30 0 [some (.inr (.inr a)), some (.inl q)] [] (encA (s)) _
  refine w_ldI rfl rfl ?_
  refine w_irNe0 rfl (by omega) (fun b1 => ?_) (fun b1 => ?_)
  · first
    | (exfalso; omega)
    | (refine w_push rfl ?_
       refine w_retB rfl (by first | exact bI_01 _ | decide | omega) ?_
       refine ⟨?_, rfl⟩
       unfold bI
       first | rw [if_pos (by omega)] | rw [if_neg (by omega)])
  · first
    | (exfalso; omega)
    | (refine w_push rfl ?_
       refine w_go rfl ?_
       refine w_retB rfl (by first | exact bI_01 _ | decide | omega) ?_
       refine ⟨?_, rfl⟩
       unfold bI
       first | rw [if_pos (by omega)] | rw [if_neg (by omega)])
theorem k_glows1_0 {d : Nat} {s : mSt} {a : Nat} {n m : Int} (ha : Nat.ble 10 a = true) (hg : enc s a = some (.inl (10, [.inl n, .inl m, .inr (.inr 11)]))) (hm : 0 ≤ m ∧ m ≤ 9) {nt : Int} (hnt : 0 ≤ nt ∧ nt ≤ 30000) : Call (d + 0) 31 [.inr (.inr a), .inl nt] (encA (s)) (some (.inl (9 + m))) (encA (s)) := by
  refine CI.ex (CI.mk rfl ?_)
  show WP (d + 0) 31 0 [some (.inr (.inr a)), some (.inl nt)] [] (encA (s)) _
  refine w_push rfl ?_
  refine w_ldR rfl rfl (ble_1 ha) ?_
  refine w_get0 rfl ha hg rfl rfl ?_
  refine w_add rfl ?_
  refine w_retI rfl ?_
  refine ⟨?_, rfl⟩
  (try rw [m_rem_pos (by omega) (by omega)] at *)
  first
  | rfl
  | rw [m_div_pos (by omega) (by omega)]
  | rw [if_pos (by omega)]
  | rw [if_neg (by omega)]
theorem k_glows1_1 {d : Nat} {s : mSt} {a : Nat} {n m : Int} (ha : Nat.ble 10 a = true) (hg : enc s a = some (.inl (10, [.inl n, .inl m, .inr (.inr 11)]))) (hm : 0 ≤ m ∧ m ≤ 9) {nt : Int} (hnt : 0 ≤ nt ∧ nt ≤ 30000) : Call (d + 1) 98 [.inr (.inr a), .inl nt] (encA (s)) (some (.inl ((9 + m) / 2))) (encA (s)) := by
  refine CI.ex (CI.mk rfl ?_)
  show WP (d + 1) 98 0 [some (.inr (.inr a)), some (.inl nt)] [] (encA (s)) _
  refine w_ldR rfl rfl (ble_1 ha) ?_
  refine w_ldI rfl rfl ?_
  refine w_callV0 rfl rfl rfl rfl ha hg rfl (k_glows1_0 ha hg hm hnt) ?_
  refine w_push rfl ?_
  refine w_div rfl (by decide) ?_
  refine w_retI rfl ?_
  refine ⟨?_, rfl⟩
  (try rw [m_rem_pos (by omega) (by omega)] at *)
  first
  | rfl
  | rw [m_div_pos (by omega) (by omega)]
  | rw [if_pos (by omega)]
  | rw [if_neg (by omega)]
theorem k_dims1_0 {d : Nat} {s : mSt} {a : Nat} {n m : Int} (ha : Nat.ble 10 a = true) (hg : enc s a = some (.inl (10, [.inl n, .inl m, .inr (.inr 11)])))  : Call (d + 0) 32 [.inr (.inr a)] (encA (s)) (some (.inl (1))) (encA (s)) := by
  refine CI.ex (CI.mk rfl ?_)
  show WP (d + 0) 32 0 [some (.inr (.inr a))] [] (encA (s)) _
  refine w_push rfl ?_
  refine w_retI rfl ?_
  exact ⟨rfl, rfl⟩
theorem k_kind1 {d : Nat} {s : mSt} {a : Nat} {n m : Int} (ha : Nat.ble 10 a = true) (hg : enc s a = some (.inl (10, [.inl n, .inl m, .inr (.inr 11)])))  : Call (d + 0) 96 [.inr (.inr a)] (encA (s)) (some (.inl (1))) (encA (s)) := by
  refine CI.ex (CI.mk rfl ?_)
  show WP (d + 0) 96 0 [some (.inr (.inr a))] [] (encA (s)) _
  refine w_push rfl ?_
  refine w_retI rfl ?_
  exact ⟨rfl, rfl⟩
theorem k_isOf1_0 {d : Nat} {s : mSt} {a : Nat} {n m : Int} (ha : Nat.ble 10 a = true) (hg : enc s a = some (.inl (10, [.inl n, .inl m, .inr (.inr 11)]))) {q : Int} (hq : -2147483648 ≤ q ∧ q < 2147483648) : Call (d + 0) 30 [.inr (.inr a), .inl q] (encA (s)) (some (.inl (bI (q = 0)))) (encA (s)) := by
  refine CI.ex (CI.mk rfl ?_)
  show WP (d + 0) 30 0 [some (.inr (.inr a)), some (.inl q)] [] (encA (s)) _
  refine w_ldI rfl rfl ?_
  refine w_irNe0 rfl (by omega) (fun b1 => ?_) (fun b1 => ?_)
  · first
    | (exfalso; omega)
    | (refine w_push rfl ?_
       refine w_retB rfl (by first | exact bI_01 _ | decide | omega) ?_
       refine ⟨?_, rfl⟩
       unfold bI
       first | rw [if_pos (by omega)] | rw [if_neg (by omega)])
  · first
    | (exfalso; omega)
    | (refine w_push rfl ?_
       refine w_go rfl ?_
       refine w_retB rfl (by first | exact bI_01 _ | decide | omega) ?_
       refine ⟨?_, rfl⟩
       unfold bI
       first | rw [if_pos (by omega)] | rw [if_neg (by omega)])
theorem k_isOf1_1 {d : Nat} {s : mSt} {a : Nat} {n m : Int} (ha : Nat.ble 10 a = true) (hg : enc s a = some (.inl (10, [.inl n, .inl m, .inr (.inr 11)]))) {q : Int} (hq : -2147483648 ≤ q ∧ q < 2147483648) : Call (d + 1) 97 [.inr (.inr a), .inl q] (encA (s)) (some (.inl (bI (q = 1 ∨ q = 0)))) (encA (s)) := by
  refine CI.ex (CI.mk rfl ?_)
  show WP (d + 1) 97 0 [some (.inr (.inr a)), some (.inl q)] [] (encA (s)) _
  refine w_ldI rfl rfl ?_
  refine w_push rfl ?_
  refine w_crEq rfl (by omega) (by omega) (fun b2 => ?_) (fun b2 => ?_)
  · first
    | (exfalso; omega)
    | (refine w_push rfl ?_
       refine w_go rfl ?_
       refine w_retB rfl (by first | exact bI_01 _ | decide | omega) ?_
       refine ⟨?_, rfl⟩
       unfold bI
       first | rw [if_pos (by omega)] | rw [if_neg (by omega)])
  · first
    | (exfalso; omega)
    | (refine w_ldR rfl rfl (ble_1 ha) ?_
       refine w_ldI rfl rfl ?_
       refine w_callV0 rfl rfl rfl rfl ha hg rfl (k_isOf1_0 ha hg hq) ?_
       refine w_bEq0 rfl (fun b6 => ?_) (fun b6 => ?_)
       · first
         | (exfalso; omega)
         | (refine w_push rfl ?_
            refine w_retB rfl (by first | exact bI_01 _ | decide | omega) ?_
            refine ⟨?_, rfl⟩
            unfold bI
            first | rw [if_pos (by omega)] | rw [if_neg (by omega)])
       · first
         | (exfalso; omega)
         | (refine w_push rfl ?_
            refine w_go rfl ?_
            refine w_retB rfl (by first | exact bI_01 _ | decide | omega) ?_
            refine ⟨?_, rfl⟩
            unfold bI
            first | rw [if_pos (by omega)] | rw [if_neg (by omega)]))
theorem k_glows2_0 {d : Nat} {s : mSt} {a : Nat} {n m : Int} (ha : Nat.ble 10 a = true) (hg : enc s a = some (.inl (1, [.inl n, .inl m, .inr (.inr 11)]))) (hm : 0 ≤ m ∧ m ≤ 9) {nt : Int} (hnt : 0 ≤ nt ∧ nt ≤ 30000) : Call (d + 0) 31 [.inr (.inr a), .inl nt] (encA (s)) (some (.inl (9 + m))) (encA (s)) := by
  refine CI.ex (CI.mk rfl ?_)
  show WP (d + 0) 31 0 [some (.inr (.inr a)), some (.inl nt)] [] (encA (s)) _
  refine w_push rfl ?_
  refine w_ldR rfl rfl (ble_1 ha) ?_
  refine w_get0 rfl ha hg rfl rfl ?_
  refine w_add rfl ?_
  refine w_retI rfl ?_
  refine ⟨?_, rfl⟩
  (try rw [m_rem_pos (by omega) (by omega)] at *)
  first
  | rfl
  | rw [m_div_pos (by omega) (by omega)]
  | rw [if_pos (by omega)]
  | rw [if_neg (by omega)]
theorem k_glows2_2 {d : Nat} {s : mSt} {a : Nat} {n m : Int} (ha : Nat.ble 10 a = true) (hg : enc s a = some (.inl (1, [.inl n, .inl m, .inr (.inr 11)]))) (hm : 0 ≤ m ∧ m ≤ 9) {nt : Int} (hnt : 0 ≤ nt ∧ nt ≤ 30000) : Call (d + 1) 19 [.inr (.inr a), .inl nt] (encA (s)) (some (.inl (9 + m - 2))) (encA (s)) := by
  refine CI.ex (CI.mk rfl ?_)
  show WP (d + 1) 19 0 [some (.inr (.inr a)), some (.inl nt)] [] (encA (s)) _
  refine w_ldR rfl rfl (ble_1 ha) ?_
  refine w_ldI rfl rfl ?_
  refine w_callV0 rfl rfl rfl rfl ha hg rfl (k_glows2_0 ha hg hm hnt) ?_
  refine w_push rfl ?_
  refine w_sub rfl ?_
  refine w_retI rfl ?_
  refine ⟨?_, rfl⟩
  (try rw [m_rem_pos (by omega) (by omega)] at *)
  first
  | rfl
  | rw [m_div_pos (by omega) (by omega)]
  | rw [if_pos (by omega)]
  | rw [if_neg (by omega)]
theorem k_dims2_0 {d : Nat} {s : mSt} {a : Nat} {n m : Int} (ha : Nat.ble 10 a = true) (hg : enc s a = some (.inl (1, [.inl n, .inl m, .inr (.inr 11)])))  : Call (d + 0) 32 [.inr (.inr a)] (encA (s)) (some (.inl (1))) (encA (s)) := by
  refine CI.ex (CI.mk rfl ?_)
  show WP (d + 0) 32 0 [some (.inr (.inr a))] [] (encA (s)) _
  refine w_push rfl ?_
  refine w_retI rfl ?_
  exact ⟨rfl, rfl⟩
theorem k_dims2_2 {d : Nat} {s : mSt} {a : Nat} {n m : Int} (ha : Nat.ble 10 a = true) (hg : enc s a = some (.inl (1, [.inl n, .inl m, .inr (.inr 11)])))  : Call (d + 0) 20 [.inr (.inr a)] (encA (s)) (some (.inl (2))) (encA (s)) := by
  refine CI.ex (CI.mk rfl ?_)
  show WP (d + 0) 20 0 [some (.inr (.inr a))] [] (encA (s)) _
  refine w_push rfl ?_
  refine w_retI rfl ?_
  exact ⟨rfl, rfl⟩
theorem k_kind2 {d : Nat} {s : mSt} {a : Nat} {n m : Int} (ha : Nat.ble 10 a = true) (hg : enc s a = some (.inl (1, [.inl n, .inl m, .inr (.inr 11)])))  : Call (d + 0) 17 [.inr (.inr a)] (encA (s)) (some (.inl (2))) (encA (s)) := by
  refine CI.ex (CI.mk rfl ?_)
  show WP (d + 0) 17 0 [some (.inr (.inr a))] [] (encA (s)) _
  refine w_push rfl ?_
  refine w_retI rfl ?_
  exact ⟨rfl, rfl⟩
theorem k_isOf2_0 {d : Nat} {s : mSt} {a : Nat} {n m : Int} (ha : Nat.ble 10 a = true) (hg : enc s a = some (.inl (1, [.inl n, .inl m, .inr (.inr 11)]))) {q : Int} (hq : -2147483648 ≤ q ∧ q < 2147483648) : Call (d + 0) 30 [.inr (.inr a), .inl q] (encA (s)) (some (.inl (bI (q = 0)))) (encA (s)) := by
  refine CI.ex (CI.mk rfl ?_)
  show WP (d + 0) 30 0 [some (.inr (.inr a)), some (.inl q)] [] (encA (s)) _
  refine w_ldI rfl rfl ?_
  refine w_irNe0 rfl (by omega) (fun b1 => ?_) (fun b1 => ?_)
  · first
    | (exfalso; omega)
    | (refine w_push rfl ?_
       refine w_retB rfl (by first | exact bI_01 _ | decide | omega) ?_
       refine ⟨?_, rfl⟩
       unfold bI
       first | rw [if_pos (by omega)] | rw [if_neg (by omega)])
  · first
    | (exfalso; omega)
    | (refine w_push rfl ?_
       refine w_go rfl ?_
       refine w_retB rfl (by first | exact bI_01 _ | decide | omega) ?_
       refine ⟨?_, rfl⟩
       unfold bI
       first | rw [if_pos (by omega)] | rw [if_neg (by omega)])
theorem k_isOf2_2 {d : Nat} {s : mSt} {a : Nat} {n m : Int} (ha : Nat.ble 10 a = true) (hg : enc s a = some (.inl (1, [.inl n, .inl m, .inr (.inr 11)]))) {q : Int} (hq : -2147483648 ≤ q ∧ q < 2147483648) : Call (d + 1) 18 [.inr (.inr a), .inl q] (encA (s)) (some (.inl (bI (q = 2 ∨ q = 0)))) (encA (s)) := by
  refine CI.ex (CI.mk rfl ?_)
  show WP (d + 1) 18 0 [some (.inr (.inr a)), some (.inl q)] [] (encA (s)) _
  refine w_ldI rfl rfl ?_
  refine w_push rfl ?_
  refine w_crEq rfl (by omega) (by omega) (fun b2 => ?_) (fun b2 => ?_)
  · first
    | (exfalso; omega)
    | (refine w_push rfl ?_
       refine w_go rfl ?_
       refine w_retB rfl (by first | exact bI_01 _ | decide | omega) ?_
       refine ⟨?_, rfl⟩
       unfold bI
       first | rw [if_pos (by omega)] | rw [if_neg (by omega)])
  · first
    | (exfalso; omega)
    | (refine w_ldR rfl rfl (ble_1 ha) ?_
       refine w_ldI rfl rfl ?_
       refine w_callV0 rfl rfl rfl rfl ha hg rfl (k_isOf2_0 ha hg hq) ?_
       refine w_bEq0 rfl (fun b6 => ?_) (fun b6 => ?_)
       · first
         | (exfalso; omega)
         | (refine w_push rfl ?_
            refine w_retB rfl (by first | exact bI_01 _ | decide | omega) ?_
            refine ⟨?_, rfl⟩
            unfold bI
            first | rw [if_pos (by omega)] | rw [if_neg (by omega)])
       · first
         | (exfalso; omega)
         | (refine w_push rfl ?_
            refine w_go rfl ?_
            refine w_retB rfl (by first | exact bI_01 _ | decide | omega) ?_
            refine ⟨?_, rfl⟩
            unfold bI
            first | rw [if_pos (by omega)] | rw [if_neg (by omega)]))
theorem k_glows3_0 {d : Nat} {s : mSt} {a : Nat} {n m : Int} (ha : Nat.ble 10 a = true) (hg : enc s a = some (.inl (8, [.inl n, .inl m, .inr (.inr 11)]))) (hm : 0 ≤ m ∧ m ≤ 9) {nt : Int} (hnt : 0 ≤ nt ∧ nt ≤ 30000) : Call (d + 0) 31 [.inr (.inr a), .inl nt] (encA (s)) (some (.inl (9 + m))) (encA (s)) := by
  refine CI.ex (CI.mk rfl ?_)
  show WP (d + 0) 31 0 [some (.inr (.inr a)), some (.inl nt)] [] (encA (s)) _
  refine w_push rfl ?_
  refine w_ldR rfl rfl (ble_1 ha) ?_
  refine w_get0 rfl ha hg rfl rfl ?_
  refine w_add rfl ?_
  refine w_retI rfl ?_
  refine ⟨?_, rfl⟩
  (try rw [m_rem_pos (by omega) (by omega)] at *)
  first
  | rfl
  | rw [m_div_pos (by omega) (by omega)]
  | rw [if_pos (by omega)]
  | rw [if_neg (by omega)]
theorem k_glows3_3 {d : Nat} {s : mSt} {a : Nat} {n m : Int} (ha : Nat.ble 10 a = true) (hg : enc s a = some (.inl (8, [.inl n, .inl m, .inr (.inr 11)]))) (hm : 0 ≤ m ∧ m ≤ 9) {nt : Int} (hnt : 0 ≤ nt ∧ nt ≤ 30000) : Call (d + 1) 82 [.inr (.inr a), .inl nt] (encA (s)) (some (.inl (9 + m + 3))) (encA (s)) := by
  refine CI.ex (CI.mk rfl ?_)
  show WP (d + 1) 82 0 [some (.inr (.inr a)), some (.inl nt)] [] (encA (s)) _
  refine w_ldR rfl rfl (ble_1 ha) ?_
  refine w_ldI rfl rfl ?_
  refine w_callV0 rfl rfl rfl rfl ha hg rfl (k_glows3_0 ha hg hm hnt) ?_
  refine w_push rfl ?_
  refine w_add rfl ?_
  refine w_retI rfl ?_
  refine ⟨?_, rfl⟩
  (try rw [m_rem_pos (by omega) (by omega)] at *)
  first
  | rfl
  | rw [m_div_pos (by omega) (by omega)]
  | rw [if_pos (by omega)]
  | rw [if_neg (by omega)]
theorem k_dims3_0 {d : Nat} {s : mSt} {a : Nat} {n m : Int} (ha : Nat.ble 10 a = true) (hg : enc s a = some (.inl (8, [.inl n, .inl m, .inr (.inr 11)])))  : Call (d + 0) 32 [.inr (.inr a)] (encA (s)) (some (.inl (1))) (encA (s)) := by
  refine CI.ex (CI.mk rfl ?_)
  show WP (d + 0) 32 0 [some (.inr (.inr a))] [] (encA (s)) _
  refine w_push rfl ?_
  refine w_retI rfl ?_
  exact ⟨rfl, rfl⟩
theorem k_kind3 {d : Nat} {s : mSt} {a : Nat} {n m : Int} (ha : Nat.ble 10 a = true) (hg : enc s a = some (.inl (8, [.inl n, .inl m, .inr (.inr 11)])))  : Call (d + 0) 80 [.inr (.inr a)] (encA (s)) (some (.inl (3))) (encA (s)) := by
  refine CI.ex (CI.mk rfl ?_)
  show WP (d + 0) 80 0 [some (.inr (.inr a))] [] (encA (s)) _
  refine w_push rfl ?_
  refine w_retI rfl ?_
  exact ⟨rfl, rfl⟩
theorem k_isOf3_0 {d : Nat} {s : mSt} {a : Nat} {n m : Int} (ha : Nat.ble 10 a = true) (hg : enc s a = some (.inl (8, [.inl n, .inl m, .inr (.inr 11)]))) {q : Int} (hq : -2147483648 ≤ q ∧ q < 2147483648) : Call (d + 0) 30 [.inr (.inr a), .inl q] (encA (s)) (some (.inl (bI (q = 0)))) (encA (s)) := by
  refine CI.ex (CI.mk rfl ?_)
  show WP (d + 0) 30 0 [some (.inr (.inr a)), some (.inl q)] [] (encA (s)) _
  refine w_ldI rfl rfl ?_
  refine w_irNe0 rfl (by omega) (fun b1 => ?_) (fun b1 => ?_)
  · first
    | (exfalso; omega)
    | (refine w_push rfl ?_
       refine w_retB rfl (by first | exact bI_01 _ | decide | omega) ?_
       refine ⟨?_, rfl⟩
       unfold bI
       first | rw [if_pos (by omega)] | rw [if_neg (by omega)])
  · first
    | (exfalso; omega)
    | (refine w_push rfl ?_
       refine w_go rfl ?_
       refine w_retB rfl (by first | exact bI_01 _ | decide | omega) ?_
       refine ⟨?_, rfl⟩
       unfold bI
       first | rw [if_pos (by omega)] | rw [if_neg (by omega)])
theorem k_isOf3_3 {d : Nat} {s : mSt} {a : Nat} {n m : Int} (ha : Nat.ble 10 a = true) (hg : enc s a = some (.inl (8, [.inl n, .inl m, .inr (.inr 11)]))) {q : Int} (hq : -2147483648 ≤ q ∧ q < 2147483648) : Call (d + 1) 81 [.inr (.inr a), .inl q] (encA (s)) (some (.inl (bI (q = 3 ∨ q = 0)))) (encA (s)) := by
  refine CI.ex (CI.mk rfl ?_)
  show WP (d + 1) 81 0 [some (.inr (.inr a)), some (.inl q)] [] (encA (s)) _
  refine w_ldI rfl rfl ?_
  refine w_push rfl ?_
  refine w_crEq rfl (by omega) (by omega) (fun b2 => ?_) (fun b2 => ?_)
  · first
    | (exfalso; omega)
    | (refine w_push rfl ?_
       refine w_go rfl ?_
       refine w_retB rfl (by first | exact bI_01 _ | decide | omega) ?_
       refine ⟨?_, rfl⟩
       unfold bI
       first | rw [if_pos (by omega)] | rw [if_neg (by omega)])
  · first
    | (exfalso; omega)
    | (refine w_ldR rfl rfl (ble_1 ha) ?_
       refine w_ldI rfl rfl ?_
       refine w_callV0 rfl rfl rfl rfl ha hg rfl (k_isOf3_0 ha hg hq) ?_
       refine w_bEq0 rfl (fun b6 => ?_) (fun b6 => ?_)
       · first
         | (exfalso; omega)
         | (refine w_push rfl ?_
            refine w_retB rfl (by first | exact bI_01 _ | decide | omega) ?_
            refine ⟨?_, rfl⟩
            unfold bI
            first | rw [if_pos (by omega)] | rw [if_neg (by omega)])
       · first
         | (exfalso; omega)
         | (refine w_push rfl ?_
            refine w_go rfl ?_
            refine w_retB rfl (by first | exact bI_01 _ | decide | omega) ?_
            refine ⟨?_, rfl⟩
            unfold bI
            first | rw [if_pos (by omega)] | rw [if_neg (by omega)]))
theorem k_glows4_0 {d : Nat} {s : mSt} {a : Nat} {n m : Int} (ha : Nat.ble 10 a = true) (hg : enc s a = some (.inl (0, [.inl n, .inl m, .inr (.inr 11)]))) (hm : 0 ≤ m ∧ m ≤ 9) {nt : Int} (hnt : 0 ≤ nt ∧ nt ≤ 30000) : Call (d + 0) 31 [.inr (.inr a), .inl nt] (encA (s)) (some (.inl (9 + m))) (encA (s)) := by
  refine CI.ex (CI.mk rfl ?_)
  show WP (d + 0) 31 0 [some (.inr (.inr a)), some (.inl nt)] [] (encA (s)) _
  refine w_push rfl ?_
  refine w_ldR rfl rfl (ble_1 ha) ?_
  refine w_get0 rfl ha hg rfl rfl ?_
  refine w_add rfl ?_
  refine w_retI rfl ?_
  refine ⟨?_, rfl⟩
  (try rw [m_rem_pos (by omega) (by omega)] at *)
  first
  | rfl
  | rw [m_div_pos (by omega) (by omega)]
  | rw [if_pos (by omega)]
  | rw [if_neg (by omega)]
theorem k_glows4_1 {d : Nat} {s : mSt} {a : Nat} {n m : Int} (ha : Nat.ble 10 a = true) (hg : enc s a = some (.inl (0, [.inl n, .inl m, .inr (.inr 11)]))) (hm : 0 ≤ m ∧ m ≤ 9) {nt : Int} (hnt : 0 ≤ nt ∧ nt ≤ 30000) : Call (d + 1) 98 [.inr (.inr a), .inl nt] (encA (s)) (some (.inl ((9 + m) / 2))) (encA (s)) := by
  refine CI.ex (CI.mk rfl ?_)
  show WP (d + 1) 98 0 [some (.inr (.inr a)), some (.inl nt)] [] (encA (s)) _
  refine w_ldR rfl rfl (ble_1 ha) ?_
  refine w_ldI rfl rfl ?_
  refine w_callV0 rfl rfl rfl rfl ha hg rfl (k_glows4_0 ha hg hm hnt) ?_
  refine w_push rfl ?_
  refine w_div rfl (by decide) ?_
  refine w_retI rfl ?_
  refine ⟨?_, rfl⟩
  (try rw [m_rem_pos (by omega) (by omega)] at *)
  first
  | rfl
  | rw [m_div_pos (by omega) (by omega)]
  | rw [if_pos (by omega)]
  | rw [if_neg (by omega)]
theorem k_glows4_4 {d : Nat} {s : mSt} {a : Nat} {n m : Int} (ha : Nat.ble 10 a = true) (hg : enc s a = some (.inl (0, [.inl n, .inl m, .inr (.inr 11)]))) (hm : 0 ≤ m ∧ m ≤ 9) {nt : Int} (hnt : 0 ≤ nt ∧ nt ≤ 30000) : Call (d + 2) 14 [.inr (.inr a), .inl nt] (encA (s)) (some (.inl ((if nt % 2 = 1 then 0 else (9 + m) / 2)))) (encA (s)) := by
  refine CI.ex (CI.mk rfl ?_)
  show WP (d + 2) 14 0 [some (.inr (.inr a)), some (.inl nt)] [] (encA (s)) _
  refine w_ldI rfl rfl ?_
  refine w_push rfl ?_
  refine w_div rfl (by decide) ?_
  refine w_irEq0 rfl (by first | omega | (rw [m_rem_pos (by omega) (by omega)]; omega)) (fun b3 => ?_) (fun b3 => ?_)
  · first
    | (exfalso; omega)
    | (refine w_ldR rfl rfl (ble_1 ha) ?_
       refine w_ldI rfl rfl ?_
       refine w_callV0 rfl rfl rfl rfl ha hg rfl (k_glows4_1 ha hg hm hnt) ?_
       refine w_retI rfl ?_
       refine ⟨?_, rfl⟩
       (try rw [m_rem_pos (by omega) (by omega)] at *)
       first
       | rfl
       | rw [m_div_pos (by omega) (by omega)]
       | rw [if_pos (by omega)]
       | rw [if_neg (by omega)])
  · first
    | (exfalso; omega)
    | (refine w_push rfl ?_
       refine w_go rfl ?_
       refine w_retI rfl ?_
       refine ⟨?_, rfl⟩
       (try rw [m_rem_pos (by omega) (by omega)] at *)
       first
       | rfl
       | rw [m_div_pos (by omega) (by omega)]
       | rw [if_pos (by omega)]
       | rw [if_neg (by omega)])
theorem k_dims4_0 {d : Nat} {s : mSt} {a : Nat} {n m : Int} (ha : Nat.ble 10 a = true) (hg : enc s a = some (.inl (0, [.inl n, .inl m, .inr (.inr 11)])))  : Call (d + 0) 32 [.inr (.inr a)] (encA (s)) (some (.inl (1))) (encA (s)) := by
  refine CI.ex (CI.mk rfl ?_)
  show WP (d + 0) 32 0 [some (.inr (.inr a))] [] (encA (s)) _
  refine w_push rfl ?_
  refine w_retI rfl ?_
  exact ⟨rfl, rfl⟩
theorem k_kind4 {d : Nat} {s : mSt} {a : Nat} {n m : Int} (ha : Nat.ble 10 a = true) (hg : enc s a = some (.inl (0, [.inl n, .inl m, .inr (.inr 11)])))  : Call (d + 0) 12 [.inr (.inr a)] (encA (s)) (some (.inl (4))) (encA (s)) := by
  refine CI.ex (CI.mk rfl ?_)
  show WP (d + 0) 12 0 [some (.inr (.inr a))] [] (encA (s)) _
  refine w_push rfl ?_
  refine w_retI rfl ?_
  exact ⟨rfl, rfl⟩
theorem k_isOf4_0 {d : Nat} {s : mSt} {a : Nat} {n m : Int} (ha : Nat.ble 10 a = true) (hg : enc s a = some (.inl (0, [.inl n, .inl m, .inr (.inr 11)]))) {q : Int} (hq : -2147483648 ≤ q ∧ q < 2147483648) : Call (d + 0) 30 [.inr (.inr a), .inl q] (encA (s)) (some (.inl (bI (q = 0)))) (encA (s)) := by
  refine CI.ex (CI.mk rfl ?_)
  show WP (d + 0) 30 0 [some (.inr (.inr a)), some (.inl q)] [] (encA (s)) _
  refine w_ldI rfl rfl ?_
  refine w_irNe0 rfl (by omega) (fun b1 => ?_) (fun b1 => ?_)
  · first
    | (exfalso; omega)
    | (refine w_push rfl ?_
       refine w_retB rfl (by first | exact bI_01 _ | decide | omega) ?_
       refine ⟨?_, rfl⟩
       unfold bI
       first | rw [if_pos (by omega)] | rw [if_neg (by omega)])
  · first
    | (exfalso; omega)
    | (refine w_push rfl ?_
       refine w_go rfl ?_
       refine w_retB rfl (by first | exact bI_01 _ | decide | omega) ?_
       refine ⟨?_, rfl⟩
       unfold bI
       first | rw [if_pos (by omega)] | rw [if_neg (by omega)])
theorem k_isOf4_1 {d : Nat} {s : mSt} {a : Nat} {n m : Int} (ha : Nat.ble 10 a = true) (hg : enc s a = some (.inl (0, [.inl n, .inl m, .inr (.inr 11)]))) {q : Int} (hq : -2147483648 ≤ q ∧ q < 2147483648) : Call (d + 1) 97 [.inr (.inr a), .inl q] (encA (s)) (some (.inl (bI (q = 1 ∨ q = 0)))) (encA (s)) := by
  refine CI.ex (CI.mk rfl ?_)
  show WP (d + 1) 97 0 [some (.inr (.inr a)), some (.inl q)] [] (encA (s)) _
  refine w_ldI rfl rfl ?_
  refine w_push rfl ?_
  refine w_crEq rfl (by omega) (by omega) (fun b2 => ?_) (fun b2 => ?_)
  · first
    | (exfalso; omega)
    | (refine w_push rfl ?_
       refine w_go rfl ?_
       refine w_retB rfl (by first | exact bI_01 _ | decide | omega) ?_
       refine ⟨?_, rfl⟩
       unfold bI
       first | rw [if_pos (by omega)] | rw [if_neg (by omega)])
  · first
    | (exfalso; omega)
    | (refine w_ldR rfl rfl (ble_1 ha) ?_
       refine w_ldI rfl rfl ?_
       refine w_callV0 rfl rfl rfl rfl ha hg rfl (k_isOf4_0 ha hg hq) ?_
       refine w_bEq0 rfl (fun b6 => ?_) (fun b6 => ?_)
       · first
         | (exfalso; omega)
         | (refine w_push rfl ?_
            refine w_retB rfl (by first | exact bI_01 _ | decide | omega) ?_
            refine ⟨?_, rfl⟩
            unfold bI
            first | rw [if_pos (by omega)] | rw [if_neg (by omega)])
       · first
         | (exfalso; omega)
         | (refine w_push rfl ?_
            refine w_go rfl ?_
            refine w_retB rfl (by first | exact bI_01 _ | decide | omega) ?_
            refine ⟨?_, rfl⟩
            unfold bI
            first | rw [if_pos (by omega)] | rw [if_neg (by omega)]))
theorem k_isOf4_4 {d : Nat} {s : mSt} {a : Nat} {n m : Int} (ha : Nat.ble 10 a = true) (hg : enc s a = some (.inl (0, [.inl n, .inl m, .inr (.inr 11)]))) {q : Int} (hq : -2147483648 ≤ q ∧ q < 2147483648) : Call (d + 2) 13 [.inr (.inr a), .inl q] (encA (s)) (some (.inl (bI (q = 4 ∨ q = 1 ∨ q = 0)))) (encA (s)) := by
  refine CI.ex (CI.mk rfl ?_)
  show WP (d + 2) 13 0 [some (.inr (.inr a)), some (.inl q)] [] (encA (s)) _
  refine w_ldI rfl rfl ?_
  refine w_push rfl ?_
  refine w_crEq rfl (by omega) (by omega) (fun b2 => ?_) (fun b2 => ?_)
  · first
    | (exfalso; omega)
    | (refine w_push rfl ?_
       refine w_go rfl ?_
       refine w_retB rfl (by first | exact bI_01 _ | decide | omega) ?_
       refine ⟨?_, rfl⟩
       unfold bI
       first | rw [if_pos (by omega)] | rw [if_neg (by omega)])
  · first
    | (exfalso; omega)
    | (refine w_ldR rfl rfl (ble_1 ha) ?_
       refine w_ldI rfl rfl ?_
       refine w_callV0 rfl rfl rfl rfl ha hg rfl (k_isOf4_1 ha hg hq) ?_
       refine w_bEq0 rfl (fun b6 => ?_) (fun b6 => ?_)
       · first
         | (exfalso; omega)
         | (refine w_push rfl ?_
            refine w_retB rfl (by first | exact bI_01 _ | decide | omega) ?_
            refine ⟨?_, rfl⟩
            unfold bI
            first | rw [if_pos (by omega)] | rw [if_neg (by omega)])
       · first
         | (exfalso; omega)
         | (refine w_push rfl ?_
            refine w_go rfl ?_
            refine w_retB rfl (by first | exact bI_01 _ | decide | omega) ?_
            refine ⟨?_, rfl⟩
            unfold bI
            first | rw [if_pos (by omega)] | rw [if_neg (by omega)]))
theorem k_glows5_0 {d : Nat} {s : mSt} {a : Nat} {n m : Int} (ha : Nat.ble 10 a = true) (hg : enc s a = some (.inl (7, [.inl n, .inl m, .inr (.inr 11)]))) (hm : 0 ≤ m ∧ m ≤ 9) {nt : Int} (hnt : 0 ≤ nt ∧ nt ≤ 30000) : Call (d + 0) 31 [.inr (.inr a), .inl nt] (encA (s)) (some (.inl (9 + m))) (encA (s)) := by
  refine CI.ex (CI.mk rfl ?_)
  show WP (d + 0) 31 0 [some (.inr (.inr a)), some (.inl nt)] [] (encA (s)) _
  refine w_push rfl ?_
  refine w_ldR rfl rfl (ble_1 ha) ?_
  refine w_get0 rfl ha hg rfl rfl ?_
  refine w_add rfl ?_
  refine w_retI rfl ?_
  refine ⟨?_, rfl⟩
  (try rw [m_rem_pos (by omega) (by omega)] at *)
  first
  | rfl
  | rw [m_div_pos (by omega) (by omega)]
  | rw [if_pos (by omega)]
  | rw [if_neg (by omega)]
theorem k_glows5_2 {d : Nat} {s : mSt} {a : Nat} {n m : Int} (ha : Nat.ble 10 a = true) (hg : enc s a = some (.inl (7, [.inl n, .inl m, .inr (.inr 11)]))) (hm : 0 ≤ m ∧ m ≤ 9) {nt : Int} (hnt : 0 ≤ nt ∧ nt ≤ 30000) : Call (d + 1) 19 [.inr (.inr a), .inl nt] (encA (s)) (some (.inl (9 + m - 2))) (encA (s)) := by
  refine CI.ex (CI.mk rfl ?_)
  show WP (d + 1) 19 0 [some (.inr (.inr a)), some (.inl nt)] [] (encA (s)) _
  refine w_ldR rfl rfl (ble_1 ha) ?_
  refine w_ldI rfl rfl ?_
  refine w_callV0 rfl rfl rfl rfl ha hg rfl (k_glows5_0 ha hg hm hnt) ?_
  refine w_push rfl ?_
  refine w_sub rfl ?_
  refine w_retI rfl ?_
  refine ⟨?_, rfl⟩
  (try rw [m_rem_pos (by omega) (by omega)] at *)
  first
  | rfl
  | rw [m_div_pos (by omega) (by omega)]
  | rw [if_pos (by omega)]
  | rw [if_neg (by omega)]
theorem k_glows5_5 {d : Nat} {s : mSt} {a : Nat} {n m : Int} (ha : Nat.ble 10 a = true) (hg : enc s a = some (.inl (7, [.inl n, .inl m, .inr (.inr 11)]))) (hm : 0 ≤ m ∧ m ≤ 9) {nt : Int} (hnt : 0 ≤ nt ∧ nt ≤ 30000) : Call (d + 2) 76 [.inr (.inr a), .inl nt] (encA (s)) (some (.inl (9 + m - 2 - m))) (encA (s)) := by
  refine CI.ex (CI.mk rfl ?_)
  show WP (d + 2) 76 0 [some (.inr (.inr a)), some (.inl nt)] [] (encA (s)) _
  refine w_ldR rfl rfl (ble_1 ha) ?_
  refine w_ldI rfl rfl ?_
  refine w_callV0 rfl rfl rfl rfl ha hg rfl (k_glows5_2 ha hg hm hnt) ?_
  refine w_ldR rfl rfl (ble_1 ha) ?_
  refine w_get0 rfl ha hg rfl rfl ?_
  refine w_sub rfl ?_
  refine w_retI rfl ?_
  refine ⟨?_, rfl⟩
  (try rw [m_rem_pos (by omega) (by omega)] at *)
  first
  | rfl
  | rw [m_div_pos (by omega) (by omega)]
  | rw [if_pos (by omega)]
  | rw [if_neg (by omega)]
theorem k_dims5_0 {d : Nat} {s : mSt} {a : Nat} {n m : Int} (ha : Nat.ble 10 a = true) (hg : enc s a = some (.inl (7, [.inl n, .inl m, .inr (.inr 11)])))  : Call (d + 0) 32 [.inr (.inr a)] (encA (s)) (some (.inl (1))) (encA (s)) := by
  refine CI.ex (CI.mk rfl ?_)
  show WP (d + 0) 32 0 [some (.inr (.inr a))] [] (encA (s)) _
  refine w_push rfl ?_
  refine w_retI rfl ?_
  exact ⟨rfl, rfl⟩
theorem k_dims5_2 {d : Nat} {s : mSt} {a : Nat} {n m : Int} (ha : Nat.ble 10 a = true) (hg : enc s a = some (.inl (7, [.inl n, .inl m, .inr (.inr 11)])))  : Call (d + 0) 20 [.inr (.inr a)] (encA (s)) (some (.inl (2))) (encA (s)) := by
  refine CI.ex (CI.mk rfl ?_)
  show WP (d + 0) 20 0 [some (.inr (.inr a))] [] (encA (s)) _
  refine w_push rfl ?_
  refine w_retI rfl ?_
  exact ⟨rfl, rfl⟩
theorem k_dims5_5 {d : Nat} {s : mSt} {a : Nat} {n m : Int} (ha : Nat.ble 10 a = true) (hg : enc s a = some (.inl (7, [.inl n, .inl m, .inr (.inr 11)])))  : Call (d + 1) 77 [.inr (.inr a)] (encA (s)) (some (.inl (3))) (encA (s)) := by
  refine CI.ex (CI.mk rfl ?_)
  show WP (d + 1) 77 0 [some (.inr (.inr a))] [] (encA (s)) _
  refine w_ldR rfl rfl (ble_1 ha) ?_
  refine w_callV0 rfl rfl rfl rfl ha hg rfl (k_dims5_2 ha hg) ?_
  refine w_push rfl ?_
  refine w_add rfl ?_
  refine w_retI rfl ?_
  exact ⟨rfl, rfl⟩
theorem k_kind5 {d : Nat} {s : mSt} {a : Nat} {n m : Int} (ha : Nat.ble 10 a = true) (hg : enc s a = some (.inl (7, [.inl n, .inl m, .inr (.inr 11)])))  : Call (d + 0) 74 [.inr (.inr a)] (encA (s)) (some (.inl (5))) (encA (s)) := by
  refine CI.ex (CI.mk rfl ?_)
  show WP (d + 0) 74 0 [some (.inr (.inr a))] [] (encA (s)) _
  refine w_push rfl ?_
  refine w_retI rfl ?_
  exact ⟨rfl, rfl⟩
theorem k_isOf5_0 {d : Nat} {s : mSt} {a : Nat} {n m : Int} (ha : Nat.ble 10 a = true) (hg : enc s a = some (.inl (7, [.inl n, .inl m, .inr (.inr 11)]))) {q : Int} (hq : -2147483648 ≤ q ∧ q < 2147483648) : Call (d + 0) 30 [.inr (.inr a), .inl q] (encA (s)) (some (.inl (bI (q = 0)))) (encA (s)) := by
  refine CI.ex (CI.mk rfl ?_)
  show WP (d + 0) 30 0 [some (.inr (.inr a)), some (.inl q)] [] (encA (s)) _
  refine w_ldI rfl rfl ?_
  refine w_irNe0 rfl (by omega) (fun b1 => ?_) (fun b1 => ?_)
  · first
    | (exfalso; omega)
    | (refine w_push rfl ?_
       refine w_retB rfl (by first | exact bI_01 _ | decide | omega) ?_
       refine ⟨?_, rfl⟩
       unfold bI
       first | rw [if_pos (by omega)] | rw [if_neg (by omega)])
  · first
    | (exfalso; omega)
    | (refine w_push rfl ?_
       refine w_go rfl ?_
       refine w_retB rfl (by first | exact bI_01 _ | decide | omega) ?_
       refine ⟨?_, rfl⟩
       unfold bI
       first | rw [if_pos (by omega)] | rw [if_neg (by omega)])
theorem k_isOf5_2 {d : Nat} {s : mSt} {a : Nat} {n m : Int} (ha : Nat.ble 10 a = true) (hg : enc s a = some (.inl (7, [.inl n, .inl m, .inr (.inr 11)]))) {q : Int} (hq : -2147483648 ≤ q ∧ q < 2147483648) : Call (d + 1) 18 [.inr (.inr a), .inl q] (encA (s)) (some (.inl (bI (q = 2 ∨ q = 0)))) (encA (s)) := by
  refine CI.ex (CI.mk rfl ?_)
  show WP (d + 1) 18 0 [some (.inr (.inr a)), some (.inl q)] [] (encA (s)) _
  refine w_ldI rfl rfl ?_
  refine w_push rfl ?_
  refine w_crEq rfl (by omega) (by omega) (fun b2 => ?_) (fun b2 => ?_)
  · first
    | (exfalso; omega)
    | (refine w_push rfl ?_
       refine w_go rfl ?_
       refine w_retB rfl (by first | exact bI_01 _ | decide | omega) ?_
       refine ⟨?_, rfl⟩
       unfold bI
       first | rw [if_pos (by omega)] | rw [if_neg (by omega)])
  · first
    | (exfalso; omega)
    | (refine w_ldR rfl rfl (ble_1 ha) ?_
       refine w_ldI rfl rfl ?_
       refine w_callV0 rfl rfl rfl rfl ha hg rfl (k_isOf5_0 ha hg hq) ?_
       refine w_bEq0 rfl (fun b6 => ?_) (fun b6 => ?_)
       · first
         | (exfalso; omega)
         | (refine w_push rfl ?_
            refine w_retB rfl (by first | exact bI_01 _ | decide | omega) ?_
            refine ⟨?_, rfl⟩
            unfold bI
            first | rw [if_pos (by omega)] | rw [if_neg (by omega)])
       · first
         | (exfalso; omega)
         | (refine w_push rfl ?_
            refine w_go rfl ?_
            refine w_retB rfl (by first | exact bI_01 _ | decide | omega) ?_
            refine ⟨?_, rfl⟩
            unfold bI
            first | rw [if_pos (by omega)] | rw [if_neg (by omega)]))
theorem k_isOf5_5 {d : Nat} {s : mSt} {a : Nat} {n m : Int} (ha : Nat.ble 10 a = true) (hg : enc s a = some (.inl (7, [.inl n, .inl m, .inr (.inr 11)]))) {q : Int} (hq : -2147483648 ≤ q ∧ q < 2147483648) : Call (d + 2) 75 [.inr (.inr a), .inl q] (encA (s)) (some (.inl (bI (q = 5 ∨ q = 2 ∨ q = 0)))) (encA (s)) := by
  refine CI.ex (CI.mk rfl ?_)
  show WP (d + 2) 75 0 [some (.inr (.inr a)), some (.inl q)] [] (encA (s)) _
  refine w_ldI rfl rfl ?_
  refine w_push rfl ?_
  refine w_crEq rfl (by omega) (by omega) (fun b2 => ?_) (fun b2 => ?_)
  · first
    | (exfalso; omega)
    | (refine w_push rfl ?_
       refine w_go rfl ?_
       refine w_retB rfl (by first | exact bI_01 _ | decide | omega) ?_
       refine ⟨?_, rfl⟩
       unfold bI
       first | rw [if_pos (by omega)] | rw [if_neg (by omega)])
  · first
    | (exfalso; omega)
    | (refine w_ldR rfl rfl (ble_1 ha) ?_
       refine w_ldI rfl rfl ?_
       refine w_callV0 rfl rfl rfl rfl ha hg rfl (k_isOf5_2 ha hg hq) ?_
       refine w_bEq0 rfl (fun b6 => ?_) (fun b6 => ?_)
       · first
         | (exfalso; omega)
         | (refine w_push rfl ?_
            refine w_retB rfl (by first | exact bI_01 _ | decide | omega) ?_
            refine ⟨?_, rfl⟩
            unfold bI
            first | rw [if_pos (by omega)] | rw [if_neg (by omega)])
       · first
         | (exfalso; omega)
         | (refine w_push rfl ?_
            refine w_go rfl ?_
            refine w_retB rfl (by first | exact bI_01 _ | decide | omega) ?_
            refine ⟨?_, rfl⟩
            unfold bI
            first | rw [if_pos (by omega)] | rw [if_neg (by omega)]))
theorem k_glows6_0 {d : Nat} {s : mSt} {a : Nat} {n m : Int} (ha : Nat.ble 10 a = true) (hg : enc s a = some (.inl (2, [.inl n, .inl m, .inr (.inr 11)]))) (hm : 0 ≤ m ∧ m ≤ 9) {nt : Int} (hnt : 0 ≤ nt ∧ nt ≤ 30000) : Call (d + 0) 31 [.inr (.inr a), .inl nt] (encA (s)) (some (.inl (9 + m))) (encA (s)) := by
  refine CI.ex (CI.mk rfl ?_)
  show WP (d + 0) 31 0 [some (.inr (.inr a)), some (.inl nt)] [] (encA (s)) _
  refine w_push rfl ?_
  refine w_ldR rfl rfl (ble_1 ha) ?_
  refine w_get0 rfl ha hg rfl rfl ?_
  refine w_add rfl ?_
  refine w_retI rfl ?_
  refine ⟨?_, rfl⟩
  (try rw [m_rem_pos (by omega) (by omega)] at *)
  first
  | rfl
  | rw [m_div_pos (by omega) (by omega)]
  | rw [if_pos (by omega)]
  | rw [if_neg (by omega)]
theorem k_glows6_3 {d : Nat} {s : mSt} {a : Nat} {n m : Int} (ha : Nat.ble 10 a = true) (hg : enc s a = some (.inl (2, [.inl n, .inl m, .inr (.inr 11)]))) (hm : 0 ≤ m ∧ m ≤ 9) {nt : Int} (hnt : 0 ≤ nt ∧ nt ≤ 30000) : Call (d + 1) 82 [.inr (.inr a), .inl nt] (encA (s)) (some (.inl (9 + m + 3))) (encA (s)) := by
  refine CI.ex (CI.mk rfl ?_)
  show WP (d + 1) 82 0 [some (.inr (.inr a)), some (.inl nt)] [] (encA (s)) _
  refine w_ldR rfl rfl (ble_1 ha) ?_
  refine w_ldI rfl rfl ?_
  refine w_callV0 rfl rfl rfl rfl ha hg rfl (k_glows6_0 ha hg hm hnt) ?_
  refine w_push rfl ?_
  refine w_add rfl ?_
  refine w_retI rfl ?_
  refine ⟨?_, rfl⟩
  (try rw [m_rem_pos (by omega) (by omega)] at *)
  first
  | rfl
  | rw [m_div_pos (by omega) (by omega)]
  | rw [if_pos (by omega)]
  | rw [if_neg (by omega)]
theorem k_glows6_6 {d : Nat} {s : mSt} {a : Nat} {n m : Int} (ha : Nat.ble 10 a = true) (hg : enc s a = some (.inl (2, [.inl n, .inl m, .inr (.inr 11)]))) (hm : 0 ≤ m ∧ m ≤ 9) {nt : Int} (hnt : 0 ≤ nt ∧ nt ≤ 30000) : Call (d + 2) 25 [.inr (.inr a), .inl nt] (encA (s)) (some (.inl ((if nt % 3 = 0 then 0 else 9 + m + 3)))) (encA (s)) := by
  refine CI.ex (CI.mk rfl ?_)
  show WP (d + 2) 25 0 [some (.inr (.inr a)), some (.inl nt)] [] (encA (s)) _
  refine w_ldI rfl rfl ?_
  refine w_push rfl ?_
  refine w_div rfl (by decide) ?_
  refine w_irNe0 rfl (by first | omega | (rw [m_rem_pos (by omega) (by omega)]; omega)) (fun b3 => ?_) (fun b3 => ?_)
  · first
    | (exfalso; omega)
    | (refine w_ldR rfl rfl (ble_1 ha) ?_
       refine w_ldI rfl rfl ?_
       refine w_callV0 rfl rfl rfl rfl ha hg rfl (k_glows6_3 ha hg hm hnt) ?_
       refine w_retI rfl ?_
       refine ⟨?_, rfl⟩
       (try rw [m_rem_pos (by omega) (by omega)] at *)
       first
       | rfl
       | rw [m_div_pos (by omega) (by omega)]
       | rw [if_pos (by omega)]
       | rw [if_neg (by omega)])
  · first
    | (exfalso; omega)
    | (refine w_push rfl ?_
       refine w_go rfl ?_
       refine w_retI rfl ?_
       refine ⟨?_, rfl⟩
       (try rw [m_rem_pos (by omega) (by omega)] at *)
       first
       | rfl
       | rw [m_div_pos (by omega) (by omega)]
       | rw [if_pos (by omega)]
       | rw [if_neg (by omega)])
theorem k_dims6_0 {d : Nat} {s : mSt} {a : Nat} {n m : Int} (ha : Nat.ble 10 a = true) (hg : enc s a = some (.inl (2, [.inl n, .inl m, .inr (.inr 11)])))  : Call (d + 0) 32 [.inr (.inr a)] (encA (s)) (some (.inl (1))) (encA (s)) := by
  refine CI.ex (CI.mk rfl ?_)
  show WP (d + 0) 32 0 [some (.inr (.inr a))] [] (encA (s)) _
  refine w_push rfl ?_
  refine w_retI rfl ?_
  exact ⟨rfl, rfl⟩
theorem k_kind6 {d : Nat} {s : mSt} {a : Nat} {n m : Int} (ha : Nat.ble 10 a = true) (hg : enc s a = some (.inl (2, [.inl n, .inl m, .inr (.inr 11)])))  : Call (d + 0) 23 [.inr (.inr a)] (encA (s)) (some (.inl (6))) (encA (s)) := by
  refine CI.ex (CI.mk rfl ?_)
  show WP (d + 0) 23 0 [some (.inr (.inr a))] [] (encA (s)) _
  refine w_push rfl ?_
  refine w_retI rfl ?_
  exact ⟨rfl, rfl⟩
theorem k_isOf6_0 {d : Nat} {s : mSt} {a : Nat} {n m : Int} (ha : Nat.ble 10 a = true) (hg : enc s a = some (.inl (2, [.inl n, .inl m, .inr (.inr 11)]))) {q : Int} (hq : -2147483648 ≤ q ∧ q < 2147483648) : Call (d + 0) 30 [.inr (.inr a), .inl q] (encA (s)) (some (.inl (bI (q = 0)))) (encA (s)) := by
  refine CI.ex (CI.mk rfl ?_)
  show WP (d + 0) 30 0 [some (.inr (.inr a)), some (.inl q)] [] (encA (s)) _
  refine w_ldI rfl rfl ?_
  refine w_irNe0 rfl (by omega) (fun b1 => ?_) (fun b1 => ?_)
  · first
    | (exfalso; omega)
    | (refine w_push rfl ?_
       refine w_retB rfl (by first | exact bI_01 _ | decide | omega) ?_
       refine ⟨?_, rfl⟩
       unfold bI
       first | rw [if_pos (by omega)] | rw [if_neg (by omega)])
  · first
    | (exfalso; omega)
    | (refine w_push rfl ?_
       refine w_go rfl ?_
       refine w_retB rfl (by first | exact bI_01 _ | decide | omega) ?_
       refine ⟨?_, rfl⟩
       unfold bI
       first | rw [if_pos (by omega)] | rw [if_neg (by omega)])
theorem k_isOf6_3 {d : Nat} {s : mSt} {a : Nat} {n m : Int} (ha : Nat.ble 10 a = true) (hg : enc s a = some (.inl (2, [.inl n, .inl m, .inr (.inr 11)]))) {q : Int} (hq : -2147483648 ≤ q ∧ q < 2147483648) : Call (d + 1) 81 [.inr (.inr a), .inl q] (encA (s)) (some (.inl (bI (q = 3 ∨ q = 0)))) (encA (s)) := by
  refine CI.ex (CI.mk rfl ?_)
  show WP (d + 1) 81 0 [some (.inr (.inr a)), some (.inl q)] [] (encA (s)) _
  refine w_ldI rfl rfl ?_
  refine w_push rfl ?_
  refine w_crEq rfl (by omega) (by omega) (fun b2 => ?_) (fun b2 => ?_)
  · first
    | (exfalso; omega)
    | (refine w_push rfl ?_
       refine w_go rfl ?_
       refine w_retB rfl (by first | exact bI_01 _ | decide | omega) ?_
       refine ⟨?_, rfl⟩
       unfold bI
       first | rw [if_pos (by omega)] | rw [if_neg (by omega)])
  · first
    | (exfalso; omega)
    | (refine w_ldR rfl rfl (ble_1 ha) ?_
       refine w_ldI rfl rfl ?_
       refine w_callV0 rfl rfl rfl rfl ha hg rfl (k_isOf6_0 ha hg hq) ?_
       refine w_bEq0 rfl (fun b6 => ?_) (fun b6 => ?_)
       · first
         | (exfalso; omega)
         | (refine w_push rfl ?_
            refine w_retB rfl (by first | exact bI_01 _ | decide | omega) ?_
            refine ⟨?_, rfl⟩
            unfold bI
            first | rw [if_pos (by omega)] | rw [if_neg (by omega)])
       · first
         | (exfalso; omega)
         | (refine w_push rfl ?_
            refine w_go rfl ?_
            refine w_retB rfl (by first | exact bI_01 _ | decide | omega) ?_
            refine ⟨?_, rfl⟩
            unfold bI
            first | rw [if_pos (by omega)] | rw [if_neg (by omega)]))
theorem k_isOf6_6 {d : Nat} {s : mSt} {a : Nat} {n m : Int} (ha : Nat.ble 10 a = true) (hg : enc s a = some (.inl (2, [.inl n, .inl m, .inr (.inr 11)]))) {q : Int} (hq : -2147483648 ≤ q ∧ q < 2147483648) : Call (d + 2) 24 [.inr (.inr a), .inl q] (encA (s)) (some (.inl (bI (q = 6 ∨ q = 3 ∨ q = 0)))) (encA (s)) := by
  refine CI.ex (CI.mk rfl ?_)
  show WP (d + 2) 24 0 [some (.inr (.inr a)), some (.inl q)] [] (encA (s)) _
  refine w_ldI rfl rfl ?_
  refine w_push rfl ?_
  refine w_crEq rfl (by omega) (by omega) (fun b2 => ?_) (fun b2 => ?_)
  · first
    | (exfalso; omega)
    | (refine w_push rfl ?_
       refine w_go rfl ?_
       refine w_retB rfl (by first | exact bI_01 _ | decide | omega) ?_
       refine ⟨?_, rfl⟩
       unfold bI
       first | rw [if_pos (by omega)] | rw [if_neg (by omega)])
  · first
    | (exfalso; omega)
    | (refine w_ldR rfl rfl (ble_1 ha) ?_
       refine w_ldI rfl rfl ?_
       refine w_callV0 rfl rfl rfl rfl ha hg rfl (k_isOf6_3 ha hg hq) ?_
       refine w_bEq0 rfl (fun b6 => ?_) (fun b6 => ?_)
       · first
         | (exfalso; omega)
         | (refine w_push rfl ?_
            refine w_retB rfl (by first | exact bI_01 _ | decide | omega) ?_
            refine ⟨?_, rfl⟩
            unfold bI
            first | rw [if_pos (by omega)] | rw [if_neg (by omega)])
       · first
         | (exfalso; omega)
         | (refine w_push rfl ?_
            refine w_go rfl ?_
            refine w_retB rfl (by first | exact bI_01 _ | decide | omega) ?_
            refine ⟨?_, rfl⟩
            unfold bI
            first | rw [if_pos (by omega)] | rw [if_neg (by omega)]))
theorem k_glows {d : Nat} {s : mSt} {a : Nat} {k n m : Int} (hL : LampA s a k n m) (hk : 0 ≤ k ∧ k ≤ 6) (hm : 0 ≤ m ∧ m ≤ 9) {nt : Int} (hnt : 0 ≤ nt ∧ nt ≤ 30000) : ∃ c mt, enc s a = some (.inl (c, [.inl n, .inl m, .inr (.inr 11)])) ∧ mTb [(0, 14), (1, 19), (2, 25), (3, 31), (7, 76), (8, 82), (10, 98)] c = some mt ∧ Call (d + 2) mt [.inr (.inr a), .inl nt] (encA s) (some (.inl (shK k m nt))) (encA s) := by
  obtain ⟨ha, hg⟩ := hL
  rcases (show k = 0 ∨ k = 1 ∨ k = 2 ∨ k = 3 ∨ k = 4 ∨ k = 5 ∨ k = 6 by omega) with rfl | rfl | rfl | rfl | rfl | rfl | rfl
  · exact ⟨3, 31, hg, rfl, k_glows0_0 ha hg hm hnt⟩
  · exact ⟨10, 98, hg, rfl, k_glows1_1 ha hg hm hnt⟩
  · exact ⟨1, 19, hg, rfl, k_glows2_2 ha hg hm hnt⟩
  · exact ⟨8, 82, hg, rfl, k_glows3_3 ha hg hm hnt⟩
  · exact ⟨0, 14, hg, rfl, k_glows4_4 ha hg hm hnt⟩
  · exact ⟨7, 76, hg, rfl, k_glows5_5 ha hg hm hnt⟩
  · exact ⟨2, 25, hg, rfl, k_glows6_6 ha hg hm hnt⟩
theorem k_dims {d : Nat} {s : mSt} {a : Nat} {k n m : Int} (hL : LampA s a k n m) (hk : 0 ≤ k ∧ k ≤ 6)  : ∃ c mt, enc s a = some (.inl (c, [.inl n, .inl m, .inr (.inr 11)])) ∧ mTb [(0, 32), (1, 20), (2, 32), (3, 32), (7, 77), (8, 32), (10, 32)] c = some mt ∧ Call (d + 1) mt [.inr (.inr a)] (encA s) (some (.inl (dmK k))) (encA s) := by
  obtain ⟨ha, hg⟩ := hL
  rcases (show k = 0 ∨ k = 1 ∨ k = 2 ∨ k = 3 ∨ k = 4 ∨ k = 5 ∨ k = 6 by omega) with rfl | rfl | rfl | rfl | rfl | rfl | rfl
  · exact ⟨3, 32, hg, rfl, k_dims0_0 ha hg⟩
  · exact ⟨10, 32, hg, rfl, k_dims1_0 ha hg⟩
  · exact ⟨1, 20, hg, rfl, k_dims2_2 ha hg⟩
  · exact ⟨8, 32, hg, rfl, k_dims3_0 ha hg⟩
  · exact ⟨0, 32, hg, rfl, k_dims4_0 ha hg⟩
  · exact ⟨7, 77, hg, rfl, k_dims5_5 ha hg⟩
  · exact ⟨2, 32, hg, rfl, k_dims6_0 ha hg⟩
theorem k_kind {d : Nat} {s : mSt} {a : Nat} {k n m : Int} (hL : LampA s a k n m) (hk : 0 ≤ k ∧ k ≤ 6)  : ∃ c mt, enc s a = some (.inl (c, [.inl n, .inl m, .inr (.inr 11)])) ∧ mTb [(0, 12), (1, 17), (2, 23), (3, 29), (7, 74), (8, 80), (10, 96)] c = some mt ∧ Call (d + 0) mt [.inr (.inr a)] (encA s) (some (.inl (k))) (encA s) := by
  obtain ⟨ha, hg⟩ := hL
  rcases (show k = 0 ∨ k = 1 ∨ k = 2 ∨ k = 3 ∨ k = 4 ∨ k = 5 ∨ k = 6 by omega) with rfl | rfl | rfl | rfl | rfl | rfl | rfl
  · exact ⟨3, 29, hg, rfl, k_kind0 ha hg⟩
  · exact ⟨10, 96, hg, rfl, k_kind1 ha hg⟩
  · exact ⟨1, 17, hg, rfl, k_kind2 ha hg⟩
  · exact ⟨8, 80, hg, rfl, k_kind3 ha hg⟩
  · exact ⟨0, 12, hg, rfl, k_kind4 ha hg⟩
  · exact ⟨7, 74, hg, rfl, k_kind5 ha hg⟩
  · exact ⟨2, 23, hg, rfl, k_kind6 ha hg⟩
def isF (k q : Int) : Prop := q = 0 ∨ q = k ∨ q = abv k
theorem bI_iff {p q : Prop} [Decidable p] [Decidable q] (h : p ↔ q) : bI p = bI q := by
  unfold bI
  by_cases hp : p
  · rw [if_pos hp, if_pos (h.mp hp)]
  · rw [if_neg hp, if_neg (fun hq => hp (h.mpr hq))]
theorem k_isOf {d : Nat} {s : mSt} {a : Nat} {k n m : Int} (hL : LampA s a k n m) (hk : 0 ≤ k ∧ k ≤ 6) {q : Int} (hq : -2147483648 ≤ q ∧ q < 2147483648) : ∃ c mt, enc s a = some (.inl (c, [.inl n, .inl m, .inr (.inr 11)])) ∧ mTb [(0, 13), (1, 18), (2, 24), (3, 30), (7, 75), (8, 81), (10, 97)] c = some mt ∧ Call (d + 2) mt [.inr (.inr a), .inl q] (encA s) (some (.inl (bI (q = 0 ∨ q = k ∨ q = abv k)))) (encA s) := by
  obtain ⟨ha, hg⟩ := hL
  rcases (show k = 0 ∨ k = 1 ∨ k = 2 ∨ k = 3 ∨ k = 4 ∨ k = 5 ∨ k = 6 by omega) with rfl | rfl | rfl | rfl | rfl | rfl | rfl
  · exact ⟨3, 30, hg, rfl, (bI_iff (show (q = 0) ↔ (q = 0 ∨ q = 0 ∨ q = abv 0) by unfold abv; simp; try omega)) ▸ k_isOf0_0 ha hg hq⟩
  · exact ⟨10, 97, hg, rfl, (bI_iff (show (q = 1 ∨ q = 0) ↔ (q = 0 ∨ q = 1 ∨ q = abv 1) by unfold abv; simp; try omega)) ▸ k_isOf1_1 ha hg hq⟩
  · exact ⟨1, 18, hg, rfl, (bI_iff (show (q = 2 ∨ q = 0) ↔ (q = 0 ∨ q = 2 ∨ q = abv 2) by unfold abv; simp; try omega)) ▸ k_isOf2_2 ha hg hq⟩
  · exact ⟨8, 81, hg, rfl, (bI_iff (show (q = 3 ∨ q = 0) ↔ (q = 0 ∨ q = 3 ∨ q = abv 3) by unfold abv; simp; try omega)) ▸ k_isOf3_3 ha hg hq⟩
  · exact ⟨0, 13, hg, rfl, (bI_iff (show (q = 4 ∨ q = 1 ∨ q = 0) ↔ (q = 0 ∨ q = 4 ∨ q = abv 4) by unfold abv; simp; try omega)) ▸ k_isOf4_4 ha hg hq⟩
  · exact ⟨7, 75, hg, rfl, (bI_iff (show (q = 5 ∨ q = 2 ∨ q = 0) ↔ (q = 0 ∨ q = 5 ∨ q = abv 5) by unfold abv; simp; try omega)) ▸ k_isOf5_5 ha hg hq⟩
  · exact ⟨2, 24, hg, rfl, (bI_iff (show (q = 6 ∨ q = 3 ∨ q = 0) ↔ (q = 0 ∨ q = 6 ∨ q = abv 6) by unfold abv; simp; try omega)) ▸ k_isOf6_6 ha hg hq⟩
