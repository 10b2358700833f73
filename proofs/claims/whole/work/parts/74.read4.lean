/-! ===== the text: the class's rows of signs, its small calls ===== -/
def KSt (f : Nat → Int) : List Int → Prop
  | [] => True
  | c :: q => f q.length = c ∧ KSt f q
theorem KSt.up {f g : Nat → Int} : ∀ {pe : List Int}, KSt f pe → (∀ i, i < pe.length → g i = f i) → KSt g pe
  | [], _, _ => trivial
  | c :: q, h, e => ⟨(e q.length (Nat.lt_succ_self _)).trans h.1, KSt.up h.2 (fun i hi => e i (Nat.lt_succ_of_lt hi))⟩
theorem KSt.tail {f : Nat → Int} {pe : List Int} (h : KSt f pe) : KSt f pe.tail := by
  cases pe with
  | nil => exact h
  | cons c q => exact h.2
theorem lay_g {f : Nat → Int} {C : List Int} {v : Int} (h : ∀ i : Nat, i < C.length → f i = C.getD i 0) : ∀ i : Nat, i < (C ++ [v]).length → mup f C.length v i = (C ++ [v]).getD i 0 := by
  intro i hi
  rw [len_1] at hi
  by_cases e : i = C.length
  · subst e
    rw [mup_eq, getD_r]
  · rw [mup_ne e, h i (by omega), getD_l (by omega)]
theorem cons_of {pe : List Int} (h : 0 < (pe.length : Int)) : ∃ c q, pe = c :: q ∧ pe.length = q.length + 1 := by
  cases pe with
  | nil => exact absurd h (Int.lt_irrefl 0)
  | cons c q => exact ⟨c, q, rfl, rfl⟩
theorem nil_of {pe : List Int} (h : (pe.length : Int) ≤ 0) : pe = [] := by
  cases pe with
  | nil => rfl
  | cons c q => exfalso; rw [List.length_cons] at h; omega
theorem bI_cg {p q : Prop} [Decidable p] [Decidable q] (h : p ↔ q) : bI p = bI q := by
  unfold bI
  by_cases z : q
  · rw [if_pos z, if_pos (h.mpr z)]
  · rw [if_neg z, if_neg (fun w => z (h.mp w))]
theorem wdP_len {r : Int} : ∀ (pe dr : List Int), (wdP r dr pe).1.length + (wdP r dr pe).2.length = dr.length + pe.length ∧ (wdP r dr pe).2.length ≤ pe.length ∧ ∀ c ∈ (wdP r dr pe).2, c ∈ pe
  | [], dr => ⟨rfl, Nat.le_refl _, fun _ h => h⟩
  | c :: q, dr => by
    rw [wdP]
    by_cases h : r ≤ rk c
    · rw [if_pos h]
      obtain ⟨a1, a2, a3⟩ := wdP_len (r := r) q (dr ++ [10000 + c])
      rw [len_1] at a1
      rw [List.length_cons]
      exact ⟨by omega, by omega, fun x hx => List.mem_cons_of_mem _ (a3 x hx)⟩
    · rw [if_neg h]
      exact ⟨rfl, Nat.le_refl _, fun _ h => h⟩
theorem wnP_len : ∀ (pe dr : List Int) (op : Int), (wnP dr pe op).1.length + (wnP dr pe op).2.1.length = dr.length + pe.length ∧ (wnP dr pe op).2.1.length ≤ pe.length ∧ (∀ c ∈ (wnP dr pe op).2.1, c ∈ pe) ∧ (wnP dr pe op).2.2 - ((wnP dr pe op).2.1.length : Int) = op - (pe.length : Int)
  | [], dr, op => ⟨rfl, Nat.le_refl _, fun _ h => h, rfl⟩
  | c :: q, dr, op => by
    rw [wnP]
    by_cases h : c = 33
    · rw [if_pos h]
      obtain ⟨a1, a2, a3, a4⟩ := wnP_len q (dr ++ [10033]) (op - 1)
      rw [len_1] at a1
      rw [List.length_cons]
      exact ⟨by omega, by omega, fun x hx => List.mem_cons_of_mem _ (a3 x hx), by omega⟩
    · rw [if_neg h]
      exact ⟨rfl, Nat.le_refl _, fun _ h => h, rfl⟩
theorem k_at41 {d : Nat} {s : mSt} {i : Int} (hi : -2147483648 ≤ i ∧ i < 2147483648) (hs : 0 ≤ s 41 1 ∧ s 41 1 ≤ 50) : Call (d + 0) 64 [.inr (.inr 41), .inl i] (encA (s)) (some (.inl (rowAt s 41 i))) (encA (s)) := by
  refine CI.ex (CI.mk rfl ?_)
  show WP (d + 0) 64 0 [some (.inr (.inr 41)), some (.inl i)] [] (encA (s)) _
  refine w_ldI rfl rfl ?_
  refine w_irLt0 rfl (by omega) (fun b1 => ?_) (fun b1 => ?_)
  · first
    | (exfalso; omega)
    | (refine w_push rfl ?_
       refine w_retI rfl ?_
       refine ⟨?_, rfl⟩
       unfold rowAt
       first | rw [if_pos (by omega)] | rw [if_neg (by omega)])
  · first
    | (exfalso; omega)
    | (refine w_ldI rfl rfl ?_
       refine w_ldR rfl rfl rfl ?_
       first | refine w_getI rfl rfl rfl rfl rfl ?_ | refine w_getR rfl rfl rfl rfl rfl ?_
       refine w_crGe rfl (by omega) (by omega) (fun b5 => ?_) (fun b5 => ?_)
       · first
         | (exfalso; omega)
         | (refine w_push rfl ?_
            refine w_retI rfl ?_
            refine ⟨?_, rfl⟩
            unfold rowAt
            first | rw [if_pos (by omega)] | rw [if_neg (by omega)])
       · first
         | (exfalso; omega)
         | (refine w_ldR rfl rfl rfl ?_
            first | refine w_getI rfl rfl rfl rfl rfl ?_ | refine w_getR rfl rfl rfl rfl rfl ?_
            refine w_ldI rfl rfl ?_
            refine w_ald rfl rfl rfl (by omega) rfl ?_
            refine w_go rfl ?_
            refine w_retI rfl ?_
            refine ⟨?_, rfl⟩
            unfold rowAt
            first | rw [if_pos (by omega)] | rw [if_neg (by omega)]))
theorem k_at49 {d : Nat} {s : mSt} {i : Int} (hi : -2147483648 ≤ i ∧ i < 2147483648) (hs : 0 ≤ s 49 1 ∧ s 49 1 ≤ 50) : Call (d + 0) 64 [.inr (.inr 49), .inl i] (encA (s)) (some (.inl (rowAt s 49 i))) (encA (s)) := by
  refine CI.ex (CI.mk rfl ?_)
  show WP (d + 0) 64 0 [some (.inr (.inr 49)), some (.inl i)] [] (encA (s)) _
  refine w_ldI rfl rfl ?_
  refine w_irLt0 rfl (by omega) (fun b1 => ?_) (fun b1 => ?_)
  · first
    | (exfalso; omega)
    | (refine w_push rfl ?_
       refine w_retI rfl ?_
       refine ⟨?_, rfl⟩
       unfold rowAt
       first | rw [if_pos (by omega)] | rw [if_neg (by omega)])
  · first
    | (exfalso; omega)
    | (refine w_ldI rfl rfl ?_
       refine w_ldR rfl rfl rfl ?_
       first | refine w_getI rfl rfl rfl rfl rfl ?_ | refine w_getR rfl rfl rfl rfl rfl ?_
       refine w_crGe rfl (by omega) (by omega) (fun b5 => ?_) (fun b5 => ?_)
       · first
         | (exfalso; omega)
         | (refine w_push rfl ?_
            refine w_retI rfl ?_
            refine ⟨?_, rfl⟩
            unfold rowAt
            first | rw [if_pos (by omega)] | rw [if_neg (by omega)])
       · first
         | (exfalso; omega)
         | (refine w_ldR rfl rfl rfl ?_
            first | refine w_getI rfl rfl rfl rfl rfl ?_ | refine w_getR rfl rfl rfl rfl rfl ?_
            refine w_ldI rfl rfl ?_
            refine w_ald rfl rfl rfl (by omega) rfl ?_
            refine w_go rfl ?_
            refine w_retI rfl ?_
            refine ⟨?_, rfl⟩
            unfold rowAt
            first | rw [if_pos (by omega)] | rw [if_neg (by omega)]))
theorem k_addk39 {d : Nat} {s : mSt} {v : Int} {k : Nat} (hs : s 39 1 = (k : Int)) (hk : k < 50) : CI (d + 0) 65 [.inr (.inr 39), .inl v] (s) (fun q s1 => q = 1 ∧ s1 = us (us s 40 k v) 39 1 ((k : Int) + 1)) := by
  refine CI.mk rfl ?_
  show WP (d + 0) 65 0 [some (.inr (.inr 39)), some (.inl v)] [] (encA (s)) _
  refine w_ldR rfl rfl rfl ?_
  first | refine w_getI rfl rfl rfl rfl rfl ?_ | refine w_getR rfl rfl rfl rfl rfl ?_
  rw [hs]
  refine w_ldR rfl rfl rfl ?_
  first | refine w_getI rfl rfl rfl rfl rfl ?_ | refine w_getR rfl rfl rfl rfl rfl ?_
  refine w_alen rfl rfl rfl ?_
  refine w_crLt rfl (by omega) (by omega) (fun b5 => ?_) (fun b5 => ?_)
  · first
    | (exfalso; omega)
    | (refine w_ldR rfl rfl rfl ?_
       first | refine w_getI rfl rfl rfl rfl rfl ?_ | refine w_getR rfl rfl rfl rfl rfl ?_
       refine w_ldR rfl rfl rfl ?_
       first | refine w_getI rfl rfl rfl rfl rfl ?_ | refine w_getR rfl rfl rfl rfl rfl ?_
       rw [hs]
       refine w_ldI rfl rfl ?_
       refine w_ast rfl rfl rfl (by omega) rfl ?_
       rw [Int.toNat_natCast]
       refine w_ldR rfl rfl rfl ?_
       first | refine w_dupI rfl ?_ | refine w_dupR rfl ?_
       first | refine w_getI rfl rfl rfl rfl rfl ?_ | refine w_getR rfl rfl rfl rfl rfl ?_
       rw [us_ne (by decide), hs]
       refine w_push rfl ?_
       refine w_add rfl ?_
       refine w_putI rfl rfl rfl rfl rfl rfl rfl ?_
       refine w_push rfl ?_
       refine w_retB rfl (by first | exact bI_01 _ | decide | omega) ?_
       exact ⟨rfl, rfl⟩)
  · first
    | (exfalso; omega)
    | (refine w_push rfl ?_
       refine w_retB rfl (by first | exact bI_01 _ | decide | omega) ?_
       exact ⟨rfl, rfl⟩)
theorem k_empty39 {d : Nat} {s : mSt}  : CV (d + 0) 69 [.inr (.inr 39)] (s) (fun s1 => s1 = us s 39 1 0) := by
  refine CV.mk rfl ?_
  show WP (d + 0) 69 0 [some (.inr (.inr 39))] [] (encA (s)) _
  refine w_ldR rfl rfl rfl ?_
  refine w_push rfl ?_
  refine w_putI rfl rfl rfl rfl rfl rfl rfl ?_
  refine w_retV rfl ?_
  rfl
theorem k_addk47 {d : Nat} {s : mSt} {v : Int} {k : Nat} (hs : s 47 1 = (k : Int)) (hk : k < 50) : CI (d + 0) 65 [.inr (.inr 47), .inl v] (s) (fun q s1 => q = 1 ∧ s1 = us (us s 48 k v) 47 1 ((k : Int) + 1)) := by
  refine CI.mk rfl ?_
  show WP (d + 0) 65 0 [some (.inr (.inr 47)), some (.inl v)] [] (encA (s)) _
  refine w_ldR rfl rfl rfl ?_
  first | refine w_getI rfl rfl rfl rfl rfl ?_ | refine w_getR rfl rfl rfl rfl rfl ?_
  rw [hs]
  refine w_ldR rfl rfl rfl ?_
  first | refine w_getI rfl rfl rfl rfl rfl ?_ | refine w_getR rfl rfl rfl rfl rfl ?_
  refine w_alen rfl rfl rfl ?_
  refine w_crLt rfl (by omega) (by omega) (fun b5 => ?_) (fun b5 => ?_)
  · first
    | (exfalso; omega)
    | (refine w_ldR rfl rfl rfl ?_
       first | refine w_getI rfl rfl rfl rfl rfl ?_ | refine w_getR rfl rfl rfl rfl rfl ?_
       refine w_ldR rfl rfl rfl ?_
       first | refine w_getI rfl rfl rfl rfl rfl ?_ | refine w_getR rfl rfl rfl rfl rfl ?_
       rw [hs]
       refine w_ldI rfl rfl ?_
       refine w_ast rfl rfl rfl (by omega) rfl ?_
       rw [Int.toNat_natCast]
       refine w_ldR rfl rfl rfl ?_
       first | refine w_dupI rfl ?_ | refine w_dupR rfl ?_
       first | refine w_getI rfl rfl rfl rfl rfl ?_ | refine w_getR rfl rfl rfl rfl rfl ?_
       rw [us_ne (by decide), hs]
       refine w_push rfl ?_
       refine w_add rfl ?_
       refine w_putI rfl rfl rfl rfl rfl rfl rfl ?_
       refine w_push rfl ?_
       refine w_retB rfl (by first | exact bI_01 _ | decide | omega) ?_
       exact ⟨rfl, rfl⟩)
  · first
    | (exfalso; omega)
    | (refine w_push rfl ?_
       refine w_retB rfl (by first | exact bI_01 _ | decide | omega) ?_
       exact ⟨rfl, rfl⟩)
theorem k_empty47 {d : Nat} {s : mSt}  : CV (d + 0) 69 [.inr (.inr 47)] (s) (fun s1 => s1 = us s 47 1 0) := by
  refine CV.mk rfl ?_
  show WP (d + 0) 69 0 [some (.inr (.inr 47))] [] (encA (s)) _
  refine w_ldR rfl rfl rfl ?_
  refine w_push rfl ?_
  refine w_putI rfl rfl rfl rfl rfl rfl rfl ?_
  refine w_retV rfl ?_
  rfl
theorem k_addk41 {d : Nat} {s : mSt} {v : Int} {k : Nat} (hs : s 41 1 = (k : Int)) (hk : k < 50) : CI (d + 0) 65 [.inr (.inr 41), .inl v] (s) (fun q s1 => q = 1 ∧ s1 = us (us s 42 k v) 41 1 ((k : Int) + 1)) := by
  refine CI.mk rfl ?_
  show WP (d + 0) 65 0 [some (.inr (.inr 41)), some (.inl v)] [] (encA (s)) _
  refine w_ldR rfl rfl rfl ?_
  first | refine w_getI rfl rfl rfl rfl rfl ?_ | refine w_getR rfl rfl rfl rfl rfl ?_
  rw [hs]
  refine w_ldR rfl rfl rfl ?_
  first | refine w_getI rfl rfl rfl rfl rfl ?_ | refine w_getR rfl rfl rfl rfl rfl ?_
  refine w_alen rfl rfl rfl ?_
  refine w_crLt rfl (by omega) (by omega) (fun b5 => ?_) (fun b5 => ?_)
  · first
    | (exfalso; omega)
    | (refine w_ldR rfl rfl rfl ?_
       first | refine w_getI rfl rfl rfl rfl rfl ?_ | refine w_getR rfl rfl rfl rfl rfl ?_
       refine w_ldR rfl rfl rfl ?_
       first | refine w_getI rfl rfl rfl rfl rfl ?_ | refine w_getR rfl rfl rfl rfl rfl ?_
       rw [hs]
       refine w_ldI rfl rfl ?_
       refine w_ast rfl rfl rfl (by omega) rfl ?_
       rw [Int.toNat_natCast]
       refine w_ldR rfl rfl rfl ?_
       first | refine w_dupI rfl ?_ | refine w_dupR rfl ?_
       first | refine w_getI rfl rfl rfl rfl rfl ?_ | refine w_getR rfl rfl rfl rfl rfl ?_
       rw [us_ne (by decide), hs]
       refine w_push rfl ?_
       refine w_add rfl ?_
       refine w_putI rfl rfl rfl rfl rfl rfl rfl ?_
       refine w_push rfl ?_
       refine w_retB rfl (by first | exact bI_01 _ | decide | omega) ?_
       exact ⟨rfl, rfl⟩)
  · first
    | (exfalso; omega)
    | (refine w_push rfl ?_
       refine w_retB rfl (by first | exact bI_01 _ | decide | omega) ?_
       exact ⟨rfl, rfl⟩)
theorem k_empty41 {d : Nat} {s : mSt}  : CV (d + 0) 69 [.inr (.inr 41)] (s) (fun s1 => s1 = us s 41 1 0) := by
  refine CV.mk rfl ?_
  show WP (d + 0) 69 0 [some (.inr (.inr 41))] [] (encA (s)) _
  refine w_ldR rfl rfl rfl ?_
  refine w_push rfl ?_
  refine w_putI rfl rfl rfl rfl rfl rfl rfl ?_
  refine w_retV rfl ?_
  rfl
theorem k_addk49 {d : Nat} {s : mSt} {v : Int} {k : Nat} (hs : s 49 1 = (k : Int)) (hk : k < 50) : CI (d + 0) 65 [.inr (.inr 49), .inl v] (s) (fun q s1 => q = 1 ∧ s1 = us (us s 50 k v) 49 1 ((k : Int) + 1)) := by
  refine CI.mk rfl ?_
  show WP (d + 0) 65 0 [some (.inr (.inr 49)), some (.inl v)] [] (encA (s)) _
  refine w_ldR rfl rfl rfl ?_
  first | refine w_getI rfl rfl rfl rfl rfl ?_ | refine w_getR rfl rfl rfl rfl rfl ?_
  rw [hs]
  refine w_ldR rfl rfl rfl ?_
  first | refine w_getI rfl rfl rfl rfl rfl ?_ | refine w_getR rfl rfl rfl rfl rfl ?_
  refine w_alen rfl rfl rfl ?_
  refine w_crLt rfl (by omega) (by omega) (fun b5 => ?_) (fun b5 => ?_)
  · first
    | (exfalso; omega)
    | (refine w_ldR rfl rfl rfl ?_
       first | refine w_getI rfl rfl rfl rfl rfl ?_ | refine w_getR rfl rfl rfl rfl rfl ?_
       refine w_ldR rfl rfl rfl ?_
       first | refine w_getI rfl rfl rfl rfl rfl ?_ | refine w_getR rfl rfl rfl rfl rfl ?_
       rw [hs]
       refine w_ldI rfl rfl ?_
       refine w_ast rfl rfl rfl (by omega) rfl ?_
       rw [Int.toNat_natCast]
       refine w_ldR rfl rfl rfl ?_
       first | refine w_dupI rfl ?_ | refine w_dupR rfl ?_
       first | refine w_getI rfl rfl rfl rfl rfl ?_ | refine w_getR rfl rfl rfl rfl rfl ?_
       rw [us_ne (by decide), hs]
       refine w_push rfl ?_
       refine w_add rfl ?_
       refine w_putI rfl rfl rfl rfl rfl rfl rfl ?_
       refine w_push rfl ?_
       refine w_retB rfl (by first | exact bI_01 _ | decide | omega) ?_
       exact ⟨rfl, rfl⟩)
  · first
    | (exfalso; omega)
    | (refine w_push rfl ?_
       refine w_retB rfl (by first | exact bI_01 _ | decide | omega) ?_
       exact ⟨rfl, rfl⟩)
theorem k_empty49 {d : Nat} {s : mSt}  : CV (d + 0) 69 [.inr (.inr 49)] (s) (fun s1 => s1 = us s 49 1 0) := by
  refine CV.mk rfl ?_
  show WP (d + 0) 69 0 [some (.inr (.inr 49))] [] (encA (s)) _
  refine w_ldR rfl rfl rfl ?_
  refine w_push rfl ?_
  refine w_putI rfl rfl rfl rfl rfl rfl rfl ?_
  refine w_retV rfl ?_
  rfl
theorem k_lastk41 {d : Nat} {s : mSt} {k : Nat} (hs : s 41 1 = (k : Int) + 1) (hk : k < 50) : Call (d + 1) 66 [.inr (.inr 41)] (encA (s)) (some (.inl (s 42 k))) (encA (s)) := by
  refine CI.ex (CI.mk rfl ?_)
  show WP (d + 1) 66 0 [some (.inr (.inr 41))] [] (encA (s)) _
  refine w_ldR rfl rfl rfl ?_
  refine w_ldR rfl rfl rfl ?_
  first | refine w_getI rfl rfl rfl rfl rfl ?_ | refine w_getR rfl rfl rfl rfl rfl ?_
  refine w_push rfl ?_
  refine w_sub rfl ?_
  refine w_callV rfl rfl rfl rfl rfl rfl rfl (k_at41 (by omega) (by omega)) ?_
  refine w_retI rfl ?_
  refine ⟨?_, rfl⟩
  unfold rowAt
  rw [if_pos (by omega), show (s 41 1 - 1).toNat = k by omega]
theorem k_rmlk41 {d : Nat} {s : mSt} {k : Nat} (hs : s 41 1 = (k : Int) + 1) (hk : k < 50) : CI (d + 1) 67 [.inr (.inr 41)] (s) (fun q s1 => q = s 42 k ∧ s1 = us s 41 1 (k : Int)) := by
  refine CI.mk rfl ?_
  show WP (d + 1) 67 0 [some (.inr (.inr 41)), none] [] (encA (s)) _
  refine w_ldR rfl rfl rfl ?_
  refine w_ldR rfl rfl rfl ?_
  first | refine w_getI rfl rfl rfl rfl rfl ?_ | refine w_getR rfl rfl rfl rfl rfl ?_
  refine w_push rfl ?_
  refine w_sub rfl ?_
  refine w_callV rfl rfl rfl rfl rfl rfl rfl (k_at41 (by omega) (by omega)) ?_
  refine w_StI_2_1 rfl rfl ?_
  refine w_ldR rfl rfl rfl ?_
  refine w_push rfl ?_
  refine w_ldR rfl rfl rfl ?_
  first | refine w_getI rfl rfl rfl rfl rfl ?_ | refine w_getR rfl rfl rfl rfl rfl ?_
  refine w_push rfl ?_
  refine w_sub rfl ?_
  refine w_m2 rfl rfl ?_
  rw [m_max_id (by omega) (by omega), show max 0 (s 41 1 - 1) = (k : Int) by omega]
  refine w_putI rfl rfl rfl rfl rfl rfl rfl ?_
  refine w_ldI rfl rfl ?_
  refine w_retI rfl ?_
  refine ⟨?_, rfl⟩
  unfold rowAt
  rw [if_pos (by omega), show (s 41 1 - 1).toNat = k by omega]
theorem k_rmlt41 {d : Nat} {s : mSt} {k : Nat} (hs : s 41 1 = (k : Int)) (hk : k ≤ 50) : CI (d + 1) 67 [.inr (.inr 41)] (s) (fun _ s1 => s1 = us s 41 1 ((k - 1 : Nat) : Int)) := by
  refine CI.mk rfl ?_
  show WP (d + 1) 67 0 [some (.inr (.inr 41)), none] [] (encA (s)) _
  refine w_ldR rfl rfl rfl ?_
  refine w_ldR rfl rfl rfl ?_
  first | refine w_getI rfl rfl rfl rfl rfl ?_ | refine w_getR rfl rfl rfl rfl rfl ?_
  refine w_push rfl ?_
  refine w_sub rfl ?_
  refine w_callV rfl rfl rfl rfl rfl rfl rfl (k_at41 (by omega) (by omega)) ?_
  refine w_StI_2_1 rfl rfl ?_
  refine w_ldR rfl rfl rfl ?_
  refine w_push rfl ?_
  refine w_ldR rfl rfl rfl ?_
  first | refine w_getI rfl rfl rfl rfl rfl ?_ | refine w_getR rfl rfl rfl rfl rfl ?_
  refine w_push rfl ?_
  refine w_sub rfl ?_
  refine w_m2 rfl rfl ?_
  rw [m_max_id (by omega) (by omega), show max 0 (s 41 1 - 1) = ((k - 1 : Nat) : Int) by omega]
  refine w_putI rfl rfl rfl rfl rfl rfl rfl ?_
  refine w_ldI rfl rfl ?_
  refine w_retI rfl ?_
  rfl
theorem k_lastk49 {d : Nat} {s : mSt} {k : Nat} (hs : s 49 1 = (k : Int) + 1) (hk : k < 50) : Call (d + 1) 66 [.inr (.inr 49)] (encA (s)) (some (.inl (s 50 k))) (encA (s)) := by
  refine CI.ex (CI.mk rfl ?_)
  show WP (d + 1) 66 0 [some (.inr (.inr 49))] [] (encA (s)) _
  refine w_ldR rfl rfl rfl ?_
  refine w_ldR rfl rfl rfl ?_
  first | refine w_getI rfl rfl rfl rfl rfl ?_ | refine w_getR rfl rfl rfl rfl rfl ?_
  refine w_push rfl ?_
  refine w_sub rfl ?_
  refine w_callV rfl rfl rfl rfl rfl rfl rfl (k_at49 (by omega) (by omega)) ?_
  refine w_retI rfl ?_
  refine ⟨?_, rfl⟩
  unfold rowAt
  rw [if_pos (by omega), show (s 49 1 - 1).toNat = k by omega]
theorem k_rmlk49 {d : Nat} {s : mSt} {k : Nat} (hs : s 49 1 = (k : Int) + 1) (hk : k < 50) : CI (d + 1) 67 [.inr (.inr 49)] (s) (fun q s1 => q = s 50 k ∧ s1 = us s 49 1 (k : Int)) := by
  refine CI.mk rfl ?_
  show WP (d + 1) 67 0 [some (.inr (.inr 49)), none] [] (encA (s)) _
  refine w_ldR rfl rfl rfl ?_
  refine w_ldR rfl rfl rfl ?_
  first | refine w_getI rfl rfl rfl rfl rfl ?_ | refine w_getR rfl rfl rfl rfl rfl ?_
  refine w_push rfl ?_
  refine w_sub rfl ?_
  refine w_callV rfl rfl rfl rfl rfl rfl rfl (k_at49 (by omega) (by omega)) ?_
  refine w_StI_2_1 rfl rfl ?_
  refine w_ldR rfl rfl rfl ?_
  refine w_push rfl ?_
  refine w_ldR rfl rfl rfl ?_
  first | refine w_getI rfl rfl rfl rfl rfl ?_ | refine w_getR rfl rfl rfl rfl rfl ?_
  refine w_push rfl ?_
  refine w_sub rfl ?_
  refine w_m2 rfl rfl ?_
  rw [m_max_id (by omega) (by omega), show max 0 (s 49 1 - 1) = (k : Int) by omega]
  refine w_putI rfl rfl rfl rfl rfl rfl rfl ?_
  refine w_ldI rfl rfl ?_
  refine w_retI rfl ?_
  refine ⟨?_, rfl⟩
  unfold rowAt
  rw [if_pos (by omega), show (s 49 1 - 1).toNat = k by omega]
theorem k_rmlt49 {d : Nat} {s : mSt} {k : Nat} (hs : s 49 1 = (k : Int)) (hk : k ≤ 50) : CI (d + 1) 67 [.inr (.inr 49)] (s) (fun _ s1 => s1 = us s 49 1 ((k - 1 : Nat) : Int)) := by
  refine CI.mk rfl ?_
  show WP (d + 1) 67 0 [some (.inr (.inr 49)), none] [] (encA (s)) _
  refine w_ldR rfl rfl rfl ?_
  refine w_ldR rfl rfl rfl ?_
  first | refine w_getI rfl rfl rfl rfl rfl ?_ | refine w_getR rfl rfl rfl rfl rfl ?_
  refine w_push rfl ?_
  refine w_sub rfl ?_
  refine w_callV rfl rfl rfl rfl rfl rfl rfl (k_at49 (by omega) (by omega)) ?_
  refine w_StI_2_1 rfl rfl ?_
  refine w_ldR rfl rfl rfl ?_
  refine w_push rfl ?_
  refine w_ldR rfl rfl rfl ?_
  first | refine w_getI rfl rfl rfl rfl rfl ?_ | refine w_getR rfl rfl rfl rfl rfl ?_
  refine w_push rfl ?_
  refine w_sub rfl ?_
  refine w_m2 rfl rfl ?_
  rw [m_max_id (by omega) (by omega), show max 0 (s 49 1 - 1) = ((k - 1 : Nat) : Int) by omega]
  refine w_putI rfl rfl rfl rfl rfl rfl rfl ?_
  refine w_ldI rfl rfl ?_
  refine w_retI rfl ?_
  rfl
theorem k_isDg {d : Nat} {s : mSt} {T : Nat → Int} {n : Int} {t : Pst} (hn : s 24 1 = n) (h50 : 0 ≤ n ∧ n ≤ 50) (hT : ∀ i : Nat, (i : Int) < n → s 25 i = T i) (hR : ∀ i : Nat, (i : Int) < n → 0 ≤ T i ∧ T i ≤ 255) (hp : 0 ≤ t.1 ∧ t.1 ≤ 100) (hf : t.2.1 < 0) : Call (d + 1) 41 [.inr (.inr 24), .inl t.1] (encA s) (some (.inl (bI (48 ≤ hereP T n t ∧ hereP T n t ≤ 57)))) (encA s) := by
  have k := k_isDigit (d := d) (s := s) (i := t.1) (by omega) (by omega) (fun j hj => by rw [hT j (by omega)]; exact hR j (by omega))
  rw [bI_cg (q := 48 ≤ hereP T n t ∧ hereP T n t ≤ 57) (by
    by_cases z : t.1 < n
    · rw [hereP_eq ⟨z, hf⟩, hT t.1.toNat (by omega)]
      omega
    · rw [hereP_e z]
      omega)] at k
  exact k
/-- the class's reader stands so -/
def KS35 (s : mSt) (dr pe : List Int) (op dp cm : Int) : Prop := s 39 1 = (dr.length : Int) ∧ (∀ i : Nat, i < dr.length → s 40 i = dr.getD i 0) ∧ s 41 1 = (pe.length : Int) ∧ KSt (s 42) pe ∧ s 35 5 = op ∧ s 35 6 = dp ∧ s 35 7 = cm ∧ s 35 0 = 0
theorem KS35.out {s : mSt} {dr pe : List Int} {op dp cm v : Int} (h : KS35 s dr pe op dp cm) : KS35 (us (us s 40 dr.length v) 39 1 ((dr.length : Int) + 1)) (dr ++ [v]) pe op dp cm := by
  obtain ⟨h1, h2, h3, h4, h5, h6, h7, h0⟩ := h
  refine ⟨?_, ?_, ?_, ?_, ?_, ?_, ?_, ?_⟩
  · rw [us_eq, mup_eq, len_1]; rfl
  · intro i hi
    rw [us_ne (by decide), us_eq]
    exact lay_g h2 i hi
  · rw [us_ne (by decide), us_ne (by decide)]; exact h3
  · rw [us_ne (by decide), us_ne (by decide)]; exact h4
  · rw [us_ne (by decide), us_ne (by decide)]; exact h5
  · rw [us_ne (by decide), us_ne (by decide)]; exact h6
  · rw [us_ne (by decide), us_ne (by decide)]; exact h7
  · rw [us_ne (by decide), us_ne (by decide)]; exact h0
theorem KS35.tl {s : mSt} {dr pe : List Int} {op dp cm : Int} (h : KS35 s dr pe op dp cm) : KS35 (us s 41 1 ((pe.length - 1 : Nat) : Int)) dr pe.tail op dp cm := by
  obtain ⟨h1, h2, h3, h4, h5, h6, h7, h0⟩ := h
  refine ⟨?_, ?_, ?_, ?_, ?_, ?_, ?_, ?_⟩
  · rw [us_ne (by decide)]; exact h1
  · rw [us_ne (by decide)]; exact h2
  · rw [us_eq, mup_eq, List.length_tail]
  · rw [us_ne (by decide)]; exact h4.tail
  · rw [us_ne (by decide)]; exact h5
  · rw [us_ne (by decide)]; exact h6
  · rw [us_ne (by decide)]; exact h7
  · rw [us_ne (by decide)]; exact h0
theorem KS35.drop {s : mSt} {dr q : List Int} {c op dp cm : Int} (h : KS35 s dr (c :: q) op dp cm) : KS35 (us s 41 1 (q.length : Int)) dr q op dp cm := h.tl
theorem KS35.push {s : mSt} {dr pe : List Int} {op dp cm b : Int} (h : KS35 s dr pe op dp cm) : KS35 (us (us s 42 pe.length b) 41 1 ((pe.length : Int) + 1)) dr (b :: pe) op dp cm := by
  obtain ⟨h1, h2, h3, h4, h5, h6, h7, h0⟩ := h
  refine ⟨?_, ?_, ?_, ?_, ?_, ?_, ?_, ?_⟩
  · rw [us_ne (by decide), us_ne (by decide)]; exact h1
  · rw [us_ne (by decide), us_ne (by decide)]; exact h2
  · rw [us_eq, mup_eq]; rfl
  · rw [us_ne (by decide), us_eq]
    exact ⟨mup_eq _ _ _, h4.up (fun i hi => mup_ne (by omega))⟩
  · rw [us_ne (by decide), us_ne (by decide)]; exact h5
  · rw [us_ne (by decide), us_ne (by decide)]; exact h6
  · rw [us_ne (by decide), us_ne (by decide)]; exact h7
  · rw [us_ne (by decide), us_ne (by decide)]; exact h0
theorem KS35.f5 {s : mSt} {dr pe : List Int} {op dp cm x : Int} (h : KS35 s dr pe op dp cm) : KS35 (us s 35 5 x) dr pe x dp cm := by
  obtain ⟨h1, h2, h3, h4, h5, h6, h7, h0⟩ := h
  refine ⟨?_, ?_, ?_, ?_, ?_, ?_, ?_, ?_⟩
  · rw [us_ne (by decide)]; exact h1
  · rw [us_ne (by decide)]; exact h2
  · rw [us_ne (by decide)]; exact h3
  · rw [us_ne (by decide)]; exact h4
  · rw [us_eq, mup_eq]
  · rw [us_eq, mup_ne (by decide)]; exact h6
  · rw [us_eq, mup_ne (by decide)]; exact h7
  · rw [us_eq, mup_ne (by decide)]; exact h0
theorem KS35.f6 {s : mSt} {dr pe : List Int} {op dp cm x : Int} (h : KS35 s dr pe op dp cm) : KS35 (us s 35 6 x) dr pe op x cm := by
  obtain ⟨h1, h2, h3, h4, h5, h6, h7, h0⟩ := h
  refine ⟨?_, ?_, ?_, ?_, ?_, ?_, ?_, ?_⟩
  · rw [us_ne (by decide)]; exact h1
  · rw [us_ne (by decide)]; exact h2
  · rw [us_ne (by decide)]; exact h3
  · rw [us_ne (by decide)]; exact h4
  · rw [us_eq, mup_ne (by decide)]; exact h5
  · rw [us_eq, mup_eq]
  · rw [us_eq, mup_ne (by decide)]; exact h7
  · rw [us_eq, mup_ne (by decide)]; exact h0
theorem KS35.f7 {s : mSt} {dr pe : List Int} {op dp cm x : Int} (h : KS35 s dr pe op dp cm) : KS35 (us s 35 7 x) dr pe op dp x := by
  obtain ⟨h1, h2, h3, h4, h5, h6, h7, h0⟩ := h
  refine ⟨?_, ?_, ?_, ?_, ?_, ?_, ?_, ?_⟩
  · rw [us_ne (by decide)]; exact h1
  · rw [us_ne (by decide)]; exact h2
  · rw [us_ne (by decide)]; exact h3
  · rw [us_ne (by decide)]; exact h4
  · rw [us_eq, mup_ne (by decide)]; exact h5
  · rw [us_eq, mup_ne (by decide)]; exact h6
  · rw [us_eq, mup_eq]
  · rw [us_eq, mup_ne (by decide)]; exact h0
theorem l_wd35 {d : Nat} {s : mSt} {P : mSt → Prop} {r : Int} (hr : -2147483648 ≤ r ∧ r < 2147483648) (dr pe : List Int) (op dp cm : Int) (hK : KS35 s dr pe op dp cm) (hl : dr.length + pe.length ≤ 50) (hb : ∀ c ∈ pe, 0 ≤ c ∧ c ≤ 255) (kk : ∀ s1, KS35 s1 (wdP (max 1 r) dr pe).1 (wdP (max 1 r) dr pe).2 op dp cm → Fr [39, 40, 41] s s1 → P s1) : WP (d + 2) 47 0 [some (.inr (.inr 35)), some (.inl r)] [] (encA (s)) (QV P) := by
  obtain ⟨h1, h2, h3, h4, h5, h6, h7, h0⟩ := id hK
  refine w_ldR rfl rfl rfl ?_
  first | refine w_getI rfl rfl rfl rfl rfl ?_ | refine w_getR rfl rfl rfl rfl rfl ?_
  first | refine w_getI rfl rfl rfl rfl rfl ?_ | refine w_getR rfl rfl rfl rfl rfl ?_
  rw [h3]
  refine w_irLe0 rfl (by omega) (fun b3 => ?_) (fun b3 => ?_)
  · first
    | (exfalso; omega)
    | (refine w_retV rfl ?_
       first
       | (have e0 := nil_of b3
          refine kk s ?_ Fr.rf
          rw [e0] at hK ⊢
          exact hK)
       | (refine kk s ?_ Fr.rf
          rw [he, wdP, if_neg (by omega)]
          exact hK2))
  · first
    | (exfalso; omega)
    | (obtain ⟨c, q, he, hlen⟩ := cons_of b3
       have hK2 := hK
       rw [he] at hK2 h4
       obtain ⟨h4a, h4b⟩ := h4
       have hc := hb c (by rw [he]; exact List.mem_cons_self ..)
       have hrk := rk_rng c
       refine w_ldR rfl rfl rfl ?_
       first | refine w_getI rfl rfl rfl rfl rfl ?_ | refine w_getR rfl rfl rfl rfl rfl ?_
       refine w_callV rfl rfl rfl rfl rfl rfl rfl (k_lastk41 (k := q.length) (by omega) (by omega)) ?_
       rw [h4a]
       refine w_call rfl rfl rfl (k_rank (by omega)) ?_
       refine w_push rfl ?_
       refine w_ldI rfl rfl ?_
       refine w_m2 rfl rfl ?_
       rw [m_max_id (by omega) (by omega)]
       refine w_crLt rfl (by omega) (by omega) (fun b11 => ?_) (fun b11 => ?_)
       · first
         | (exfalso; omega)
         | (refine w_retV rfl ?_
            first
            | (have e0 := nil_of b3
               refine kk s ?_ Fr.rf
               rw [e0] at hK ⊢
               exact hK)
            | (refine kk s ?_ Fr.rf
               rw [he, wdP, if_neg (by omega)]
               exact hK2))
       · first
         | (exfalso; omega)
         | (refine w_ldR rfl rfl rfl ?_
            first | refine w_getI rfl rfl rfl rfl rfl ?_ | refine w_getR rfl rfl rfl rfl rfl ?_
            refine w_push rfl ?_
            refine w_ldR rfl rfl rfl ?_
            first | refine w_getI rfl rfl rfl rfl rfl ?_ | refine w_getR rfl rfl rfl rfl rfl ?_
            refine w_callWI rfl rfl rfl rfl rfl rfl rfl (k_rmlk41 (k := q.length) (by omega) (by omega)) (fun v17 s17 p17 => ?_)
            obtain ⟨rfl, rfl⟩ := p17
            rw [h4a]
            refine w_add rfl ?_
            refine w_callWI rfl rfl rfl rfl rfl rfl rfl (k_addk39 (k := dr.length) (by rw [us_ne (by decide)]; exact h1) (by omega)) (fun v19 s19 p19 => ?_)
            obtain ⟨rfl, rfl⟩ := p19
            refine w_popI rfl ?_
            refine w_go rfl ?_
            exact l_wd35 hr (dr ++ [10000 + c]) q op dp cm hK2.drop.out (by rw [len_1]; omega) (fun x hx => hb x (by rw [he]; exact List.mem_cons_of_mem _ hx)) (fun s1 k f => kk s1 (by rw [he, wdP, if_pos (by omega)]; exact k) (Fr.tr (Fr.tr (Fr.tr (Fr.us rfl) (Fr.us rfl)) (Fr.us rfl)) f))))
termination_by pe.length
decreasing_by all_goals omega
theorem k_wd35 {d : Nat} {s : mSt} {r : Int} (hr : -2147483648 ≤ r ∧ r < 2147483648) {dr pe : List Int} {op dp cm : Int} (hK : KS35 s dr pe op dp cm) (hl : dr.length + pe.length ≤ 50) (hb : ∀ c ∈ pe, 0 ≤ c ∧ c ≤ 255) : CV (d + 2) 47 [.inr (.inr 35), .inl r] s (fun s1 => KS35 s1 (wdP (max 1 r) dr pe).1 (wdP (max 1 r) dr pe).2 op dp cm ∧ Fr [39, 40, 41] s s1) := by
  refine CV.mk rfl ?_
  show WP (d + 2) 47 0 [some (.inr (.inr 35)), some (.inl r)] [] (encA s) _
  exact l_wd35 hr dr pe op dp cm hK hl hb (fun s1 k f => ⟨k, f⟩)
theorem l_wn35 {d : Nat} {s : mSt} {P : mSt → Prop} (dr pe : List Int) (op dp cm : Int) (hK : KS35 s dr pe op dp cm) (hl : dr.length + pe.length ≤ 50) (hb : ∀ c ∈ pe, 0 ≤ c ∧ c ≤ 255) (kk : ∀ s1, KS35 s1 (wnP dr pe op).1 (wnP dr pe op).2.1 (wnP dr pe op).2.2 dp cm → Fr [35, 39, 40, 41] s s1 → P s1) : WP (d + 2) 48 0 [some (.inr (.inr 35))] [] (encA (s)) (QV P) := by
  obtain ⟨h1, h2, h3, h4, h5, h6, h7, h0⟩ := id hK
  refine w_ldR rfl rfl rfl ?_
  first | refine w_getI rfl rfl rfl rfl rfl ?_ | refine w_getR rfl rfl rfl rfl rfl ?_
  first | refine w_getI rfl rfl rfl rfl rfl ?_ | refine w_getR rfl rfl rfl rfl rfl ?_
  rw [h3]
  refine w_irLe0 rfl (by omega) (fun b3 => ?_) (fun b3 => ?_)
  · first
    | (exfalso; omega)
    | (refine w_retV rfl ?_
       first
       | (have e0 := nil_of b3
          refine kk s ?_ Fr.rf
          rw [e0] at hK ⊢
          exact hK)
       | (refine kk s ?_ Fr.rf
          rw [he, wnP, if_neg (by omega)]
          exact hK2))
  · first
    | (exfalso; omega)
    | (obtain ⟨c, q, he, hlen⟩ := cons_of b3
       have hK2 := hK
       rw [he] at hK2 h4
       obtain ⟨h4a, h4b⟩ := h4
       have hc := hb c (by rw [he]; exact List.mem_cons_self ..)
       have hrk := rk_rng c
       refine w_ldR rfl rfl rfl ?_
       first | refine w_getI rfl rfl rfl rfl rfl ?_ | refine w_getR rfl rfl rfl rfl rfl ?_
       refine w_callV rfl rfl rfl rfl rfl rfl rfl (k_lastk41 (k := q.length) (by omega) (by omega)) ?_
       rw [h4a]
       refine w_push rfl ?_
       refine w_crNe rfl (by omega) (by omega) (fun b8 => ?_) (fun b8 => ?_)
       · first
         | (exfalso; omega)
         | (refine w_retV rfl ?_
            first
            | (have e0 := nil_of b3
               refine kk s ?_ Fr.rf
               rw [e0] at hK ⊢
               exact hK)
            | (refine kk s ?_ Fr.rf
               rw [he, wnP, if_neg (by omega)]
               exact hK2))
       · first
         | (exfalso; omega)
         | (refine w_ldR rfl rfl rfl ?_
            first | refine w_getI rfl rfl rfl rfl rfl ?_ | refine w_getR rfl rfl rfl rfl rfl ?_
            refine w_push rfl ?_
            refine w_ldR rfl rfl rfl ?_
            first | refine w_getI rfl rfl rfl rfl rfl ?_ | refine w_getR rfl rfl rfl rfl rfl ?_
            refine w_callWI rfl rfl rfl rfl rfl rfl rfl (k_rmlk41 (k := q.length) (by omega) (by omega)) (fun v14 s14 p14 => ?_)
            obtain ⟨rfl, rfl⟩ := p14
            rw [h4a]
            refine w_add rfl ?_
            refine w_callWI rfl rfl rfl rfl rfl rfl rfl (k_addk39 (k := dr.length) (by rw [us_ne (by decide)]; exact h1) (by omega)) (fun v16 s16 p16 => ?_)
            obtain ⟨rfl, rfl⟩ := p16
            refine w_popI rfl ?_
            refine w_ldR rfl rfl rfl ?_
            first | refine w_dupI rfl ?_ | refine w_dupR rfl ?_
            first | refine w_getI rfl rfl rfl rfl rfl ?_ | refine w_getR rfl rfl rfl rfl rfl ?_
            rw [us_ne (by decide), us_ne (by decide), us_ne (by decide), h5]
            refine w_push rfl ?_
            refine w_sub rfl ?_
            refine w_putI rfl rfl rfl rfl rfl rfl rfl ?_
            refine w_go rfl ?_
            exact l_wn35 (dr ++ [10000 + c]) q (op - 1) dp cm hK2.drop.out.f5 (by rw [len_1]; omega) (fun x hx => hb x (by rw [he]; exact List.mem_cons_of_mem _ hx)) (fun s1 k f => kk s1 (by rw [he, wnP, if_pos (by omega), show (10033 : Int) = 10000 + c by omega]; exact k) (Fr.tr (Fr.tr (Fr.tr (Fr.tr (Fr.us rfl) (Fr.us rfl)) (Fr.us rfl)) (Fr.us rfl)) f))))
termination_by pe.length
decreasing_by all_goals omega
theorem k_wn35 {d : Nat} {s : mSt} {dr pe : List Int} {op dp cm : Int} (hK : KS35 s dr pe op dp cm) (hl : dr.length + pe.length ≤ 50) (hb : ∀ c ∈ pe, 0 ≤ c ∧ c ≤ 255) : CV (d + 2) 48 [.inr (.inr 35)] s (fun s1 => KS35 s1 (wnP dr pe op).1 (wnP dr pe op).2.1 (wnP dr pe op).2.2 dp cm ∧ Fr [35, 39, 40, 41] s s1) := by
  refine CV.mk rfl ?_
  show WP (d + 2) 48 0 [some (.inr (.inr 35))] [] (encA s) _
  exact l_wn35 dr pe op dp cm hK hl hb (fun s1 k f => ⟨k, f⟩)
theorem l_tk35 {d : Nat} {s : mSt} {Q : mQ} {T : Nat → Int} {n p : Int} (hn : s 24 1 = n) (h50 : 0 ≤ n ∧ n ≤ 50) (hT : ∀ i : Nat, (i : Int) < n → s 25 i = T i) (hR : ∀ i : Nat, (i : Int) < n → 0 ≤ T i ∧ T i ≤ 255) (hp : 0 ≤ p ∧ p < n) (k : Nat) (t : Pst) (v kk : Int) (hkk : kk = (k : Int)) (hk : k ≤ 4) (ht : t.1 = p + (k : Int)) (hf : t.2.1 < 0) (hQ : ∀ k2 : Int, k2 = (dgP T n (4 - k) t v).1.1 - p → WP (d + 5) 40 27 [some (.inr (.inr 35)), some (.inr (.inr 24)), some (.inl p), some (.inl ((dgP T n (4 - k) t v).2)), some (.inl k2), none] [] (encA (s)) (Q)) : WP (d + 5) 40 4 [some (.inr (.inr 35)), some (.inr (.inr 24)), some (.inl p), some (.inl v), some (.inl kk), none] [] (encA (s)) (Q) := by
  subst hkk
  refine w_ldI rfl rfl ?_
  refine w_push rfl ?_
  refine w_crGe rfl (by omega) (by omega) (fun b6 => ?_) (fun b6 => ?_)
  · first
    | (exfalso; omega)
    | (first
       | (rw [dg_no b12] at hQ
          exact hQ _ (by show (k : Int) = t.1 - p; omega))
       | (obtain rfl : k = 4 := by omega
          exact hQ _ (by show ((4 : Nat) : Int) = t.1 - p; omega)))
  · first
    | (exfalso; omega)
    | (refine w_ldR rfl rfl rfl ?_
       refine w_ldI rfl rfl ?_
       refine w_ldI rfl rfl ?_
       refine w_add rfl ?_
       rw [show p + (k : Int) = t.1 by omega]
       refine w_call rfl rfl rfl (k_isDg hn h50 hT hR (by omega) hf) ?_
       refine w_bEq0 rfl (fun b12 => ?_) (fun b12 => ?_)
       · first
         | (exfalso; omega)
         | (first
            | (rw [dg_no b12] at hQ
               exact hQ _ (by show (k : Int) = t.1 - p; omega))
            | (obtain rfl : k = 4 := by omega
               exact hQ _ (by show ((4 : Nat) : Int) = t.1 - p; omega)))
       · first
         | (exfalso; omega)
         | (have hlt := here_lt (T := T) (n := n) (t := t) (by omega)
            rw [dg_yes (by omega) b12] at hQ
            refine w_push rfl ?_
            refine w_ldI rfl rfl ?_
            refine w_mul rfl ?_
            refine w_ldR rfl rfl rfl ?_
            refine w_ldI rfl rfl ?_
            refine w_ldI rfl rfl ?_
            refine w_add rfl ?_
            rw [show p + (k : Int) = t.1 by omega]
            refine w_callV rfl rfl rfl rfl rfl rfl rfl (k_at24 (by omega) (by omega)) ?_
            rw [show rowAt s 24 t.1 = hereP T n t from (if_pos (by omega)).trans ((hT _ (by omega)).trans (hereP_eq hlt).symm)]
            refine w_add rfl ?_
            refine w_push rfl ?_
            refine w_sub rfl ?_
            refine w_StI_6_3 rfl rfl ?_
            refine w_inc_6_4 rfl rfl ?_
            refine w_go rfl ?_
            exact l_tk35 hn h50 hT hR hp (k + 1) (advP 1 t) _ ((k : Int) + 1) (by omega) (by omega) (by show t.1 + 1 = p + ((k + 1 : Nat) : Int); omega) hf hQ))
termination_by 4 - k
decreasing_by all_goals omega
theorem z_tk35 {d : Nat} {s : mSt} {P : Int → mSt → Prop} {T : Nat → Int} {n p : Int} (hn : s 24 1 = n) (h50 : 0 ≤ n ∧ n ≤ 50) (hT : ∀ i : Nat, (i : Int) < n → s 25 i = T i) (hR : ∀ i : Nat, (i : Int) < n → 0 ≤ T i ∧ T i ≤ 255) (hp : 0 ≤ p ∧ p < n) {v kd : Int} (hkd : 0 ≤ kd ∧ kd ≤ 4) {dr pe : List Int} {op dp cm : Int} (hK : KS35 s dr pe op dp cm) (hu : s 35 0 = 0) (hl : dr.length + pe.length < 50) (hb : ∀ c ∈ pe, 0 ≤ c ∧ c ≤ 255) (a0 : ¬ (0 < kd ∨ 0 ≤ nmF 0 (T p.toNat)) → P 0 s) (a1 : (0 < kd ∨ 0 ≤ nmF 0 (T p.toNat)) → ∀ s1, KS35 s1 (wnP (dr ++ [(if 0 < kd then v else -1 - nmF 0 (T p.toNat))]) pe op).1 (wnP (dr ++ [(if 0 < kd then v else -1 - nmF 0 (T p.toNat))]) pe op).2.1 (wnP (dr ++ [(if 0 < kd then v else -1 - nmF 0 (T p.toNat))]) pe op).2.2 dp cm → Fr [35, 39, 40, 41] s s1 → P (if 0 < kd then kd else 1) s1) : WP (d + 5) 40 27 [some (.inr (.inr 35)), some (.inr (.inr 24)), some (.inl p), some (.inl (v)), some (.inl kd), none] [] (encA (s)) (QI P) := by
  have hTp := hR p.toNat (by omega)
  have hnr := nmF_rng 0 (T p.toNat)
  refine w_ldR rfl rfl rfl ?_
  refine w_ldR rfl rfl rfl ?_
  refine w_ldI rfl rfl ?_
  refine w_callV rfl rfl rfl rfl rfl rfl rfl (k_at24 (by omega) (by omega)) ?_
  rw [show rowAt s 24 p = T p.toNat from (if_pos (by omega)).trans (hT _ (by omega))]
  refine w_callV rfl rfl rfl rfl rfl rfl rfl (k_name35 (by omega) hu) ?_
  refine w_StI_6_5 rfl rfl ?_
  refine w_ldI rfl rfl ?_
  refine w_irNe0 rfl (by omega) (fun b34 => ?_) (fun b34 => ?_)
  · first
    | (exfalso; omega)
    | (refine w_ldR rfl rfl rfl ?_
       first | refine w_getI rfl rfl rfl rfl rfl ?_ | refine w_getR rfl rfl rfl rfl rfl ?_
       refine w_ldI rfl rfl ?_
       refine w_irLe0 rfl (by omega) (fun b42 => ?_) (fun b42 => ?_)
       · first
         | (exfalso; omega)
         | (have ex : (if 0 < kd then v else -1 - nmF 0 (T p.toNat)) = -1 - nmF 0 (T p.toNat) := if_neg (by omega)
            refine w_push rfl ?_
            refine w_ldI rfl rfl ?_
            refine w_sub rfl ?_
            refine w_callWI rfl rfl rfl rfl rfl rfl rfl (k_addk39 (k := dr.length) hK.1 (by omega)) (fun v48 s48 p48 => ?_)
            obtain ⟨rfl, rfl⟩ := p48
            refine w_popI rfl ?_
            refine w_ldR rfl rfl rfl ?_
            refine w_callWN rfl rfl rfl rfl rfl rfl rfl (k_wn35 hK.out (by rw [len_1]; omega) hb) (fun s51 p51 => ?_)
            obtain ⟨gK, gF⟩ := p51
            refine w_push rfl ?_
            refine w_ldI rfl rfl ?_
            refine w_m2 rfl rfl ?_
            refine w_retI rfl ?_
            rw [m_max_id (by omega) (by omega), show max 1 kd = (if 0 < kd then kd else 1) by split <;> omega]
            exact a1 (by omega) _ (by rw [ex]; exact gK) (Fr.tr (Fr.tr (Fr.us rfl) (Fr.us rfl)) gF))
       · first
         | (exfalso; omega)
         | (have ex : (if 0 < kd then v else -1 - nmF 0 (T p.toNat)) = v := if_pos (by omega)
            refine w_ldI rfl rfl ?_
            refine w_go rfl ?_
            refine w_callWI rfl rfl rfl rfl rfl rfl rfl (k_addk39 (k := dr.length) hK.1 (by omega)) (fun v48 s48 p48 => ?_)
            obtain ⟨rfl, rfl⟩ := p48
            refine w_popI rfl ?_
            refine w_ldR rfl rfl rfl ?_
            refine w_callWN rfl rfl rfl rfl rfl rfl rfl (k_wn35 hK.out (by rw [len_1]; omega) hb) (fun s51 p51 => ?_)
            obtain ⟨gK, gF⟩ := p51
            refine w_push rfl ?_
            refine w_ldI rfl rfl ?_
            refine w_m2 rfl rfl ?_
            refine w_retI rfl ?_
            rw [m_max_id (by omega) (by omega), show max 1 kd = (if 0 < kd then kd else 1) by split <;> omega]
            exact a1 (by omega) _ (by rw [ex]; exact gK) (Fr.tr (Fr.tr (Fr.us rfl) (Fr.us rfl)) gF)))
  · first
    | (exfalso; omega)
    | (refine w_ldI rfl rfl ?_
       refine w_irGe0 rfl (by omega) (fun b36 => ?_) (fun b36 => ?_)
       · first
         | (exfalso; omega)
         | (refine w_ldR rfl rfl rfl ?_
            first | refine w_getI rfl rfl rfl rfl rfl ?_ | refine w_getR rfl rfl rfl rfl rfl ?_
            refine w_ldI rfl rfl ?_
            refine w_irLe0 rfl (by omega) (fun b42 => ?_) (fun b42 => ?_)
            · first
              | (exfalso; omega)
              | (have ex : (if 0 < kd then v else -1 - nmF 0 (T p.toNat)) = -1 - nmF 0 (T p.toNat) := if_neg (by omega)
                 refine w_push rfl ?_
                 refine w_ldI rfl rfl ?_
                 refine w_sub rfl ?_
                 refine w_callWI rfl rfl rfl rfl rfl rfl rfl (k_addk39 (k := dr.length) hK.1 (by omega)) (fun v48 s48 p48 => ?_)
                 obtain ⟨rfl, rfl⟩ := p48
                 refine w_popI rfl ?_
                 refine w_ldR rfl rfl rfl ?_
                 refine w_callWN rfl rfl rfl rfl rfl rfl rfl (k_wn35 hK.out (by rw [len_1]; omega) hb) (fun s51 p51 => ?_)
                 obtain ⟨gK, gF⟩ := p51
                 refine w_push rfl ?_
                 refine w_ldI rfl rfl ?_
                 refine w_m2 rfl rfl ?_
                 refine w_retI rfl ?_
                 rw [m_max_id (by omega) (by omega), show max 1 kd = (if 0 < kd then kd else 1) by split <;> omega]
                 exact a1 (by omega) _ (by rw [ex]; exact gK) (Fr.tr (Fr.tr (Fr.us rfl) (Fr.us rfl)) gF))
            · first
              | (exfalso; omega)
              | (have ex : (if 0 < kd then v else -1 - nmF 0 (T p.toNat)) = v := if_pos (by omega)
                 refine w_ldI rfl rfl ?_
                 refine w_go rfl ?_
                 refine w_callWI rfl rfl rfl rfl rfl rfl rfl (k_addk39 (k := dr.length) hK.1 (by omega)) (fun v48 s48 p48 => ?_)
                 obtain ⟨rfl, rfl⟩ := p48
                 refine w_popI rfl ?_
                 refine w_ldR rfl rfl rfl ?_
                 refine w_callWN rfl rfl rfl rfl rfl rfl rfl (k_wn35 hK.out (by rw [len_1]; omega) hb) (fun s51 p51 => ?_)
                 obtain ⟨gK, gF⟩ := p51
                 refine w_push rfl ?_
                 refine w_ldI rfl rfl ?_
                 refine w_m2 rfl rfl ?_
                 refine w_retI rfl ?_
                 rw [m_max_id (by omega) (by omega), show max 1 kd = (if 0 < kd then kd else 1) by split <;> omega]
                 exact a1 (by omega) _ (by rw [ex]; exact gK) (Fr.tr (Fr.tr (Fr.us rfl) (Fr.us rfl)) gF)))
       · first
         | (exfalso; omega)
         | (refine w_push rfl ?_
            refine w_retI rfl ?_
            exact a0 (by omega)))
theorem k_tk35 {d : Nat} {s : mSt} {T : Nat → Int} {n p : Int} (hn : s 24 1 = n) (h50 : 0 ≤ n ∧ n ≤ 50) (hT : ∀ i : Nat, (i : Int) < n → s 25 i = T i) (hR : ∀ i : Nat, (i : Int) < n → 0 ≤ T i ∧ T i ≤ 255) (hp : 0 ≤ p ∧ p < n) {dr pe : List Int} {op dp cm : Int} (hK : KS35 s dr pe op dp cm) (hu : s 35 0 = 0) (hl : dr.length + pe.length < 50) (hb : ∀ c ∈ pe, 0 ≤ c ∧ c ≤ 255) : CI (d + 5) 40 [.inr (.inr 35), .inr (.inr 24), .inl p] (s) (fun r s1 => (¬ (0 < dkK T n p ∨ 0 ≤ nmF 0 (T p.toNat)) → r = 0 ∧ s = s1) ∧ ((0 < dkK T n p ∨ 0 ≤ nmF 0 (T p.toNat)) → r = odP T n p ∧ KS35 s1 (wnP (dr ++ [odK T n 0 p]) pe op).1 (wnP (dr ++ [odK T n 0 p]) pe op).2.1 (wnP (dr ++ [odK T n 0 p]) pe op).2.2 dp cm ∧ Fr [35, 39, 40, 41] s s1)) := by
  refine CI.mk rfl ?_
  show WP (d + 5) 40 0 [some (.inr (.inr 35)), some (.inr (.inr 24)), some (.inl p), none, none, none] [] (encA (s)) _
  refine w_push rfl ?_
  refine w_StI_6_3 rfl rfl ?_
  refine w_push rfl ?_
  refine w_StI_6_4 rfl rfl ?_
  obtain ⟨w1, w2, w3⟩ := dg_rng (T := T) (n := n) 4 (p, -1, 0, []) 0 (by show p ≤ n; omega)
  have w1 : p ≤ (dgP T n 4 (p, -1, 0, []) 0).1.1 := w1
  have w3 : (dgP T n 4 (p, -1, 0, []) 0).1.1 ≤ p + 4 := w3
  refine l_tk35 hn h50 hT hR hp 0 (p, -1, 0, []) 0 0 rfl (by omega) (by show p = p + ((0 : Nat) : Int); omega) (by show (-1 : Int) < 0; omega) (fun k2 e => ?_)
  have e : k2 = dkK T n p := e
  subst e
  refine z_tk35 hn h50 hT hR hp (by unfold dkK; omega) hK hu hl hb (fun z => ⟨fun _ => ⟨rfl, rfl⟩, fun w => absurd w z⟩) (fun z s1 gK gF => ⟨fun w => absurd z w, fun _ => ⟨rfl, gK, gF⟩⟩)
/-- the class's reader stands so -/
def KS43 (s : mSt) (dr pe : List Int) (op dp cm : Int) : Prop := s 47 1 = (dr.length : Int) ∧ (∀ i : Nat, i < dr.length → s 48 i = dr.getD i 0) ∧ s 49 1 = (pe.length : Int) ∧ KSt (s 50) pe ∧ s 43 5 = op ∧ s 43 6 = dp ∧ s 43 7 = cm ∧ s 43 0 = 1
theorem KS43.out {s : mSt} {dr pe : List Int} {op dp cm v : Int} (h : KS43 s dr pe op dp cm) : KS43 (us (us s 48 dr.length v) 47 1 ((dr.length : Int) + 1)) (dr ++ [v]) pe op dp cm := by
  obtain ⟨h1, h2, h3, h4, h5, h6, h7, h0⟩ := h
  refine ⟨?_, ?_, ?_, ?_, ?_, ?_, ?_, ?_⟩
  · rw [us_eq, mup_eq, len_1]; rfl
  · intro i hi
    rw [us_ne (by decide), us_eq]
    exact lay_g h2 i hi
  · rw [us_ne (by decide), us_ne (by decide)]; exact h3
  · rw [us_ne (by decide), us_ne (by decide)]; exact h4
  · rw [us_ne (by decide), us_ne (by decide)]; exact h5
  · rw [us_ne (by decide), us_ne (by decide)]; exact h6
  · rw [us_ne (by decide), us_ne (by decide)]; exact h7
  · rw [us_ne (by decide), us_ne (by decide)]; exact h0
theorem KS43.tl {s : mSt} {dr pe : List Int} {op dp cm : Int} (h : KS43 s dr pe op dp cm) : KS43 (us s 49 1 ((pe.length - 1 : Nat) : Int)) dr pe.tail op dp cm := by
  obtain ⟨h1, h2, h3, h4, h5, h6, h7, h0⟩ := h
  refine ⟨?_, ?_, ?_, ?_, ?_, ?_, ?_, ?_⟩
  · rw [us_ne (by decide)]; exact h1
  · rw [us_ne (by decide)]; exact h2
  · rw [us_eq, mup_eq, List.length_tail]
  · rw [us_ne (by decide)]; exact h4.tail
  · rw [us_ne (by decide)]; exact h5
  · rw [us_ne (by decide)]; exact h6
  · rw [us_ne (by decide)]; exact h7
  · rw [us_ne (by decide)]; exact h0
theorem KS43.drop {s : mSt} {dr q : List Int} {c op dp cm : Int} (h : KS43 s dr (c :: q) op dp cm) : KS43 (us s 49 1 (q.length : Int)) dr q op dp cm := h.tl
theorem KS43.push {s : mSt} {dr pe : List Int} {op dp cm b : Int} (h : KS43 s dr pe op dp cm) : KS43 (us (us s 50 pe.length b) 49 1 ((pe.length : Int) + 1)) dr (b :: pe) op dp cm := by
  obtain ⟨h1, h2, h3, h4, h5, h6, h7, h0⟩ := h
  refine ⟨?_, ?_, ?_, ?_, ?_, ?_, ?_, ?_⟩
  · rw [us_ne (by decide), us_ne (by decide)]; exact h1
  · rw [us_ne (by decide), us_ne (by decide)]; exact h2
  · rw [us_eq, mup_eq]; rfl
  · rw [us_ne (by decide), us_eq]
    exact ⟨mup_eq _ _ _, h4.up (fun i hi => mup_ne (by omega))⟩
  · rw [us_ne (by decide), us_ne (by decide)]; exact h5
  · rw [us_ne (by decide), us_ne (by decide)]; exact h6
  · rw [us_ne (by decide), us_ne (by decide)]; exact h7
  · rw [us_ne (by decide), us_ne (by decide)]; exact h0
theorem KS43.f5 {s : mSt} {dr pe : List Int} {op dp cm x : Int} (h : KS43 s dr pe op dp cm) : KS43 (us s 43 5 x) dr pe x dp cm := by
  obtain ⟨h1, h2, h3, h4, h5, h6, h7, h0⟩ := h
  refine ⟨?_, ?_, ?_, ?_, ?_, ?_, ?_, ?_⟩
  · rw [us_ne (by decide)]; exact h1
  · rw [us_ne (by decide)]; exact h2
  · rw [us_ne (by decide)]; exact h3
  · rw [us_ne (by decide)]; exact h4
  · rw [us_eq, mup_eq]
  · rw [us_eq, mup_ne (by decide)]; exact h6
  · rw [us_eq, mup_ne (by decide)]; exact h7
  · rw [us_eq, mup_ne (by decide)]; exact h0
theorem KS43.f6 {s : mSt} {dr pe : List Int} {op dp cm x : Int} (h : KS43 s dr pe op dp cm) : KS43 (us s 43 6 x) dr pe op x cm := by
  obtain ⟨h1, h2, h3, h4, h5, h6, h7, h0⟩ := h
  refine ⟨?_, ?_, ?_, ?_, ?_, ?_, ?_, ?_⟩
  · rw [us_ne (by decide)]; exact h1
  · rw [us_ne (by decide)]; exact h2
  · rw [us_ne (by decide)]; exact h3
  · rw [us_ne (by decide)]; exact h4
  · rw [us_eq, mup_ne (by decide)]; exact h5
  · rw [us_eq, mup_eq]
  · rw [us_eq, mup_ne (by decide)]; exact h7
  · rw [us_eq, mup_ne (by decide)]; exact h0
theorem KS43.f7 {s : mSt} {dr pe : List Int} {op dp cm x : Int} (h : KS43 s dr pe op dp cm) : KS43 (us s 43 7 x) dr pe op dp x := by
  obtain ⟨h1, h2, h3, h4, h5, h6, h7, h0⟩ := h
  refine ⟨?_, ?_, ?_, ?_, ?_, ?_, ?_, ?_⟩
  · rw [us_ne (by decide)]; exact h1
  · rw [us_ne (by decide)]; exact h2
  · rw [us_ne (by decide)]; exact h3
  · rw [us_ne (by decide)]; exact h4
  · rw [us_eq, mup_ne (by decide)]; exact h5
  · rw [us_eq, mup_ne (by decide)]; exact h6
  · rw [us_eq, mup_eq]
  · rw [us_eq, mup_ne (by decide)]; exact h0
theorem l_wd43 {d : Nat} {s : mSt} {P : mSt → Prop} {r : Int} (hr : -2147483648 ≤ r ∧ r < 2147483648) (dr pe : List Int) (op dp cm : Int) (hK : KS43 s dr pe op dp cm) (hl : dr.length + pe.length ≤ 50) (hb : ∀ c ∈ pe, 0 ≤ c ∧ c ≤ 255) (kk : ∀ s1, KS43 s1 (wdP (max 1 r) dr pe).1 (wdP (max 1 r) dr pe).2 op dp cm → Fr [47, 48, 49] s s1 → P s1) : WP (d + 2) 47 0 [some (.inr (.inr 43)), some (.inl r)] [] (encA (s)) (QV P) := by
  obtain ⟨h1, h2, h3, h4, h5, h6, h7, h0⟩ := id hK
  refine w_ldR rfl rfl rfl ?_
  first | refine w_getI rfl rfl rfl rfl rfl ?_ | refine w_getR rfl rfl rfl rfl rfl ?_
  first | refine w_getI rfl rfl rfl rfl rfl ?_ | refine w_getR rfl rfl rfl rfl rfl ?_
  rw [h3]
  refine w_irLe0 rfl (by omega) (fun b3 => ?_) (fun b3 => ?_)
  · first
    | (exfalso; omega)
    | (refine w_retV rfl ?_
       first
       | (have e0 := nil_of b3
          refine kk s ?_ Fr.rf
          rw [e0] at hK ⊢
          exact hK)
       | (refine kk s ?_ Fr.rf
          rw [he, wdP, if_neg (by omega)]
          exact hK2))
  · first
    | (exfalso; omega)
    | (obtain ⟨c, q, he, hlen⟩ := cons_of b3
       have hK2 := hK
       rw [he] at hK2 h4
       obtain ⟨h4a, h4b⟩ := h4
       have hc := hb c (by rw [he]; exact List.mem_cons_self ..)
       have hrk := rk_rng c
       refine w_ldR rfl rfl rfl ?_
       first | refine w_getI rfl rfl rfl rfl rfl ?_ | refine w_getR rfl rfl rfl rfl rfl ?_
       refine w_callV rfl rfl rfl rfl rfl rfl rfl (k_lastk49 (k := q.length) (by omega) (by omega)) ?_
       rw [h4a]
       refine w_call rfl rfl rfl (k_rank (by omega)) ?_
       refine w_push rfl ?_
       refine w_ldI rfl rfl ?_
       refine w_m2 rfl rfl ?_
       rw [m_max_id (by omega) (by omega)]
       refine w_crLt rfl (by omega) (by omega) (fun b11 => ?_) (fun b11 => ?_)
       · first
         | (exfalso; omega)
         | (refine w_retV rfl ?_
            first
            | (have e0 := nil_of b3
               refine kk s ?_ Fr.rf
               rw [e0] at hK ⊢
               exact hK)
            | (refine kk s ?_ Fr.rf
               rw [he, wdP, if_neg (by omega)]
               exact hK2))
       · first
         | (exfalso; omega)
         | (refine w_ldR rfl rfl rfl ?_
            first | refine w_getI rfl rfl rfl rfl rfl ?_ | refine w_getR rfl rfl rfl rfl rfl ?_
            refine w_push rfl ?_
            refine w_ldR rfl rfl rfl ?_
            first | refine w_getI rfl rfl rfl rfl rfl ?_ | refine w_getR rfl rfl rfl rfl rfl ?_
            refine w_callWI rfl rfl rfl rfl rfl rfl rfl (k_rmlk49 (k := q.length) (by omega) (by omega)) (fun v17 s17 p17 => ?_)
            obtain ⟨rfl, rfl⟩ := p17
            rw [h4a]
            refine w_add rfl ?_
            refine w_callWI rfl rfl rfl rfl rfl rfl rfl (k_addk47 (k := dr.length) (by rw [us_ne (by decide)]; exact h1) (by omega)) (fun v19 s19 p19 => ?_)
            obtain ⟨rfl, rfl⟩ := p19
            refine w_popI rfl ?_
            refine w_go rfl ?_
            exact l_wd43 hr (dr ++ [10000 + c]) q op dp cm hK2.drop.out (by rw [len_1]; omega) (fun x hx => hb x (by rw [he]; exact List.mem_cons_of_mem _ hx)) (fun s1 k f => kk s1 (by rw [he, wdP, if_pos (by omega)]; exact k) (Fr.tr (Fr.tr (Fr.tr (Fr.us rfl) (Fr.us rfl)) (Fr.us rfl)) f))))
termination_by pe.length
decreasing_by all_goals omega
theorem k_wd43 {d : Nat} {s : mSt} {r : Int} (hr : -2147483648 ≤ r ∧ r < 2147483648) {dr pe : List Int} {op dp cm : Int} (hK : KS43 s dr pe op dp cm) (hl : dr.length + pe.length ≤ 50) (hb : ∀ c ∈ pe, 0 ≤ c ∧ c ≤ 255) : CV (d + 2) 47 [.inr (.inr 43), .inl r] s (fun s1 => KS43 s1 (wdP (max 1 r) dr pe).1 (wdP (max 1 r) dr pe).2 op dp cm ∧ Fr [47, 48, 49] s s1) := by
  refine CV.mk rfl ?_
  show WP (d + 2) 47 0 [some (.inr (.inr 43)), some (.inl r)] [] (encA s) _
  exact l_wd43 hr dr pe op dp cm hK hl hb (fun s1 k f => ⟨k, f⟩)
theorem l_wn43 {d : Nat} {s : mSt} {P : mSt → Prop} (dr pe : List Int) (op dp cm : Int) (hK : KS43 s dr pe op dp cm) (hl : dr.length + pe.length ≤ 50) (hb : ∀ c ∈ pe, 0 ≤ c ∧ c ≤ 255) (kk : ∀ s1, KS43 s1 (wnP dr pe op).1 (wnP dr pe op).2.1 (wnP dr pe op).2.2 dp cm → Fr [43, 47, 48, 49] s s1 → P s1) : WP (d + 2) 48 0 [some (.inr (.inr 43))] [] (encA (s)) (QV P) := by
  obtain ⟨h1, h2, h3, h4, h5, h6, h7, h0⟩ := id hK
  refine w_ldR rfl rfl rfl ?_
  first | refine w_getI rfl rfl rfl rfl rfl ?_ | refine w_getR rfl rfl rfl rfl rfl ?_
  first | refine w_getI rfl rfl rfl rfl rfl ?_ | refine w_getR rfl rfl rfl rfl rfl ?_
  rw [h3]
  refine w_irLe0 rfl (by omega) (fun b3 => ?_) (fun b3 => ?_)
  · first
    | (exfalso; omega)
    | (refine w_retV rfl ?_
       first
       | (have e0 := nil_of b3
          refine kk s ?_ Fr.rf
          rw [e0] at hK ⊢
          exact hK)
       | (refine kk s ?_ Fr.rf
          rw [he, wnP, if_neg (by omega)]
          exact hK2))
  · first
    | (exfalso; omega)
    | (obtain ⟨c, q, he, hlen⟩ := cons_of b3
       have hK2 := hK
       rw [he] at hK2 h4
       obtain ⟨h4a, h4b⟩ := h4
       have hc := hb c (by rw [he]; exact List.mem_cons_self ..)
       have hrk := rk_rng c
       refine w_ldR rfl rfl rfl ?_
       first | refine w_getI rfl rfl rfl rfl rfl ?_ | refine w_getR rfl rfl rfl rfl rfl ?_
       refine w_callV rfl rfl rfl rfl rfl rfl rfl (k_lastk49 (k := q.length) (by omega) (by omega)) ?_
       rw [h4a]
       refine w_push rfl ?_
       refine w_crNe rfl (by omega) (by omega) (fun b8 => ?_) (fun b8 => ?_)
       · first
         | (exfalso; omega)
         | (refine w_retV rfl ?_
            first
            | (have e0 := nil_of b3
               refine kk s ?_ Fr.rf
               rw [e0] at hK ⊢
               exact hK)
            | (refine kk s ?_ Fr.rf
               rw [he, wnP, if_neg (by omega)]
               exact hK2))
       · first
         | (exfalso; omega)
         | (refine w_ldR rfl rfl rfl ?_
            first | refine w_getI rfl rfl rfl rfl rfl ?_ | refine w_getR rfl rfl rfl rfl rfl ?_
            refine w_push rfl ?_
            refine w_ldR rfl rfl rfl ?_
            first | refine w_getI rfl rfl rfl rfl rfl ?_ | refine w_getR rfl rfl rfl rfl rfl ?_
            refine w_callWI rfl rfl rfl rfl rfl rfl rfl (k_rmlk49 (k := q.length) (by omega) (by omega)) (fun v14 s14 p14 => ?_)
            obtain ⟨rfl, rfl⟩ := p14
            rw [h4a]
            refine w_add rfl ?_
            refine w_callWI rfl rfl rfl rfl rfl rfl rfl (k_addk47 (k := dr.length) (by rw [us_ne (by decide)]; exact h1) (by omega)) (fun v16 s16 p16 => ?_)
            obtain ⟨rfl, rfl⟩ := p16
            refine w_popI rfl ?_
            refine w_ldR rfl rfl rfl ?_
            first | refine w_dupI rfl ?_ | refine w_dupR rfl ?_
            first | refine w_getI rfl rfl rfl rfl rfl ?_ | refine w_getR rfl rfl rfl rfl rfl ?_
            rw [us_ne (by decide), us_ne (by decide), us_ne (by decide), h5]
            refine w_push rfl ?_
            refine w_sub rfl ?_
            refine w_putI rfl rfl rfl rfl rfl rfl rfl ?_
            refine w_go rfl ?_
            exact l_wn43 (dr ++ [10000 + c]) q (op - 1) dp cm hK2.drop.out.f5 (by rw [len_1]; omega) (fun x hx => hb x (by rw [he]; exact List.mem_cons_of_mem _ hx)) (fun s1 k f => kk s1 (by rw [he, wnP, if_pos (by omega), show (10033 : Int) = 10000 + c by omega]; exact k) (Fr.tr (Fr.tr (Fr.tr (Fr.tr (Fr.us rfl) (Fr.us rfl)) (Fr.us rfl)) (Fr.us rfl)) f))))
termination_by pe.length
decreasing_by all_goals omega
theorem k_wn43 {d : Nat} {s : mSt} {dr pe : List Int} {op dp cm : Int} (hK : KS43 s dr pe op dp cm) (hl : dr.length + pe.length ≤ 50) (hb : ∀ c ∈ pe, 0 ≤ c ∧ c ≤ 255) : CV (d + 2) 48 [.inr (.inr 43)] s (fun s1 => KS43 s1 (wnP dr pe op).1 (wnP dr pe op).2.1 (wnP dr pe op).2.2 dp cm ∧ Fr [43, 47, 48, 49] s s1) := by
  refine CV.mk rfl ?_
  show WP (d + 2) 48 0 [some (.inr (.inr 43))] [] (encA s) _
  exact l_wn43 dr pe op dp cm hK hl hb (fun s1 k f => ⟨k, f⟩)
theorem l_tk43 {d : Nat} {s : mSt} {Q : mQ} {T : Nat → Int} {n p : Int} (hn : s 24 1 = n) (h50 : 0 ≤ n ∧ n ≤ 50) (hT : ∀ i : Nat, (i : Int) < n → s 25 i = T i) (hR : ∀ i : Nat, (i : Int) < n → 0 ≤ T i ∧ T i ≤ 255) (hp : 0 ≤ p ∧ p < n) (k : Nat) (t : Pst) (v kk : Int) (hkk : kk = (k : Int)) (hk : k ≤ 4) (ht : t.1 = p + (k : Int)) (hf : t.2.1 < 0) (hQ : ∀ k2 : Int, k2 = (dgP T n (4 - k) t v).1.1 - p → WP (d + 5) 40 27 [some (.inr (.inr 43)), some (.inr (.inr 24)), some (.inl p), some (.inl ((dgP T n (4 - k) t v).2)), some (.inl k2), none] [] (encA (s)) (Q)) : WP (d + 5) 40 4 [some (.inr (.inr 43)), some (.inr (.inr 24)), some (.inl p), some (.inl v), some (.inl kk), none] [] (encA (s)) (Q) := by
  subst hkk
  refine w_ldI rfl rfl ?_
  refine w_push rfl ?_
  refine w_crGe rfl (by omega) (by omega) (fun b6 => ?_) (fun b6 => ?_)
  · first
    | (exfalso; omega)
    | (first
       | (rw [dg_no b12] at hQ
          exact hQ _ (by show (k : Int) = t.1 - p; omega))
       | (obtain rfl : k = 4 := by omega
          exact hQ _ (by show ((4 : Nat) : Int) = t.1 - p; omega)))
  · first
    | (exfalso; omega)
    | (refine w_ldR rfl rfl rfl ?_
       refine w_ldI rfl rfl ?_
       refine w_ldI rfl rfl ?_
       refine w_add rfl ?_
       rw [show p + (k : Int) = t.1 by omega]
       refine w_call rfl rfl rfl (k_isDg hn h50 hT hR (by omega) hf) ?_
       refine w_bEq0 rfl (fun b12 => ?_) (fun b12 => ?_)
       · first
         | (exfalso; omega)
         | (first
            | (rw [dg_no b12] at hQ
               exact hQ _ (by show (k : Int) = t.1 - p; omega))
            | (obtain rfl : k = 4 := by omega
               exact hQ _ (by show ((4 : Nat) : Int) = t.1 - p; omega)))
       · first
         | (exfalso; omega)
         | (have hlt := here_lt (T := T) (n := n) (t := t) (by omega)
            rw [dg_yes (by omega) b12] at hQ
            refine w_push rfl ?_
            refine w_ldI rfl rfl ?_
            refine w_mul rfl ?_
            refine w_ldR rfl rfl rfl ?_
            refine w_ldI rfl rfl ?_
            refine w_ldI rfl rfl ?_
            refine w_add rfl ?_
            rw [show p + (k : Int) = t.1 by omega]
            refine w_callV rfl rfl rfl rfl rfl rfl rfl (k_at24 (by omega) (by omega)) ?_
            rw [show rowAt s 24 t.1 = hereP T n t from (if_pos (by omega)).trans ((hT _ (by omega)).trans (hereP_eq hlt).symm)]
            refine w_add rfl ?_
            refine w_push rfl ?_
            refine w_sub rfl ?_
            refine w_StI_6_3 rfl rfl ?_
            refine w_inc_6_4 rfl rfl ?_
            refine w_go rfl ?_
            exact l_tk43 hn h50 hT hR hp (k + 1) (advP 1 t) _ ((k : Int) + 1) (by omega) (by omega) (by show t.1 + 1 = p + ((k + 1 : Nat) : Int); omega) hf hQ))
termination_by 4 - k
decreasing_by all_goals omega
theorem z_tk43 {d : Nat} {s : mSt} {P : Int → mSt → Prop} {T : Nat → Int} {n p : Int} (hn : s 24 1 = n) (h50 : 0 ≤ n ∧ n ≤ 50) (hT : ∀ i : Nat, (i : Int) < n → s 25 i = T i) (hR : ∀ i : Nat, (i : Int) < n → 0 ≤ T i ∧ T i ≤ 255) (hp : 0 ≤ p ∧ p < n) {v kd : Int} (hkd : 0 ≤ kd ∧ kd ≤ 4) {dr pe : List Int} {op dp cm : Int} (hK : KS43 s dr pe op dp cm) (hu : s 43 0 = 1) (hl : dr.length + pe.length < 50) (hb : ∀ c ∈ pe, 0 ≤ c ∧ c ≤ 255) (a0 : ¬ (0 < kd ∨ 0 ≤ nmF 1 (T p.toNat)) → P 0 s) (a1 : (0 < kd ∨ 0 ≤ nmF 1 (T p.toNat)) → ∀ s1, KS43 s1 (wnP (dr ++ [(if 0 < kd then v else -1 - nmF 1 (T p.toNat))]) pe op).1 (wnP (dr ++ [(if 0 < kd then v else -1 - nmF 1 (T p.toNat))]) pe op).2.1 (wnP (dr ++ [(if 0 < kd then v else -1 - nmF 1 (T p.toNat))]) pe op).2.2 dp cm → Fr [43, 47, 48, 49] s s1 → P (if 0 < kd then kd else 1) s1) : WP (d + 5) 40 27 [some (.inr (.inr 43)), some (.inr (.inr 24)), some (.inl p), some (.inl (v)), some (.inl kd), none] [] (encA (s)) (QI P) := by
  have hTp := hR p.toNat (by omega)
  have hnr := nmF_rng 1 (T p.toNat)
  refine w_ldR rfl rfl rfl ?_
  refine w_ldR rfl rfl rfl ?_
  refine w_ldI rfl rfl ?_
  refine w_callV rfl rfl rfl rfl rfl rfl rfl (k_at24 (by omega) (by omega)) ?_
  rw [show rowAt s 24 p = T p.toNat from (if_pos (by omega)).trans (hT _ (by omega))]
  refine w_callV rfl rfl rfl rfl rfl rfl rfl (k_name43 (by omega) hu) ?_
  refine w_StI_6_5 rfl rfl ?_
  refine w_ldI rfl rfl ?_
  refine w_irNe0 rfl (by omega) (fun b34 => ?_) (fun b34 => ?_)
  · first
    | (exfalso; omega)
    | (refine w_ldR rfl rfl rfl ?_
       first | refine w_getI rfl rfl rfl rfl rfl ?_ | refine w_getR rfl rfl rfl rfl rfl ?_
       refine w_ldI rfl rfl ?_
       refine w_irLe0 rfl (by omega) (fun b42 => ?_) (fun b42 => ?_)
       · first
         | (exfalso; omega)
         | (have ex : (if 0 < kd then v else -1 - nmF 1 (T p.toNat)) = -1 - nmF 1 (T p.toNat) := if_neg (by omega)
            refine w_push rfl ?_
            refine w_ldI rfl rfl ?_
            refine w_sub rfl ?_
            refine w_callWI rfl rfl rfl rfl rfl rfl rfl (k_addk47 (k := dr.length) hK.1 (by omega)) (fun v48 s48 p48 => ?_)
            obtain ⟨rfl, rfl⟩ := p48
            refine w_popI rfl ?_
            refine w_ldR rfl rfl rfl ?_
            refine w_callWN rfl rfl rfl rfl rfl rfl rfl (k_wn43 hK.out (by rw [len_1]; omega) hb) (fun s51 p51 => ?_)
            obtain ⟨gK, gF⟩ := p51
            refine w_push rfl ?_
            refine w_ldI rfl rfl ?_
            refine w_m2 rfl rfl ?_
            refine w_retI rfl ?_
            rw [m_max_id (by omega) (by omega), show max 1 kd = (if 0 < kd then kd else 1) by split <;> omega]
            exact a1 (by omega) _ (by rw [ex]; exact gK) (Fr.tr (Fr.tr (Fr.us rfl) (Fr.us rfl)) gF))
       · first
         | (exfalso; omega)
         | (have ex : (if 0 < kd then v else -1 - nmF 1 (T p.toNat)) = v := if_pos (by omega)
            refine w_ldI rfl rfl ?_
            refine w_go rfl ?_
            refine w_callWI rfl rfl rfl rfl rfl rfl rfl (k_addk47 (k := dr.length) hK.1 (by omega)) (fun v48 s48 p48 => ?_)
            obtain ⟨rfl, rfl⟩ := p48
            refine w_popI rfl ?_
            refine w_ldR rfl rfl rfl ?_
            refine w_callWN rfl rfl rfl rfl rfl rfl rfl (k_wn43 hK.out (by rw [len_1]; omega) hb) (fun s51 p51 => ?_)
            obtain ⟨gK, gF⟩ := p51
            refine w_push rfl ?_
            refine w_ldI rfl rfl ?_
            refine w_m2 rfl rfl ?_
            refine w_retI rfl ?_
            rw [m_max_id (by omega) (by omega), show max 1 kd = (if 0 < kd then kd else 1) by split <;> omega]
            exact a1 (by omega) _ (by rw [ex]; exact gK) (Fr.tr (Fr.tr (Fr.us rfl) (Fr.us rfl)) gF)))
  · first
    | (exfalso; omega)
    | (refine w_ldI rfl rfl ?_
       refine w_irGe0 rfl (by omega) (fun b36 => ?_) (fun b36 => ?_)
       · first
         | (exfalso; omega)
         | (refine w_ldR rfl rfl rfl ?_
            first | refine w_getI rfl rfl rfl rfl rfl ?_ | refine w_getR rfl rfl rfl rfl rfl ?_
            refine w_ldI rfl rfl ?_
            refine w_irLe0 rfl (by omega) (fun b42 => ?_) (fun b42 => ?_)
            · first
              | (exfalso; omega)
              | (have ex : (if 0 < kd then v else -1 - nmF 1 (T p.toNat)) = -1 - nmF 1 (T p.toNat) := if_neg (by omega)
                 refine w_push rfl ?_
                 refine w_ldI rfl rfl ?_
                 refine w_sub rfl ?_
                 refine w_callWI rfl rfl rfl rfl rfl rfl rfl (k_addk47 (k := dr.length) hK.1 (by omega)) (fun v48 s48 p48 => ?_)
                 obtain ⟨rfl, rfl⟩ := p48
                 refine w_popI rfl ?_
                 refine w_ldR rfl rfl rfl ?_
                 refine w_callWN rfl rfl rfl rfl rfl rfl rfl (k_wn43 hK.out (by rw [len_1]; omega) hb) (fun s51 p51 => ?_)
                 obtain ⟨gK, gF⟩ := p51
                 refine w_push rfl ?_
                 refine w_ldI rfl rfl ?_
                 refine w_m2 rfl rfl ?_
                 refine w_retI rfl ?_
                 rw [m_max_id (by omega) (by omega), show max 1 kd = (if 0 < kd then kd else 1) by split <;> omega]
                 exact a1 (by omega) _ (by rw [ex]; exact gK) (Fr.tr (Fr.tr (Fr.us rfl) (Fr.us rfl)) gF))
            · first
              | (exfalso; omega)
              | (have ex : (if 0 < kd then v else -1 - nmF 1 (T p.toNat)) = v := if_pos (by omega)
                 refine w_ldI rfl rfl ?_
                 refine w_go rfl ?_
                 refine w_callWI rfl rfl rfl rfl rfl rfl rfl (k_addk47 (k := dr.length) hK.1 (by omega)) (fun v48 s48 p48 => ?_)
                 obtain ⟨rfl, rfl⟩ := p48
                 refine w_popI rfl ?_
                 refine w_ldR rfl rfl rfl ?_
                 refine w_callWN rfl rfl rfl rfl rfl rfl rfl (k_wn43 hK.out (by rw [len_1]; omega) hb) (fun s51 p51 => ?_)
                 obtain ⟨gK, gF⟩ := p51
                 refine w_push rfl ?_
                 refine w_ldI rfl rfl ?_
                 refine w_m2 rfl rfl ?_
                 refine w_retI rfl ?_
                 rw [m_max_id (by omega) (by omega), show max 1 kd = (if 0 < kd then kd else 1) by split <;> omega]
                 exact a1 (by omega) _ (by rw [ex]; exact gK) (Fr.tr (Fr.tr (Fr.us rfl) (Fr.us rfl)) gF)))
       · first
         | (exfalso; omega)
         | (refine w_push rfl ?_
            refine w_retI rfl ?_
            exact a0 (by omega)))
theorem k_tk43 {d : Nat} {s : mSt} {T : Nat → Int} {n p : Int} (hn : s 24 1 = n) (h50 : 0 ≤ n ∧ n ≤ 50) (hT : ∀ i : Nat, (i : Int) < n → s 25 i = T i) (hR : ∀ i : Nat, (i : Int) < n → 0 ≤ T i ∧ T i ≤ 255) (hp : 0 ≤ p ∧ p < n) {dr pe : List Int} {op dp cm : Int} (hK : KS43 s dr pe op dp cm) (hu : s 43 0 = 1) (hl : dr.length + pe.length < 50) (hb : ∀ c ∈ pe, 0 ≤ c ∧ c ≤ 255) : CI (d + 5) 40 [.inr (.inr 43), .inr (.inr 24), .inl p] (s) (fun r s1 => (¬ (0 < dkK T n p ∨ 0 ≤ nmF 1 (T p.toNat)) → r = 0 ∧ s = s1) ∧ ((0 < dkK T n p ∨ 0 ≤ nmF 1 (T p.toNat)) → r = odP T n p ∧ KS43 s1 (wnP (dr ++ [odK T n 1 p]) pe op).1 (wnP (dr ++ [odK T n 1 p]) pe op).2.1 (wnP (dr ++ [odK T n 1 p]) pe op).2.2 dp cm ∧ Fr [43, 47, 48, 49] s s1)) := by
  refine CI.mk rfl ?_
  show WP (d + 5) 40 0 [some (.inr (.inr 43)), some (.inr (.inr 24)), some (.inl p), none, none, none] [] (encA (s)) _
  refine w_push rfl ?_
  refine w_StI_6_3 rfl rfl ?_
  refine w_push rfl ?_
  refine w_StI_6_4 rfl rfl ?_
  obtain ⟨w1, w2, w3⟩ := dg_rng (T := T) (n := n) 4 (p, -1, 0, []) 0 (by show p ≤ n; omega)
  have w1 : p ≤ (dgP T n 4 (p, -1, 0, []) 0).1.1 := w1
  have w3 : (dgP T n 4 (p, -1, 0, []) 0).1.1 ≤ p + 4 := w3
  refine l_tk43 hn h50 hT hR hp 0 (p, -1, 0, []) 0 0 rfl (by omega) (by show p = p + ((0 : Nat) : Int); omega) (by show (-1 : Int) < 0; omega) (fun k2 e => ?_)
  have e : k2 = dkK T n p := e
  subst e
  refine z_tk43 hn h50 hT hR hp (by unfold dkK; omega) hK hu hl hb (fun z => ⟨fun _ => ⟨rfl, rfl⟩, fun w => absurd w z⟩) (fun z s1 gK gF => ⟨fun w => absurd z w, fun _ => ⟨rfl, gK, gF⟩⟩)
