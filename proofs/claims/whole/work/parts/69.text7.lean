/-! ===== the text: the class's small calls ===== -/
theorem k_rank {d : Nat} {s : mSt} {c : Int} (hc : -2147483648 ≤ c ∧ c < 2147483648) : Call (d + 0) 46 [.inl c] (encA (s)) (some (.inl (rk c))) (encA (s)) := by
  refine CI.ex (CI.mk rfl ?_)
  show WP (d + 0) 46 0 [some (.inl c)] [] (encA (s)) _
  refine w_ldI rfl rfl ?_
  obtain b1 | b1 | b1 | b1 | b1 | b1 | b1 | b1 | b1 | b1 | b1 := (by omega : c = 37 ∨ c = 38 ∨ c = 42 ∨ c = 43 ∨ c = 45 ∨ c = 47 ∨ c = 60 ∨ c = 61 ∨ c = 62 ∨ c = 124 ∨ (¬ c = 37 ∧ ¬ c = 38 ∧ ¬ c = 42 ∧ ¬ c = 43 ∧ ¬ c = 45 ∧ ¬ c = 47 ∧ ¬ c = 60 ∧ ¬ c = 61 ∧ ¬ c = 62 ∧ ¬ c = 124))
  · first
    | (exfalso; omega)
    | (refine w_sw (tg := 10) rfl (by rw [w32_id (by omega) (by omega), b1]; rfl) ?_
       refine w_push rfl ?_
       refine w_retI rfl ?_
       refine ⟨?_, rfl⟩
       unfold rk
       repeat' split
       all_goals omega)
  · first
    | (exfalso; omega)
    | (refine w_sw (tg := 4) rfl (by rw [w32_id (by omega) (by omega), b1]; rfl) ?_
       refine w_push rfl ?_
       refine w_retI rfl ?_
       refine ⟨?_, rfl⟩
       unfold rk
       repeat' split
       all_goals omega)
  · first
    | (exfalso; omega)
    | (refine w_sw (tg := 10) rfl (by rw [w32_id (by omega) (by omega), b1]; rfl) ?_
       refine w_push rfl ?_
       refine w_retI rfl ?_
       refine ⟨?_, rfl⟩
       unfold rk
       repeat' split
       all_goals omega)
  · first
    | (exfalso; omega)
    | (refine w_sw (tg := 8) rfl (by rw [w32_id (by omega) (by omega), b1]; rfl) ?_
       refine w_push rfl ?_
       refine w_retI rfl ?_
       refine ⟨?_, rfl⟩
       unfold rk
       repeat' split
       all_goals omega)
  · first
    | (exfalso; omega)
    | (refine w_sw (tg := 8) rfl (by rw [w32_id (by omega) (by omega), b1]; rfl) ?_
       refine w_push rfl ?_
       refine w_retI rfl ?_
       refine ⟨?_, rfl⟩
       unfold rk
       repeat' split
       all_goals omega)
  · first
    | (exfalso; omega)
    | (refine w_sw (tg := 10) rfl (by rw [w32_id (by omega) (by omega), b1]; rfl) ?_
       refine w_push rfl ?_
       refine w_retI rfl ?_
       refine ⟨?_, rfl⟩
       unfold rk
       repeat' split
       all_goals omega)
  · first
    | (exfalso; omega)
    | (refine w_sw (tg := 6) rfl (by rw [w32_id (by omega) (by omega), b1]; rfl) ?_
       refine w_push rfl ?_
       refine w_retI rfl ?_
       refine ⟨?_, rfl⟩
       unfold rk
       repeat' split
       all_goals omega)
  · first
    | (exfalso; omega)
    | (refine w_sw (tg := 6) rfl (by rw [w32_id (by omega) (by omega), b1]; rfl) ?_
       refine w_push rfl ?_
       refine w_retI rfl ?_
       refine ⟨?_, rfl⟩
       unfold rk
       repeat' split
       all_goals omega)
  · first
    | (exfalso; omega)
    | (refine w_sw (tg := 6) rfl (by rw [w32_id (by omega) (by omega), b1]; rfl) ?_
       refine w_push rfl ?_
       refine w_retI rfl ?_
       refine ⟨?_, rfl⟩
       unfold rk
       repeat' split
       all_goals omega)
  · first
    | (exfalso; omega)
    | (refine w_sw (tg := 2) rfl (by rw [w32_id (by omega) (by omega), b1]; rfl) ?_
       refine w_push rfl ?_
       refine w_retI rfl ?_
       refine ⟨?_, rfl⟩
       unfold rk
       repeat' split
       all_goals omega)
  · first
    | (exfalso; omega)
    | (refine w_sw (tg := 12) rfl (by rw [w32_id (by omega) (by omega)]; unfold mSwL; simp only [mSwL]; (repeat rw [if_neg (by omega)])) ?_
       refine w_push rfl ?_
       refine w_retI rfl ?_
       refine ⟨?_, rfl⟩
       unfold rk
       repeat' split
       all_goals omega)
theorem k_at24 {d : Nat} {s : mSt} {i : Int} (hi : -2147483648 ≤ i ∧ i < 2147483648) (hs : 0 ≤ s 24 1 ∧ s 24 1 ≤ 50) : Call (d + 0) 64 [.inr (.inr 24), .inl i] (encA (s)) (some (.inl (rowAt s 24 i))) (encA (s)) := by
  refine CI.ex (CI.mk rfl ?_)
  show WP (d + 0) 64 0 [some (.inr (.inr 24)), some (.inl i)] [] (encA (s)) _
  refine w_ldI rfl rfl ?_
  refine w_irLt0 rfl (by omega) (fun b1 => ?_) (fun b1 => ?_)
  · first
    | (exfalso; omega)
    | (refine w_push rfl ?_
       refine w_retI rfl ?_
       refine ⟨?_, rfl⟩
       unfold rowAt
       first | rw [if_pos (by omega)] | rw [if_neg (by omega)])
  · first
    | (exfalso; omega)
    | (refine w_ldI rfl rfl ?_
       refine w_ldR rfl rfl rfl ?_
       first | refine w_getI rfl rfl rfl rfl rfl ?_ | refine w_getR rfl rfl rfl rfl rfl ?_
       refine w_crGe rfl (by omega) (by omega) (fun b5 => ?_) (fun b5 => ?_)
       · first
         | (exfalso; omega)
         | (refine w_push rfl ?_
            refine w_retI rfl ?_
            refine ⟨?_, rfl⟩
            unfold rowAt
            first | rw [if_pos (by omega)] | rw [if_neg (by omega)])
       · first
         | (exfalso; omega)
         | (refine w_ldR rfl rfl rfl ?_
            first | refine w_getI rfl rfl rfl rfl rfl ?_ | refine w_getR rfl rfl rfl rfl rfl ?_
            refine w_ldI rfl rfl ?_
            refine w_ald rfl rfl rfl (by omega) rfl ?_
            refine w_go rfl ?_
            refine w_retI rfl ?_
            refine ⟨?_, rfl⟩
            unfold rowAt
            first | rw [if_pos (by omega)] | rw [if_neg (by omega)]))
theorem k_has24 {d : Nat} {s : mSt} {i : Int} (hi : -2147483648 ≤ i ∧ i < 2147483648) (hs : -2147483648 ≤ s 24 1 ∧ s 24 1 < 2147483648) : Call (d + 0) 62 [.inr (.inr 24), .inl i] (encA (s)) (some (.inl (bI (0 ≤ i ∧ i < s 24 1)))) (encA (s)) := by
  refine CI.ex (CI.mk rfl ?_)
  show WP (d + 0) 62 0 [some (.inr (.inr 24)), some (.inl i)] [] (encA (s)) _
  refine w_ldI rfl rfl ?_
  refine w_irLt0 rfl (by omega) (fun b1 => ?_) (fun b1 => ?_)
  · first
    | (exfalso; omega)
    | (refine w_push rfl ?_
       refine w_retB rfl (by first | exact bI_01 _ | decide | omega) ?_
       refine ⟨?_, rfl⟩
       unfold bI
       first | rw [if_pos (by omega)] | rw [if_neg (by omega)])
  · first
    | (exfalso; omega)
    | (refine w_ldI rfl rfl ?_
       refine w_ldR rfl rfl rfl ?_
       first | refine w_getI rfl rfl rfl rfl rfl ?_ | refine w_getR rfl rfl rfl rfl rfl ?_
       refine w_crGe rfl (by omega) (by omega) (fun b5 => ?_) (fun b5 => ?_)
       · first
         | (exfalso; omega)
         | (refine w_push rfl ?_
            refine w_retB rfl (by first | exact bI_01 _ | decide | omega) ?_
            refine ⟨?_, rfl⟩
            unfold bI
            first | rw [if_pos (by omega)] | rw [if_neg (by omega)])
       · first
         | (exfalso; omega)
         | (refine w_push rfl ?_
            refine w_go rfl ?_
            refine w_retB rfl (by first | exact bI_01 _ | decide | omega) ?_
            refine ⟨?_, rfl⟩
            unfold bI
            first | rw [if_pos (by omega)] | rw [if_neg (by omega)]))
theorem k_isDigit {d : Nat} {s : mSt} {i : Int} (hi : -2147483648 ≤ i ∧ i < 2147483648) (hs : 0 ≤ s 24 1 ∧ s 24 1 ≤ 50) (hT : ∀ j : Nat, (j : Int) < s 24 1 → 0 ≤ s 25 j ∧ s 25 j ≤ 255) : Call (d + 1) 41 [.inr (.inr 24), .inl i] (encA (s)) (some (.inl (bI ((0 ≤ i ∧ i < s 24 1) ∧ 48 ≤ s 25 i.toNat ∧ s 25 i.toNat ≤ 57)))) (encA (s)) := by
  refine CI.ex (CI.mk rfl ?_)
  show WP (d + 1) 41 0 [some (.inr (.inr 24)), some (.inl i)] [] (encA (s)) _
  refine w_ldR rfl rfl rfl ?_
  refine w_ldI rfl rfl ?_
  refine w_callV rfl rfl rfl rfl rfl rfl rfl (k_has24 (by omega) (by omega)) ?_
  refine w_bEq0 rfl (fun b3 => ?_) (fun b3 => ?_)
  · first
    | (exfalso; omega)
    | (refine w_push rfl ?_
       refine w_retB rfl (by first | exact bI_01 _ | decide | omega) ?_
       refine ⟨?_, rfl⟩
       unfold bI
       first | rw [if_pos ⟨by omega, by omega, by omega⟩] | rw [if_neg (fun h => by omega)])
  · first
    | (exfalso; omega)
    | (refine w_ldR rfl rfl rfl ?_
       refine w_ldI rfl rfl ?_
       refine w_callV rfl rfl rfl rfl rfl rfl rfl (k_at24 (by omega) (by omega)) ?_
       rw [show rowAt s 24 i = s 25 i.toNat from if_pos b3]
       have hTi := hT i.toNat (by omega)
       refine w_push rfl ?_
       refine w_crLt rfl (by omega) (by omega) (fun b8 => ?_) (fun b8 => ?_)
       · first
         | (exfalso; omega)
         | (refine w_push rfl ?_
            refine w_retB rfl (by first | exact bI_01 _ | decide | omega) ?_
            refine ⟨?_, rfl⟩
            unfold bI
            first | rw [if_pos ⟨by omega, by omega, by omega⟩] | rw [if_neg (fun h => by omega)])
       · first
         | (exfalso; omega)
         | (refine w_ldR rfl rfl rfl ?_
            refine w_ldI rfl rfl ?_
            refine w_callV rfl rfl rfl rfl rfl rfl rfl (k_at24 (by omega) (by omega)) ?_
            rw [show rowAt s 24 i = s 25 i.toNat from if_pos b3]
            have hTi := hT i.toNat (by omega)
            refine w_push rfl ?_
            refine w_crGt rfl (by omega) (by omega) (fun b13 => ?_) (fun b13 => ?_)
            · first
              | (exfalso; omega)
              | (refine w_push rfl ?_
                 refine w_retB rfl (by first | exact bI_01 _ | decide | omega) ?_
                 refine ⟨?_, rfl⟩
                 unfold bI
                 first | rw [if_pos ⟨by omega, by omega, by omega⟩] | rw [if_neg (fun h => by omega)])
            · first
              | (exfalso; omega)
              | (refine w_push rfl ?_
                 refine w_go rfl ?_
                 refine w_retB rfl (by first | exact bI_01 _ | decide | omega) ?_
                 refine ⟨?_, rfl⟩
                 unfold bI
                 first | rw [if_pos ⟨by omega, by omega, by omega⟩] | rw [if_neg (fun h => by omega)])))
