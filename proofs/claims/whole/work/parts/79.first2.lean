/-! ===== the first run: the law's beginning ===== -/
theorem n_100 {X : Nat → Int} {N : Int} {d sl : Nat} {f : Nat → mEnt} (hg : f 10 = some (.inl (11, [.inr (.inr 0), .inr (.inr 0), .inr (.inr 0), .inr (.inr 0), .inr (.inr 0), .inr (.inr 0), .inr (.inr 0), .inr (.inr 0), .inl 0, .inr (.inr 0), .inr (.inr 0), .inr (.inr 0), .inr (.inr 0)]))) : Call (d + 4) 100 [.inr (.inr 10)] (11, sl, f) none (146, sl + 2425, grow X N f 10 146) := by
  refine QX.mk rfl ?_
  show WP (d + 4) 100 0 [some (.inr (.inr 10)), none] [] _ _
  refine w_ldR rfl rfl rfl ?_
  refine w_objI rfl rfl rfl ?_
  refine w_ldR rfl rfl rfl ?_
  refine w_newL (n1 := 12) (q := 2) rfl rfl rfl ?_
  refine w_dupR rfl ?_
  refine w_push rfl ?_
  refine w_kall rfl rfl rfl rfl rfl rfl rfl (n_61 (q := 40) (n1 := 13) rfl rfl rfl rfl rfl rfl) ?_
  refine w_putL rfl rfl hg rfl rfl rfl ?_
  refine w_ldR rfl rfl rfl ?_
  refine w_newL (n1 := 14) (q := 18) rfl rfl rfl ?_
  refine w_dupR rfl ?_
  refine w_ldR rfl rfl rfl ?_
  refine w_getL rfl rfl rfl rfl rfl ?_
  refine w_kall rfl rfl rfl rfl rfl rfl rfl (n_84_13 (X := X) (N := N) rfl) ?_
  refine w_putL rfl rfl rfl rfl rfl rfl ?_
  refine w_ldR rfl rfl rfl ?_
  refine w_newL (n1 := 52) (q := 18) rfl rfl rfl ?_
  refine w_dupR rfl ?_
  refine w_ldR rfl rfl rfl ?_
  refine w_getL rfl rfl rfl rfl rfl ?_
  refine w_kall rfl rfl rfl rfl rfl rfl rfl (n_84_51 (X := X) (N := N) rfl) ?_
  refine w_putL rfl rfl rfl rfl rfl rfl ?_
  refine w_ldR rfl rfl rfl ?_
  refine w_newL (n1 := 90) (q := 18) rfl rfl rfl ?_
  refine w_dupR rfl ?_
  refine w_ldR rfl rfl rfl ?_
  refine w_getL rfl rfl rfl rfl rfl ?_
  refine w_kall rfl rfl rfl rfl rfl rfl rfl (n_84_89 (X := X) (N := N) rfl) ?_
  refine w_putL rfl rfl rfl rfl rfl rfl ?_
  refine w_ldR rfl rfl rfl ?_
  refine w_newL (n1 := 128) (q := 2) rfl rfl rfl ?_
  refine w_dupR rfl ?_
  refine w_kall rfl rfl rfl rfl rfl rfl rfl (n_53 (X := X) (N := N) rfl) ?_
  refine w_putL rfl rfl rfl rfl rfl rfl ?_
  refine w_ldR rfl rfl rfl ?_
  refine w_push rfl ?_
  refine w_newRL (n1 := 131) 4 rfl rfl rfl rfl ?_
  refine w_putL rfl rfl rfl rfl rfl rfl ?_
  refine w_ldR rfl rfl rfl ?_
  refine w_push rfl ?_
  refine w_newAL (n1 := 132) 4 rfl rfl rfl rfl ?_
  refine w_putL rfl rfl rfl rfl rfl rfl ?_
  refine w_ldR rfl rfl rfl ?_
  refine w_push rfl ?_
  refine w_newAL (n1 := 133) 6 rfl rfl rfl rfl ?_
  refine w_putL rfl rfl rfl rfl rfl rfl ?_
  refine w_ldR rfl rfl rfl ?_
  refine w_push rfl ?_
  refine w_newAL (n1 := 134) 36 rfl rfl rfl rfl ?_
  refine w_putL rfl rfl rfl rfl rfl rfl ?_
  refine w_ldR rfl rfl rfl ?_
  refine w_push rfl ?_
  refine w_newAL (n1 := 135) 64 rfl rfl rfl rfl ?_
  refine w_putL rfl rfl rfl rfl rfl rfl ?_
  refine w_ldR rfl rfl rfl ?_
  refine w_newL (n1 := 136) (q := 2) rfl rfl rfl ?_
  refine w_dupR rfl ?_
  refine w_push rfl ?_
  refine w_kall rfl rfl rfl rfl rfl rfl rfl (n_61 (q := 4) (n1 := 137) rfl rfl rfl rfl rfl rfl) ?_
  refine w_putL rfl rfl rfl rfl rfl rfl ?_
  refine w_ldR rfl rfl rfl ?_
  refine w_push rfl ?_
  refine w_newAL (n1 := 138) 72 rfl rfl rfl rfl ?_
  refine w_putL rfl rfl rfl rfl rfl rfl ?_
  refine w_push rfl ?_
  refine w_StI_2_1 rfl rfl ?_
  refine w_ldI rfl rfl ?_
  refine w_push rfl ?_
  refine w_crGe rfl (by omega) (by omega) (fun b => False.elim (by omega)) (fun _ => ?_)
  refine w_ldR rfl rfl rfl ?_
  refine w_getL rfl rfl rfl rfl rfl ?_
  refine w_ldI rfl rfl ?_
  refine w_newL (n1 := 139) (q := 2) rfl rfl rfl ?_
  refine w_dupR rfl ?_
  refine w_push rfl ?_
  refine w_kall rfl rfl rfl rfl rfl rfl rfl (n_61 (q := 40) (n1 := 140) rfl rfl rfl rfl rfl rfl) ?_
  refine w_rstK 0 rfl rfl rfl rfl rfl rfl rfl rfl rfl ?_
  refine w_inc_2_1 rfl rfl ?_
  show WP _ _ _ [_, some (.inl 1)] _ _ _
  refine w_go rfl ?_
  refine w_ldI rfl rfl ?_
  refine w_push rfl ?_
  refine w_crGe rfl (by omega) (by omega) (fun b => False.elim (by omega)) (fun _ => ?_)
  refine w_ldR rfl rfl rfl ?_
  refine w_getL rfl rfl rfl rfl rfl ?_
  refine w_ldI rfl rfl ?_
  refine w_newL (n1 := 141) (q := 2) rfl rfl rfl ?_
  refine w_dupR rfl ?_
  refine w_push rfl ?_
  refine w_kall rfl rfl rfl rfl rfl rfl rfl (n_61 (q := 40) (n1 := 142) rfl rfl rfl rfl rfl rfl) ?_
  refine w_rstK 1 rfl rfl rfl rfl rfl rfl rfl rfl rfl ?_
  refine w_inc_2_1 rfl rfl ?_
  show WP _ _ _ [_, some (.inl 2)] _ _ _
  refine w_go rfl ?_
  refine w_ldI rfl rfl ?_
  refine w_push rfl ?_
  refine w_crGe rfl (by omega) (by omega) (fun b => False.elim (by omega)) (fun _ => ?_)
  refine w_ldR rfl rfl rfl ?_
  refine w_getL rfl rfl rfl rfl rfl ?_
  refine w_ldI rfl rfl ?_
  refine w_newL (n1 := 143) (q := 2) rfl rfl rfl ?_
  refine w_dupR rfl ?_
  refine w_push rfl ?_
  refine w_kall rfl rfl rfl rfl rfl rfl rfl (n_61 (q := 40) (n1 := 144) rfl rfl rfl rfl rfl rfl) ?_
  refine w_rstK 2 rfl rfl rfl rfl rfl rfl rfl rfl rfl ?_
  refine w_inc_2_1 rfl rfl ?_
  show WP _ _ _ [_, some (.inl 3)] _ _ _
  refine w_go rfl ?_
  refine w_ldI rfl rfl ?_
  refine w_push rfl ?_
  refine w_crGe rfl (by omega) (by omega) (fun b => False.elim (by omega)) (fun _ => ?_)
  refine w_ldR rfl rfl rfl ?_
  refine w_getL rfl rfl rfl rfl rfl ?_
  refine w_ldI rfl rfl ?_
  refine w_newL (n1 := 145) (q := 2) rfl rfl rfl ?_
  refine w_dupR rfl ?_
  refine w_push rfl ?_
  refine w_kall rfl rfl rfl rfl rfl rfl rfl (n_61 (q := 40) (n1 := 146) rfl rfl rfl rfl rfl rfl) ?_
  refine w_rstK 3 rfl rfl rfl rfl rfl rfl rfl rfl rfl ?_
  refine w_inc_2_1 rfl rfl ?_
  show WP _ _ _ [_, some (.inl 4)] _ _ _
  refine w_go rfl ?_
  refine w_ldI rfl rfl ?_
  refine w_push rfl ?_
  refine w_crGe rfl (by omega) (by omega) (fun _ => ?_) (fun b => False.elim (by omega))
  refine w_retN rfl ⟨rfl, Prod.ext rfl (Prod.ext (by first | rfl | (dsimp only; omega)) ?_)⟩
  funext x
  dsimp only
  by_cases hx : 10 ≤ x ∧ x < 146
  · rw [grow_in hx]
    obtain rfl | rfl | rfl | rfl | rfl | rfl | rfl | rfl | rfl | rfl | rfl | rfl | rfl | rfl | rfl | rfl | rfl | rfl | rfl | rfl | rfl | rfl | rfl | rfl | rfl | rfl | rfl | rfl | rfl | rfl | rfl | rfl | rfl | rfl | rfl | rfl | rfl | rfl | rfl | rfl | rfl | rfl | rfl | rfl | rfl | rfl | rfl | rfl | rfl | rfl | rfl | rfl | rfl | rfl | rfl | rfl | rfl | rfl | rfl | rfl | rfl | rfl | rfl | rfl | rfl | rfl | rfl | rfl | rfl | rfl | rfl | rfl | rfl | rfl | rfl | rfl | rfl | rfl | rfl | rfl | rfl | rfl | rfl | rfl | rfl | rfl | rfl | rfl | rfl | rfl | rfl | rfl | rfl | rfl | rfl | rfl | rfl | rfl | rfl | rfl | rfl | rfl | rfl | rfl | rfl | rfl | rfl | rfl | rfl | rfl | rfl | rfl | rfl | rfl | rfl | rfl | rfl | rfl | rfl | rfl | rfl | rfl | rfl | rfl | rfl | rfl | rfl | rfl | rfl | rfl | rfl | rfl | rfl | rfl | rfl | rfl := (by omega : x = 10 ∨ x = 11 ∨ x = 12 ∨ x = 13 ∨ x = 14 ∨ x = 15 ∨ x = 16 ∨ x = 17 ∨ x = 18 ∨ x = 19 ∨ x = 20 ∨ x = 21 ∨ x = 22 ∨ x = 23 ∨ x = 24 ∨ x = 25 ∨ x = 26 ∨ x = 27 ∨ x = 28 ∨ x = 29 ∨ x = 30 ∨ x = 31 ∨ x = 32 ∨ x = 33 ∨ x = 34 ∨ x = 35 ∨ x = 36 ∨ x = 37 ∨ x = 38 ∨ x = 39 ∨ x = 40 ∨ x = 41 ∨ x = 42 ∨ x = 43 ∨ x = 44 ∨ x = 45 ∨ x = 46 ∨ x = 47 ∨ x = 48 ∨ x = 49 ∨ x = 50 ∨ x = 51 ∨ x = 52 ∨ x = 53 ∨ x = 54 ∨ x = 55 ∨ x = 56 ∨ x = 57 ∨ x = 58 ∨ x = 59 ∨ x = 60 ∨ x = 61 ∨ x = 62 ∨ x = 63 ∨ x = 64 ∨ x = 65 ∨ x = 66 ∨ x = 67 ∨ x = 68 ∨ x = 69 ∨ x = 70 ∨ x = 71 ∨ x = 72 ∨ x = 73 ∨ x = 74 ∨ x = 75 ∨ x = 76 ∨ x = 77 ∨ x = 78 ∨ x = 79 ∨ x = 80 ∨ x = 81 ∨ x = 82 ∨ x = 83 ∨ x = 84 ∨ x = 85 ∨ x = 86 ∨ x = 87 ∨ x = 88 ∨ x = 89 ∨ x = 90 ∨ x = 91 ∨ x = 92 ∨ x = 93 ∨ x = 94 ∨ x = 95 ∨ x = 96 ∨ x = 97 ∨ x = 98 ∨ x = 99 ∨ x = 100 ∨ x = 101 ∨ x = 102 ∨ x = 103 ∨ x = 104 ∨ x = 105 ∨ x = 106 ∨ x = 107 ∨ x = 108 ∨ x = 109 ∨ x = 110 ∨ x = 111 ∨ x = 112 ∨ x = 113 ∨ x = 114 ∨ x = 115 ∨ x = 116 ∨ x = 117 ∨ x = 118 ∨ x = 119 ∨ x = 120 ∨ x = 121 ∨ x = 122 ∨ x = 123 ∨ x = 124 ∨ x = 125 ∨ x = 126 ∨ x = 127 ∨ x = 128 ∨ x = 129 ∨ x = 130 ∨ x = 131 ∨ x = 132 ∨ x = 133 ∨ x = 134 ∨ x = 135 ∨ x = 136 ∨ x = 137 ∨ x = 138 ∨ x = 139 ∨ x = 140 ∨ x = 141 ∨ x = 142 ∨ x = 143 ∨ x = 144 ∨ x = 145)
    all_goals first | rfl | exact ref_2 | exact ref_4 | exact ref_6 29 29 rfl | exact ref_6 67 67 rfl | exact ref_6 105 105 rfl | exact d_147
  · rw [grow_ne (by omega)]
    simp (disch := omega) only [mup_ne, grow_ne]
theorem n_164 {X : Nat → Int} {N : Int} {d sl : Nat} {f : Nat → mEnt} (hg : f 146 = some (.inl (12, [.inr (.inr 0), .inr (.inr 0), .inr (.inr 0), .inl 0, .inr (.inr 0), .inl 0, .inl 0, .inl 0, .inl 0, .inl 0, .inl 0, .inr (.inr 0), .inr (.inr 0), .inl 0, .inr (.inr 0), .inr (.inr 0), .inr (.inr 0), .inr (.inr 0), .inr (.inr 0), .inr (.inr 0), .inr (.inr 0), .inl 0, .inl 0, .inr (.inr 0), .inr (.inr 0), .inr (.inr 0), .inr (.inr 0)]))) : Call (d + 1) 164 [.inr (.inr 146)] (147, sl, f) none (164, sl + 1424, grow X N f 146 164) := by
  refine QX.mk rfl ?_
  show WP (d + 1) 164 0 [some (.inr (.inr 146))] [] _ _
  refine w_ldR rfl rfl rfl ?_
  refine w_objI rfl rfl rfl ?_
  refine w_ldR rfl rfl rfl ?_
  refine w_push rfl ?_
  refine w_newAL (n1 := 148) 300 rfl rfl rfl rfl ?_
  refine w_putL rfl rfl hg rfl rfl rfl ?_
  refine w_ldR rfl rfl rfl ?_
  refine w_push rfl ?_
  refine w_newAL (n1 := 149) 300 rfl rfl rfl rfl ?_
  refine w_putL rfl rfl rfl rfl rfl rfl ?_
  refine w_ldR rfl rfl rfl ?_
  refine w_push rfl ?_
  refine w_newAL (n1 := 150) 300 rfl rfl rfl rfl ?_
  refine w_putL rfl rfl rfl rfl rfl rfl ?_
  refine w_ldR rfl rfl rfl ?_
  refine w_push rfl ?_
  refine w_newAL (n1 := 151) 6 rfl rfl rfl rfl ?_
  refine w_putL rfl rfl rfl rfl rfl rfl ?_
  refine w_ldR rfl rfl rfl ?_
  refine w_push rfl ?_
  refine w_newAL (n1 := 152) 4 rfl rfl rfl rfl ?_
  refine w_putL rfl rfl rfl rfl rfl rfl ?_
  refine w_ldR rfl rfl rfl ?_
  refine w_push rfl ?_
  refine w_newAL (n1 := 153) 60 rfl rfl rfl rfl ?_
  refine w_putL rfl rfl rfl rfl rfl rfl ?_
  refine w_ldR rfl rfl rfl ?_
  refine w_push rfl ?_
  refine w_newAL (n1 := 154) 60 rfl rfl rfl rfl ?_
  refine w_putL rfl rfl rfl rfl rfl rfl ?_
  refine w_ldR rfl rfl rfl ?_
  refine w_push rfl ?_
  refine w_newAL (n1 := 155) 36 rfl rfl rfl rfl ?_
  refine w_putL rfl rfl rfl rfl rfl rfl ?_
  refine w_ldR rfl rfl rfl ?_
  refine w_push rfl ?_
  refine w_newAL (n1 := 156) 36 rfl rfl rfl rfl ?_
  refine w_putL rfl rfl rfl rfl rfl rfl ?_
  refine w_ldR rfl rfl rfl ?_
  refine w_push rfl ?_
  refine w_newAL (n1 := 157) 64 rfl rfl rfl rfl ?_
  refine w_putL rfl rfl rfl rfl rfl rfl ?_
  refine w_ldR rfl rfl rfl ?_
  refine w_push rfl ?_
  refine w_newAL (n1 := 158) 6 rfl rfl rfl rfl ?_
  refine w_putL rfl rfl rfl rfl rfl rfl ?_
  refine w_ldR rfl rfl rfl ?_
  refine w_push rfl ?_
  refine w_newAL (n1 := 159) 4 rfl rfl rfl rfl ?_
  refine w_putL rfl rfl rfl rfl rfl rfl ?_
  refine w_ldR rfl rfl rfl ?_
  refine w_push rfl ?_
  refine w_newAL (n1 := 160) 40 rfl rfl rfl rfl ?_
  refine w_putL rfl rfl rfl rfl rfl rfl ?_
  refine w_ldR rfl rfl rfl ?_
  refine w_push rfl ?_
  refine w_newAL (n1 := 161) 4 rfl rfl rfl rfl ?_
  refine w_putL rfl rfl rfl rfl rfl rfl ?_
  refine w_ldR rfl rfl rfl ?_
  refine w_push rfl ?_
  refine w_newAL (n1 := 162) 4 rfl rfl rfl rfl ?_
  refine w_putL rfl rfl rfl rfl rfl rfl ?_
  refine w_ldR rfl rfl rfl ?_
  refine w_push rfl ?_
  refine w_newAL (n1 := 163) 160 rfl rfl rfl rfl ?_
  refine w_putL rfl rfl rfl rfl rfl rfl ?_
  refine w_ldR rfl rfl rfl ?_
  refine w_push rfl ?_
  refine w_newAL (n1 := 164) 40 rfl rfl rfl rfl ?_
  refine w_putL rfl rfl rfl rfl rfl rfl ?_
  refine w_ldR rfl rfl rfl ?_
  refine w_getL rfl rfl rfl rfl rfl ?_
  refine w_push rfl ?_
  refine w_push rfl ?_
  refine w_astK 37 rfl rfl rfl rfl rfl rfl ?_
  refine w_ldR rfl rfl rfl ?_
  refine w_getL rfl rfl rfl rfl rfl ?_
  refine w_push rfl ?_
  refine w_push rfl ?_
  refine w_astK 42 rfl rfl rfl rfl rfl rfl ?_
  refine w_retN rfl ⟨rfl, Prod.ext rfl (Prod.ext (by first | rfl | (dsimp only; omega)) ?_)⟩
  funext x
  dsimp only
  by_cases hx : 146 ≤ x ∧ x < 164
  · rw [grow_in hx]
    obtain rfl | rfl | rfl | rfl | rfl | rfl | rfl | rfl | rfl | rfl | rfl | rfl | rfl | rfl | rfl | rfl | rfl | rfl := (by omega : x = 146 ∨ x = 147 ∨ x = 148 ∨ x = 149 ∨ x = 150 ∨ x = 151 ∨ x = 152 ∨ x = 153 ∨ x = 154 ∨ x = 155 ∨ x = 156 ∨ x = 157 ∨ x = 158 ∨ x = 159 ∨ x = 160 ∨ x = 161 ∨ x = 162 ∨ x = 163)
    all_goals first | rfl | exact ref_2 | exact ref_4 | exact ref_6 29 29 rfl | exact ref_6 67 67 rfl | exact ref_6 105 105 rfl | exact d_147
  · rw [grow_ne (by omega)]
    simp (disch := omega) only [mup_ne, grow_ne]
/-- the heap with the script alone -/
def f0 (X : Nat → Int) (N : Int) : Nat → mEnt := fun a => if a = 1 then ep 0 N.toNat X else none
theorem f0_end {X : Nat → Int} {N : Int} {e1 e2 : mEnt} : (164, 3889, grow X N (mup (grow X N (mup (f0 X N) 10 e1) 10 146) 146 e2) 146 164) = encA (sI X N) := by
  refine Prod.ext rfl (Prod.ext rfl ?_)
  show (grow X N (mup (grow X N (mup (f0 X N) 10 e1) 10 146) 146 e2) 146 164) = enc (sI X N)
  funext x
  by_cases h1 : 146 ≤ x ∧ x < 164
  · rw [grow_in h1]
  · rw [grow_ne (by omega), mup_ne (by omega)]
    by_cases h2 : 10 ≤ x ∧ x < 146
    · rw [grow_in h2]
    · rw [grow_ne (by omega), mup_ne (by omega)]
      by_cases h3 : 164 ≤ x
      · unfold enc f0
        rw [layAt_164 h3]
        dsimp only
        rw [if_neg (by omega), if_neg (by omega), if_neg (fun z => by
          have e0 : sI X N 0 0 = 0 := rfl
          rw [e0] at z
          omega)]
      · obtain rfl | rfl | rfl | rfl | rfl | rfl | rfl | rfl | rfl | rfl := (by omega : x = 0 ∨ x = 1 ∨ x = 2 ∨ x = 3 ∨ x = 4 ∨ x = 5 ∨ x = 6 ∨ x = 7 ∨ x = 8 ∨ x = 9)
        all_goals rfl
theorem law_start {X : Nat → Int} {N : Int} {d : Nat} {Q : mQ} (k : WP (d + 151) 0 10 [some (.inr (.inr 1)), some (.inr (.inr 10)), some (.inr (.inr 146)), some (.inl 0)] [] (encA (sI X N)) Q) : WP (d + 151) 0 0 [some (.inr (.inr 1)), none, none, none] [] (10, 0, f0 X N) Q := by
  refine w_newL (n1 := 11) (q := 13) rfl rfl rfl ?_
  refine w_dupR rfl ?_
  refine w_kall rfl rfl rfl rfl rfl rfl rfl (n_100 (X := X) (N := N) rfl) ?_
  refine w_StR_4_1 rfl rfl rfl ?_
  refine w_newL (n1 := 147) (q := 27) rfl rfl rfl ?_
  refine w_dupR rfl ?_
  refine w_kall rfl rfl rfl rfl rfl rfl rfl (n_164 (X := X) (N := N) rfl) ?_
  refine w_StR_4_2 rfl rfl rfl ?_
  refine w_push rfl ?_
  refine w_StI_4_3 rfl rfl ?_
  have e : (164, 0 + 13 + 2425 + 27 + 1424, grow X N (mup (grow X N (mup (f0 X N) 10 (eo 11 [.inr (.inr 0), .inr (.inr 0), .inr (.inr 0), .inr (.inr 0), .inr (.inr 0), .inr (.inr 0), .inr (.inr 0), .inr (.inr 0), .inl 0, .inr (.inr 0), .inr (.inr 0), .inr (.inr 0), .inr (.inr 0)])) 10 146) 146 (eo 12 [.inr (.inr 0), .inr (.inr 0), .inr (.inr 0), .inl 0, .inr (.inr 0), .inl 0, .inl 0, .inl 0, .inl 0, .inl 0, .inl 0, .inr (.inr 0), .inr (.inr 0), .inl 0, .inr (.inr 0), .inr (.inr 0), .inr (.inr 0), .inr (.inr 0), .inr (.inr 0), .inr (.inr 0), .inr (.inr 0), .inl 0, .inl 0, .inr (.inr 0), .inr (.inr 0), .inr (.inr 0), .inr (.inr 0)])) 146 164) = encA (sI X N) := f0_end
  rw [← e] at k
  exact k
theorem sI_d {X : Nat → Int} {N : Int} {j : Nat} (h1 : ¬ j = 37) (h2 : ¬ j = 42) : sI X N 147 j = 0 := by
  show (if j = 37 then (1 : Int) else if j = 42 then 1 else 0) = 0
  rw [if_neg h1, if_neg h2]
theorem sI_M {X : Nat → Int} {N : Int} : MOk (sI X N 147) := by
  refine ⟨?_, ?_, ?_, ?_, ?_, ?_, ?_, ?_, fun c hc => ?_, fun w hw => ?_, fun p hp => ?_, fun i hi => ?_, fun i hi => ?_⟩
  · rw [sI_d (by omega) (by omega)]; omega
  · rw [sI_d (by omega) (by omega)]; omega
  · rw [sI_d (by omega) (by omega)]; omega
  · rw [sI_d (by omega) (by omega)]; omega
  · rw [sI_d (by omega) (by omega)]; omega
  · rw [sI_d (by omega) (by omega)]; omega
  · rw [show sI X N 147 37 = 1 from rfl]; omega
  · rw [sI_d (by omega) (by omega)]; omega
  · rw [sI_d (by omega) (by omega)]; omega
  · rw [sI_d (by omega) (by omega), sI_d (by omega) (by omega), sI_d (by omega) (by omega), sI_d (by omega) (by omega)]; omega
  · rw [sI_d (by omega) (by omega), sI_d (by omega) (by omega), sI_d (by omega) (by omega), sI_d (by omega) (by omega)]; omega
  · rw [sI_d (by omega) (by omega)]; omega
  · rw [sI_d (by omega) (by omega)]; omega
theorem sI_C {X : Nat → Int} {N : Int} : COk (sI X N 147) := by
  refine ⟨⟨?_, fun k hk => ?_⟩, ⟨?_, fun k hk => ?_⟩⟩
  · rw [sI_d (by decide) (by decide)]; omega
  · rw [sI_d (by decide) (by decide)] at hk; omega
  · rw [sI_d (by decide) (by decide)]; omega
  · rw [sI_d (by decide) (by decide)] at hk; omega
theorem sI_lamps {X : Nat → Int} {N : Int} : ∀ i : Int, 0 ≤ i → i < 6 → LampAt (sI X N) (sI X N 15 i.toNat) (sI X N 147 (45 + 4 * i + 0).toNat) i (sI X N 147 (45 + 4 * i + 1).toNat) := by
  intro i h1 h2
  rw [sI_d (by omega) (by omega), sI_d (by omega) (by omega)]
  rcases (show i = 0 ∨ i = 1 ∨ i = 2 ∨ i = 3 ∨ i = 4 ∨ i = 5 by omega) with rfl | rfl | rfl | rfl | rfl | rfl
  · exact ⟨29, rfl, rfl, rfl, rfl⟩
  · exact ⟨30, rfl, rfl, rfl, rfl⟩
  · exact ⟨31, rfl, rfl, rfl, rfl⟩
  · exact ⟨32, rfl, rfl, rfl, rfl⟩
  · exact ⟨33, rfl, rfl, rfl, rfl⟩
  · exact ⟨34, rfl, rfl, rfl, rfl⟩
theorem sI_V {X : Nat → Int} {N : Int} : VN13 (sI X N) (sI X N 147) :=
  ⟨fun i h1 h2 => by rw [sI_d (by omega) (by omega)]; rfl,
   fun i h1 h2 => by rw [sI_d (by omega) (by omega)]; rfl,
   fun i h1 h2 => by rw [sI_d (by omega) (by omega)]; rfl,
   fun i h1 h2 => by rw [sI_d (by omega) (by omega)]; rfl,
   fun i h1 h2 => by rw [sI_d (by omega) (by omega)]; rfl,
   fun i h1 h2 => by rw [sI_d (by omega) (by omega)]; rfl,
   fun i h1 h2 => by rw [sI_d (by omega) (by omega)]; rfl,
   fun i h1 h2 => by rw [sI_d (by decide) (by decide)] at h2; omega,
   fun i h1 h2 => by rw [sI_d (by decide) (by decide)] at h2; omega,
   fun i h1 h2 => by rw [sI_d (by decide) (by decide)] at h2; omega,
   rfl,
   rfl,
   rfl,
   rfl,
   rfl,
   rfl,
   rfl,
   rfl,
   ⟨rfl, rfl, fun i h1 h2 h3 => by rw [sI_d (by decide) (by decide)] at h2; omega⟩,
   ⟨rfl, rfl, fun i h1 h2 h3 => by rw [sI_d (by decide) (by decide)] at h2; omega⟩,
   sI_lamps⟩
theorem sI_sh {X : Nat → Int} {N : Int} {r k : Nat} (h1 : sI X N 131 k = 0) (h2 : sI X N 160 k = 0) (h3 : sI X N 161 k = 0) (h4 : sI X N r 1 = 0) (h5 : ∀ i, sI X N (r + 1) i = 0) (h6 : ∀ i, sI X N 162 i = 0) : ShR (sI X N) r k := by
  refine ⟨by rw [h1, h2], Or.inl h2, by rw [h3]; omega, by rw [h4, h3], fun i _ _ => ?_⟩
  rw [h2, h5, h6]
  exact Or.inr (Or.inr (Or.inr ⟨rfl, rfl, rfl⟩))
theorem sI_inv {X : Nat → Int} {N : Int} (hX : ∀ i, -2147483648 ≤ X i ∧ X i < 2147483648) : Inv X N (sI X N) 0 := by
  refine ⟨⟨⟨sI_M, sI_C, ?_⟩, sI_V, rfl⟩, ⟨rfl, ?_, ?_, fun h => ?_⟩, fun k _ _ => rfl, ⟨rfl, ?_, fun i _ _ => rfl⟩, ⟨sI_sh rfl rfl rfl rfl (fun _ => rfl) (fun _ => rfl), sI_sh rfl rfl rfl rfl (fun _ => rfl) (fun _ => rfl), sI_sh rfl rfl rfl rfl (fun _ => rfl) (fun _ => rfl), sI_sh rfl rfl rfl rfl (fun _ => rfl) (fun _ => rfl)⟩, fun i hi => ⟨sI_d (by omega) (by omega), rfl, rfl⟩, ?_, ⟨hX, rfl, rfl⟩, ⟨rfl, rfl, rfl, rfl⟩⟩
  · rw [sI_d (by omega) (by omega)]; omega
  · rw [show sI X N 146 3 = 0 from rfl]; omega
  · rw [show sI X N 146 3 = 0 from rfl]; omega
  · rw [show sI X N 146 3 = 0 from rfl] at h; omega
  · rw [show sI X N 146 21 = 0 from rfl]; omega
  · show 0 ≤ sI X N 0 0 ∧ sI X N 0 0 ≤ 0
    rw [show sI X N 0 0 = 0 from rfl]; omega
