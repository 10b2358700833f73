/-! ===== the text: the two literals ===== -/
theorem w_strV {d mt j : Nat} {L : mL} {S : mS} {h : mH} {Q : mQ} {a nx : Nat} (hc : (mPr mt).2 j = some (opStrV nx)) (ha : a = 2 ∨ a = 4) (k : WP d mt nx L (.inr (.inr (a + 1)) :: S) h Q) : WP d mt j L (.inr (.inr a) :: S) h Q := by
  obtain ⟨r, h', kr, z⟩ := k
  refine ⟨r, h', Run.step hc ?_ kr, z⟩
  unfold opStrV
  dsimp only
  rw [if_pos ha]
theorem w_strC {d mt j : Nat} {L : mL} {S : mS} {h : mH} {Q : mQ} {a nx : Nat} (hc : (mPr mt).2 j = some (opStrC nx)) (ha : a = 2 ∨ a = 4) (k : WP d mt nx L (.inl 0 :: S) h Q) : WP d mt j L (.inr (.inr a) :: S) h Q := by
  obtain ⟨r, h', kr, z⟩ := k
  refine ⟨r, h', Run.step hc ?_ kr, z⟩
  unfold opStrC
  dsimp only
  rw [if_pos ha]
theorem w_strL {d mt j : Nat} {L : mL} {S : mS} {h : mH} {Q : mQ} {a nx : Nat} (hc : (mPr mt).2 j = some (opStrL nx)) (ha : a = 3 ∨ a = 5) (k : WP d mt nx L (.inl 4 :: S) h Q) : WP d mt j L (.inr (.inr a) :: S) h Q := by
  obtain ⟨r, h', kr, z⟩ := k
  refine ⟨r, h', Run.step hc ?_ kr, z⟩
  unfold opStrL
  dsimp only
  rw [if_pos ha]
theorem w_strB {d mt j : Nat} {L : mL} {S : mS} {h : mH} {Q : mQ} {a nx : Nat} {i : Int} (hc : (mPr mt).2 j = some (opStrB nx)) (ha : a = 3 ∨ a = 5) (hi : 0 ≤ i ∧ i < 4) (k : WP d mt nx L (.inl (mByte a i.toNat) :: S) h Q) : WP d mt j L (.inl i :: .inr (.inr a) :: S) h Q := by
  obtain ⟨r, h', kr, z⟩ := k
  refine ⟨r, h', Run.step hc ?_ kr, z⟩
  unfold opStrB
  dsimp only
  rw [w32_id (by omega) (by omega), if_pos ⟨ha, hi.1, hi.2⟩]
theorem i2b_255 {c : Int} (hc : 0 ≤ c ∧ c ≤ 255) : -128 ≤ m_i2b c ∧ m_i2b c ≤ 127 := by
  obtain ⟨n, rfl⟩ : ∃ n : Nat, c = (n : Int) := ⟨c.toNat, by omega⟩
  have h : ∀ q : Fin 256, -128 ≤ m_i2b (q.val : Int) ∧ m_i2b (q.val : Int) ≤ 127 := by decide +kernel
  exact h ⟨n, by omega⟩
theorem k_coder2 {d : Nat} {s : mSt}  : Call (d + 0) 7 [.inr (.inr 2)] (encA (s)) (some (.inl (0))) (encA (s)) := by
  refine CI.ex (CI.mk rfl ?_)
  show WP (d + 0) 7 0 [some (.inr (.inr 2))] [] (encA (s)) _
  refine w_push rfl ?_
  refine w_irEq0 rfl (by omega) (fun b1 => ?_) (fun b1 => ?_)
  · first
    | (exfalso; omega)
    | (refine w_push rfl ?_
       refine w_retB rfl (by first | exact bI_01 _ | decide | omega) ?_
       first | exact ⟨rfl, rfl⟩ | (exfalso; omega))
  · first
    | (exfalso; omega)
    | (refine w_ldR rfl rfl rfl ?_
       refine w_strC rfl (by decide) ?_
       refine w_go rfl ?_
       refine w_retB rfl (by first | exact bI_01 _ | decide | omega) ?_
       first | exact ⟨rfl, rfl⟩ | (exfalso; omega))
theorem k_len2 {d : Nat} {s : mSt}  : Call (d + 1) 6 [.inr (.inr 2)] (encA (s)) (some (.inl (4))) (encA (s)) := by
  refine CI.ex (CI.mk rfl ?_)
  show WP (d + 1) 6 0 [some (.inr (.inr 2))] [] (encA (s)) _
  refine w_ldR rfl rfl rfl ?_
  refine w_strV rfl (by decide) ?_
  refine w_strL rfl (by decide) ?_
  refine w_ldR rfl rfl rfl ?_
  refine w_callT rfl rfl rfl rfl (by decide) k_coder2 ?_
  refine w_bin rfl ?_
  refine w_retI rfl ?_
  exact ⟨by decide, rfl⟩
theorem k_latin2 {d : Nat} {s : mSt}  : Call (d + 0) 5 [.inr (.inr 2)] (encA (s)) (some (.inl (1))) (encA (s)) := by
  refine CI.ex (CI.mk rfl ?_)
  show WP (d + 0) 5 0 [some (.inr (.inr 2))] [] (encA (s)) _
  refine w_push rfl ?_
  refine w_irEq0 rfl (by omega) (fun b1 => ?_) (fun b1 => ?_)
  · first
    | (exfalso; omega)
    | (refine w_push rfl ?_
       refine w_retB rfl (by first | exact bI_01 _ | decide | omega) ?_
       first | exact ⟨rfl, rfl⟩ | (exfalso; omega))
  · first
    | (exfalso; omega)
    | (refine w_ldR rfl rfl rfl ?_
       refine w_strC rfl (by decide) ?_
       refine w_irNe0 rfl (by omega) (fun b4 => ?_) (fun b4 => ?_)
       · first
         | (exfalso; omega)
         | (refine w_push rfl ?_
            refine w_retB rfl (by first | exact bI_01 _ | decide | omega) ?_
            first | exact ⟨rfl, rfl⟩ | (exfalso; omega))
       · first
         | (exfalso; omega)
         | (refine w_push rfl ?_
            refine w_go rfl ?_
            refine w_retB rfl (by first | exact bI_01 _ | decide | omega) ?_
            first | exact ⟨rfl, rfl⟩ | (exfalso; omega)))
theorem ix_2 {c : Int} (hc : 0 ≤ c ∧ c ≤ 255) : (∀ k : Nat, k < 4 → (m_i2b c = mByte 3 k ↔ c = mByte 3 k)) ∧ nmF 0 c = (if c = mByte 3 0 then 0 else if c = mByte 3 1 then 1 else if c = mByte 3 2 then 2 else if c = mByte 3 3 then 3 else -1) := by
  obtain ⟨n, rfl⟩ : ∃ n : Nat, c = (n : Int) := ⟨c.toNat, by omega⟩
  have h : ∀ q : Fin 256, (∀ k : Fin 4, (m_i2b (q.val : Int) = mByte 3 k.val ↔ (q.val : Int) = mByte 3 k.val)) := by decide +kernel
  exact ⟨fun k hk => h ⟨n, by omega⟩ ⟨k, hk⟩, rfl⟩
theorem l_ixc2 {d : Nat} {s : mSt} {c : Int} (hc : 0 ≤ c ∧ c ≤ 255) (k : Nat) (i : Int) (hi : i = (k : Int)) (hk : k ≤ 4) (hn : ∀ q : Nat, q < k → ¬ c = mByte 3 q) {P : Int → mSt → Prop} (hP : P (nmF 0 c) s) : WP (d + 0) 10 5 [some (.inr (.inr 3)), some (.inl c), some (.inl 0), some (.inl 4), some (.inl (m_i2b c)), some (.inl i)] [] (encA (s)) (QI P) := by
  subst hi
  refine w_ldI rfl rfl ?_
  refine w_ldI rfl rfl ?_
  refine w_crGe rfl (by omega) (by omega) (fun b7 => ?_) (fun b7 => ?_)
  · first
    | (exfalso; omega)
    | (refine w_push rfl ?_
       refine w_retI rfl ?_
       have hx := (ix_2 hc).2
       first
       | (have e := ((ix_2 hc).1 k (by omega)).1 b12.symm
          rcases (show k = 0 ∨ k = 1 ∨ k = 2 ∨ k = 3 by omega) with rfl | rfl | rfl | rfl
          all_goals
            rw [hx] at hP
            simp [e, mByte] at hP
            exact hP)
       | (obtain rfl : k = 4 := by omega
          rw [hx, if_neg (hn 0 (by omega)), if_neg (hn 1 (by omega)), if_neg (hn 2 (by omega)), if_neg (hn 3 (by omega))] at hP
          exact hP))
  · first
    | (exfalso; omega)
    | (refine w_ldR rfl rfl rfl ?_
       refine w_ldI rfl rfl ?_
       refine w_strB rfl (by decide) (by omega) ?_
       rw [Int.toNat_natCast]
       have hbr : ∀ q : Fin 4, -128 ≤ mByte 3 q.val ∧ mByte 3 q.val ≤ 127 := by decide
       have hbk : -128 ≤ mByte 3 k ∧ mByte 3 k ≤ 127 := hbr ⟨k, by omega⟩
       have hcr : -128 ≤ m_i2b c ∧ m_i2b c ≤ 127 := i2b_255 hc
       refine w_ldI rfl rfl ?_
       refine w_crNe rfl (by omega) (by omega) (fun b12 => ?_) (fun b12 => ?_)
       · first
         | (exfalso; omega)
         | (refine w_inc_6_5 rfl rfl ?_
            refine w_go rfl ?_
            exact l_ixc2 hc (k + 1) ((k : Int) + 1) (by omega) (by omega) (fun q hq => by
              by_cases e : q = k
              · rw [e]; exact fun z => b12 (((ix_2 hc).1 k (by omega)).2 z).symm
              · exact hn q (by omega)) hP)
       · first
         | (exfalso; omega)
         | (refine w_ldI rfl rfl ?_
            refine w_retI rfl ?_
            have hx := (ix_2 hc).2
            first
            | (have e := ((ix_2 hc).1 k (by omega)).1 b12.symm
               rcases (show k = 0 ∨ k = 1 ∨ k = 2 ∨ k = 3 by omega) with rfl | rfl | rfl | rfl
               all_goals
                 rw [hx] at hP
                 simp [e, mByte] at hP
                 exact hP)
            | (obtain rfl : k = 4 := by omega
               rw [hx, if_neg (hn 0 (by omega)), if_neg (hn 1 (by omega)), if_neg (hn 2 (by omega)), if_neg (hn 3 (by omega))] at hP
               exact hP)))
termination_by 4 - k
decreasing_by all_goals omega
theorem k_ixc2 {d : Nat} {s : mSt} {c : Int} (hc : 0 ≤ c ∧ c ≤ 255) : Call (d + 0) 10 [.inr (.inr 3), .inl c, .inl 0, .inl 4] (encA (s)) (some (.inl (nmF 0 c))) (encA (s)) := by
  refine CI.ex (CI.mk rfl ?_)
  show WP (d + 0) 10 0 [some (.inr (.inr 3)), some (.inl c), some (.inl 0), some (.inl 4), none, none] [] (encA (s)) _
  refine w_ldI rfl rfl ?_
  refine w_un rfl ?_
  refine w_StI_6_4 rfl rfl ?_
  refine w_ldI rfl rfl ?_
  refine w_StI_6_5 rfl rfl ?_
  exact l_ixc2 hc 0 0 rfl (by omega) (fun q hq => absurd hq (Nat.not_lt_zero q)) ⟨rfl, rfl⟩
theorem k_canE {d : Nat} {s : mSt} {c : Int} (hc : 0 ≤ c ∧ c ≤ 255) : Call (d + 0) 9 [.inl c] (encA (s)) (some (.inl (1))) (encA (s)) := by
  refine CI.ex (CI.mk rfl ?_)
  show WP (d + 0) 9 0 [some (.inl c)] [] (encA (s)) _
  refine w_ldI rfl rfl ?_
  refine w_irLt0 rfl (by omega) (fun b1 => ?_) (fun b1 => ?_)
  · first
    | (exfalso; omega)
    | (refine w_push rfl ?_
       refine w_retB rfl (by first | exact bI_01 _ | decide | omega) ?_
       first | exact ⟨rfl, rfl⟩ | (exfalso; omega))
  · first
    | (exfalso; omega)
    | (refine w_ldI rfl rfl ?_
       refine w_push rfl ?_
       refine w_crGt rfl (by omega) (by omega) (fun b4 => ?_) (fun b4 => ?_)
       · first
         | (exfalso; omega)
         | (refine w_push rfl ?_
            refine w_retB rfl (by first | exact bI_01 _ | decide | omega) ?_
            first | exact ⟨rfl, rfl⟩ | (exfalso; omega))
       · first
         | (exfalso; omega)
         | (refine w_push rfl ?_
            refine w_go rfl ?_
            refine w_retB rfl (by first | exact bI_01 _ | decide | omega) ?_
            first | exact ⟨rfl, rfl⟩ | (exfalso; omega)))
theorem k_ixb2 {d : Nat} {s : mSt} {c : Int} (hc : 0 ≤ c ∧ c ≤ 255) : Call (d + 1) 8 [.inr (.inr 3), .inl c, .inl 0, .inl 4] (encA (s)) (some (.inl (nmF 0 c))) (encA (s)) := by
  refine CI.ex (CI.mk rfl ?_)
  show WP (d + 1) 8 0 [some (.inr (.inr 3)), some (.inl c), some (.inl 0), some (.inl 4)] [] (encA (s)) _
  refine w_ldI rfl rfl ?_
  refine w_call rfl rfl rfl (k_canE hc) ?_
  refine w_irNe0 rfl (by omega) (fun b2 => ?_) (fun b2 => ?_)
  · first
    | (exfalso; omega)
    | (refine w_ldI rfl rfl ?_
       refine w_push rfl ?_
       refine w_m2 rfl rfl ?_
       rw [show m_max 0 0 = 0 by decide]
       refine w_StI_4_2 rfl rfl ?_
       refine w_ldI rfl rfl ?_
       refine w_ldR rfl rfl rfl ?_
       refine w_strL rfl (by decide) ?_
       refine w_m2 rfl rfl ?_
       rw [show m_min 4 4 = 4 by decide]
       refine w_StI_4_3 rfl rfl ?_
       refine w_ldI rfl rfl ?_
       refine w_ldI rfl rfl ?_
       refine w_crLt rfl (by omega) (by omega) (fun b16 => ?_) (fun b16 => ?_)
       · first
         | (exfalso; omega)
         | (refine w_ldR rfl rfl rfl ?_
            refine w_ldI rfl rfl ?_
            refine w_ldI rfl rfl ?_
            refine w_ldI rfl rfl ?_
            refine w_call rfl rfl rfl (k_ixc2 hc) ?_
            refine w_retI rfl ?_
            first | exact ⟨rfl, rfl⟩ | (exfalso; omega))
       · first
         | (exfalso; omega)
         | (refine w_push rfl ?_
            refine w_retI rfl ?_
            first | exact ⟨rfl, rfl⟩ | (exfalso; omega)))
  · first
    | (exfalso; omega)
    | (refine w_push rfl ?_
       refine w_retI rfl ?_
       first | exact ⟨rfl, rfl⟩ | (exfalso; omega))
theorem k_ixs2 {d : Nat} {s : mSt} {c : Int} (hc : 0 ≤ c ∧ c ≤ 255) : Call (d + 2) 4 [.inr (.inr 2), .inl c, .inl 0] (encA (s)) (some (.inl (nmF 0 c))) (encA (s)) := by
  refine CI.ex (CI.mk rfl ?_)
  show WP (d + 2) 4 0 [some (.inr (.inr 2)), some (.inl c), some (.inl 0)] [] (encA (s)) _
  refine w_ldR rfl rfl rfl ?_
  refine w_callT rfl rfl rfl rfl (by decide) k_latin2 ?_
  refine w_irEq0 rfl (by omega) (fun b2 => ?_) (fun b2 => ?_)
  · (exfalso; omega)
  · first
    | (exfalso; omega)
    | (refine w_ldR rfl rfl rfl ?_
       refine w_strV rfl (by decide) ?_
       refine w_ldI rfl rfl ?_
       refine w_ldI rfl rfl ?_
       refine w_ldR rfl rfl rfl ?_
       refine w_callT rfl rfl rfl rfl (by decide) k_len2 ?_
       refine w_call rfl rfl rfl (k_ixb2 hc) ?_
       refine w_go rfl ?_
       refine w_retI rfl ?_
       exact ⟨rfl, rfl⟩)
theorem k_ix2 {d : Nat} {s : mSt} {c : Int} (hc : 0 ≤ c ∧ c ≤ 255) : Call (d + 3) 3 [.inr (.inr 2), .inl c] (encA (s)) (some (.inl (nmF 0 c))) (encA (s)) := by
  refine CI.ex (CI.mk rfl ?_)
  show WP (d + 3) 3 0 [some (.inr (.inr 2)), some (.inl c)] [] (encA (s)) _
  refine w_ldR rfl rfl rfl ?_
  refine w_ldI rfl rfl ?_
  refine w_push rfl ?_
  refine w_callT rfl rfl rfl rfl (by decide) (k_ixs2 hc) ?_
  refine w_retI rfl ?_
  exact ⟨rfl, rfl⟩
theorem k_coder4 {d : Nat} {s : mSt}  : Call (d + 0) 7 [.inr (.inr 4)] (encA (s)) (some (.inl (0))) (encA (s)) := by
  refine CI.ex (CI.mk rfl ?_)
  show WP (d + 0) 7 0 [some (.inr (.inr 4))] [] (encA (s)) _
  refine w_push rfl ?_
  refine w_irEq0 rfl (by omega) (fun b1 => ?_) (fun b1 => ?_)
  · first
    | (exfalso; omega)
    | (refine w_push rfl ?_
       refine w_retB rfl (by first | exact bI_01 _ | decide | omega) ?_
       first | exact ⟨rfl, rfl⟩ | (exfalso; omega))
  · first
    | (exfalso; omega)
    | (refine w_ldR rfl rfl rfl ?_
       refine w_strC rfl (by decide) ?_
       refine w_go rfl ?_
       refine w_retB rfl (by first | exact bI_01 _ | decide | omega) ?_
       first | exact ⟨rfl, rfl⟩ | (exfalso; omega))
theorem k_len4 {d : Nat} {s : mSt}  : Call (d + 1) 6 [.inr (.inr 4)] (encA (s)) (some (.inl (4))) (encA (s)) := by
  refine CI.ex (CI.mk rfl ?_)
  show WP (d + 1) 6 0 [some (.inr (.inr 4))] [] (encA (s)) _
  refine w_ldR rfl rfl rfl ?_
  refine w_strV rfl (by decide) ?_
  refine w_strL rfl (by decide) ?_
  refine w_ldR rfl rfl rfl ?_
  refine w_callT rfl rfl rfl rfl (by decide) k_coder4 ?_
  refine w_bin rfl ?_
  refine w_retI rfl ?_
  exact ⟨by decide, rfl⟩
theorem k_latin4 {d : Nat} {s : mSt}  : Call (d + 0) 5 [.inr (.inr 4)] (encA (s)) (some (.inl (1))) (encA (s)) := by
  refine CI.ex (CI.mk rfl ?_)
  show WP (d + 0) 5 0 [some (.inr (.inr 4))] [] (encA (s)) _
  refine w_push rfl ?_
  refine w_irEq0 rfl (by omega) (fun b1 => ?_) (fun b1 => ?_)
  · first
    | (exfalso; omega)
    | (refine w_push rfl ?_
       refine w_retB rfl (by first | exact bI_01 _ | decide | omega) ?_
       first | exact ⟨rfl, rfl⟩ | (exfalso; omega))
  · first
    | (exfalso; omega)
    | (refine w_ldR rfl rfl rfl ?_
       refine w_strC rfl (by decide) ?_
       refine w_irNe0 rfl (by omega) (fun b4 => ?_) (fun b4 => ?_)
       · first
         | (exfalso; omega)
         | (refine w_push rfl ?_
            refine w_retB rfl (by first | exact bI_01 _ | decide | omega) ?_
            first | exact ⟨rfl, rfl⟩ | (exfalso; omega))
       · first
         | (exfalso; omega)
         | (refine w_push rfl ?_
            refine w_go rfl ?_
            refine w_retB rfl (by first | exact bI_01 _ | decide | omega) ?_
            first | exact ⟨rfl, rfl⟩ | (exfalso; omega)))
theorem ix_4 {c : Int} (hc : 0 ≤ c ∧ c ≤ 255) : (∀ k : Nat, k < 4 → (m_i2b c = mByte 5 k ↔ c = mByte 5 k)) ∧ nmF 1 c = (if c = mByte 5 0 then 0 else if c = mByte 5 1 then 1 else if c = mByte 5 2 then 2 else if c = mByte 5 3 then 3 else -1) := by
  obtain ⟨n, rfl⟩ : ∃ n : Nat, c = (n : Int) := ⟨c.toNat, by omega⟩
  have h : ∀ q : Fin 256, (∀ k : Fin 4, (m_i2b (q.val : Int) = mByte 5 k.val ↔ (q.val : Int) = mByte 5 k.val)) := by decide +kernel
  exact ⟨fun k hk => h ⟨n, by omega⟩ ⟨k, hk⟩, rfl⟩
theorem l_ixc4 {d : Nat} {s : mSt} {c : Int} (hc : 0 ≤ c ∧ c ≤ 255) (k : Nat) (i : Int) (hi : i = (k : Int)) (hk : k ≤ 4) (hn : ∀ q : Nat, q < k → ¬ c = mByte 5 q) {P : Int → mSt → Prop} (hP : P (nmF 1 c) s) : WP (d + 0) 10 5 [some (.inr (.inr 5)), some (.inl c), some (.inl 0), some (.inl 4), some (.inl (m_i2b c)), some (.inl i)] [] (encA (s)) (QI P) := by
  subst hi
  refine w_ldI rfl rfl ?_
  refine w_ldI rfl rfl ?_
  refine w_crGe rfl (by omega) (by omega) (fun b7 => ?_) (fun b7 => ?_)
  · first
    | (exfalso; omega)
    | (refine w_push rfl ?_
       refine w_retI rfl ?_
       have hx := (ix_4 hc).2
       first
       | (have e := ((ix_4 hc).1 k (by omega)).1 b12.symm
          rcases (show k = 0 ∨ k = 1 ∨ k = 2 ∨ k = 3 by omega) with rfl | rfl | rfl | rfl
          all_goals
            rw [hx] at hP
            simp [e, mByte] at hP
            exact hP)
       | (obtain rfl : k = 4 := by omega
          rw [hx, if_neg (hn 0 (by omega)), if_neg (hn 1 (by omega)), if_neg (hn 2 (by omega)), if_neg (hn 3 (by omega))] at hP
          exact hP))
  · first
    | (exfalso; omega)
    | (refine w_ldR rfl rfl rfl ?_
       refine w_ldI rfl rfl ?_
       refine w_strB rfl (by decide) (by omega) ?_
       rw [Int.toNat_natCast]
       have hbr : ∀ q : Fin 4, -128 ≤ mByte 5 q.val ∧ mByte 5 q.val ≤ 127 := by decide
       have hbk : -128 ≤ mByte 5 k ∧ mByte 5 k ≤ 127 := hbr ⟨k, by omega⟩
       have hcr : -128 ≤ m_i2b c ∧ m_i2b c ≤ 127 := i2b_255 hc
       refine w_ldI rfl rfl ?_
       refine w_crNe rfl (by omega) (by omega) (fun b12 => ?_) (fun b12 => ?_)
       · first
         | (exfalso; omega)
         | (refine w_inc_6_5 rfl rfl ?_
            refine w_go rfl ?_
            exact l_ixc4 hc (k + 1) ((k : Int) + 1) (by omega) (by omega) (fun q hq => by
              by_cases e : q = k
              · rw [e]; exact fun z => b12 (((ix_4 hc).1 k (by omega)).2 z).symm
              · exact hn q (by omega)) hP)
       · first
         | (exfalso; omega)
         | (refine w_ldI rfl rfl ?_
            refine w_retI rfl ?_
            have hx := (ix_4 hc).2
            first
            | (have e := ((ix_4 hc).1 k (by omega)).1 b12.symm
               rcases (show k = 0 ∨ k = 1 ∨ k = 2 ∨ k = 3 by omega) with rfl | rfl | rfl | rfl
               all_goals
                 rw [hx] at hP
                 simp [e, mByte] at hP
                 exact hP)
            | (obtain rfl : k = 4 := by omega
               rw [hx, if_neg (hn 0 (by omega)), if_neg (hn 1 (by omega)), if_neg (hn 2 (by omega)), if_neg (hn 3 (by omega))] at hP
               exact hP)))
termination_by 4 - k
decreasing_by all_goals omega
theorem k_ixc4 {d : Nat} {s : mSt} {c : Int} (hc : 0 ≤ c ∧ c ≤ 255) : Call (d + 0) 10 [.inr (.inr 5), .inl c, .inl 0, .inl 4] (encA (s)) (some (.inl (nmF 1 c))) (encA (s)) := by
  refine CI.ex (CI.mk rfl ?_)
  show WP (d + 0) 10 0 [some (.inr (.inr 5)), some (.inl c), some (.inl 0), some (.inl 4), none, none] [] (encA (s)) _
  refine w_ldI rfl rfl ?_
  refine w_un rfl ?_
  refine w_StI_6_4 rfl rfl ?_
  refine w_ldI rfl rfl ?_
  refine w_StI_6_5 rfl rfl ?_
  exact l_ixc4 hc 0 0 rfl (by omega) (fun q hq => absurd hq (Nat.not_lt_zero q)) ⟨rfl, rfl⟩
theorem k_ixb4 {d : Nat} {s : mSt} {c : Int} (hc : 0 ≤ c ∧ c ≤ 255) : Call (d + 1) 8 [.inr (.inr 5), .inl c, .inl 0, .inl 4] (encA (s)) (some (.inl (nmF 1 c))) (encA (s)) := by
  refine CI.ex (CI.mk rfl ?_)
  show WP (d + 1) 8 0 [some (.inr (.inr 5)), some (.inl c), some (.inl 0), some (.inl 4)] [] (encA (s)) _
  refine w_ldI rfl rfl ?_
  refine w_call rfl rfl rfl (k_canE hc) ?_
  refine w_irNe0 rfl (by omega) (fun b2 => ?_) (fun b2 => ?_)
  · first
    | (exfalso; omega)
    | (refine w_ldI rfl rfl ?_
       refine w_push rfl ?_
       refine w_m2 rfl rfl ?_
       rw [show m_max 0 0 = 0 by decide]
       refine w_StI_4_2 rfl rfl ?_
       refine w_ldI rfl rfl ?_
       refine w_ldR rfl rfl rfl ?_
       refine w_strL rfl (by decide) ?_
       refine w_m2 rfl rfl ?_
       rw [show m_min 4 4 = 4 by decide]
       refine w_StI_4_3 rfl rfl ?_
       refine w_ldI rfl rfl ?_
       refine w_ldI rfl rfl ?_
       refine w_crLt rfl (by omega) (by omega) (fun b16 => ?_) (fun b16 => ?_)
       · first
         | (exfalso; omega)
         | (refine w_ldR rfl rfl rfl ?_
            refine w_ldI rfl rfl ?_
            refine w_ldI rfl rfl ?_
            refine w_ldI rfl rfl ?_
            refine w_call rfl rfl rfl (k_ixc4 hc) ?_
            refine w_retI rfl ?_
            first | exact ⟨rfl, rfl⟩ | (exfalso; omega))
       · first
         | (exfalso; omega)
         | (refine w_push rfl ?_
            refine w_retI rfl ?_
            first | exact ⟨rfl, rfl⟩ | (exfalso; omega)))
  · first
    | (exfalso; omega)
    | (refine w_push rfl ?_
       refine w_retI rfl ?_
       first | exact ⟨rfl, rfl⟩ | (exfalso; omega))
theorem k_ixs4 {d : Nat} {s : mSt} {c : Int} (hc : 0 ≤ c ∧ c ≤ 255) : Call (d + 2) 4 [.inr (.inr 4), .inl c, .inl 0] (encA (s)) (some (.inl (nmF 1 c))) (encA (s)) := by
  refine CI.ex (CI.mk rfl ?_)
  show WP (d + 2) 4 0 [some (.inr (.inr 4)), some (.inl c), some (.inl 0)] [] (encA (s)) _
  refine w_ldR rfl rfl rfl ?_
  refine w_callT rfl rfl rfl rfl (by decide) k_latin4 ?_
  refine w_irEq0 rfl (by omega) (fun b2 => ?_) (fun b2 => ?_)
  · (exfalso; omega)
  · first
    | (exfalso; omega)
    | (refine w_ldR rfl rfl rfl ?_
       refine w_strV rfl (by decide) ?_
       refine w_ldI rfl rfl ?_
       refine w_ldI rfl rfl ?_
       refine w_ldR rfl rfl rfl ?_
       refine w_callT rfl rfl rfl rfl (by decide) k_len4 ?_
       refine w_call rfl rfl rfl (k_ixb4 hc) ?_
       refine w_go rfl ?_
       refine w_retI rfl ?_
       exact ⟨rfl, rfl⟩)
theorem k_ix4 {d : Nat} {s : mSt} {c : Int} (hc : 0 ≤ c ∧ c ≤ 255) : Call (d + 3) 3 [.inr (.inr 4), .inl c] (encA (s)) (some (.inl (nmF 1 c))) (encA (s)) := by
  refine CI.ex (CI.mk rfl ?_)
  show WP (d + 3) 3 0 [some (.inr (.inr 4)), some (.inl c)] [] (encA (s)) _
  refine w_ldR rfl rfl rfl ?_
  refine w_ldI rfl rfl ?_
  refine w_push rfl ?_
  refine w_callT rfl rfl rfl rfl (by decide) (k_ixs4 hc) ?_
  refine w_retI rfl ?_
  exact ⟨rfl, rfl⟩
theorem i2c_255 {c : Int} (hc : 0 ≤ c ∧ c ≤ 255) : m_i2c c = c := by
  obtain ⟨n, rfl⟩ : ∃ n : Nat, c = (n : Int) := ⟨c.toNat, by omega⟩
  have h : ∀ q : Fin 256, m_i2c (q.val : Int) = (q.val : Int) := by decide +kernel
  exact h ⟨n, by omega⟩
theorem k_name35 {d : Nat} {s : mSt} {c : Int} (hc : 0 ≤ c ∧ c ≤ 255) (hu : s 35 0 = 0) : Call (d + 4) 42 [.inr (.inr 35), .inl c] (encA (s)) (some (.inl (nmF 0 c))) (encA (s)) := by
  refine CI.ex (CI.mk rfl ?_)
  show WP (d + 4) 42 0 [some (.inr (.inr 35)), some (.inl c)] [] (encA (s)) _
  refine w_ldR rfl rfl rfl ?_
  first | refine w_getI rfl rfl rfl rfl rfl ?_ | refine w_getR rfl rfl rfl rfl rfl ?_
  rw [hu]
  refine w_irNe0 rfl (by omega) (fun b2 => ?_) (fun b2 => ?_)
  · (exfalso; omega)
  · first
    | (exfalso; omega)
    | (refine w_push rfl ?_
       refine w_go rfl ?_
       refine w_ldI rfl rfl ?_
       refine w_un rfl ?_
       rw [i2c_255 hc]
       refine w_callT rfl rfl rfl rfl (by decide) (k_ix2 hc) ?_
       refine w_retI rfl ?_
       exact ⟨rfl, rfl⟩)
theorem k_name43 {d : Nat} {s : mSt} {c : Int} (hc : 0 ≤ c ∧ c ≤ 255) (hu : s 43 0 = 1) : Call (d + 4) 42 [.inr (.inr 43), .inl c] (encA (s)) (some (.inl (nmF 1 c))) (encA (s)) := by
  refine CI.ex (CI.mk rfl ?_)
  show WP (d + 4) 42 0 [some (.inr (.inr 43)), some (.inl c)] [] (encA (s)) _
  refine w_ldR rfl rfl rfl ?_
  first | refine w_getI rfl rfl rfl rfl rfl ?_ | refine w_getR rfl rfl rfl rfl rfl ?_
  rw [hu]
  refine w_irNe0 rfl (by omega) (fun b2 => ?_) (fun b2 => ?_)
  · first
    | (exfalso; omega)
    | (refine w_push rfl ?_
       refine w_ldI rfl rfl ?_
       refine w_un rfl ?_
       rw [i2c_255 hc]
       refine w_callT rfl rfl rfl rfl (by decide) (k_ix4 hc) ?_
       refine w_retI rfl ?_
       exact ⟨rfl, rfl⟩)
  · (exfalso; omega)
