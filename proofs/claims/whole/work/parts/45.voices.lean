/-! ===== voices ===== -/
def ta1 (T : List Int) (b : Int) : List Int := if T.length < 40 then T ++ [b] else T
def ta (T : List Int) (bs : List Int) : List Int := bs.foldl ta1 T
theorem ta_app (T a b : List Int) : ta (ta T a) b = ta T (a ++ b) := (List.foldl_append).symm
def TrX (s : mSt) (T : List Int) : Prop := T.length ≤ 40 ∧ s 11 1 = (T.length : Int) ∧ ∀ i : Nat, i < T.length → s 12 i = T.getD i 0
def TrM (s : mSt) (T : List Int) : Prop := T.length ≤ 40 ∧ s 146 21 = (T.length : Int) ∧ ∀ i : Nat, i < T.length → s 159 i = T.getD i 0
def FrM (s s1 : mSt) : Prop := Fr [146, 159] s s1 ∧ ∀ i, i ≠ 21 → s1 146 i = s 146 i
theorem FrM.tr {s s1 s2 : mSt} (h1 : FrM s s1) (h2 : FrM s1 s2) : FrM s s2 := ⟨h1.1.tr h2.1, fun i hi => (h2.2 i hi).trans (h1.2 i hi)⟩
theorem ta_len (T : List Int) (b : Int) (h : T.length ≤ 40) : (ta T [b]).length ≤ 40 := by
  show (if T.length < 40 then T ++ [b] else T).length ≤ 40
  split
  · rw [List.length_append]; show T.length + 1 ≤ 40; omega
  · exact h
theorem ta_at {T : List Int} {b : Int} {f : Nat → Int} (h : T.length < 40) (hf : ∀ i : Nat, i < T.length → f i = T.getD i 0) : ∀ i : Nat, i < (T ++ [b]).length → mup f T.length b i = (T ++ [b]).getD i 0 := by
  intro i hi
  rw [List.length_append] at hi
  have hi : i < T.length + 1 := hi
  by_cases e : i = T.length
  · subst e
    rw [mup_eq]
    simp [List.getD]
  · rw [mup_ne e, hf i (by omega)]
    simp [List.getD, List.getElem?_append_left (show i < T.length by omega)]
theorem k_addT {d : Nat} {s : mSt} {T : List Int} {b : Int} (hT : TrX s T) : CI (d + 0) 65 [.inr (.inr 11), .inl b] s (fun _ s1 => TrX s1 (ta T [b]) ∧ Fr [11, 12] s s1) := by
  refine CI.imp (k_add11 (v := b) (by have := hT.1; have := hT.2.1; omega)) (fun v s1 h => ?_)
  obtain ⟨-, rfl⟩ := h
  obtain ⟨h1, h2, h3⟩ := hT
  by_cases h : T.length < 40
  · rw [if_pos (by omega)]
    refine ⟨?_, (Fr.us rfl).tr (Fr.us rfl)⟩
    rw [show ta T [b] = T ++ [b] by show (if T.length < 40 then T ++ [b] else T) = _; rw [if_pos h]]
    refine ⟨by rw [List.length_append]; show T.length + 1 ≤ 40; omega, by rw [us_eq, mup_eq, h2, List.length_append]; rfl, ?_⟩
    rw [us_ne (by decide), us_eq, h2, Int.toNat_natCast]
    exact ta_at h h3
  · rw [if_neg (by omega)]
    refine ⟨?_, Fr.rf⟩
    rw [show ta T [b] = T by show (if T.length < 40 then T ++ [b] else T) = _; rw [if_neg h]]
    exact ⟨h1, h2, h3⟩
theorem m_ran {d : Nat} {s : mSt} {T : List Int} {b : Int} (hT : TrM s T) : CV (d + 0) 245 [.inr (.inr 146), .inl b] (s) (fun s1 => TrM s1 (ta T [b]) ∧ FrM s s1) := by
  refine CV.mk rfl ?_
  show WP (d + 0) 245 0 [some (.inr (.inr 146)), some (.inl b)] [] (encA (s)) _
  obtain ⟨h1, h2, h3⟩ := hT
  refine w_ldR rfl rfl rfl ?_
  first | refine w_getI rfl rfl rfl rfl rfl ?_ | refine w_getR rfl rfl rfl rfl rfl ?_
  refine w_push rfl ?_
  refine w_crGe rfl (by omega) (by omega) (fun b3 => ?_) (fun b3 => ?_)
  · first
    | (exfalso; omega)
    | (refine w_retV rfl ?_
       first
       | (rw [show ta T [b] = T by show (if T.length < 40 then T ++ [b] else T) = _; rw [if_neg (by omega)]]
          exact ⟨⟨h1, h2, h3⟩, Fr.rf, fun i hi => rfl⟩)
       | (rw [show ta T [b] = T ++ [b] by show (if T.length < 40 then T ++ [b] else T) = _; rw [if_pos (by omega)]]
          refine ⟨⟨by rw [List.length_append]; show T.length + 1 ≤ 40; omega, by rw [us_eq, mup_eq, h2, List.length_append]; rfl, ?_⟩, (Fr.us rfl).tr (Fr.us rfl), fun i hi => by rw [us_eq, mup_ne hi, us_ne (by decide)]⟩
          rw [us_ne (by decide), us_eq, h2, Int.toNat_natCast]
          exact ta_at (by omega) h3))
  · first
    | (exfalso; omega)
    | (refine w_ldR rfl rfl rfl ?_
       first | refine w_getI rfl rfl rfl rfl rfl ?_ | refine w_getR rfl rfl rfl rfl rfl ?_
       refine w_ldR rfl rfl rfl ?_
       first | refine w_getI rfl rfl rfl rfl rfl ?_ | refine w_getR rfl rfl rfl rfl rfl ?_
       refine w_ldI rfl rfl ?_
       refine w_ast rfl rfl rfl (by omega) rfl ?_
       refine w_ldR rfl rfl rfl ?_
       first | refine w_dupI rfl ?_ | refine w_dupR rfl ?_
       first | refine w_getI rfl rfl rfl rfl rfl ?_ | refine w_getR rfl rfl rfl rfl rfl ?_
       rw [us_ne (by decide)]
       refine w_push rfl ?_
       refine w_add rfl ?_
       refine w_putI rfl rfl rfl rfl rfl rfl rfl ?_
       refine w_retV rfl ?_
       first
       | (rw [show ta T [b] = T by show (if T.length < 40 then T ++ [b] else T) = _; rw [if_neg (by omega)]]
          exact ⟨⟨h1, h2, h3⟩, Fr.rf, fun i hi => rfl⟩)
       | (rw [show ta T [b] = T ++ [b] by show (if T.length < 40 then T ++ [b] else T) = _; rw [if_pos (by omega)]]
          refine ⟨⟨by rw [List.length_append]; show T.length + 1 ≤ 40; omega, by rw [us_eq, mup_eq, h2, List.length_append]; rfl, ?_⟩, (Fr.us rfl).tr (Fr.us rfl), fun i hi => by rw [us_eq, mup_ne hi, us_ne (by decide)]⟩
          rw [us_ne (by decide), us_eq, h2, Int.toNat_natCast]
          exact ta_at (by omega) h3))
theorem k_v33_0 {d : Nat} {s : mSt} {a : Nat} {n m x : Int} {T : List Int} (had : lampAdr a = true) (hL : LampA s a 0 n m) (hT : TrX s T) : CI (d + 1) 33 [.inr (.inr a), .inl x] (s) (fun v s1 => v = (x + n) ∧ TrX s1 (ta T [10]) ∧ Fr [11, 12] s s1) := by
  refine CI.mk rfl ?_
  show WP (d + 1) 33 0 [some (.inr (.inr a)), some (.inl x)] [] (encA (s)) _
  refine w_ldR rfl rfl (ble_1 hL.1) ?_
  refine w_get0 rfl hL.1 hL.2 rfl rfl ?_
  refine w_push rfl ?_
  refine w_callWI rfl rfl rfl rfl rfl rfl rfl (k_addT hT) (fun v3 s3 p3 => ?_)
  obtain ⟨t3, f3⟩ := p3
  have L3 := LampA.f2 rfl f3 had hL
  refine w_popI rfl ?_
  refine w_ldI rfl rfl ?_
  refine w_ldR rfl rfl (ble_1 hL.1) ?_
  refine w_get0 rfl L3.1 L3.2 rfl rfl ?_
  refine w_add rfl ?_
  refine w_retI rfl ?_
  refine ⟨rfl, ?_, f3⟩
  have h := t3
  (try simp only [ta_app, List.cons_append, List.nil_append] at h)
  exact h
theorem k_v33_1 {d : Nat} {s : mSt} {a : Nat} {n m x : Int} {T : List Int} (had : lampAdr a = true) (hL : LampA s a 1 n m) (hT : TrX s T) : CI (d + 1) 33 [.inr (.inr a), .inl x] (s) (fun v s1 => v = (x + n) ∧ TrX s1 (ta T [10]) ∧ Fr [11, 12] s s1) := by
  refine CI.mk rfl ?_
  show WP (d + 1) 33 0 [some (.inr (.inr a)), some (.inl x)] [] (encA (s)) _
  refine w_ldR rfl rfl (ble_1 hL.1) ?_
  refine w_get0 rfl hL.1 hL.2 rfl rfl ?_
  refine w_push rfl ?_
  refine w_callWI rfl rfl rfl rfl rfl rfl rfl (k_addT hT) (fun v3 s3 p3 => ?_)
  obtain ⟨t3, f3⟩ := p3
  have L3 := LampA.f2 rfl f3 had hL
  refine w_popI rfl ?_
  refine w_ldI rfl rfl ?_
  refine w_ldR rfl rfl (ble_1 hL.1) ?_
  refine w_get0 rfl L3.1 L3.2 rfl rfl ?_
  refine w_add rfl ?_
  refine w_retI rfl ?_
  refine ⟨rfl, ?_, f3⟩
  have h := t3
  (try simp only [ta_app, List.cons_append, List.nil_append] at h)
  exact h
theorem k_v33_2 {d : Nat} {s : mSt} {a : Nat} {n m x : Int} {T : List Int} (had : lampAdr a = true) (hL : LampA s a 2 n m) (hT : TrX s T) : CI (d + 1) 33 [.inr (.inr a), .inl x] (s) (fun v s1 => v = (x + n) ∧ TrX s1 (ta T [10]) ∧ Fr [11, 12] s s1) := by
  refine CI.mk rfl ?_
  show WP (d + 1) 33 0 [some (.inr (.inr a)), some (.inl x)] [] (encA (s)) _
  refine w_ldR rfl rfl (ble_1 hL.1) ?_
  refine w_get0 rfl hL.1 hL.2 rfl rfl ?_
  refine w_push rfl ?_
  refine w_callWI rfl rfl rfl rfl rfl rfl rfl (k_addT hT) (fun v3 s3 p3 => ?_)
  obtain ⟨t3, f3⟩ := p3
  have L3 := LampA.f2 rfl f3 had hL
  refine w_popI rfl ?_
  refine w_ldI rfl rfl ?_
  refine w_ldR rfl rfl (ble_1 hL.1) ?_
  refine w_get0 rfl L3.1 L3.2 rfl rfl ?_
  refine w_add rfl ?_
  refine w_retI rfl ?_
  refine ⟨rfl, ?_, f3⟩
  have h := t3
  (try simp only [ta_app, List.cons_append, List.nil_append] at h)
  exact h
theorem k_v21_2 {d : Nat} {s : mSt} {a : Nat} {n m x : Int} {T : List Int} (had : lampAdr a = true) (hL : LampA s a 2 n m) (hT : TrX s T) : CI (d + 2) 21 [.inr (.inr a), .inl x] (s) (fun v s1 => v = ((x + n) * 3) ∧ TrX s1 (ta T [30, 10]) ∧ Fr [11, 12] s s1) := by
  refine CI.mk rfl ?_
  show WP (d + 2) 21 0 [some (.inr (.inr a)), some (.inl x)] [] (encA (s)) _
  refine w_ldR rfl rfl (ble_1 hL.1) ?_
  refine w_get0 rfl hL.1 hL.2 rfl rfl ?_
  refine w_push rfl ?_
  refine w_callWI rfl rfl rfl rfl rfl rfl rfl (k_addT hT) (fun v3 s3 p3 => ?_)
  obtain ⟨t3, f3⟩ := p3
  have L3 := LampA.f2 rfl f3 had hL
  refine w_popI rfl ?_
  refine w_ldR rfl rfl (ble_1 hL.1) ?_
  refine w_ldI rfl rfl ?_
  refine w_callVI rfl rfl rfl rfl L3.1 L3.2 rfl (k_v33_2 had L3 t3) (fun v7 s7 p7 => ?_)
  obtain ⟨rfl, t7, f7⟩ := p7
  have L7 := LampA.f2 rfl f7 had L3
  refine w_push rfl ?_
  refine w_mul rfl ?_
  refine w_retI rfl ?_
  refine ⟨rfl, ?_, (f3).tr f7⟩
  have h := t7
  (try simp only [ta_app, List.cons_append, List.nil_append] at h)
  exact h
theorem k_v33_3 {d : Nat} {s : mSt} {a : Nat} {n m x : Int} {T : List Int} (had : lampAdr a = true) (hL : LampA s a 3 n m) (hT : TrX s T) : CI (d + 1) 33 [.inr (.inr a), .inl x] (s) (fun v s1 => v = (x + n) ∧ TrX s1 (ta T [10]) ∧ Fr [11, 12] s s1) := by
  refine CI.mk rfl ?_
  show WP (d + 1) 33 0 [some (.inr (.inr a)), some (.inl x)] [] (encA (s)) _
  refine w_ldR rfl rfl (ble_1 hL.1) ?_
  refine w_get0 rfl hL.1 hL.2 rfl rfl ?_
  refine w_push rfl ?_
  refine w_callWI rfl rfl rfl rfl rfl rfl rfl (k_addT hT) (fun v3 s3 p3 => ?_)
  obtain ⟨t3, f3⟩ := p3
  have L3 := LampA.f2 rfl f3 had hL
  refine w_popI rfl ?_
  refine w_ldI rfl rfl ?_
  refine w_ldR rfl rfl (ble_1 hL.1) ?_
  refine w_get0 rfl L3.1 L3.2 rfl rfl ?_
  refine w_add rfl ?_
  refine w_retI rfl ?_
  refine ⟨rfl, ?_, f3⟩
  have h := t3
  (try simp only [ta_app, List.cons_append, List.nil_append] at h)
  exact h
theorem k_v33_4 {d : Nat} {s : mSt} {a : Nat} {n m x : Int} {T : List Int} (had : lampAdr a = true) (hL : LampA s a 4 n m) (hT : TrX s T) : CI (d + 1) 33 [.inr (.inr a), .inl x] (s) (fun v s1 => v = (x + n) ∧ TrX s1 (ta T [10]) ∧ Fr [11, 12] s s1) := by
  refine CI.mk rfl ?_
  show WP (d + 1) 33 0 [some (.inr (.inr a)), some (.inl x)] [] (encA (s)) _
  refine w_ldR rfl rfl (ble_1 hL.1) ?_
  refine w_get0 rfl hL.1 hL.2 rfl rfl ?_
  refine w_push rfl ?_
  refine w_callWI rfl rfl rfl rfl rfl rfl rfl (k_addT hT) (fun v3 s3 p3 => ?_)
  obtain ⟨t3, f3⟩ := p3
  have L3 := LampA.f2 rfl f3 had hL
  refine w_popI rfl ?_
  refine w_ldI rfl rfl ?_
  refine w_ldR rfl rfl (ble_1 hL.1) ?_
  refine w_get0 rfl L3.1 L3.2 rfl rfl ?_
  refine w_add rfl ?_
  refine w_retI rfl ?_
  refine ⟨rfl, ?_, f3⟩
  have h := t3
  (try simp only [ta_app, List.cons_append, List.nil_append] at h)
  exact h
theorem k_v33_5 {d : Nat} {s : mSt} {a : Nat} {n m x : Int} {T : List Int} (had : lampAdr a = true) (hL : LampA s a 5 n m) (hT : TrX s T) : CI (d + 1) 33 [.inr (.inr a), .inl x] (s) (fun v s1 => v = (x + n) ∧ TrX s1 (ta T [10]) ∧ Fr [11, 12] s s1) := by
  refine CI.mk rfl ?_
  show WP (d + 1) 33 0 [some (.inr (.inr a)), some (.inl x)] [] (encA (s)) _
  refine w_ldR rfl rfl (ble_1 hL.1) ?_
  refine w_get0 rfl hL.1 hL.2 rfl rfl ?_
  refine w_push rfl ?_
  refine w_callWI rfl rfl rfl rfl rfl rfl rfl (k_addT hT) (fun v3 s3 p3 => ?_)
  obtain ⟨t3, f3⟩ := p3
  have L3 := LampA.f2 rfl f3 had hL
  refine w_popI rfl ?_
  refine w_ldI rfl rfl ?_
  refine w_ldR rfl rfl (ble_1 hL.1) ?_
  refine w_get0 rfl L3.1 L3.2 rfl rfl ?_
  refine w_add rfl ?_
  refine w_retI rfl ?_
  refine ⟨rfl, ?_, f3⟩
  have h := t3
  (try simp only [ta_app, List.cons_append, List.nil_append] at h)
  exact h
theorem k_v21_5 {d : Nat} {s : mSt} {a : Nat} {n m x : Int} {T : List Int} (had : lampAdr a = true) (hL : LampA s a 5 n m) (hT : TrX s T) : CI (d + 2) 21 [.inr (.inr a), .inl x] (s) (fun v s1 => v = ((x + n) * 3) ∧ TrX s1 (ta T [30, 10]) ∧ Fr [11, 12] s s1) := by
  refine CI.mk rfl ?_
  show WP (d + 2) 21 0 [some (.inr (.inr a)), some (.inl x)] [] (encA (s)) _
  refine w_ldR rfl rfl (ble_1 hL.1) ?_
  refine w_get0 rfl hL.1 hL.2 rfl rfl ?_
  refine w_push rfl ?_
  refine w_callWI rfl rfl rfl rfl rfl rfl rfl (k_addT hT) (fun v3 s3 p3 => ?_)
  obtain ⟨t3, f3⟩ := p3
  have L3 := LampA.f2 rfl f3 had hL
  refine w_popI rfl ?_
  refine w_ldR rfl rfl (ble_1 hL.1) ?_
  refine w_ldI rfl rfl ?_
  refine w_callVI rfl rfl rfl rfl L3.1 L3.2 rfl (k_v33_5 had L3 t3) (fun v7 s7 p7 => ?_)
  obtain ⟨rfl, t7, f7⟩ := p7
  have L7 := LampA.f2 rfl f7 had L3
  refine w_push rfl ?_
  refine w_mul rfl ?_
  refine w_retI rfl ?_
  refine ⟨rfl, ?_, (f3).tr f7⟩
  have h := t7
  (try simp only [ta_app, List.cons_append, List.nil_append] at h)
  exact h
theorem k_v33_6 {d : Nat} {s : mSt} {a : Nat} {n m x : Int} {T : List Int} (had : lampAdr a = true) (hL : LampA s a 6 n m) (hT : TrX s T) : CI (d + 1) 33 [.inr (.inr a), .inl x] (s) (fun v s1 => v = (x + n) ∧ TrX s1 (ta T [10]) ∧ Fr [11, 12] s s1) := by
  refine CI.mk rfl ?_
  show WP (d + 1) 33 0 [some (.inr (.inr a)), some (.inl x)] [] (encA (s)) _
  refine w_ldR rfl rfl (ble_1 hL.1) ?_
  refine w_get0 rfl hL.1 hL.2 rfl rfl ?_
  refine w_push rfl ?_
  refine w_callWI rfl rfl rfl rfl rfl rfl rfl (k_addT hT) (fun v3 s3 p3 => ?_)
  obtain ⟨t3, f3⟩ := p3
  have L3 := LampA.f2 rfl f3 had hL
  refine w_popI rfl ?_
  refine w_ldI rfl rfl ?_
  refine w_ldR rfl rfl (ble_1 hL.1) ?_
  refine w_get0 rfl L3.1 L3.2 rfl rfl ?_
  refine w_add rfl ?_
  refine w_retI rfl ?_
  refine ⟨rfl, ?_, f3⟩
  have h := t3
  (try simp only [ta_app, List.cons_append, List.nil_append] at h)
  exact h
theorem k_v34_0 {d : Nat} {s : mSt} {a : Nat} {n m x : Int} {T : List Int} (had : lampAdr a = true) (hL : LampA s a 0 n m) (hT : TrX s T) : CI (d + 2) 34 [.inr (.inr a), .inl x] (s) (fun v s1 => v = ((x + n) * 2) ∧ TrX s1 (ta T [11, 10]) ∧ Fr [11, 12] s s1) := by
  refine CI.mk rfl ?_
  show WP (d + 2) 34 0 [some (.inr (.inr a)), some (.inl x)] [] (encA (s)) _
  refine w_ldR rfl rfl (ble_1 hL.1) ?_
  refine w_get0 rfl hL.1 hL.2 rfl rfl ?_
  refine w_push rfl ?_
  refine w_callWI rfl rfl rfl rfl rfl rfl rfl (k_addT hT) (fun v3 s3 p3 => ?_)
  obtain ⟨t3, f3⟩ := p3
  have L3 := LampA.f2 rfl f3 had hL
  refine w_popI rfl ?_
  refine w_ldR rfl rfl (ble_1 hL.1) ?_
  refine w_ldI rfl rfl ?_
  refine w_callVI rfl rfl rfl rfl L3.1 L3.2 rfl (k_v33_0 had L3 t3) (fun v7 s7 p7 => ?_)
  obtain ⟨rfl, t7, f7⟩ := p7
  have L7 := LampA.f2 rfl f7 had L3
  refine w_push rfl ?_
  refine w_mul rfl ?_
  refine w_retI rfl ?_
  refine ⟨rfl, ?_, (f3).tr f7⟩
  have h := t7
  (try simp only [ta_app, List.cons_append, List.nil_append] at h)
  exact h
theorem k_v34_1 {d : Nat} {s : mSt} {a : Nat} {n m x : Int} {T : List Int} (had : lampAdr a = true) (hL : LampA s a 1 n m) (hT : TrX s T) : CI (d + 2) 34 [.inr (.inr a), .inl x] (s) (fun v s1 => v = ((x + n) * 2) ∧ TrX s1 (ta T [11, 10]) ∧ Fr [11, 12] s s1) := by
  refine CI.mk rfl ?_
  show WP (d + 2) 34 0 [some (.inr (.inr a)), some (.inl x)] [] (encA (s)) _
  refine w_ldR rfl rfl (ble_1 hL.1) ?_
  refine w_get0 rfl hL.1 hL.2 rfl rfl ?_
  refine w_push rfl ?_
  refine w_callWI rfl rfl rfl rfl rfl rfl rfl (k_addT hT) (fun v3 s3 p3 => ?_)
  obtain ⟨t3, f3⟩ := p3
  have L3 := LampA.f2 rfl f3 had hL
  refine w_popI rfl ?_
  refine w_ldR rfl rfl (ble_1 hL.1) ?_
  refine w_ldI rfl rfl ?_
  refine w_callVI rfl rfl rfl rfl L3.1 L3.2 rfl (k_v33_1 had L3 t3) (fun v7 s7 p7 => ?_)
  obtain ⟨rfl, t7, f7⟩ := p7
  have L7 := LampA.f2 rfl f7 had L3
  refine w_push rfl ?_
  refine w_mul rfl ?_
  refine w_retI rfl ?_
  refine ⟨rfl, ?_, (f3).tr f7⟩
  have h := t7
  (try simp only [ta_app, List.cons_append, List.nil_append] at h)
  exact h
theorem k_v35_1 {d : Nat} {s : mSt} {a : Nat} {n m x : Int} {T : List Int} (had : lampAdr a = true) (hL : LampA s a 1 n m) (hT : TrX s T) : CI (d + 1) 35 [.inr (.inr a), .inl x] (s) (fun v s1 => v = (x - m) ∧ TrX s1 (ta T [12]) ∧ Fr [11, 12] s s1) := by
  refine CI.mk rfl ?_
  show WP (d + 1) 35 0 [some (.inr (.inr a)), some (.inl x)] [] (encA (s)) _
  refine w_ldR rfl rfl (ble_1 hL.1) ?_
  refine w_get0 rfl hL.1 hL.2 rfl rfl ?_
  refine w_push rfl ?_
  refine w_callWI rfl rfl rfl rfl rfl rfl rfl (k_addT hT) (fun v3 s3 p3 => ?_)
  obtain ⟨t3, f3⟩ := p3
  have L3 := LampA.f2 rfl f3 had hL
  refine w_popI rfl ?_
  refine w_ldI rfl rfl ?_
  refine w_ldR rfl rfl (ble_1 hL.1) ?_
  refine w_get0 rfl L3.1 L3.2 rfl rfl ?_
  refine w_sub rfl ?_
  refine w_retI rfl ?_
  refine ⟨rfl, ?_, f3⟩
  have h := t3
  (try simp only [ta_app, List.cons_append, List.nil_append] at h)
  exact h
theorem k_v99_1 {d : Nat} {s : mSt} {a : Nat} {n m x : Int} {T : List Int} (had : lampAdr a = true) (hL : LampA s a 1 n m) (hT : TrX s T) : CI (d + 3) 99 [.inr (.inr a), .inl x] (s) (fun v s1 => v = (((x + n) * 2) - (1 - m)) ∧ TrX s1 (ta T [20, 11, 10, 12]) ∧ Fr [11, 12] s s1) := by
  refine CI.mk rfl ?_
  show WP (d + 3) 99 0 [some (.inr (.inr a)), some (.inl x)] [] (encA (s)) _
  refine w_ldR rfl rfl (ble_1 hL.1) ?_
  refine w_get0 rfl hL.1 hL.2 rfl rfl ?_
  refine w_push rfl ?_
  refine w_callWI rfl rfl rfl rfl rfl rfl rfl (k_addT hT) (fun v3 s3 p3 => ?_)
  obtain ⟨t3, f3⟩ := p3
  have L3 := LampA.f2 rfl f3 had hL
  refine w_popI rfl ?_
  refine w_ldR rfl rfl (ble_1 hL.1) ?_
  refine w_ldI rfl rfl ?_
  refine w_callVI rfl rfl rfl rfl L3.1 L3.2 rfl (k_v34_1 had L3 t3) (fun v7 s7 p7 => ?_)
  obtain ⟨rfl, t7, f7⟩ := p7
  have L7 := LampA.f2 rfl f7 had L3
  refine w_ldR rfl rfl (ble_1 hL.1) ?_
  refine w_push rfl ?_
  refine w_callVI rfl rfl rfl rfl L7.1 L7.2 rfl (k_v35_1 had L7 t7) (fun v10 s10 p10 => ?_)
  obtain ⟨rfl, t10, f10⟩ := p10
  have L10 := LampA.f2 rfl f10 had L7
  refine w_sub rfl ?_
  refine w_retI rfl ?_
  refine ⟨rfl, ?_, ((f3).tr f7).tr f10⟩
  have h := t10
  (try simp only [ta_app, List.cons_append, List.nil_append] at h)
  exact h
theorem k_v34_2 {d : Nat} {s : mSt} {a : Nat} {n m x : Int} {T : List Int} (had : lampAdr a = true) (hL : LampA s a 2 n m) (hT : TrX s T) : CI (d + 3) 34 [.inr (.inr a), .inl x] (s) (fun v s1 => v = (((x + n) * 3) * 2) ∧ TrX s1 (ta T [11, 30, 10]) ∧ Fr [11, 12] s s1) := by
  refine CI.mk rfl ?_
  show WP (d + 3) 34 0 [some (.inr (.inr a)), some (.inl x)] [] (encA (s)) _
  refine w_ldR rfl rfl (ble_1 hL.1) ?_
  refine w_get0 rfl hL.1 hL.2 rfl rfl ?_
  refine w_push rfl ?_
  refine w_callWI rfl rfl rfl rfl rfl rfl rfl (k_addT hT) (fun v3 s3 p3 => ?_)
  obtain ⟨t3, f3⟩ := p3
  have L3 := LampA.f2 rfl f3 had hL
  refine w_popI rfl ?_
  refine w_ldR rfl rfl (ble_1 hL.1) ?_
  refine w_ldI rfl rfl ?_
  refine w_callVI rfl rfl rfl rfl L3.1 L3.2 rfl (k_v21_2 had L3 t3) (fun v7 s7 p7 => ?_)
  obtain ⟨rfl, t7, f7⟩ := p7
  have L7 := LampA.f2 rfl f7 had L3
  refine w_push rfl ?_
  refine w_mul rfl ?_
  refine w_retI rfl ?_
  refine ⟨rfl, ?_, (f3).tr f7⟩
  have h := t7
  (try simp only [ta_app, List.cons_append, List.nil_append] at h)
  exact h
theorem k_v34_3 {d : Nat} {s : mSt} {a : Nat} {n m x : Int} {T : List Int} (had : lampAdr a = true) (hL : LampA s a 3 n m) (hT : TrX s T) : CI (d + 2) 34 [.inr (.inr a), .inl x] (s) (fun v s1 => v = ((x + n) * 2) ∧ TrX s1 (ta T [11, 10]) ∧ Fr [11, 12] s s1) := by
  refine CI.mk rfl ?_
  show WP (d + 2) 34 0 [some (.inr (.inr a)), some (.inl x)] [] (encA (s)) _
  refine w_ldR rfl rfl (ble_1 hL.1) ?_
  refine w_get0 rfl hL.1 hL.2 rfl rfl ?_
  refine w_push rfl ?_
  refine w_callWI rfl rfl rfl rfl rfl rfl rfl (k_addT hT) (fun v3 s3 p3 => ?_)
  obtain ⟨t3, f3⟩ := p3
  have L3 := LampA.f2 rfl f3 had hL
  refine w_popI rfl ?_
  refine w_ldR rfl rfl (ble_1 hL.1) ?_
  refine w_ldI rfl rfl ?_
  refine w_callVI rfl rfl rfl rfl L3.1 L3.2 rfl (k_v33_3 had L3 t3) (fun v7 s7 p7 => ?_)
  obtain ⟨rfl, t7, f7⟩ := p7
  have L7 := LampA.f2 rfl f7 had L3
  refine w_push rfl ?_
  refine w_mul rfl ?_
  refine w_retI rfl ?_
  refine ⟨rfl, ?_, (f3).tr f7⟩
  have h := t7
  (try simp only [ta_app, List.cons_append, List.nil_append] at h)
  exact h
theorem k_v34_4 {d : Nat} {s : mSt} {a : Nat} {n m x : Int} {T : List Int} (had : lampAdr a = true) (hL : LampA s a 4 n m) (hT : TrX s T) : CI (d + 2) 34 [.inr (.inr a), .inl x] (s) (fun v s1 => v = ((x + n) * 2) ∧ TrX s1 (ta T [11, 10]) ∧ Fr [11, 12] s s1) := by
  refine CI.mk rfl ?_
  show WP (d + 2) 34 0 [some (.inr (.inr a)), some (.inl x)] [] (encA (s)) _
  refine w_ldR rfl rfl (ble_1 hL.1) ?_
  refine w_get0 rfl hL.1 hL.2 rfl rfl ?_
  refine w_push rfl ?_
  refine w_callWI rfl rfl rfl rfl rfl rfl rfl (k_addT hT) (fun v3 s3 p3 => ?_)
  obtain ⟨t3, f3⟩ := p3
  have L3 := LampA.f2 rfl f3 had hL
  refine w_popI rfl ?_
  refine w_ldR rfl rfl (ble_1 hL.1) ?_
  refine w_ldI rfl rfl ?_
  refine w_callVI rfl rfl rfl rfl L3.1 L3.2 rfl (k_v33_4 had L3 t3) (fun v7 s7 p7 => ?_)
  obtain ⟨rfl, t7, f7⟩ := p7
  have L7 := LampA.f2 rfl f7 had L3
  refine w_push rfl ?_
  refine w_mul rfl ?_
  refine w_retI rfl ?_
  refine ⟨rfl, ?_, (f3).tr f7⟩
  have h := t7
  (try simp only [ta_app, List.cons_append, List.nil_append] at h)
  exact h
theorem k_v35_4 {d : Nat} {s : mSt} {a : Nat} {n m x : Int} {T : List Int} (had : lampAdr a = true) (hL : LampA s a 4 n m) (hT : TrX s T) : CI (d + 1) 35 [.inr (.inr a), .inl x] (s) (fun v s1 => v = (x - m) ∧ TrX s1 (ta T [12]) ∧ Fr [11, 12] s s1) := by
  refine CI.mk rfl ?_
  show WP (d + 1) 35 0 [some (.inr (.inr a)), some (.inl x)] [] (encA (s)) _
  refine w_ldR rfl rfl (ble_1 hL.1) ?_
  refine w_get0 rfl hL.1 hL.2 rfl rfl ?_
  refine w_push rfl ?_
  refine w_callWI rfl rfl rfl rfl rfl rfl rfl (k_addT hT) (fun v3 s3 p3 => ?_)
  obtain ⟨t3, f3⟩ := p3
  have L3 := LampA.f2 rfl f3 had hL
  refine w_popI rfl ?_
  refine w_ldI rfl rfl ?_
  refine w_ldR rfl rfl (ble_1 hL.1) ?_
  refine w_get0 rfl L3.1 L3.2 rfl rfl ?_
  refine w_sub rfl ?_
  refine w_retI rfl ?_
  refine ⟨rfl, ?_, f3⟩
  have h := t3
  (try simp only [ta_app, List.cons_append, List.nil_append] at h)
  exact h
theorem k_v99_4 {d : Nat} {s : mSt} {a : Nat} {n m x : Int} {T : List Int} (had : lampAdr a = true) (hL : LampA s a 4 n m) (hT : TrX s T) : CI (d + 3) 99 [.inr (.inr a), .inl x] (s) (fun v s1 => v = (((x + n) * 2) - (1 - m)) ∧ TrX s1 (ta T [20, 11, 10, 12]) ∧ Fr [11, 12] s s1) := by
  refine CI.mk rfl ?_
  show WP (d + 3) 99 0 [some (.inr (.inr a)), some (.inl x)] [] (encA (s)) _
  refine w_ldR rfl rfl (ble_1 hL.1) ?_
  refine w_get0 rfl hL.1 hL.2 rfl rfl ?_
  refine w_push rfl ?_
  refine w_callWI rfl rfl rfl rfl rfl rfl rfl (k_addT hT) (fun v3 s3 p3 => ?_)
  obtain ⟨t3, f3⟩ := p3
  have L3 := LampA.f2 rfl f3 had hL
  refine w_popI rfl ?_
  refine w_ldR rfl rfl (ble_1 hL.1) ?_
  refine w_ldI rfl rfl ?_
  refine w_callVI rfl rfl rfl rfl L3.1 L3.2 rfl (k_v34_4 had L3 t3) (fun v7 s7 p7 => ?_)
  obtain ⟨rfl, t7, f7⟩ := p7
  have L7 := LampA.f2 rfl f7 had L3
  refine w_ldR rfl rfl (ble_1 hL.1) ?_
  refine w_push rfl ?_
  refine w_callVI rfl rfl rfl rfl L7.1 L7.2 rfl (k_v35_4 had L7 t7) (fun v10 s10 p10 => ?_)
  obtain ⟨rfl, t10, f10⟩ := p10
  have L10 := LampA.f2 rfl f10 had L7
  refine w_sub rfl ?_
  refine w_retI rfl ?_
  refine ⟨rfl, ?_, ((f3).tr f7).tr f10⟩
  have h := t10
  (try simp only [ta_app, List.cons_append, List.nil_append] at h)
  exact h
theorem k_v15_4 {d : Nat} {s : mSt} {a : Nat} {n m x : Int} {T : List Int} (had : lampAdr a = true) (hL : LampA s a 4 n m) (hT : TrX s T) : CI (d + 4) 15 [.inr (.inr a), .inl x] (s) (fun v s1 => v = ((((x + 1) + n) * 2) - (1 - m)) ∧ TrX s1 (ta T [50, 20, 11, 10, 12]) ∧ Fr [11, 12] s s1) := by
  refine CI.mk rfl ?_
  show WP (d + 4) 15 0 [some (.inr (.inr a)), some (.inl x)] [] (encA (s)) _
  refine w_ldR rfl rfl (ble_1 hL.1) ?_
  refine w_get0 rfl hL.1 hL.2 rfl rfl ?_
  refine w_push rfl ?_
  refine w_callWI rfl rfl rfl rfl rfl rfl rfl (k_addT hT) (fun v3 s3 p3 => ?_)
  obtain ⟨t3, f3⟩ := p3
  have L3 := LampA.f2 rfl f3 had hL
  refine w_popI rfl ?_
  refine w_ldR rfl rfl (ble_1 hL.1) ?_
  refine w_ldI rfl rfl ?_
  refine w_push rfl ?_
  refine w_add rfl ?_
  refine w_callVI rfl rfl rfl rfl L3.1 L3.2 rfl (k_v99_4 had L3 t3) (fun v9 s9 p9 => ?_)
  obtain ⟨rfl, t9, f9⟩ := p9
  have L9 := LampA.f2 rfl f9 had L3
  refine w_retI rfl ?_
  refine ⟨rfl, ?_, (f3).tr f9⟩
  have h := t9
  (try simp only [ta_app, List.cons_append, List.nil_append] at h)
  exact h
theorem k_v34_5 {d : Nat} {s : mSt} {a : Nat} {n m x : Int} {T : List Int} (had : lampAdr a = true) (hL : LampA s a 5 n m) (hT : TrX s T) : CI (d + 3) 34 [.inr (.inr a), .inl x] (s) (fun v s1 => v = (((x + n) * 3) * 2) ∧ TrX s1 (ta T [11, 30, 10]) ∧ Fr [11, 12] s s1) := by
  refine CI.mk rfl ?_
  show WP (d + 3) 34 0 [some (.inr (.inr a)), some (.inl x)] [] (encA (s)) _
  refine w_ldR rfl rfl (ble_1 hL.1) ?_
  refine w_get0 rfl hL.1 hL.2 rfl rfl ?_
  refine w_push rfl ?_
  refine w_callWI rfl rfl rfl rfl rfl rfl rfl (k_addT hT) (fun v3 s3 p3 => ?_)
  obtain ⟨t3, f3⟩ := p3
  have L3 := LampA.f2 rfl f3 had hL
  refine w_popI rfl ?_
  refine w_ldR rfl rfl (ble_1 hL.1) ?_
  refine w_ldI rfl rfl ?_
  refine w_callVI rfl rfl rfl rfl L3.1 L3.2 rfl (k_v21_5 had L3 t3) (fun v7 s7 p7 => ?_)
  obtain ⟨rfl, t7, f7⟩ := p7
  have L7 := LampA.f2 rfl f7 had L3
  refine w_push rfl ?_
  refine w_mul rfl ?_
  refine w_retI rfl ?_
  refine ⟨rfl, ?_, (f3).tr f7⟩
  have h := t7
  (try simp only [ta_app, List.cons_append, List.nil_append] at h)
  exact h
theorem k_v34_6 {d : Nat} {s : mSt} {a : Nat} {n m x : Int} {T : List Int} (had : lampAdr a = true) (hL : LampA s a 6 n m) (hT : TrX s T) : CI (d + 2) 34 [.inr (.inr a), .inl x] (s) (fun v s1 => v = ((x + n) * 2) ∧ TrX s1 (ta T [11, 10]) ∧ Fr [11, 12] s s1) := by
  refine CI.mk rfl ?_
  show WP (d + 2) 34 0 [some (.inr (.inr a)), some (.inl x)] [] (encA (s)) _
  refine w_ldR rfl rfl (ble_1 hL.1) ?_
  refine w_get0 rfl hL.1 hL.2 rfl rfl ?_
  refine w_push rfl ?_
  refine w_callWI rfl rfl rfl rfl rfl rfl rfl (k_addT hT) (fun v3 s3 p3 => ?_)
  obtain ⟨t3, f3⟩ := p3
  have L3 := LampA.f2 rfl f3 had hL
  refine w_popI rfl ?_
  refine w_ldR rfl rfl (ble_1 hL.1) ?_
  refine w_ldI rfl rfl ?_
  refine w_callVI rfl rfl rfl rfl L3.1 L3.2 rfl (k_v33_6 had L3 t3) (fun v7 s7 p7 => ?_)
  obtain ⟨rfl, t7, f7⟩ := p7
  have L7 := LampA.f2 rfl f7 had L3
  refine w_push rfl ?_
  refine w_mul rfl ?_
  refine w_retI rfl ?_
  refine ⟨rfl, ?_, (f3).tr f7⟩
  have h := t7
  (try simp only [ta_app, List.cons_append, List.nil_append] at h)
  exact h
theorem k_v35_0 {d : Nat} {s : mSt} {a : Nat} {n m x : Int} {T : List Int} (had : lampAdr a = true) (hL : LampA s a 0 n m) (hT : TrX s T) : CI (d + 1) 35 [.inr (.inr a), .inl x] (s) (fun v s1 => v = (x - m) ∧ TrX s1 (ta T [12]) ∧ Fr [11, 12] s s1) := by
  refine CI.mk rfl ?_
  show WP (d + 1) 35 0 [some (.inr (.inr a)), some (.inl x)] [] (encA (s)) _
  refine w_ldR rfl rfl (ble_1 hL.1) ?_
  refine w_get0 rfl hL.1 hL.2 rfl rfl ?_
  refine w_push rfl ?_
  refine w_callWI rfl rfl rfl rfl rfl rfl rfl (k_addT hT) (fun v3 s3 p3 => ?_)
  obtain ⟨t3, f3⟩ := p3
  have L3 := LampA.f2 rfl f3 had hL
  refine w_popI rfl ?_
  refine w_ldI rfl rfl ?_
  refine w_ldR rfl rfl (ble_1 hL.1) ?_
  refine w_get0 rfl L3.1 L3.2 rfl rfl ?_
  refine w_sub rfl ?_
  refine w_retI rfl ?_
  refine ⟨rfl, ?_, f3⟩
  have h := t3
  (try simp only [ta_app, List.cons_append, List.nil_append] at h)
  exact h
theorem k_v35_2 {d : Nat} {s : mSt} {a : Nat} {n m x : Int} {T : List Int} (had : lampAdr a = true) (hL : LampA s a 2 n m) (hT : TrX s T) : CI (d + 1) 35 [.inr (.inr a), .inl x] (s) (fun v s1 => v = (x - m) ∧ TrX s1 (ta T [12]) ∧ Fr [11, 12] s s1) := by
  refine CI.mk rfl ?_
  show WP (d + 1) 35 0 [some (.inr (.inr a)), some (.inl x)] [] (encA (s)) _
  refine w_ldR rfl rfl (ble_1 hL.1) ?_
  refine w_get0 rfl hL.1 hL.2 rfl rfl ?_
  refine w_push rfl ?_
  refine w_callWI rfl rfl rfl rfl rfl rfl rfl (k_addT hT) (fun v3 s3 p3 => ?_)
  obtain ⟨t3, f3⟩ := p3
  have L3 := LampA.f2 rfl f3 had hL
  refine w_popI rfl ?_
  refine w_ldI rfl rfl ?_
  refine w_ldR rfl rfl (ble_1 hL.1) ?_
  refine w_get0 rfl L3.1 L3.2 rfl rfl ?_
  refine w_sub rfl ?_
  refine w_retI rfl ?_
  refine ⟨rfl, ?_, f3⟩
  have h := t3
  (try simp only [ta_app, List.cons_append, List.nil_append] at h)
  exact h
theorem k_v35_3 {d : Nat} {s : mSt} {a : Nat} {n m x : Int} {T : List Int} (had : lampAdr a = true) (hL : LampA s a 3 n m) (hT : TrX s T) : CI (d + 1) 35 [.inr (.inr a), .inl x] (s) (fun v s1 => v = (x - m) ∧ TrX s1 (ta T [12]) ∧ Fr [11, 12] s s1) := by
  refine CI.mk rfl ?_
  show WP (d + 1) 35 0 [some (.inr (.inr a)), some (.inl x)] [] (encA (s)) _
  refine w_ldR rfl rfl (ble_1 hL.1) ?_
  refine w_get0 rfl hL.1 hL.2 rfl rfl ?_
  refine w_push rfl ?_
  refine w_callWI rfl rfl rfl rfl rfl rfl rfl (k_addT hT) (fun v3 s3 p3 => ?_)
  obtain ⟨t3, f3⟩ := p3
  have L3 := LampA.f2 rfl f3 had hL
  refine w_popI rfl ?_
  refine w_ldI rfl rfl ?_
  refine w_ldR rfl rfl (ble_1 hL.1) ?_
  refine w_get0 rfl L3.1 L3.2 rfl rfl ?_
  refine w_sub rfl ?_
  refine w_retI rfl ?_
  refine ⟨rfl, ?_, f3⟩
  have h := t3
  (try simp only [ta_app, List.cons_append, List.nil_append] at h)
  exact h
theorem k_v83_3 {d : Nat} {s : mSt} {a : Nat} {n m x : Int} {T : List Int} (had : lampAdr a = true) (hL : LampA s a 3 n m) (hT : TrX s T) : CI (d + 2) 83 [.inr (.inr a), .inl x] (s) (fun v s1 => v = (-(x - m)) ∧ TrX s1 (ta T [40, 12]) ∧ Fr [11, 12] s s1) := by
  refine CI.mk rfl ?_
  show WP (d + 2) 83 0 [some (.inr (.inr a)), some (.inl x)] [] (encA (s)) _
  refine w_ldR rfl rfl (ble_1 hL.1) ?_
  refine w_get0 rfl hL.1 hL.2 rfl rfl ?_
  refine w_push rfl ?_
  refine w_callWI rfl rfl rfl rfl rfl rfl rfl (k_addT hT) (fun v3 s3 p3 => ?_)
  obtain ⟨t3, f3⟩ := p3
  have L3 := LampA.f2 rfl f3 had hL
  refine w_popI rfl ?_
  refine w_ldR rfl rfl (ble_1 hL.1) ?_
  refine w_ldI rfl rfl ?_
  refine w_callVI rfl rfl rfl rfl L3.1 L3.2 rfl (k_v35_3 had L3 t3) (fun v7 s7 p7 => ?_)
  obtain ⟨rfl, t7, f7⟩ := p7
  have L7 := LampA.f2 rfl f7 had L3
  refine w_neg rfl ?_
  refine w_retI rfl ?_
  refine ⟨rfl, ?_, (f3).tr f7⟩
  have h := t7
  (try simp only [ta_app, List.cons_append, List.nil_append] at h)
  exact h
theorem k_v35_5 {d : Nat} {s : mSt} {a : Nat} {n m x : Int} {T : List Int} (had : lampAdr a = true) (hL : LampA s a 5 n m) (hT : TrX s T) : CI (d + 1) 35 [.inr (.inr a), .inl x] (s) (fun v s1 => v = (x - m) ∧ TrX s1 (ta T [12]) ∧ Fr [11, 12] s s1) := by
  refine CI.mk rfl ?_
  show WP (d + 1) 35 0 [some (.inr (.inr a)), some (.inl x)] [] (encA (s)) _
  refine w_ldR rfl rfl (ble_1 hL.1) ?_
  refine w_get0 rfl hL.1 hL.2 rfl rfl ?_
  refine w_push rfl ?_
  refine w_callWI rfl rfl rfl rfl rfl rfl rfl (k_addT hT) (fun v3 s3 p3 => ?_)
  obtain ⟨t3, f3⟩ := p3
  have L3 := LampA.f2 rfl f3 had hL
  refine w_popI rfl ?_
  refine w_ldI rfl rfl ?_
  refine w_ldR rfl rfl (ble_1 hL.1) ?_
  refine w_get0 rfl L3.1 L3.2 rfl rfl ?_
  refine w_sub rfl ?_
  refine w_retI rfl ?_
  refine ⟨rfl, ?_, f3⟩
  have h := t3
  (try simp only [ta_app, List.cons_append, List.nil_append] at h)
  exact h
theorem k_v35_6 {d : Nat} {s : mSt} {a : Nat} {n m x : Int} {T : List Int} (had : lampAdr a = true) (hL : LampA s a 6 n m) (hT : TrX s T) : CI (d + 1) 35 [.inr (.inr a), .inl x] (s) (fun v s1 => v = (x - m) ∧ TrX s1 (ta T [12]) ∧ Fr [11, 12] s s1) := by
  refine CI.mk rfl ?_
  show WP (d + 1) 35 0 [some (.inr (.inr a)), some (.inl x)] [] (encA (s)) _
  refine w_ldR rfl rfl (ble_1 hL.1) ?_
  refine w_get0 rfl hL.1 hL.2 rfl rfl ?_
  refine w_push rfl ?_
  refine w_callWI rfl rfl rfl rfl rfl rfl rfl (k_addT hT) (fun v3 s3 p3 => ?_)
  obtain ⟨t3, f3⟩ := p3
  have L3 := LampA.f2 rfl f3 had hL
  refine w_popI rfl ?_
  refine w_ldI rfl rfl ?_
  refine w_ldR rfl rfl (ble_1 hL.1) ?_
  refine w_get0 rfl L3.1 L3.2 rfl rfl ?_
  refine w_sub rfl ?_
  refine w_retI rfl ?_
  refine ⟨rfl, ?_, f3⟩
  have h := t3
  (try simp only [ta_app, List.cons_append, List.nil_append] at h)
  exact h
theorem k_v83_6 {d : Nat} {s : mSt} {a : Nat} {n m x : Int} {T : List Int} (had : lampAdr a = true) (hL : LampA s a 6 n m) (hT : TrX s T) : CI (d + 2) 83 [.inr (.inr a), .inl x] (s) (fun v s1 => v = (-(x - m)) ∧ TrX s1 (ta T [40, 12]) ∧ Fr [11, 12] s s1) := by
  refine CI.mk rfl ?_
  show WP (d + 2) 83 0 [some (.inr (.inr a)), some (.inl x)] [] (encA (s)) _
  refine w_ldR rfl rfl (ble_1 hL.1) ?_
  refine w_get0 rfl hL.1 hL.2 rfl rfl ?_
  refine w_push rfl ?_
  refine w_callWI rfl rfl rfl rfl rfl rfl rfl (k_addT hT) (fun v3 s3 p3 => ?_)
  obtain ⟨t3, f3⟩ := p3
  have L3 := LampA.f2 rfl f3 had hL
  refine w_popI rfl ?_
  refine w_ldR rfl rfl (ble_1 hL.1) ?_
  refine w_ldI rfl rfl ?_
  refine w_callVI rfl rfl rfl rfl L3.1 L3.2 rfl (k_v35_6 had L3 t3) (fun v7 s7 p7 => ?_)
  obtain ⟨rfl, t7, f7⟩ := p7
  have L7 := LampA.f2 rfl f7 had L3
  refine w_neg rfl ?_
  refine w_retI rfl ?_
  refine ⟨rfl, ?_, (f3).tr f7⟩
  have h := t7
  (try simp only [ta_app, List.cons_append, List.nil_append] at h)
  exact h
theorem k_v26_6 {d : Nat} {s : mSt} {a : Nat} {n m x : Int} {T : List Int} (had : lampAdr a = true) (hL : LampA s a 6 n m) (hT : TrX s T) : CI (d + 3) 26 [.inr (.inr a), .inl x] (s) (fun v s1 => v = (m_xor (-(x - m)) n) ∧ TrX s1 (ta T [70, 40, 12]) ∧ Fr [11, 12] s s1) := by
  refine CI.mk rfl ?_
  show WP (d + 3) 26 0 [some (.inr (.inr a)), some (.inl x)] [] (encA (s)) _
  refine w_ldR rfl rfl (ble_1 hL.1) ?_
  refine w_get0 rfl hL.1 hL.2 rfl rfl ?_
  refine w_push rfl ?_
  refine w_callWI rfl rfl rfl rfl rfl rfl rfl (k_addT hT) (fun v3 s3 p3 => ?_)
  obtain ⟨t3, f3⟩ := p3
  have L3 := LampA.f2 rfl f3 had hL
  refine w_popI rfl ?_
  refine w_ldR rfl rfl (ble_1 hL.1) ?_
  refine w_ldI rfl rfl ?_
  refine w_callVI rfl rfl rfl rfl L3.1 L3.2 rfl (k_v83_6 had L3 t3) (fun v7 s7 p7 => ?_)
  obtain ⟨rfl, t7, f7⟩ := p7
  have L7 := LampA.f2 rfl f7 had L3
  refine w_ldR rfl rfl (ble_1 hL.1) ?_
  refine w_get0 rfl L7.1 L7.2 rfl rfl ?_
  refine w_bin rfl ?_
  refine w_retI rfl ?_
  refine ⟨rfl, ?_, (f3).tr f7⟩
  have h := t7
  (try simp only [ta_app, List.cons_append, List.nil_append] at h)
  exact h
theorem k_v36_0 {d : Nat} {s : mSt} {a : Nat} {n m x : Int} {T : List Int} (had : lampAdr a = true) (hL : LampA s a 0 n m) (hT : TrX s T) : CI (d + 3) 36 [.inr (.inr a), .inl x] (s) (fun v s1 => v = (m_xor ((x + n) * 2) (x - m)) ∧ TrX s1 (ta T [13, 11, 10, 12]) ∧ Fr [11, 12] s s1) := by
  refine CI.mk rfl ?_
  show WP (d + 3) 36 0 [some (.inr (.inr a)), some (.inl x)] [] (encA (s)) _
  refine w_ldR rfl rfl (ble_1 hL.1) ?_
  refine w_get0 rfl hL.1 hL.2 rfl rfl ?_
  refine w_push rfl ?_
  refine w_callWI rfl rfl rfl rfl rfl rfl rfl (k_addT hT) (fun v3 s3 p3 => ?_)
  obtain ⟨t3, f3⟩ := p3
  have L3 := LampA.f2 rfl f3 had hL
  refine w_popI rfl ?_
  refine w_ldR rfl rfl (ble_1 hL.1) ?_
  refine w_ldI rfl rfl ?_
  refine w_callVI rfl rfl rfl rfl L3.1 L3.2 rfl (k_v34_0 had L3 t3) (fun v7 s7 p7 => ?_)
  obtain ⟨rfl, t7, f7⟩ := p7
  have L7 := LampA.f2 rfl f7 had L3
  refine w_ldR rfl rfl (ble_1 hL.1) ?_
  refine w_ldI rfl rfl ?_
  refine w_callVI rfl rfl rfl rfl L7.1 L7.2 rfl (k_v35_0 had L7 t7) (fun v10 s10 p10 => ?_)
  obtain ⟨rfl, t10, f10⟩ := p10
  have L10 := LampA.f2 rfl f10 had L7
  refine w_bin rfl ?_
  refine w_retI rfl ?_
  refine ⟨rfl, ?_, ((f3).tr f7).tr f10⟩
  have h := t10
  (try simp only [ta_app, List.cons_append, List.nil_append] at h)
  exact h
theorem k_v36_1 {d : Nat} {s : mSt} {a : Nat} {n m x : Int} {T : List Int} (had : lampAdr a = true) (hL : LampA s a 1 n m) (hT : TrX s T) : CI (d + 4) 36 [.inr (.inr a), .inl x] (s) (fun v s1 => v = (m_xor (((x + n) * 2) - (1 - m)) (x - m)) ∧ TrX s1 (ta T [13, 20, 11, 10, 12, 12]) ∧ Fr [11, 12] s s1) := by
  refine CI.mk rfl ?_
  show WP (d + 4) 36 0 [some (.inr (.inr a)), some (.inl x)] [] (encA (s)) _
  refine w_ldR rfl rfl (ble_1 hL.1) ?_
  refine w_get0 rfl hL.1 hL.2 rfl rfl ?_
  refine w_push rfl ?_
  refine w_callWI rfl rfl rfl rfl rfl rfl rfl (k_addT hT) (fun v3 s3 p3 => ?_)
  obtain ⟨t3, f3⟩ := p3
  have L3 := LampA.f2 rfl f3 had hL
  refine w_popI rfl ?_
  refine w_ldR rfl rfl (ble_1 hL.1) ?_
  refine w_ldI rfl rfl ?_
  refine w_callVI rfl rfl rfl rfl L3.1 L3.2 rfl (k_v99_1 had L3 t3) (fun v7 s7 p7 => ?_)
  obtain ⟨rfl, t7, f7⟩ := p7
  have L7 := LampA.f2 rfl f7 had L3
  refine w_ldR rfl rfl (ble_1 hL.1) ?_
  refine w_ldI rfl rfl ?_
  refine w_callVI rfl rfl rfl rfl L7.1 L7.2 rfl (k_v35_1 had L7 t7) (fun v10 s10 p10 => ?_)
  obtain ⟨rfl, t10, f10⟩ := p10
  have L10 := LampA.f2 rfl f10 had L7
  refine w_bin rfl ?_
  refine w_retI rfl ?_
  refine ⟨rfl, ?_, ((f3).tr f7).tr f10⟩
  have h := t10
  (try simp only [ta_app, List.cons_append, List.nil_append] at h)
  exact h
theorem k_v36_2 {d : Nat} {s : mSt} {a : Nat} {n m x : Int} {T : List Int} (had : lampAdr a = true) (hL : LampA s a 2 n m) (hT : TrX s T) : CI (d + 4) 36 [.inr (.inr a), .inl x] (s) (fun v s1 => v = (m_xor (((x + n) * 3) * 2) (x - m)) ∧ TrX s1 (ta T [13, 11, 30, 10, 12]) ∧ Fr [11, 12] s s1) := by
  refine CI.mk rfl ?_
  show WP (d + 4) 36 0 [some (.inr (.inr a)), some (.inl x)] [] (encA (s)) _
  refine w_ldR rfl rfl (ble_1 hL.1) ?_
  refine w_get0 rfl hL.1 hL.2 rfl rfl ?_
  refine w_push rfl ?_
  refine w_callWI rfl rfl rfl rfl rfl rfl rfl (k_addT hT) (fun v3 s3 p3 => ?_)
  obtain ⟨t3, f3⟩ := p3
  have L3 := LampA.f2 rfl f3 had hL
  refine w_popI rfl ?_
  refine w_ldR rfl rfl (ble_1 hL.1) ?_
  refine w_ldI rfl rfl ?_
  refine w_callVI rfl rfl rfl rfl L3.1 L3.2 rfl (k_v34_2 had L3 t3) (fun v7 s7 p7 => ?_)
  obtain ⟨rfl, t7, f7⟩ := p7
  have L7 := LampA.f2 rfl f7 had L3
  refine w_ldR rfl rfl (ble_1 hL.1) ?_
  refine w_ldI rfl rfl ?_
  refine w_callVI rfl rfl rfl rfl L7.1 L7.2 rfl (k_v35_2 had L7 t7) (fun v10 s10 p10 => ?_)
  obtain ⟨rfl, t10, f10⟩ := p10
  have L10 := LampA.f2 rfl f10 had L7
  refine w_bin rfl ?_
  refine w_retI rfl ?_
  refine ⟨rfl, ?_, ((f3).tr f7).tr f10⟩
  have h := t10
  (try simp only [ta_app, List.cons_append, List.nil_append] at h)
  exact h
theorem k_v36_3 {d : Nat} {s : mSt} {a : Nat} {n m x : Int} {T : List Int} (had : lampAdr a = true) (hL : LampA s a 3 n m) (hT : TrX s T) : CI (d + 3) 36 [.inr (.inr a), .inl x] (s) (fun v s1 => v = (m_xor ((x + n) * 2) (-(x - m))) ∧ TrX s1 (ta T [13, 11, 10, 40, 12]) ∧ Fr [11, 12] s s1) := by
  refine CI.mk rfl ?_
  show WP (d + 3) 36 0 [some (.inr (.inr a)), some (.inl x)] [] (encA (s)) _
  refine w_ldR rfl rfl (ble_1 hL.1) ?_
  refine w_get0 rfl hL.1 hL.2 rfl rfl ?_
  refine w_push rfl ?_
  refine w_callWI rfl rfl rfl rfl rfl rfl rfl (k_addT hT) (fun v3 s3 p3 => ?_)
  obtain ⟨t3, f3⟩ := p3
  have L3 := LampA.f2 rfl f3 had hL
  refine w_popI rfl ?_
  refine w_ldR rfl rfl (ble_1 hL.1) ?_
  refine w_ldI rfl rfl ?_
  refine w_callVI rfl rfl rfl rfl L3.1 L3.2 rfl (k_v34_3 had L3 t3) (fun v7 s7 p7 => ?_)
  obtain ⟨rfl, t7, f7⟩ := p7
  have L7 := LampA.f2 rfl f7 had L3
  refine w_ldR rfl rfl (ble_1 hL.1) ?_
  refine w_ldI rfl rfl ?_
  refine w_callVI rfl rfl rfl rfl L7.1 L7.2 rfl (k_v83_3 had L7 t7) (fun v10 s10 p10 => ?_)
  obtain ⟨rfl, t10, f10⟩ := p10
  have L10 := LampA.f2 rfl f10 had L7
  refine w_bin rfl ?_
  refine w_retI rfl ?_
  refine ⟨rfl, ?_, ((f3).tr f7).tr f10⟩
  have h := t10
  (try simp only [ta_app, List.cons_append, List.nil_append] at h)
  exact h
theorem k_v36_4 {d : Nat} {s : mSt} {a : Nat} {n m x : Int} {T : List Int} (had : lampAdr a = true) (hL : LampA s a 4 n m) (hT : TrX s T) : CI (d + 5) 36 [.inr (.inr a), .inl x] (s) (fun v s1 => v = (m_xor ((((x + 1) + n) * 2) - (1 - m)) (x - m)) ∧ TrX s1 (ta T [13, 50, 20, 11, 10, 12, 12]) ∧ Fr [11, 12] s s1) := by
  refine CI.mk rfl ?_
  show WP (d + 5) 36 0 [some (.inr (.inr a)), some (.inl x)] [] (encA (s)) _
  refine w_ldR rfl rfl (ble_1 hL.1) ?_
  refine w_get0 rfl hL.1 hL.2 rfl rfl ?_
  refine w_push rfl ?_
  refine w_callWI rfl rfl rfl rfl rfl rfl rfl (k_addT hT) (fun v3 s3 p3 => ?_)
  obtain ⟨t3, f3⟩ := p3
  have L3 := LampA.f2 rfl f3 had hL
  refine w_popI rfl ?_
  refine w_ldR rfl rfl (ble_1 hL.1) ?_
  refine w_ldI rfl rfl ?_
  refine w_callVI rfl rfl rfl rfl L3.1 L3.2 rfl (k_v15_4 had L3 t3) (fun v7 s7 p7 => ?_)
  obtain ⟨rfl, t7, f7⟩ := p7
  have L7 := LampA.f2 rfl f7 had L3
  refine w_ldR rfl rfl (ble_1 hL.1) ?_
  refine w_ldI rfl rfl ?_
  refine w_callVI rfl rfl rfl rfl L7.1 L7.2 rfl (k_v35_4 had L7 t7) (fun v10 s10 p10 => ?_)
  obtain ⟨rfl, t10, f10⟩ := p10
  have L10 := LampA.f2 rfl f10 had L7
  refine w_bin rfl ?_
  refine w_retI rfl ?_
  refine ⟨rfl, ?_, ((f3).tr f7).tr f10⟩
  have h := t10
  (try simp only [ta_app, List.cons_append, List.nil_append] at h)
  exact h
theorem k_v36_5 {d : Nat} {s : mSt} {a : Nat} {n m x : Int} {T : List Int} (had : lampAdr a = true) (hL : LampA s a 5 n m) (hT : TrX s T) : CI (d + 4) 36 [.inr (.inr a), .inl x] (s) (fun v s1 => v = (m_xor (((x + n) * 3) * 2) (x - m)) ∧ TrX s1 (ta T [13, 11, 30, 10, 12]) ∧ Fr [11, 12] s s1) := by
  refine CI.mk rfl ?_
  show WP (d + 4) 36 0 [some (.inr (.inr a)), some (.inl x)] [] (encA (s)) _
  refine w_ldR rfl rfl (ble_1 hL.1) ?_
  refine w_get0 rfl hL.1 hL.2 rfl rfl ?_
  refine w_push rfl ?_
  refine w_callWI rfl rfl rfl rfl rfl rfl rfl (k_addT hT) (fun v3 s3 p3 => ?_)
  obtain ⟨t3, f3⟩ := p3
  have L3 := LampA.f2 rfl f3 had hL
  refine w_popI rfl ?_
  refine w_ldR rfl rfl (ble_1 hL.1) ?_
  refine w_ldI rfl rfl ?_
  refine w_callVI rfl rfl rfl rfl L3.1 L3.2 rfl (k_v34_5 had L3 t3) (fun v7 s7 p7 => ?_)
  obtain ⟨rfl, t7, f7⟩ := p7
  have L7 := LampA.f2 rfl f7 had L3
  refine w_ldR rfl rfl (ble_1 hL.1) ?_
  refine w_ldI rfl rfl ?_
  refine w_callVI rfl rfl rfl rfl L7.1 L7.2 rfl (k_v35_5 had L7 t7) (fun v10 s10 p10 => ?_)
  obtain ⟨rfl, t10, f10⟩ := p10
  have L10 := LampA.f2 rfl f10 had L7
  refine w_bin rfl ?_
  refine w_retI rfl ?_
  refine ⟨rfl, ?_, ((f3).tr f7).tr f10⟩
  have h := t10
  (try simp only [ta_app, List.cons_append, List.nil_append] at h)
  exact h
theorem k_v78_5 {d : Nat} {s : mSt} {a : Nat} {n m x : Int} {T : List Int} (had : lampAdr a = true) (hL : LampA s a 5 n m) (hT : TrX s T) : CI (d + 5) 78 [.inr (.inr a), .inl x] (s) (fun v s1 => v = ((m_xor (((x + n) * 3) * 2) (x - m)) - ((2 + n) * 3)) ∧ TrX s1 (ta T [60, 13, 11, 30, 10, 12, 30, 10]) ∧ Fr [11, 12] s s1) := by
  refine CI.mk rfl ?_
  show WP (d + 5) 78 0 [some (.inr (.inr a)), some (.inl x)] [] (encA (s)) _
  refine w_ldR rfl rfl (ble_1 hL.1) ?_
  refine w_get0 rfl hL.1 hL.2 rfl rfl ?_
  refine w_push rfl ?_
  refine w_callWI rfl rfl rfl rfl rfl rfl rfl (k_addT hT) (fun v3 s3 p3 => ?_)
  obtain ⟨t3, f3⟩ := p3
  have L3 := LampA.f2 rfl f3 had hL
  refine w_popI rfl ?_
  refine w_ldR rfl rfl (ble_1 hL.1) ?_
  refine w_ldI rfl rfl ?_
  refine w_callVI rfl rfl rfl rfl L3.1 L3.2 rfl (k_v36_5 had L3 t3) (fun v7 s7 p7 => ?_)
  obtain ⟨rfl, t7, f7⟩ := p7
  have L7 := LampA.f2 rfl f7 had L3
  refine w_ldR rfl rfl (ble_1 hL.1) ?_
  refine w_push rfl ?_
  refine w_callVI rfl rfl rfl rfl L7.1 L7.2 rfl (k_v21_5 had L7 t7) (fun v10 s10 p10 => ?_)
  obtain ⟨rfl, t10, f10⟩ := p10
  have L10 := LampA.f2 rfl f10 had L7
  refine w_sub rfl ?_
  refine w_retI rfl ?_
  refine ⟨rfl, ?_, ((f3).tr f7).tr f10⟩
  have h := t10
  (try simp only [ta_app, List.cons_append, List.nil_append] at h)
  exact h
theorem k_v36_6 {d : Nat} {s : mSt} {a : Nat} {n m x : Int} {T : List Int} (had : lampAdr a = true) (hL : LampA s a 6 n m) (hT : TrX s T) : CI (d + 4) 36 [.inr (.inr a), .inl x] (s) (fun v s1 => v = (m_xor ((x + n) * 2) (m_xor (-(x - m)) n)) ∧ TrX s1 (ta T [13, 11, 10, 70, 40, 12]) ∧ Fr [11, 12] s s1) := by
  refine CI.mk rfl ?_
  show WP (d + 4) 36 0 [some (.inr (.inr a)), some (.inl x)] [] (encA (s)) _
  refine w_ldR rfl rfl (ble_1 hL.1) ?_
  refine w_get0 rfl hL.1 hL.2 rfl rfl ?_
  refine w_push rfl ?_
  refine w_callWI rfl rfl rfl rfl rfl rfl rfl (k_addT hT) (fun v3 s3 p3 => ?_)
  obtain ⟨t3, f3⟩ := p3
  have L3 := LampA.f2 rfl f3 had hL
  refine w_popI rfl ?_
  refine w_ldR rfl rfl (ble_1 hL.1) ?_
  refine w_ldI rfl rfl ?_
  refine w_callVI rfl rfl rfl rfl L3.1 L3.2 rfl (k_v34_6 had L3 t3) (fun v7 s7 p7 => ?_)
  obtain ⟨rfl, t7, f7⟩ := p7
  have L7 := LampA.f2 rfl f7 had L3
  refine w_ldR rfl rfl (ble_1 hL.1) ?_
  refine w_ldI rfl rfl ?_
  refine w_callVI rfl rfl rfl rfl L7.1 L7.2 rfl (k_v26_6 had L7 t7) (fun v10 s10 p10 => ?_)
  obtain ⟨rfl, t10, f10⟩ := p10
  have L10 := LampA.f2 rfl f10 had L7
  refine w_bin rfl ?_
  refine w_retI rfl ?_
  refine ⟨rfl, ?_, ((f3).tr f7).tr f10⟩
  have h := t10
  (try simp only [ta_app, List.cons_append, List.nil_append] at h)
  exact h
theorem k_v27_6 {d : Nat} {s : mSt} {a : Nat} {n m x : Int} {T : List Int} (had : lampAdr a = true) (hL : LampA s a 6 n m) (hT : TrX s T) : CI (d + 5) 27 [.inr (.inr a), .inl x] (s) (fun v s1 => v = (((x + n) * 2) - (m_xor ((x + n) * 2) (m_xor (-(x - m)) n))) ∧ TrX s1 (ta T [71, 11, 10, 13, 11, 10, 70, 40, 12]) ∧ Fr [11, 12] s s1) := by
  refine CI.mk rfl ?_
  show WP (d + 5) 27 0 [some (.inr (.inr a)), some (.inl x)] [] (encA (s)) _
  refine w_ldR rfl rfl (ble_1 hL.1) ?_
  refine w_get0 rfl hL.1 hL.2 rfl rfl ?_
  refine w_push rfl ?_
  refine w_callWI rfl rfl rfl rfl rfl rfl rfl (k_addT hT) (fun v3 s3 p3 => ?_)
  obtain ⟨t3, f3⟩ := p3
  have L3 := LampA.f2 rfl f3 had hL
  refine w_popI rfl ?_
  refine w_ldR rfl rfl (ble_1 hL.1) ?_
  refine w_ldI rfl rfl ?_
  refine w_callVI rfl rfl rfl rfl L3.1 L3.2 rfl (k_v34_6 had L3 t3) (fun v7 s7 p7 => ?_)
  obtain ⟨rfl, t7, f7⟩ := p7
  have L7 := LampA.f2 rfl f7 had L3
  refine w_ldR rfl rfl (ble_1 hL.1) ?_
  refine w_ldI rfl rfl ?_
  refine w_callVI rfl rfl rfl rfl L7.1 L7.2 rfl (k_v36_6 had L7 t7) (fun v10 s10 p10 => ?_)
  obtain ⟨rfl, t10, f10⟩ := p10
  have L10 := LampA.f2 rfl f10 had L7
  refine w_sub rfl ?_
  refine w_retI rfl ?_
  refine ⟨rfl, ?_, ((f3).tr f7).tr f10⟩
  have h := t10
  (try simp only [ta_app, List.cons_append, List.nil_append] at h)
  exact h
def voE0 (k n m x : Int) : Int := if k = 0 then (x + n) else if k = 1 then (x + n) else if k = 2 then ((x + n) * 3) else if k = 3 then (x + n) else if k = 4 then (x + n) else if k = 5 then ((x + n) * 3) else (x + n)
def voB0 (k : Int) : List Int := if k = 0 then [10] else if k = 1 then [10] else if k = 2 then [30, 10] else if k = 3 then [10] else if k = 4 then [10] else if k = 5 then [30, 10] else [10]
theorem k_voice0 {d : Nat} {s : mSt} {a : Nat} {k n m x : Int} {T : List Int} (had : lampAdr a = true) (hL : LampA s a k n m) (hT : TrX s T) (hk : 0 ≤ k ∧ k ≤ 6) : ∃ c mt, enc s a = some (.inl (c, [.inl n, .inl m, .inr (.inr 11)])) ∧ mTb [(0, 33), (1, 21), (2, 33), (3, 33), (7, 21), (8, 33), (10, 33)] c = some mt ∧ CI (d + 5) mt [.inr (.inr a), .inl x] s (fun v s1 => v = voE0 k n m x ∧ TrX s1 (ta T (voB0 k)) ∧ Fr [11, 12] s s1) := by
  rcases (show k = 0 ∨ k = 1 ∨ k = 2 ∨ k = 3 ∨ k = 4 ∨ k = 5 ∨ k = 6 by omega) with rfl | rfl | rfl | rfl | rfl | rfl | rfl
  · exact ⟨3, 33, hL.2, rfl, k_v33_0 had hL hT⟩
  · exact ⟨10, 33, hL.2, rfl, k_v33_1 had hL hT⟩
  · exact ⟨1, 21, hL.2, rfl, k_v21_2 had hL hT⟩
  · exact ⟨8, 33, hL.2, rfl, k_v33_3 had hL hT⟩
  · exact ⟨0, 33, hL.2, rfl, k_v33_4 had hL hT⟩
  · exact ⟨7, 21, hL.2, rfl, k_v21_5 had hL hT⟩
  · exact ⟨2, 33, hL.2, rfl, k_v33_6 had hL hT⟩
def voE1 (k n m x : Int) : Int := if k = 0 then ((x + n) * 2) else if k = 1 then (((x + n) * 2) - (1 - m)) else if k = 2 then (((x + n) * 3) * 2) else if k = 3 then ((x + n) * 2) else if k = 4 then ((((x + 1) + n) * 2) - (1 - m)) else if k = 5 then (((x + n) * 3) * 2) else ((x + n) * 2)
def voB1 (k : Int) : List Int := if k = 0 then [11, 10] else if k = 1 then [20, 11, 10, 12] else if k = 2 then [11, 30, 10] else if k = 3 then [11, 10] else if k = 4 then [50, 20, 11, 10, 12] else if k = 5 then [11, 30, 10] else [11, 10]
theorem k_voice1 {d : Nat} {s : mSt} {a : Nat} {k n m x : Int} {T : List Int} (had : lampAdr a = true) (hL : LampA s a k n m) (hT : TrX s T) (hk : 0 ≤ k ∧ k ≤ 6) : ∃ c mt, enc s a = some (.inl (c, [.inl n, .inl m, .inr (.inr 11)])) ∧ mTb [(0, 15), (1, 34), (2, 34), (3, 34), (7, 34), (8, 34), (10, 99)] c = some mt ∧ CI (d + 5) mt [.inr (.inr a), .inl x] s (fun v s1 => v = voE1 k n m x ∧ TrX s1 (ta T (voB1 k)) ∧ Fr [11, 12] s s1) := by
  rcases (show k = 0 ∨ k = 1 ∨ k = 2 ∨ k = 3 ∨ k = 4 ∨ k = 5 ∨ k = 6 by omega) with rfl | rfl | rfl | rfl | rfl | rfl | rfl
  · exact ⟨3, 34, hL.2, rfl, k_v34_0 had hL hT⟩
  · exact ⟨10, 99, hL.2, rfl, k_v99_1 had hL hT⟩
  · exact ⟨1, 34, hL.2, rfl, k_v34_2 had hL hT⟩
  · exact ⟨8, 34, hL.2, rfl, k_v34_3 had hL hT⟩
  · exact ⟨0, 15, hL.2, rfl, k_v15_4 had hL hT⟩
  · exact ⟨7, 34, hL.2, rfl, k_v34_5 had hL hT⟩
  · exact ⟨2, 34, hL.2, rfl, k_v34_6 had hL hT⟩
def voE2 (k n m x : Int) : Int := if k = 0 then (x - m) else if k = 1 then (x - m) else if k = 2 then (x - m) else if k = 3 then (-(x - m)) else if k = 4 then (x - m) else if k = 5 then (x - m) else (m_xor (-(x - m)) n)
def voB2 (k : Int) : List Int := if k = 0 then [12] else if k = 1 then [12] else if k = 2 then [12] else if k = 3 then [40, 12] else if k = 4 then [12] else if k = 5 then [12] else [70, 40, 12]
theorem k_voice2 {d : Nat} {s : mSt} {a : Nat} {k n m x : Int} {T : List Int} (had : lampAdr a = true) (hL : LampA s a k n m) (hT : TrX s T) (hk : 0 ≤ k ∧ k ≤ 6) : ∃ c mt, enc s a = some (.inl (c, [.inl n, .inl m, .inr (.inr 11)])) ∧ mTb [(0, 35), (1, 35), (2, 26), (3, 35), (7, 35), (8, 83), (10, 35)] c = some mt ∧ CI (d + 5) mt [.inr (.inr a), .inl x] s (fun v s1 => v = voE2 k n m x ∧ TrX s1 (ta T (voB2 k)) ∧ Fr [11, 12] s s1) := by
  rcases (show k = 0 ∨ k = 1 ∨ k = 2 ∨ k = 3 ∨ k = 4 ∨ k = 5 ∨ k = 6 by omega) with rfl | rfl | rfl | rfl | rfl | rfl | rfl
  · exact ⟨3, 35, hL.2, rfl, k_v35_0 had hL hT⟩
  · exact ⟨10, 35, hL.2, rfl, k_v35_1 had hL hT⟩
  · exact ⟨1, 35, hL.2, rfl, k_v35_2 had hL hT⟩
  · exact ⟨8, 83, hL.2, rfl, k_v83_3 had hL hT⟩
  · exact ⟨0, 35, hL.2, rfl, k_v35_4 had hL hT⟩
  · exact ⟨7, 35, hL.2, rfl, k_v35_5 had hL hT⟩
  · exact ⟨2, 26, hL.2, rfl, k_v26_6 had hL hT⟩
def voE3 (k n m x : Int) : Int := if k = 0 then (m_xor ((x + n) * 2) (x - m)) else if k = 1 then (m_xor (((x + n) * 2) - (1 - m)) (x - m)) else if k = 2 then (m_xor (((x + n) * 3) * 2) (x - m)) else if k = 3 then (m_xor ((x + n) * 2) (-(x - m))) else if k = 4 then (m_xor ((((x + 1) + n) * 2) - (1 - m)) (x - m)) else if k = 5 then ((m_xor (((x + n) * 3) * 2) (x - m)) - ((2 + n) * 3)) else (((x + n) * 2) - (m_xor ((x + n) * 2) (m_xor (-(x - m)) n)))
def voB3 (k : Int) : List Int := if k = 0 then [13, 11, 10, 12] else if k = 1 then [13, 20, 11, 10, 12, 12] else if k = 2 then [13, 11, 30, 10, 12] else if k = 3 then [13, 11, 10, 40, 12] else if k = 4 then [13, 50, 20, 11, 10, 12, 12] else if k = 5 then [60, 13, 11, 30, 10, 12, 30, 10] else [71, 11, 10, 13, 11, 10, 70, 40, 12]
theorem k_voice3 {d : Nat} {s : mSt} {a : Nat} {k n m x : Int} {T : List Int} (had : lampAdr a = true) (hL : LampA s a k n m) (hT : TrX s T) (hk : 0 ≤ k ∧ k ≤ 6) : ∃ c mt, enc s a = some (.inl (c, [.inl n, .inl m, .inr (.inr 11)])) ∧ mTb [(0, 36), (1, 36), (2, 27), (3, 36), (7, 78), (8, 36), (10, 36)] c = some mt ∧ CI (d + 5) mt [.inr (.inr a), .inl x] s (fun v s1 => v = voE3 k n m x ∧ TrX s1 (ta T (voB3 k)) ∧ Fr [11, 12] s s1) := by
  rcases (show k = 0 ∨ k = 1 ∨ k = 2 ∨ k = 3 ∨ k = 4 ∨ k = 5 ∨ k = 6 by omega) with rfl | rfl | rfl | rfl | rfl | rfl | rfl
  · exact ⟨3, 36, hL.2, rfl, k_v36_0 had hL hT⟩
  · exact ⟨10, 36, hL.2, rfl, k_v36_1 had hL hT⟩
  · exact ⟨1, 36, hL.2, rfl, k_v36_2 had hL hT⟩
  · exact ⟨8, 36, hL.2, rfl, k_v36_3 had hL hT⟩
  · exact ⟨0, 36, hL.2, rfl, k_v36_4 had hL hT⟩
  · exact ⟨7, 78, hL.2, rfl, k_v78_5 had hL hT⟩
  · exact ⟨2, 27, hL.2, rfl, k_v27_6 had hL hT⟩
theorem m_own {d : Nat} {s : mSt} {n K : Int} (hw : 0 ≤ n ∧ n < 6) (hW : s 146 22 = n) (hK : s 147 (45 + 4 * n + 0).toNat = K) : Call (d + 1) 246 [.inr (.inr 146)] (encA (s)) (some (.inl (K))) (encA (s)) := by
  refine CI.ex (CI.mk rfl ?_)
  show WP (d + 1) 246 0 [some (.inr (.inr 146))] [] (encA (s)) _
  refine w_ldR rfl rfl rfl ?_
  refine w_ldR rfl rfl rfl ?_
  first | refine w_getI rfl rfl rfl rfl rfl ?_ | refine w_getR rfl rfl rfl rfl rfl ?_
  rw [hW]
  refine w_push rfl ?_
  refine w_callV rfl rfl rfl rfl rfl rfl rfl (r_ofIt (by omega) (by omega)) ?_
  rw [hK]
  refine w_retI rfl ?_
  exact ⟨rfl, rfl⟩
theorem m_v247_0_0 {d : Nat} {s : mSt} {n m x : Int} {T : List Int} (hw : 0 ≤ n ∧ n < 6) (hW : s 146 22 = n) (hK : s 147 (45 + 4 * n + 0).toNat = 0) (hm : s 147 (45 + 4 * n + 1).toNat = m) (hT : TrM s T) : CI (d + 1) 247 [.inr (.inr 146), .inl 0, .inl x] (s) (fun v s1 => v = (x + n) ∧ TrM s1 (ta T [10]) ∧ FrM s s1) := by
  refine CI.mk rfl ?_
  show WP (d + 1) 247 0 [some (.inr (.inr 146)), some (.inl 0), some (.inl x)] [] (encA (s)) _
  refine w_ldI rfl rfl ?_
  refine w_sw (tg := 2) rfl (by rw [w32_id (by decide) (by decide)]; rfl) ?_
  refine w_ldR rfl rfl rfl ?_
  refine w_push rfl ?_
  refine w_callWN rfl rfl rfl rfl rfl rfl rfl (m_ran hT) (fun s4 p4 => ?_)
  obtain ⟨t4, f4⟩ := p4
  have W4 := (f4.2 22 (by decide)).trans hW
  have K4 := (congrFun (f4.1.at 147 rfl) _).trans hK
  have M4 := (congrFun (f4.1.at 147 rfl) _).trans hm
  refine w_ldI rfl rfl ?_
  refine w_ldR rfl rfl rfl ?_
  first | refine w_getI rfl rfl rfl rfl rfl ?_ | refine w_getR rfl rfl rfl rfl rfl ?_
  rw [W4]
  refine w_add rfl ?_
  refine w_retI rfl ?_
  refine ⟨rfl, ?_, f4⟩
  have h := t4
  (try simp only [ta_app, List.cons_append, List.nil_append] at h)
  exact h
theorem m_v247_1_0 {d : Nat} {s : mSt} {n m x : Int} {T : List Int} (hw : 0 ≤ n ∧ n < 6) (hW : s 146 22 = n) (hK : s 147 (45 + 4 * n + 0).toNat = 1) (hm : s 147 (45 + 4 * n + 1).toNat = m) (hT : TrM s T) : CI (d + 1) 247 [.inr (.inr 146), .inl 0, .inl x] (s) (fun v s1 => v = (x + n) ∧ TrM s1 (ta T [10]) ∧ FrM s s1) := by
  refine CI.mk rfl ?_
  show WP (d + 1) 247 0 [some (.inr (.inr 146)), some (.inl 0), some (.inl x)] [] (encA (s)) _
  refine w_ldI rfl rfl ?_
  refine w_sw (tg := 2) rfl (by rw [w32_id (by decide) (by decide)]; rfl) ?_
  refine w_ldR rfl rfl rfl ?_
  refine w_push rfl ?_
  refine w_callWN rfl rfl rfl rfl rfl rfl rfl (m_ran hT) (fun s4 p4 => ?_)
  obtain ⟨t4, f4⟩ := p4
  have W4 := (f4.2 22 (by decide)).trans hW
  have K4 := (congrFun (f4.1.at 147 rfl) _).trans hK
  have M4 := (congrFun (f4.1.at 147 rfl) _).trans hm
  refine w_ldI rfl rfl ?_
  refine w_ldR rfl rfl rfl ?_
  first | refine w_getI rfl rfl rfl rfl rfl ?_ | refine w_getR rfl rfl rfl rfl rfl ?_
  rw [W4]
  refine w_add rfl ?_
  refine w_retI rfl ?_
  refine ⟨rfl, ?_, f4⟩
  have h := t4
  (try simp only [ta_app, List.cons_append, List.nil_append] at h)
  exact h
theorem m_v247_1_1 {d : Nat} {s : mSt} {n m x : Int} {T : List Int} (hw : 0 ≤ n ∧ n < 6) (hW : s 146 22 = n) (hK : s 147 (45 + 4 * n + 0).toNat = 1) (hm : s 147 (45 + 4 * n + 1).toNat = m) (hT : TrM s T) : CI (d + 2) 247 [.inr (.inr 146), .inl 1, .inl x] (s) (fun v s1 => v = (x + n) ∧ TrM s1 (ta T [10]) ∧ FrM s s1) := by
  refine CI.mk rfl ?_
  show WP (d + 2) 247 0 [some (.inr (.inr 146)), some (.inl 1), some (.inl x)] [] (encA (s)) _
  refine w_ldI rfl rfl ?_
  refine w_sw (tg := 21) rfl (by rw [w32_id (by decide) (by decide)]; rfl) ?_
  refine w_ldR rfl rfl rfl ?_
  refine w_ldI rfl rfl ?_
  refine w_call rfl rfl rfl (r_above (by omega)) ?_
  first | rw [show abv 1 = 0 from rfl] | rw [show abv 2 = 0 from rfl] | rw [show abv 3 = 0 from rfl] | rw [show abv 4 = 1 from rfl] | rw [show abv 5 = 2 from rfl] | rw [show abv 6 = 3 from rfl]
  refine w_ldI rfl rfl ?_
  refine w_callWI rfl rfl rfl rfl rfl rfl rfl (m_v247_1_0 hw hW hK hm hT) (fun v25 s25 p25 => ?_)
  obtain ⟨rfl, t25, f25⟩ := p25
  have W25 := (f25.2 22 (by decide)).trans hW
  have K25 := (congrFun (f25.1.at 147 rfl) _).trans hK
  have M25 := (congrFun (f25.1.at 147 rfl) _).trans hm
  refine w_retI rfl ?_
  refine ⟨rfl, ?_, f25⟩
  have h := t25
  (try simp only [ta_app, List.cons_append, List.nil_append] at h)
  exact h
theorem m_v247_2_0 {d : Nat} {s : mSt} {n m x : Int} {T : List Int} (hw : 0 ≤ n ∧ n < 6) (hW : s 146 22 = n) (hK : s 147 (45 + 4 * n + 0).toNat = 2) (hm : s 147 (45 + 4 * n + 1).toNat = m) (hT : TrM s T) : CI (d + 1) 247 [.inr (.inr 146), .inl 0, .inl x] (s) (fun v s1 => v = (x + n) ∧ TrM s1 (ta T [10]) ∧ FrM s s1) := by
  refine CI.mk rfl ?_
  show WP (d + 1) 247 0 [some (.inr (.inr 146)), some (.inl 0), some (.inl x)] [] (encA (s)) _
  refine w_ldI rfl rfl ?_
  refine w_sw (tg := 2) rfl (by rw [w32_id (by decide) (by decide)]; rfl) ?_
  refine w_ldR rfl rfl rfl ?_
  refine w_push rfl ?_
  refine w_callWN rfl rfl rfl rfl rfl rfl rfl (m_ran hT) (fun s4 p4 => ?_)
  obtain ⟨t4, f4⟩ := p4
  have W4 := (f4.2 22 (by decide)).trans hW
  have K4 := (congrFun (f4.1.at 147 rfl) _).trans hK
  have M4 := (congrFun (f4.1.at 147 rfl) _).trans hm
  refine w_ldI rfl rfl ?_
  refine w_ldR rfl rfl rfl ?_
  first | refine w_getI rfl rfl rfl rfl rfl ?_ | refine w_getR rfl rfl rfl rfl rfl ?_
  rw [W4]
  refine w_add rfl ?_
  refine w_retI rfl ?_
  refine ⟨rfl, ?_, f4⟩
  have h := t4
  (try simp only [ta_app, List.cons_append, List.nil_append] at h)
  exact h
theorem m_v247_2_2 {d : Nat} {s : mSt} {n m x : Int} {T : List Int} (hw : 0 ≤ n ∧ n < 6) (hW : s 146 22 = n) (hK : s 147 (45 + 4 * n + 0).toNat = 2) (hm : s 147 (45 + 4 * n + 1).toNat = m) (hT : TrM s T) : CI (d + 2) 247 [.inr (.inr 146), .inl 2, .inl x] (s) (fun v s1 => v = ((x + n) * 3) ∧ TrM s1 (ta T [30, 10]) ∧ FrM s s1) := by
  refine CI.mk rfl ?_
  show WP (d + 2) 247 0 [some (.inr (.inr 146)), some (.inl 2), some (.inl x)] [] (encA (s)) _
  refine w_ldI rfl rfl ?_
  refine w_sw (tg := 10) rfl (by rw [w32_id (by decide) (by decide)]; rfl) ?_
  refine w_ldR rfl rfl rfl ?_
  refine w_push rfl ?_
  refine w_callWN rfl rfl rfl rfl rfl rfl rfl (m_ran hT) (fun s12 p12 => ?_)
  obtain ⟨t12, f12⟩ := p12
  have W12 := (f12.2 22 (by decide)).trans hW
  have K12 := (congrFun (f12.1.at 147 rfl) _).trans hK
  have M12 := (congrFun (f12.1.at 147 rfl) _).trans hm
  refine w_ldR rfl rfl rfl ?_
  refine w_push rfl ?_
  refine w_call rfl rfl rfl (r_above (by omega)) ?_
  first | rw [show abv 1 = 0 from rfl] | rw [show abv 2 = 0 from rfl] | rw [show abv 3 = 0 from rfl] | rw [show abv 4 = 1 from rfl] | rw [show abv 5 = 2 from rfl] | rw [show abv 6 = 3 from rfl]
  refine w_ldI rfl rfl ?_
  refine w_callWI rfl rfl rfl rfl rfl rfl rfl (m_v247_2_0 hw W12 K12 M12 t12) (fun v17 s17 p17 => ?_)
  obtain ⟨rfl, t17, f17⟩ := p17
  have W17 := (f17.2 22 (by decide)).trans W12
  have K17 := (congrFun (f17.1.at 147 rfl) _).trans K12
  have M17 := (congrFun (f17.1.at 147 rfl) _).trans M12
  refine w_push rfl ?_
  refine w_mul rfl ?_
  refine w_retI rfl ?_
  refine ⟨rfl, ?_, (f12).tr f17⟩
  have h := t17
  (try simp only [ta_app, List.cons_append, List.nil_append] at h)
  exact h
theorem m_v247_3_0 {d : Nat} {s : mSt} {n m x : Int} {T : List Int} (hw : 0 ≤ n ∧ n < 6) (hW : s 146 22 = n) (hK : s 147 (45 + 4 * n + 0).toNat = 3) (hm : s 147 (45 + 4 * n + 1).toNat = m) (hT : TrM s T) : CI (d + 1) 247 [.inr (.inr 146), .inl 0, .inl x] (s) (fun v s1 => v = (x + n) ∧ TrM s1 (ta T [10]) ∧ FrM s s1) := by
  refine CI.mk rfl ?_
  show WP (d + 1) 247 0 [some (.inr (.inr 146)), some (.inl 0), some (.inl x)] [] (encA (s)) _
  refine w_ldI rfl rfl ?_
  refine w_sw (tg := 2) rfl (by rw [w32_id (by decide) (by decide)]; rfl) ?_
  refine w_ldR rfl rfl rfl ?_
  refine w_push rfl ?_
  refine w_callWN rfl rfl rfl rfl rfl rfl rfl (m_ran hT) (fun s4 p4 => ?_)
  obtain ⟨t4, f4⟩ := p4
  have W4 := (f4.2 22 (by decide)).trans hW
  have K4 := (congrFun (f4.1.at 147 rfl) _).trans hK
  have M4 := (congrFun (f4.1.at 147 rfl) _).trans hm
  refine w_ldI rfl rfl ?_
  refine w_ldR rfl rfl rfl ?_
  first | refine w_getI rfl rfl rfl rfl rfl ?_ | refine w_getR rfl rfl rfl rfl rfl ?_
  rw [W4]
  refine w_add rfl ?_
  refine w_retI rfl ?_
  refine ⟨rfl, ?_, f4⟩
  have h := t4
  (try simp only [ta_app, List.cons_append, List.nil_append] at h)
  exact h
theorem m_v247_3_3 {d : Nat} {s : mSt} {n m x : Int} {T : List Int} (hw : 0 ≤ n ∧ n < 6) (hW : s 146 22 = n) (hK : s 147 (45 + 4 * n + 0).toNat = 3) (hm : s 147 (45 + 4 * n + 1).toNat = m) (hT : TrM s T) : CI (d + 2) 247 [.inr (.inr 146), .inl 3, .inl x] (s) (fun v s1 => v = (x + n) ∧ TrM s1 (ta T [10]) ∧ FrM s s1) := by
  refine CI.mk rfl ?_
  show WP (d + 2) 247 0 [some (.inr (.inr 146)), some (.inl 3), some (.inl x)] [] (encA (s)) _
  refine w_ldI rfl rfl ?_
  refine w_sw (tg := 21) rfl (by rw [w32_id (by decide) (by decide)]; rfl) ?_
  refine w_ldR rfl rfl rfl ?_
  refine w_ldI rfl rfl ?_
  refine w_call rfl rfl rfl (r_above (by omega)) ?_
  first | rw [show abv 1 = 0 from rfl] | rw [show abv 2 = 0 from rfl] | rw [show abv 3 = 0 from rfl] | rw [show abv 4 = 1 from rfl] | rw [show abv 5 = 2 from rfl] | rw [show abv 6 = 3 from rfl]
  refine w_ldI rfl rfl ?_
  refine w_callWI rfl rfl rfl rfl rfl rfl rfl (m_v247_3_0 hw hW hK hm hT) (fun v25 s25 p25 => ?_)
  obtain ⟨rfl, t25, f25⟩ := p25
  have W25 := (f25.2 22 (by decide)).trans hW
  have K25 := (congrFun (f25.1.at 147 rfl) _).trans hK
  have M25 := (congrFun (f25.1.at 147 rfl) _).trans hm
  refine w_retI rfl ?_
  refine ⟨rfl, ?_, f25⟩
  have h := t25
  (try simp only [ta_app, List.cons_append, List.nil_append] at h)
  exact h
theorem m_v247_4_0 {d : Nat} {s : mSt} {n m x : Int} {T : List Int} (hw : 0 ≤ n ∧ n < 6) (hW : s 146 22 = n) (hK : s 147 (45 + 4 * n + 0).toNat = 4) (hm : s 147 (45 + 4 * n + 1).toNat = m) (hT : TrM s T) : CI (d + 1) 247 [.inr (.inr 146), .inl 0, .inl x] (s) (fun v s1 => v = (x + n) ∧ TrM s1 (ta T [10]) ∧ FrM s s1) := by
  refine CI.mk rfl ?_
  show WP (d + 1) 247 0 [some (.inr (.inr 146)), some (.inl 0), some (.inl x)] [] (encA (s)) _
  refine w_ldI rfl rfl ?_
  refine w_sw (tg := 2) rfl (by rw [w32_id (by decide) (by decide)]; rfl) ?_
  refine w_ldR rfl rfl rfl ?_
  refine w_push rfl ?_
  refine w_callWN rfl rfl rfl rfl rfl rfl rfl (m_ran hT) (fun s4 p4 => ?_)
  obtain ⟨t4, f4⟩ := p4
  have W4 := (f4.2 22 (by decide)).trans hW
  have K4 := (congrFun (f4.1.at 147 rfl) _).trans hK
  have M4 := (congrFun (f4.1.at 147 rfl) _).trans hm
  refine w_ldI rfl rfl ?_
  refine w_ldR rfl rfl rfl ?_
  first | refine w_getI rfl rfl rfl rfl rfl ?_ | refine w_getR rfl rfl rfl rfl rfl ?_
  rw [W4]
  refine w_add rfl ?_
  refine w_retI rfl ?_
  refine ⟨rfl, ?_, f4⟩
  have h := t4
  (try simp only [ta_app, List.cons_append, List.nil_append] at h)
  exact h
theorem m_v247_4_1 {d : Nat} {s : mSt} {n m x : Int} {T : List Int} (hw : 0 ≤ n ∧ n < 6) (hW : s 146 22 = n) (hK : s 147 (45 + 4 * n + 0).toNat = 4) (hm : s 147 (45 + 4 * n + 1).toNat = m) (hT : TrM s T) : CI (d + 2) 247 [.inr (.inr 146), .inl 1, .inl x] (s) (fun v s1 => v = (x + n) ∧ TrM s1 (ta T [10]) ∧ FrM s s1) := by
  refine CI.mk rfl ?_
  show WP (d + 2) 247 0 [some (.inr (.inr 146)), some (.inl 1), some (.inl x)] [] (encA (s)) _
  refine w_ldI rfl rfl ?_
  refine w_sw (tg := 21) rfl (by rw [w32_id (by decide) (by decide)]; rfl) ?_
  refine w_ldR rfl rfl rfl ?_
  refine w_ldI rfl rfl ?_
  refine w_call rfl rfl rfl (r_above (by omega)) ?_
  first | rw [show abv 1 = 0 from rfl] | rw [show abv 2 = 0 from rfl] | rw [show abv 3 = 0 from rfl] | rw [show abv 4 = 1 from rfl] | rw [show abv 5 = 2 from rfl] | rw [show abv 6 = 3 from rfl]
  refine w_ldI rfl rfl ?_
  refine w_callWI rfl rfl rfl rfl rfl rfl rfl (m_v247_4_0 hw hW hK hm hT) (fun v25 s25 p25 => ?_)
  obtain ⟨rfl, t25, f25⟩ := p25
  have W25 := (f25.2 22 (by decide)).trans hW
  have K25 := (congrFun (f25.1.at 147 rfl) _).trans hK
  have M25 := (congrFun (f25.1.at 147 rfl) _).trans hm
  refine w_retI rfl ?_
  refine ⟨rfl, ?_, f25⟩
  have h := t25
  (try simp only [ta_app, List.cons_append, List.nil_append] at h)
  exact h
theorem m_v247_4_4 {d : Nat} {s : mSt} {n m x : Int} {T : List Int} (hw : 0 ≤ n ∧ n < 6) (hW : s 146 22 = n) (hK : s 147 (45 + 4 * n + 0).toNat = 4) (hm : s 147 (45 + 4 * n + 1).toNat = m) (hT : TrM s T) : CI (d + 3) 247 [.inr (.inr 146), .inl 4, .inl x] (s) (fun v s1 => v = (x + n) ∧ TrM s1 (ta T [10]) ∧ FrM s s1) := by
  refine CI.mk rfl ?_
  show WP (d + 3) 247 0 [some (.inr (.inr 146)), some (.inl 4), some (.inl x)] [] (encA (s)) _
  refine w_ldI rfl rfl ?_
  refine w_sw (tg := 21) rfl (by rw [w32_id (by decide) (by decide)]; rfl) ?_
  refine w_ldR rfl rfl rfl ?_
  refine w_ldI rfl rfl ?_
  refine w_call rfl rfl rfl (r_above (by omega)) ?_
  first | rw [show abv 1 = 0 from rfl] | rw [show abv 2 = 0 from rfl] | rw [show abv 3 = 0 from rfl] | rw [show abv 4 = 1 from rfl] | rw [show abv 5 = 2 from rfl] | rw [show abv 6 = 3 from rfl]
  refine w_ldI rfl rfl ?_
  refine w_callWI rfl rfl rfl rfl rfl rfl rfl (m_v247_4_1 hw hW hK hm hT) (fun v25 s25 p25 => ?_)
  obtain ⟨rfl, t25, f25⟩ := p25
  have W25 := (f25.2 22 (by decide)).trans hW
  have K25 := (congrFun (f25.1.at 147 rfl) _).trans hK
  have M25 := (congrFun (f25.1.at 147 rfl) _).trans hm
  refine w_retI rfl ?_
  refine ⟨rfl, ?_, f25⟩
  have h := t25
  (try simp only [ta_app, List.cons_append, List.nil_append] at h)
  exact h
theorem m_v247_5_0 {d : Nat} {s : mSt} {n m x : Int} {T : List Int} (hw : 0 ≤ n ∧ n < 6) (hW : s 146 22 = n) (hK : s 147 (45 + 4 * n + 0).toNat = 5) (hm : s 147 (45 + 4 * n + 1).toNat = m) (hT : TrM s T) : CI (d + 1) 247 [.inr (.inr 146), .inl 0, .inl x] (s) (fun v s1 => v = (x + n) ∧ TrM s1 (ta T [10]) ∧ FrM s s1) := by
  refine CI.mk rfl ?_
  show WP (d + 1) 247 0 [some (.inr (.inr 146)), some (.inl 0), some (.inl x)] [] (encA (s)) _
  refine w_ldI rfl rfl ?_
  refine w_sw (tg := 2) rfl (by rw [w32_id (by decide) (by decide)]; rfl) ?_
  refine w_ldR rfl rfl rfl ?_
  refine w_push rfl ?_
  refine w_callWN rfl rfl rfl rfl rfl rfl rfl (m_ran hT) (fun s4 p4 => ?_)
  obtain ⟨t4, f4⟩ := p4
  have W4 := (f4.2 22 (by decide)).trans hW
  have K4 := (congrFun (f4.1.at 147 rfl) _).trans hK
  have M4 := (congrFun (f4.1.at 147 rfl) _).trans hm
  refine w_ldI rfl rfl ?_
  refine w_ldR rfl rfl rfl ?_
  first | refine w_getI rfl rfl rfl rfl rfl ?_ | refine w_getR rfl rfl rfl rfl rfl ?_
  rw [W4]
  refine w_add rfl ?_
  refine w_retI rfl ?_
  refine ⟨rfl, ?_, f4⟩
  have h := t4
  (try simp only [ta_app, List.cons_append, List.nil_append] at h)
  exact h
theorem m_v247_5_2 {d : Nat} {s : mSt} {n m x : Int} {T : List Int} (hw : 0 ≤ n ∧ n < 6) (hW : s 146 22 = n) (hK : s 147 (45 + 4 * n + 0).toNat = 5) (hm : s 147 (45 + 4 * n + 1).toNat = m) (hT : TrM s T) : CI (d + 2) 247 [.inr (.inr 146), .inl 2, .inl x] (s) (fun v s1 => v = ((x + n) * 3) ∧ TrM s1 (ta T [30, 10]) ∧ FrM s s1) := by
  refine CI.mk rfl ?_
  show WP (d + 2) 247 0 [some (.inr (.inr 146)), some (.inl 2), some (.inl x)] [] (encA (s)) _
  refine w_ldI rfl rfl ?_
  refine w_sw (tg := 10) rfl (by rw [w32_id (by decide) (by decide)]; rfl) ?_
  refine w_ldR rfl rfl rfl ?_
  refine w_push rfl ?_
  refine w_callWN rfl rfl rfl rfl rfl rfl rfl (m_ran hT) (fun s12 p12 => ?_)
  obtain ⟨t12, f12⟩ := p12
  have W12 := (f12.2 22 (by decide)).trans hW
  have K12 := (congrFun (f12.1.at 147 rfl) _).trans hK
  have M12 := (congrFun (f12.1.at 147 rfl) _).trans hm
  refine w_ldR rfl rfl rfl ?_
  refine w_push rfl ?_
  refine w_call rfl rfl rfl (r_above (by omega)) ?_
  first | rw [show abv 1 = 0 from rfl] | rw [show abv 2 = 0 from rfl] | rw [show abv 3 = 0 from rfl] | rw [show abv 4 = 1 from rfl] | rw [show abv 5 = 2 from rfl] | rw [show abv 6 = 3 from rfl]
  refine w_ldI rfl rfl ?_
  refine w_callWI rfl rfl rfl rfl rfl rfl rfl (m_v247_5_0 hw W12 K12 M12 t12) (fun v17 s17 p17 => ?_)
  obtain ⟨rfl, t17, f17⟩ := p17
  have W17 := (f17.2 22 (by decide)).trans W12
  have K17 := (congrFun (f17.1.at 147 rfl) _).trans K12
  have M17 := (congrFun (f17.1.at 147 rfl) _).trans M12
  refine w_push rfl ?_
  refine w_mul rfl ?_
  refine w_retI rfl ?_
  refine ⟨rfl, ?_, (f12).tr f17⟩
  have h := t17
  (try simp only [ta_app, List.cons_append, List.nil_append] at h)
  exact h
theorem m_v247_5_5 {d : Nat} {s : mSt} {n m x : Int} {T : List Int} (hw : 0 ≤ n ∧ n < 6) (hW : s 146 22 = n) (hK : s 147 (45 + 4 * n + 0).toNat = 5) (hm : s 147 (45 + 4 * n + 1).toNat = m) (hT : TrM s T) : CI (d + 3) 247 [.inr (.inr 146), .inl 5, .inl x] (s) (fun v s1 => v = ((x + n) * 3) ∧ TrM s1 (ta T [30, 10]) ∧ FrM s s1) := by
  refine CI.mk rfl ?_
  show WP (d + 3) 247 0 [some (.inr (.inr 146)), some (.inl 5), some (.inl x)] [] (encA (s)) _
  refine w_ldI rfl rfl ?_
  refine w_sw (tg := 21) rfl (by rw [w32_id (by decide) (by decide)]; rfl) ?_
  refine w_ldR rfl rfl rfl ?_
  refine w_ldI rfl rfl ?_
  refine w_call rfl rfl rfl (r_above (by omega)) ?_
  first | rw [show abv 1 = 0 from rfl] | rw [show abv 2 = 0 from rfl] | rw [show abv 3 = 0 from rfl] | rw [show abv 4 = 1 from rfl] | rw [show abv 5 = 2 from rfl] | rw [show abv 6 = 3 from rfl]
  refine w_ldI rfl rfl ?_
  refine w_callWI rfl rfl rfl rfl rfl rfl rfl (m_v247_5_2 hw hW hK hm hT) (fun v25 s25 p25 => ?_)
  obtain ⟨rfl, t25, f25⟩ := p25
  have W25 := (f25.2 22 (by decide)).trans hW
  have K25 := (congrFun (f25.1.at 147 rfl) _).trans hK
  have M25 := (congrFun (f25.1.at 147 rfl) _).trans hm
  refine w_retI rfl ?_
  refine ⟨rfl, ?_, f25⟩
  have h := t25
  (try simp only [ta_app, List.cons_append, List.nil_append] at h)
  exact h
theorem m_v247_6_0 {d : Nat} {s : mSt} {n m x : Int} {T : List Int} (hw : 0 ≤ n ∧ n < 6) (hW : s 146 22 = n) (hK : s 147 (45 + 4 * n + 0).toNat = 6) (hm : s 147 (45 + 4 * n + 1).toNat = m) (hT : TrM s T) : CI (d + 1) 247 [.inr (.inr 146), .inl 0, .inl x] (s) (fun v s1 => v = (x + n) ∧ TrM s1 (ta T [10]) ∧ FrM s s1) := by
  refine CI.mk rfl ?_
  show WP (d + 1) 247 0 [some (.inr (.inr 146)), some (.inl 0), some (.inl x)] [] (encA (s)) _
  refine w_ldI rfl rfl ?_
  refine w_sw (tg := 2) rfl (by rw [w32_id (by decide) (by decide)]; rfl) ?_
  refine w_ldR rfl rfl rfl ?_
  refine w_push rfl ?_
  refine w_callWN rfl rfl rfl rfl rfl rfl rfl (m_ran hT) (fun s4 p4 => ?_)
  obtain ⟨t4, f4⟩ := p4
  have W4 := (f4.2 22 (by decide)).trans hW
  have K4 := (congrFun (f4.1.at 147 rfl) _).trans hK
  have M4 := (congrFun (f4.1.at 147 rfl) _).trans hm
  refine w_ldI rfl rfl ?_
  refine w_ldR rfl rfl rfl ?_
  first | refine w_getI rfl rfl rfl rfl rfl ?_ | refine w_getR rfl rfl rfl rfl rfl ?_
  rw [W4]
  refine w_add rfl ?_
  refine w_retI rfl ?_
  refine ⟨rfl, ?_, f4⟩
  have h := t4
  (try simp only [ta_app, List.cons_append, List.nil_append] at h)
  exact h
theorem m_v247_6_3 {d : Nat} {s : mSt} {n m x : Int} {T : List Int} (hw : 0 ≤ n ∧ n < 6) (hW : s 146 22 = n) (hK : s 147 (45 + 4 * n + 0).toNat = 6) (hm : s 147 (45 + 4 * n + 1).toNat = m) (hT : TrM s T) : CI (d + 2) 247 [.inr (.inr 146), .inl 3, .inl x] (s) (fun v s1 => v = (x + n) ∧ TrM s1 (ta T [10]) ∧ FrM s s1) := by
  refine CI.mk rfl ?_
  show WP (d + 2) 247 0 [some (.inr (.inr 146)), some (.inl 3), some (.inl x)] [] (encA (s)) _
  refine w_ldI rfl rfl ?_
  refine w_sw (tg := 21) rfl (by rw [w32_id (by decide) (by decide)]; rfl) ?_
  refine w_ldR rfl rfl rfl ?_
  refine w_ldI rfl rfl ?_
  refine w_call rfl rfl rfl (r_above (by omega)) ?_
  first | rw [show abv 1 = 0 from rfl] | rw [show abv 2 = 0 from rfl] | rw [show abv 3 = 0 from rfl] | rw [show abv 4 = 1 from rfl] | rw [show abv 5 = 2 from rfl] | rw [show abv 6 = 3 from rfl]
  refine w_ldI rfl rfl ?_
  refine w_callWI rfl rfl rfl rfl rfl rfl rfl (m_v247_6_0 hw hW hK hm hT) (fun v25 s25 p25 => ?_)
  obtain ⟨rfl, t25, f25⟩ := p25
  have W25 := (f25.2 22 (by decide)).trans hW
  have K25 := (congrFun (f25.1.at 147 rfl) _).trans hK
  have M25 := (congrFun (f25.1.at 147 rfl) _).trans hm
  refine w_retI rfl ?_
  refine ⟨rfl, ?_, f25⟩
  have h := t25
  (try simp only [ta_app, List.cons_append, List.nil_append] at h)
  exact h
theorem m_v247_6_6 {d : Nat} {s : mSt} {n m x : Int} {T : List Int} (hw : 0 ≤ n ∧ n < 6) (hW : s 146 22 = n) (hK : s 147 (45 + 4 * n + 0).toNat = 6) (hm : s 147 (45 + 4 * n + 1).toNat = m) (hT : TrM s T) : CI (d + 3) 247 [.inr (.inr 146), .inl 6, .inl x] (s) (fun v s1 => v = (x + n) ∧ TrM s1 (ta T [10]) ∧ FrM s s1) := by
  refine CI.mk rfl ?_
  show WP (d + 3) 247 0 [some (.inr (.inr 146)), some (.inl 6), some (.inl x)] [] (encA (s)) _
  refine w_ldI rfl rfl ?_
  refine w_sw (tg := 21) rfl (by rw [w32_id (by decide) (by decide)]; rfl) ?_
  refine w_ldR rfl rfl rfl ?_
  refine w_ldI rfl rfl ?_
  refine w_call rfl rfl rfl (r_above (by omega)) ?_
  first | rw [show abv 1 = 0 from rfl] | rw [show abv 2 = 0 from rfl] | rw [show abv 3 = 0 from rfl] | rw [show abv 4 = 1 from rfl] | rw [show abv 5 = 2 from rfl] | rw [show abv 6 = 3 from rfl]
  refine w_ldI rfl rfl ?_
  refine w_callWI rfl rfl rfl rfl rfl rfl rfl (m_v247_6_3 hw hW hK hm hT) (fun v25 s25 p25 => ?_)
  obtain ⟨rfl, t25, f25⟩ := p25
  have W25 := (f25.2 22 (by decide)).trans hW
  have K25 := (congrFun (f25.1.at 147 rfl) _).trans hK
  have M25 := (congrFun (f25.1.at 147 rfl) _).trans hm
  refine w_retI rfl ?_
  refine ⟨rfl, ?_, f25⟩
  have h := t25
  (try simp only [ta_app, List.cons_append, List.nil_append] at h)
  exact h
theorem m_v248_0_0 {d : Nat} {s : mSt} {n m x : Int} {T : List Int} (hw : 0 ≤ n ∧ n < 6) (hW : s 146 22 = n) (hK : s 147 (45 + 4 * n + 0).toNat = 0) (hm : s 147 (45 + 4 * n + 1).toNat = m) (hT : TrM s T) : CI (d + 2) 248 [.inr (.inr 146), .inl 0, .inl x] (s) (fun v s1 => v = ((x + n) * 2) ∧ TrM s1 (ta T [11, 10]) ∧ FrM s s1) := by
  refine CI.mk rfl ?_
  show WP (d + 2) 248 0 [some (.inr (.inr 146)), some (.inl 0), some (.inl x), none] [] (encA (s)) _
  refine w_ldI rfl rfl ?_
  refine w_sw (tg := 2) rfl (by rw [w32_id (by decide) (by decide)]; rfl) ?_
  refine w_ldR rfl rfl rfl ?_
  refine w_push rfl ?_
  refine w_callWN rfl rfl rfl rfl rfl rfl rfl (m_ran hT) (fun s4 p4 => ?_)
  obtain ⟨t4, f4⟩ := p4
  have W4 := (f4.2 22 (by decide)).trans hW
  have K4 := (congrFun (f4.1.at 147 rfl) _).trans hK
  have M4 := (congrFun (f4.1.at 147 rfl) _).trans hm
  refine w_ldR rfl rfl rfl ?_
  refine w_ldR rfl rfl rfl ?_
  refine w_callV rfl rfl rfl rfl rfl rfl rfl (m_own hw W4 K4) ?_
  refine w_ldI rfl rfl ?_
  refine w_callWI rfl rfl rfl rfl rfl rfl rfl (m_v247_0_0 hw W4 K4 M4 t4) (fun v9 s9 p9 => ?_)
  obtain ⟨rfl, t9, f9⟩ := p9
  have W9 := (f9.2 22 (by decide)).trans W4
  have K9 := (congrFun (f9.1.at 147 rfl) _).trans K4
  have M9 := (congrFun (f9.1.at 147 rfl) _).trans M4
  refine w_push rfl ?_
  refine w_mul rfl ?_
  refine w_retI rfl ?_
  refine ⟨rfl, ?_, (f4).tr f9⟩
  have h := t9
  (try simp only [ta_app, List.cons_append, List.nil_append] at h)
  exact h
theorem m_v248_1_0 {d : Nat} {s : mSt} {n m x : Int} {T : List Int} (hw : 0 ≤ n ∧ n < 6) (hW : s 146 22 = n) (hK : s 147 (45 + 4 * n + 0).toNat = 1) (hm : s 147 (45 + 4 * n + 1).toNat = m) (hT : TrM s T) : CI (d + 3) 248 [.inr (.inr 146), .inl 0, .inl x] (s) (fun v s1 => v = ((x + n) * 2) ∧ TrM s1 (ta T [11, 10]) ∧ FrM s s1) := by
  refine CI.mk rfl ?_
  show WP (d + 3) 248 0 [some (.inr (.inr 146)), some (.inl 0), some (.inl x), none] [] (encA (s)) _
  refine w_ldI rfl rfl ?_
  refine w_sw (tg := 2) rfl (by rw [w32_id (by decide) (by decide)]; rfl) ?_
  refine w_ldR rfl rfl rfl ?_
  refine w_push rfl ?_
  refine w_callWN rfl rfl rfl rfl rfl rfl rfl (m_ran hT) (fun s4 p4 => ?_)
  obtain ⟨t4, f4⟩ := p4
  have W4 := (f4.2 22 (by decide)).trans hW
  have K4 := (congrFun (f4.1.at 147 rfl) _).trans hK
  have M4 := (congrFun (f4.1.at 147 rfl) _).trans hm
  refine w_ldR rfl rfl rfl ?_
  refine w_ldR rfl rfl rfl ?_
  refine w_callV rfl rfl rfl rfl rfl rfl rfl (m_own hw W4 K4) ?_
  refine w_ldI rfl rfl ?_
  refine w_callWI rfl rfl rfl rfl rfl rfl rfl (m_v247_1_1 hw W4 K4 M4 t4) (fun v9 s9 p9 => ?_)
  obtain ⟨rfl, t9, f9⟩ := p9
  have W9 := (f9.2 22 (by decide)).trans W4
  have K9 := (congrFun (f9.1.at 147 rfl) _).trans K4
  have M9 := (congrFun (f9.1.at 147 rfl) _).trans M4
  refine w_push rfl ?_
  refine w_mul rfl ?_
  refine w_retI rfl ?_
  refine ⟨rfl, ?_, (f4).tr f9⟩
  have h := t9
  (try simp only [ta_app, List.cons_append, List.nil_append] at h)
  exact h
theorem m_v249_1_0 {d : Nat} {s : mSt} {n m x : Int} {T : List Int} (hw : 0 ≤ n ∧ n < 6) (hW : s 146 22 = n) (hK : s 147 (45 + 4 * n + 0).toNat = 1) (hm : s 147 (45 + 4 * n + 1).toNat = m) (hT : TrM s T) : CI (d + 1) 249 [.inr (.inr 146), .inl 0, .inl x] (s) (fun v s1 => v = (x - m) ∧ TrM s1 (ta T [12]) ∧ FrM s s1) := by
  refine CI.mk rfl ?_
  show WP (d + 1) 249 0 [some (.inr (.inr 146)), some (.inl 0), some (.inl x)] [] (encA (s)) _
  refine w_ldI rfl rfl ?_
  refine w_sw (tg := 2) rfl (by rw [w32_id (by decide) (by decide)]; rfl) ?_
  refine w_ldR rfl rfl rfl ?_
  refine w_push rfl ?_
  refine w_callWN rfl rfl rfl rfl rfl rfl rfl (m_ran hT) (fun s4 p4 => ?_)
  obtain ⟨t4, f4⟩ := p4
  have W4 := (f4.2 22 (by decide)).trans hW
  have K4 := (congrFun (f4.1.at 147 rfl) _).trans hK
  have M4 := (congrFun (f4.1.at 147 rfl) _).trans hm
  refine w_ldI rfl rfl ?_
  refine w_ldR rfl rfl rfl ?_
  refine w_ldR rfl rfl rfl ?_
  first | refine w_getI rfl rfl rfl rfl rfl ?_ | refine w_getR rfl rfl rfl rfl rfl ?_
  rw [W4]
  refine w_push rfl ?_
  refine w_callV rfl rfl rfl rfl rfl rfl rfl (r_ofIt (by omega) (by omega)) ?_
  rw [M4]
  refine w_sub rfl ?_
  refine w_retI rfl ?_
  refine ⟨rfl, ?_, f4⟩
  have h := t4
  (try simp only [ta_app, List.cons_append, List.nil_append] at h)
  exact h
theorem m_v249_1_1 {d : Nat} {s : mSt} {n m x : Int} {T : List Int} (hw : 0 ≤ n ∧ n < 6) (hW : s 146 22 = n) (hK : s 147 (45 + 4 * n + 0).toNat = 1) (hm : s 147 (45 + 4 * n + 1).toNat = m) (hT : TrM s T) : CI (d + 2) 249 [.inr (.inr 146), .inl 1, .inl x] (s) (fun v s1 => v = (x - m) ∧ TrM s1 (ta T [12]) ∧ FrM s s1) := by
  refine CI.mk rfl ?_
  show WP (d + 2) 249 0 [some (.inr (.inr 146)), some (.inl 1), some (.inl x)] [] (encA (s)) _
  refine w_ldI rfl rfl ?_
  refine w_sw (tg := 35) rfl (by rw [w32_id (by decide) (by decide)]; rfl) ?_
  refine w_ldR rfl rfl rfl ?_
  refine w_ldI rfl rfl ?_
  refine w_call rfl rfl rfl (r_above (by omega)) ?_
  first | rw [show abv 1 = 0 from rfl] | rw [show abv 2 = 0 from rfl] | rw [show abv 3 = 0 from rfl] | rw [show abv 4 = 1 from rfl] | rw [show abv 5 = 2 from rfl] | rw [show abv 6 = 3 from rfl]
  refine w_ldI rfl rfl ?_
  refine w_callWI rfl rfl rfl rfl rfl rfl rfl (m_v249_1_0 hw hW hK hm hT) (fun v39 s39 p39 => ?_)
  obtain ⟨rfl, t39, f39⟩ := p39
  have W39 := (f39.2 22 (by decide)).trans hW
  have K39 := (congrFun (f39.1.at 147 rfl) _).trans hK
  have M39 := (congrFun (f39.1.at 147 rfl) _).trans hm
  refine w_retI rfl ?_
  refine ⟨rfl, ?_, f39⟩
  have h := t39
  (try simp only [ta_app, List.cons_append, List.nil_append] at h)
  exact h
theorem m_v248_1_1 {d : Nat} {s : mSt} {n m x : Int} {T : List Int} (hw : 0 ≤ n ∧ n < 6) (hW : s 146 22 = n) (hK : s 147 (45 + 4 * n + 0).toNat = 1) (hm : s 147 (45 + 4 * n + 1).toNat = m) (hT : TrM s T) : CI (d + 4) 248 [.inr (.inr 146), .inl 1, .inl x] (s) (fun v s1 => v = (((x + n) * 2) - (1 - m)) ∧ TrM s1 (ta T [20, 11, 10, 12]) ∧ FrM s s1) := by
  refine CI.mk rfl ?_
  show WP (d + 4) 248 0 [some (.inr (.inr 146)), some (.inl 1), some (.inl x), none] [] (encA (s)) _
  refine w_ldI rfl rfl ?_
  refine w_sw (tg := 13) rfl (by rw [w32_id (by decide) (by decide)]; rfl) ?_
  refine w_ldR rfl rfl rfl ?_
  refine w_push rfl ?_
  refine w_callWN rfl rfl rfl rfl rfl rfl rfl (m_ran hT) (fun s15 p15 => ?_)
  obtain ⟨t15, f15⟩ := p15
  have W15 := (f15.2 22 (by decide)).trans hW
  have K15 := (congrFun (f15.1.at 147 rfl) _).trans hK
  have M15 := (congrFun (f15.1.at 147 rfl) _).trans hm
  refine w_ldR rfl rfl rfl ?_
  refine w_push rfl ?_
  refine w_call rfl rfl rfl (r_above (by omega)) ?_
  first | rw [show abv 1 = 0 from rfl] | rw [show abv 2 = 0 from rfl] | rw [show abv 3 = 0 from rfl] | rw [show abv 4 = 1 from rfl] | rw [show abv 5 = 2 from rfl] | rw [show abv 6 = 3 from rfl]
  refine w_ldI rfl rfl ?_
  refine w_callWI rfl rfl rfl rfl rfl rfl rfl (m_v248_1_0 hw W15 K15 M15 t15) (fun v20 s20 p20 => ?_)
  obtain ⟨rfl, t20, f20⟩ := p20
  have W20 := (f20.2 22 (by decide)).trans W15
  have K20 := (congrFun (f20.1.at 147 rfl) _).trans K15
  have M20 := (congrFun (f20.1.at 147 rfl) _).trans M15
  refine w_StI_4_3 rfl rfl ?_
  refine w_ldI rfl rfl ?_
  refine w_ldR rfl rfl rfl ?_
  refine w_ldR rfl rfl rfl ?_
  refine w_callV rfl rfl rfl rfl rfl rfl rfl (m_own hw W20 K20) ?_
  refine w_push rfl ?_
  refine w_callWI rfl rfl rfl rfl rfl rfl rfl (m_v249_1_1 hw W20 K20 M20 t20) (fun v27 s27 p27 => ?_)
  obtain ⟨rfl, t27, f27⟩ := p27
  have W27 := (f27.2 22 (by decide)).trans W20
  have K27 := (congrFun (f27.1.at 147 rfl) _).trans K20
  have M27 := (congrFun (f27.1.at 147 rfl) _).trans M20
  refine w_sub rfl ?_
  refine w_retI rfl ?_
  refine ⟨rfl, ?_, ((f15).tr f20).tr f27⟩
  have h := t27
  (try simp only [ta_app, List.cons_append, List.nil_append] at h)
  exact h
theorem m_v248_2_0 {d : Nat} {s : mSt} {n m x : Int} {T : List Int} (hw : 0 ≤ n ∧ n < 6) (hW : s 146 22 = n) (hK : s 147 (45 + 4 * n + 0).toNat = 2) (hm : s 147 (45 + 4 * n + 1).toNat = m) (hT : TrM s T) : CI (d + 3) 248 [.inr (.inr 146), .inl 0, .inl x] (s) (fun v s1 => v = (((x + n) * 3) * 2) ∧ TrM s1 (ta T [11, 30, 10]) ∧ FrM s s1) := by
  refine CI.mk rfl ?_
  show WP (d + 3) 248 0 [some (.inr (.inr 146)), some (.inl 0), some (.inl x), none] [] (encA (s)) _
  refine w_ldI rfl rfl ?_
  refine w_sw (tg := 2) rfl (by rw [w32_id (by decide) (by decide)]; rfl) ?_
  refine w_ldR rfl rfl rfl ?_
  refine w_push rfl ?_
  refine w_callWN rfl rfl rfl rfl rfl rfl rfl (m_ran hT) (fun s4 p4 => ?_)
  obtain ⟨t4, f4⟩ := p4
  have W4 := (f4.2 22 (by decide)).trans hW
  have K4 := (congrFun (f4.1.at 147 rfl) _).trans hK
  have M4 := (congrFun (f4.1.at 147 rfl) _).trans hm
  refine w_ldR rfl rfl rfl ?_
  refine w_ldR rfl rfl rfl ?_
  refine w_callV rfl rfl rfl rfl rfl rfl rfl (m_own hw W4 K4) ?_
  refine w_ldI rfl rfl ?_
  refine w_callWI rfl rfl rfl rfl rfl rfl rfl (m_v247_2_2 hw W4 K4 M4 t4) (fun v9 s9 p9 => ?_)
  obtain ⟨rfl, t9, f9⟩ := p9
  have W9 := (f9.2 22 (by decide)).trans W4
  have K9 := (congrFun (f9.1.at 147 rfl) _).trans K4
  have M9 := (congrFun (f9.1.at 147 rfl) _).trans M4
  refine w_push rfl ?_
  refine w_mul rfl ?_
  refine w_retI rfl ?_
  refine ⟨rfl, ?_, (f4).tr f9⟩
  have h := t9
  (try simp only [ta_app, List.cons_append, List.nil_append] at h)
  exact h
theorem m_v248_2_2 {d : Nat} {s : mSt} {n m x : Int} {T : List Int} (hw : 0 ≤ n ∧ n < 6) (hW : s 146 22 = n) (hK : s 147 (45 + 4 * n + 0).toNat = 2) (hm : s 147 (45 + 4 * n + 1).toNat = m) (hT : TrM s T) : CI (d + 4) 248 [.inr (.inr 146), .inl 2, .inl x] (s) (fun v s1 => v = (((x + n) * 3) * 2) ∧ TrM s1 (ta T [11, 30, 10]) ∧ FrM s s1) := by
  refine CI.mk rfl ?_
  show WP (d + 4) 248 0 [some (.inr (.inr 146)), some (.inl 2), some (.inl x), none] [] (encA (s)) _
  refine w_ldI rfl rfl ?_
  refine w_sw (tg := 41) rfl (by rw [w32_id (by decide) (by decide)]; rfl) ?_
  refine w_ldR rfl rfl rfl ?_
  refine w_ldI rfl rfl ?_
  refine w_call rfl rfl rfl (r_above (by omega)) ?_
  first | rw [show abv 1 = 0 from rfl] | rw [show abv 2 = 0 from rfl] | rw [show abv 3 = 0 from rfl] | rw [show abv 4 = 1 from rfl] | rw [show abv 5 = 2 from rfl] | rw [show abv 6 = 3 from rfl]
  refine w_ldI rfl rfl ?_
  refine w_callWI rfl rfl rfl rfl rfl rfl rfl (m_v248_2_0 hw hW hK hm hT) (fun v45 s45 p45 => ?_)
  obtain ⟨rfl, t45, f45⟩ := p45
  have W45 := (f45.2 22 (by decide)).trans hW
  have K45 := (congrFun (f45.1.at 147 rfl) _).trans hK
  have M45 := (congrFun (f45.1.at 147 rfl) _).trans hm
  refine w_retI rfl ?_
  refine ⟨rfl, ?_, f45⟩
  have h := t45
  (try simp only [ta_app, List.cons_append, List.nil_append] at h)
  exact h
theorem m_v248_3_0 {d : Nat} {s : mSt} {n m x : Int} {T : List Int} (hw : 0 ≤ n ∧ n < 6) (hW : s 146 22 = n) (hK : s 147 (45 + 4 * n + 0).toNat = 3) (hm : s 147 (45 + 4 * n + 1).toNat = m) (hT : TrM s T) : CI (d + 3) 248 [.inr (.inr 146), .inl 0, .inl x] (s) (fun v s1 => v = ((x + n) * 2) ∧ TrM s1 (ta T [11, 10]) ∧ FrM s s1) := by
  refine CI.mk rfl ?_
  show WP (d + 3) 248 0 [some (.inr (.inr 146)), some (.inl 0), some (.inl x), none] [] (encA (s)) _
  refine w_ldI rfl rfl ?_
  refine w_sw (tg := 2) rfl (by rw [w32_id (by decide) (by decide)]; rfl) ?_
  refine w_ldR rfl rfl rfl ?_
  refine w_push rfl ?_
  refine w_callWN rfl rfl rfl rfl rfl rfl rfl (m_ran hT) (fun s4 p4 => ?_)
  obtain ⟨t4, f4⟩ := p4
  have W4 := (f4.2 22 (by decide)).trans hW
  have K4 := (congrFun (f4.1.at 147 rfl) _).trans hK
  have M4 := (congrFun (f4.1.at 147 rfl) _).trans hm
  refine w_ldR rfl rfl rfl ?_
  refine w_ldR rfl rfl rfl ?_
  refine w_callV rfl rfl rfl rfl rfl rfl rfl (m_own hw W4 K4) ?_
  refine w_ldI rfl rfl ?_
  refine w_callWI rfl rfl rfl rfl rfl rfl rfl (m_v247_3_3 hw W4 K4 M4 t4) (fun v9 s9 p9 => ?_)
  obtain ⟨rfl, t9, f9⟩ := p9
  have W9 := (f9.2 22 (by decide)).trans W4
  have K9 := (congrFun (f9.1.at 147 rfl) _).trans K4
  have M9 := (congrFun (f9.1.at 147 rfl) _).trans M4
  refine w_push rfl ?_
  refine w_mul rfl ?_
  refine w_retI rfl ?_
  refine ⟨rfl, ?_, (f4).tr f9⟩
  have h := t9
  (try simp only [ta_app, List.cons_append, List.nil_append] at h)
  exact h
theorem m_v248_3_3 {d : Nat} {s : mSt} {n m x : Int} {T : List Int} (hw : 0 ≤ n ∧ n < 6) (hW : s 146 22 = n) (hK : s 147 (45 + 4 * n + 0).toNat = 3) (hm : s 147 (45 + 4 * n + 1).toNat = m) (hT : TrM s T) : CI (d + 4) 248 [.inr (.inr 146), .inl 3, .inl x] (s) (fun v s1 => v = ((x + n) * 2) ∧ TrM s1 (ta T [11, 10]) ∧ FrM s s1) := by
  refine CI.mk rfl ?_
  show WP (d + 4) 248 0 [some (.inr (.inr 146)), some (.inl 3), some (.inl x), none] [] (encA (s)) _
  refine w_ldI rfl rfl ?_
  refine w_sw (tg := 41) rfl (by rw [w32_id (by decide) (by decide)]; rfl) ?_
  refine w_ldR rfl rfl rfl ?_
  refine w_ldI rfl rfl ?_
  refine w_call rfl rfl rfl (r_above (by omega)) ?_
  first | rw [show abv 1 = 0 from rfl] | rw [show abv 2 = 0 from rfl] | rw [show abv 3 = 0 from rfl] | rw [show abv 4 = 1 from rfl] | rw [show abv 5 = 2 from rfl] | rw [show abv 6 = 3 from rfl]
  refine w_ldI rfl rfl ?_
  refine w_callWI rfl rfl rfl rfl rfl rfl rfl (m_v248_3_0 hw hW hK hm hT) (fun v45 s45 p45 => ?_)
  obtain ⟨rfl, t45, f45⟩ := p45
  have W45 := (f45.2 22 (by decide)).trans hW
  have K45 := (congrFun (f45.1.at 147 rfl) _).trans hK
  have M45 := (congrFun (f45.1.at 147 rfl) _).trans hm
  refine w_retI rfl ?_
  refine ⟨rfl, ?_, f45⟩
  have h := t45
  (try simp only [ta_app, List.cons_append, List.nil_append] at h)
  exact h
theorem m_v248_4_0 {d : Nat} {s : mSt} {n m x : Int} {T : List Int} (hw : 0 ≤ n ∧ n < 6) (hW : s 146 22 = n) (hK : s 147 (45 + 4 * n + 0).toNat = 4) (hm : s 147 (45 + 4 * n + 1).toNat = m) (hT : TrM s T) : CI (d + 4) 248 [.inr (.inr 146), .inl 0, .inl x] (s) (fun v s1 => v = ((x + n) * 2) ∧ TrM s1 (ta T [11, 10]) ∧ FrM s s1) := by
  refine CI.mk rfl ?_
  show WP (d + 4) 248 0 [some (.inr (.inr 146)), some (.inl 0), some (.inl x), none] [] (encA (s)) _
  refine w_ldI rfl rfl ?_
  refine w_sw (tg := 2) rfl (by rw [w32_id (by decide) (by decide)]; rfl) ?_
  refine w_ldR rfl rfl rfl ?_
  refine w_push rfl ?_
  refine w_callWN rfl rfl rfl rfl rfl rfl rfl (m_ran hT) (fun s4 p4 => ?_)
  obtain ⟨t4, f4⟩ := p4
  have W4 := (f4.2 22 (by decide)).trans hW
  have K4 := (congrFun (f4.1.at 147 rfl) _).trans hK
  have M4 := (congrFun (f4.1.at 147 rfl) _).trans hm
  refine w_ldR rfl rfl rfl ?_
  refine w_ldR rfl rfl rfl ?_
  refine w_callV rfl rfl rfl rfl rfl rfl rfl (m_own hw W4 K4) ?_
  refine w_ldI rfl rfl ?_
  refine w_callWI rfl rfl rfl rfl rfl rfl rfl (m_v247_4_4 hw W4 K4 M4 t4) (fun v9 s9 p9 => ?_)
  obtain ⟨rfl, t9, f9⟩ := p9
  have W9 := (f9.2 22 (by decide)).trans W4
  have K9 := (congrFun (f9.1.at 147 rfl) _).trans K4
  have M9 := (congrFun (f9.1.at 147 rfl) _).trans M4
  refine w_push rfl ?_
  refine w_mul rfl ?_
  refine w_retI rfl ?_
  refine ⟨rfl, ?_, (f4).tr f9⟩
  have h := t9
  (try simp only [ta_app, List.cons_append, List.nil_append] at h)
  exact h
theorem m_v249_4_0 {d : Nat} {s : mSt} {n m x : Int} {T : List Int} (hw : 0 ≤ n ∧ n < 6) (hW : s 146 22 = n) (hK : s 147 (45 + 4 * n + 0).toNat = 4) (hm : s 147 (45 + 4 * n + 1).toNat = m) (hT : TrM s T) : CI (d + 1) 249 [.inr (.inr 146), .inl 0, .inl x] (s) (fun v s1 => v = (x - m) ∧ TrM s1 (ta T [12]) ∧ FrM s s1) := by
  refine CI.mk rfl ?_
  show WP (d + 1) 249 0 [some (.inr (.inr 146)), some (.inl 0), some (.inl x)] [] (encA (s)) _
  refine w_ldI rfl rfl ?_
  refine w_sw (tg := 2) rfl (by rw [w32_id (by decide) (by decide)]; rfl) ?_
  refine w_ldR rfl rfl rfl ?_
  refine w_push rfl ?_
  refine w_callWN rfl rfl rfl rfl rfl rfl rfl (m_ran hT) (fun s4 p4 => ?_)
  obtain ⟨t4, f4⟩ := p4
  have W4 := (f4.2 22 (by decide)).trans hW
  have K4 := (congrFun (f4.1.at 147 rfl) _).trans hK
  have M4 := (congrFun (f4.1.at 147 rfl) _).trans hm
  refine w_ldI rfl rfl ?_
  refine w_ldR rfl rfl rfl ?_
  refine w_ldR rfl rfl rfl ?_
  first | refine w_getI rfl rfl rfl rfl rfl ?_ | refine w_getR rfl rfl rfl rfl rfl ?_
  rw [W4]
  refine w_push rfl ?_
  refine w_callV rfl rfl rfl rfl rfl rfl rfl (r_ofIt (by omega) (by omega)) ?_
  rw [M4]
  refine w_sub rfl ?_
  refine w_retI rfl ?_
  refine ⟨rfl, ?_, f4⟩
  have h := t4
  (try simp only [ta_app, List.cons_append, List.nil_append] at h)
  exact h
theorem m_v249_4_1 {d : Nat} {s : mSt} {n m x : Int} {T : List Int} (hw : 0 ≤ n ∧ n < 6) (hW : s 146 22 = n) (hK : s 147 (45 + 4 * n + 0).toNat = 4) (hm : s 147 (45 + 4 * n + 1).toNat = m) (hT : TrM s T) : CI (d + 2) 249 [.inr (.inr 146), .inl 1, .inl x] (s) (fun v s1 => v = (x - m) ∧ TrM s1 (ta T [12]) ∧ FrM s s1) := by
  refine CI.mk rfl ?_
  show WP (d + 2) 249 0 [some (.inr (.inr 146)), some (.inl 1), some (.inl x)] [] (encA (s)) _
  refine w_ldI rfl rfl ?_
  refine w_sw (tg := 35) rfl (by rw [w32_id (by decide) (by decide)]; rfl) ?_
  refine w_ldR rfl rfl rfl ?_
  refine w_ldI rfl rfl ?_
  refine w_call rfl rfl rfl (r_above (by omega)) ?_
  first | rw [show abv 1 = 0 from rfl] | rw [show abv 2 = 0 from rfl] | rw [show abv 3 = 0 from rfl] | rw [show abv 4 = 1 from rfl] | rw [show abv 5 = 2 from rfl] | rw [show abv 6 = 3 from rfl]
  refine w_ldI rfl rfl ?_
  refine w_callWI rfl rfl rfl rfl rfl rfl rfl (m_v249_4_0 hw hW hK hm hT) (fun v39 s39 p39 => ?_)
  obtain ⟨rfl, t39, f39⟩ := p39
  have W39 := (f39.2 22 (by decide)).trans hW
  have K39 := (congrFun (f39.1.at 147 rfl) _).trans hK
  have M39 := (congrFun (f39.1.at 147 rfl) _).trans hm
  refine w_retI rfl ?_
  refine ⟨rfl, ?_, f39⟩
  have h := t39
  (try simp only [ta_app, List.cons_append, List.nil_append] at h)
  exact h
theorem m_v249_4_4 {d : Nat} {s : mSt} {n m x : Int} {T : List Int} (hw : 0 ≤ n ∧ n < 6) (hW : s 146 22 = n) (hK : s 147 (45 + 4 * n + 0).toNat = 4) (hm : s 147 (45 + 4 * n + 1).toNat = m) (hT : TrM s T) : CI (d + 3) 249 [.inr (.inr 146), .inl 4, .inl x] (s) (fun v s1 => v = (x - m) ∧ TrM s1 (ta T [12]) ∧ FrM s s1) := by
  refine CI.mk rfl ?_
  show WP (d + 3) 249 0 [some (.inr (.inr 146)), some (.inl 4), some (.inl x)] [] (encA (s)) _
  refine w_ldI rfl rfl ?_
  refine w_sw (tg := 35) rfl (by rw [w32_id (by decide) (by decide)]; rfl) ?_
  refine w_ldR rfl rfl rfl ?_
  refine w_ldI rfl rfl ?_
  refine w_call rfl rfl rfl (r_above (by omega)) ?_
  first | rw [show abv 1 = 0 from rfl] | rw [show abv 2 = 0 from rfl] | rw [show abv 3 = 0 from rfl] | rw [show abv 4 = 1 from rfl] | rw [show abv 5 = 2 from rfl] | rw [show abv 6 = 3 from rfl]
  refine w_ldI rfl rfl ?_
  refine w_callWI rfl rfl rfl rfl rfl rfl rfl (m_v249_4_1 hw hW hK hm hT) (fun v39 s39 p39 => ?_)
  obtain ⟨rfl, t39, f39⟩ := p39
  have W39 := (f39.2 22 (by decide)).trans hW
  have K39 := (congrFun (f39.1.at 147 rfl) _).trans hK
  have M39 := (congrFun (f39.1.at 147 rfl) _).trans hm
  refine w_retI rfl ?_
  refine ⟨rfl, ?_, f39⟩
  have h := t39
  (try simp only [ta_app, List.cons_append, List.nil_append] at h)
  exact h
theorem m_v248_4_1 {d : Nat} {s : mSt} {n m x : Int} {T : List Int} (hw : 0 ≤ n ∧ n < 6) (hW : s 146 22 = n) (hK : s 147 (45 + 4 * n + 0).toNat = 4) (hm : s 147 (45 + 4 * n + 1).toNat = m) (hT : TrM s T) : CI (d + 5) 248 [.inr (.inr 146), .inl 1, .inl x] (s) (fun v s1 => v = (((x + n) * 2) - (1 - m)) ∧ TrM s1 (ta T [20, 11, 10, 12]) ∧ FrM s s1) := by
  refine CI.mk rfl ?_
  show WP (d + 5) 248 0 [some (.inr (.inr 146)), some (.inl 1), some (.inl x), none] [] (encA (s)) _
  refine w_ldI rfl rfl ?_
  refine w_sw (tg := 13) rfl (by rw [w32_id (by decide) (by decide)]; rfl) ?_
  refine w_ldR rfl rfl rfl ?_
  refine w_push rfl ?_
  refine w_callWN rfl rfl rfl rfl rfl rfl rfl (m_ran hT) (fun s15 p15 => ?_)
  obtain ⟨t15, f15⟩ := p15
  have W15 := (f15.2 22 (by decide)).trans hW
  have K15 := (congrFun (f15.1.at 147 rfl) _).trans hK
  have M15 := (congrFun (f15.1.at 147 rfl) _).trans hm
  refine w_ldR rfl rfl rfl ?_
  refine w_push rfl ?_
  refine w_call rfl rfl rfl (r_above (by omega)) ?_
  first | rw [show abv 1 = 0 from rfl] | rw [show abv 2 = 0 from rfl] | rw [show abv 3 = 0 from rfl] | rw [show abv 4 = 1 from rfl] | rw [show abv 5 = 2 from rfl] | rw [show abv 6 = 3 from rfl]
  refine w_ldI rfl rfl ?_
  refine w_callWI rfl rfl rfl rfl rfl rfl rfl (m_v248_4_0 hw W15 K15 M15 t15) (fun v20 s20 p20 => ?_)
  obtain ⟨rfl, t20, f20⟩ := p20
  have W20 := (f20.2 22 (by decide)).trans W15
  have K20 := (congrFun (f20.1.at 147 rfl) _).trans K15
  have M20 := (congrFun (f20.1.at 147 rfl) _).trans M15
  refine w_StI_4_3 rfl rfl ?_
  refine w_ldI rfl rfl ?_
  refine w_ldR rfl rfl rfl ?_
  refine w_ldR rfl rfl rfl ?_
  refine w_callV rfl rfl rfl rfl rfl rfl rfl (m_own hw W20 K20) ?_
  refine w_push rfl ?_
  refine w_callWI rfl rfl rfl rfl rfl rfl rfl (m_v249_4_4 hw W20 K20 M20 t20) (fun v27 s27 p27 => ?_)
  obtain ⟨rfl, t27, f27⟩ := p27
  have W27 := (f27.2 22 (by decide)).trans W20
  have K27 := (congrFun (f27.1.at 147 rfl) _).trans K20
  have M27 := (congrFun (f27.1.at 147 rfl) _).trans M20
  refine w_sub rfl ?_
  refine w_retI rfl ?_
  refine ⟨rfl, ?_, ((f15).tr f20).tr f27⟩
  have h := t27
  (try simp only [ta_app, List.cons_append, List.nil_append] at h)
  exact h
theorem m_v248_4_4 {d : Nat} {s : mSt} {n m x : Int} {T : List Int} (hw : 0 ≤ n ∧ n < 6) (hW : s 146 22 = n) (hK : s 147 (45 + 4 * n + 0).toNat = 4) (hm : s 147 (45 + 4 * n + 1).toNat = m) (hT : TrM s T) : CI (d + 6) 248 [.inr (.inr 146), .inl 4, .inl x] (s) (fun v s1 => v = ((((x + 1) + n) * 2) - (1 - m)) ∧ TrM s1 (ta T [50, 20, 11, 10, 12]) ∧ FrM s s1) := by
  refine CI.mk rfl ?_
  show WP (d + 6) 248 0 [some (.inr (.inr 146)), some (.inl 4), some (.inl x), none] [] (encA (s)) _
  refine w_ldI rfl rfl ?_
  refine w_sw (tg := 30) rfl (by rw [w32_id (by decide) (by decide)]; rfl) ?_
  refine w_ldR rfl rfl rfl ?_
  refine w_push rfl ?_
  refine w_callWN rfl rfl rfl rfl rfl rfl rfl (m_ran hT) (fun s32 p32 => ?_)
  obtain ⟨t32, f32⟩ := p32
  have W32 := (f32.2 22 (by decide)).trans hW
  have K32 := (congrFun (f32.1.at 147 rfl) _).trans hK
  have M32 := (congrFun (f32.1.at 147 rfl) _).trans hm
  refine w_ldR rfl rfl rfl ?_
  refine w_push rfl ?_
  refine w_call rfl rfl rfl (r_above (by omega)) ?_
  first | rw [show abv 1 = 0 from rfl] | rw [show abv 2 = 0 from rfl] | rw [show abv 3 = 0 from rfl] | rw [show abv 4 = 1 from rfl] | rw [show abv 5 = 2 from rfl] | rw [show abv 6 = 3 from rfl]
  refine w_ldI rfl rfl ?_
  refine w_push rfl ?_
  refine w_add rfl ?_
  refine w_callWI rfl rfl rfl rfl rfl rfl rfl (m_v248_4_1 hw W32 K32 M32 t32) (fun v39 s39 p39 => ?_)
  obtain ⟨rfl, t39, f39⟩ := p39
  have W39 := (f39.2 22 (by decide)).trans W32
  have K39 := (congrFun (f39.1.at 147 rfl) _).trans K32
  have M39 := (congrFun (f39.1.at 147 rfl) _).trans M32
  refine w_retI rfl ?_
  refine ⟨rfl, ?_, (f32).tr f39⟩
  have h := t39
  (try simp only [ta_app, List.cons_append, List.nil_append] at h)
  exact h
theorem m_v248_5_0 {d : Nat} {s : mSt} {n m x : Int} {T : List Int} (hw : 0 ≤ n ∧ n < 6) (hW : s 146 22 = n) (hK : s 147 (45 + 4 * n + 0).toNat = 5) (hm : s 147 (45 + 4 * n + 1).toNat = m) (hT : TrM s T) : CI (d + 4) 248 [.inr (.inr 146), .inl 0, .inl x] (s) (fun v s1 => v = (((x + n) * 3) * 2) ∧ TrM s1 (ta T [11, 30, 10]) ∧ FrM s s1) := by
  refine CI.mk rfl ?_
  show WP (d + 4) 248 0 [some (.inr (.inr 146)), some (.inl 0), some (.inl x), none] [] (encA (s)) _
  refine w_ldI rfl rfl ?_
  refine w_sw (tg := 2) rfl (by rw [w32_id (by decide) (by decide)]; rfl) ?_
  refine w_ldR rfl rfl rfl ?_
  refine w_push rfl ?_
  refine w_callWN rfl rfl rfl rfl rfl rfl rfl (m_ran hT) (fun s4 p4 => ?_)
  obtain ⟨t4, f4⟩ := p4
  have W4 := (f4.2 22 (by decide)).trans hW
  have K4 := (congrFun (f4.1.at 147 rfl) _).trans hK
  have M4 := (congrFun (f4.1.at 147 rfl) _).trans hm
  refine w_ldR rfl rfl rfl ?_
  refine w_ldR rfl rfl rfl ?_
  refine w_callV rfl rfl rfl rfl rfl rfl rfl (m_own hw W4 K4) ?_
  refine w_ldI rfl rfl ?_
  refine w_callWI rfl rfl rfl rfl rfl rfl rfl (m_v247_5_5 hw W4 K4 M4 t4) (fun v9 s9 p9 => ?_)
  obtain ⟨rfl, t9, f9⟩ := p9
  have W9 := (f9.2 22 (by decide)).trans W4
  have K9 := (congrFun (f9.1.at 147 rfl) _).trans K4
  have M9 := (congrFun (f9.1.at 147 rfl) _).trans M4
  refine w_push rfl ?_
  refine w_mul rfl ?_
  refine w_retI rfl ?_
  refine ⟨rfl, ?_, (f4).tr f9⟩
  have h := t9
  (try simp only [ta_app, List.cons_append, List.nil_append] at h)
  exact h
theorem m_v248_5_2 {d : Nat} {s : mSt} {n m x : Int} {T : List Int} (hw : 0 ≤ n ∧ n < 6) (hW : s 146 22 = n) (hK : s 147 (45 + 4 * n + 0).toNat = 5) (hm : s 147 (45 + 4 * n + 1).toNat = m) (hT : TrM s T) : CI (d + 5) 248 [.inr (.inr 146), .inl 2, .inl x] (s) (fun v s1 => v = (((x + n) * 3) * 2) ∧ TrM s1 (ta T [11, 30, 10]) ∧ FrM s s1) := by
  refine CI.mk rfl ?_
  show WP (d + 5) 248 0 [some (.inr (.inr 146)), some (.inl 2), some (.inl x), none] [] (encA (s)) _
  refine w_ldI rfl rfl ?_
  refine w_sw (tg := 41) rfl (by rw [w32_id (by decide) (by decide)]; rfl) ?_
  refine w_ldR rfl rfl rfl ?_
  refine w_ldI rfl rfl ?_
  refine w_call rfl rfl rfl (r_above (by omega)) ?_
  first | rw [show abv 1 = 0 from rfl] | rw [show abv 2 = 0 from rfl] | rw [show abv 3 = 0 from rfl] | rw [show abv 4 = 1 from rfl] | rw [show abv 5 = 2 from rfl] | rw [show abv 6 = 3 from rfl]
  refine w_ldI rfl rfl ?_
  refine w_callWI rfl rfl rfl rfl rfl rfl rfl (m_v248_5_0 hw hW hK hm hT) (fun v45 s45 p45 => ?_)
  obtain ⟨rfl, t45, f45⟩ := p45
  have W45 := (f45.2 22 (by decide)).trans hW
  have K45 := (congrFun (f45.1.at 147 rfl) _).trans hK
  have M45 := (congrFun (f45.1.at 147 rfl) _).trans hm
  refine w_retI rfl ?_
  refine ⟨rfl, ?_, f45⟩
  have h := t45
  (try simp only [ta_app, List.cons_append, List.nil_append] at h)
  exact h
theorem m_v248_5_5 {d : Nat} {s : mSt} {n m x : Int} {T : List Int} (hw : 0 ≤ n ∧ n < 6) (hW : s 146 22 = n) (hK : s 147 (45 + 4 * n + 0).toNat = 5) (hm : s 147 (45 + 4 * n + 1).toNat = m) (hT : TrM s T) : CI (d + 6) 248 [.inr (.inr 146), .inl 5, .inl x] (s) (fun v s1 => v = (((x + n) * 3) * 2) ∧ TrM s1 (ta T [11, 30, 10]) ∧ FrM s s1) := by
  refine CI.mk rfl ?_
  show WP (d + 6) 248 0 [some (.inr (.inr 146)), some (.inl 5), some (.inl x), none] [] (encA (s)) _
  refine w_ldI rfl rfl ?_
  refine w_sw (tg := 41) rfl (by rw [w32_id (by decide) (by decide)]; rfl) ?_
  refine w_ldR rfl rfl rfl ?_
  refine w_ldI rfl rfl ?_
  refine w_call rfl rfl rfl (r_above (by omega)) ?_
  first | rw [show abv 1 = 0 from rfl] | rw [show abv 2 = 0 from rfl] | rw [show abv 3 = 0 from rfl] | rw [show abv 4 = 1 from rfl] | rw [show abv 5 = 2 from rfl] | rw [show abv 6 = 3 from rfl]
  refine w_ldI rfl rfl ?_
  refine w_callWI rfl rfl rfl rfl rfl rfl rfl (m_v248_5_2 hw hW hK hm hT) (fun v45 s45 p45 => ?_)
  obtain ⟨rfl, t45, f45⟩ := p45
  have W45 := (f45.2 22 (by decide)).trans hW
  have K45 := (congrFun (f45.1.at 147 rfl) _).trans hK
  have M45 := (congrFun (f45.1.at 147 rfl) _).trans hm
  refine w_retI rfl ?_
  refine ⟨rfl, ?_, f45⟩
  have h := t45
  (try simp only [ta_app, List.cons_append, List.nil_append] at h)
  exact h
theorem m_v248_6_0 {d : Nat} {s : mSt} {n m x : Int} {T : List Int} (hw : 0 ≤ n ∧ n < 6) (hW : s 146 22 = n) (hK : s 147 (45 + 4 * n + 0).toNat = 6) (hm : s 147 (45 + 4 * n + 1).toNat = m) (hT : TrM s T) : CI (d + 4) 248 [.inr (.inr 146), .inl 0, .inl x] (s) (fun v s1 => v = ((x + n) * 2) ∧ TrM s1 (ta T [11, 10]) ∧ FrM s s1) := by
  refine CI.mk rfl ?_
  show WP (d + 4) 248 0 [some (.inr (.inr 146)), some (.inl 0), some (.inl x), none] [] (encA (s)) _
  refine w_ldI rfl rfl ?_
  refine w_sw (tg := 2) rfl (by rw [w32_id (by decide) (by decide)]; rfl) ?_
  refine w_ldR rfl rfl rfl ?_
  refine w_push rfl ?_
  refine w_callWN rfl rfl rfl rfl rfl rfl rfl (m_ran hT) (fun s4 p4 => ?_)
  obtain ⟨t4, f4⟩ := p4
  have W4 := (f4.2 22 (by decide)).trans hW
  have K4 := (congrFun (f4.1.at 147 rfl) _).trans hK
  have M4 := (congrFun (f4.1.at 147 rfl) _).trans hm
  refine w_ldR rfl rfl rfl ?_
  refine w_ldR rfl rfl rfl ?_
  refine w_callV rfl rfl rfl rfl rfl rfl rfl (m_own hw W4 K4) ?_
  refine w_ldI rfl rfl ?_
  refine w_callWI rfl rfl rfl rfl rfl rfl rfl (m_v247_6_6 hw W4 K4 M4 t4) (fun v9 s9 p9 => ?_)
  obtain ⟨rfl, t9, f9⟩ := p9
  have W9 := (f9.2 22 (by decide)).trans W4
  have K9 := (congrFun (f9.1.at 147 rfl) _).trans K4
  have M9 := (congrFun (f9.1.at 147 rfl) _).trans M4
  refine w_push rfl ?_
  refine w_mul rfl ?_
  refine w_retI rfl ?_
  refine ⟨rfl, ?_, (f4).tr f9⟩
  have h := t9
  (try simp only [ta_app, List.cons_append, List.nil_append] at h)
  exact h
theorem m_v248_6_3 {d : Nat} {s : mSt} {n m x : Int} {T : List Int} (hw : 0 ≤ n ∧ n < 6) (hW : s 146 22 = n) (hK : s 147 (45 + 4 * n + 0).toNat = 6) (hm : s 147 (45 + 4 * n + 1).toNat = m) (hT : TrM s T) : CI (d + 5) 248 [.inr (.inr 146), .inl 3, .inl x] (s) (fun v s1 => v = ((x + n) * 2) ∧ TrM s1 (ta T [11, 10]) ∧ FrM s s1) := by
  refine CI.mk rfl ?_
  show WP (d + 5) 248 0 [some (.inr (.inr 146)), some (.inl 3), some (.inl x), none] [] (encA (s)) _
  refine w_ldI rfl rfl ?_
  refine w_sw (tg := 41) rfl (by rw [w32_id (by decide) (by decide)]; rfl) ?_
  refine w_ldR rfl rfl rfl ?_
  refine w_ldI rfl rfl ?_
  refine w_call rfl rfl rfl (r_above (by omega)) ?_
  first | rw [show abv 1 = 0 from rfl] | rw [show abv 2 = 0 from rfl] | rw [show abv 3 = 0 from rfl] | rw [show abv 4 = 1 from rfl] | rw [show abv 5 = 2 from rfl] | rw [show abv 6 = 3 from rfl]
  refine w_ldI rfl rfl ?_
  refine w_callWI rfl rfl rfl rfl rfl rfl rfl (m_v248_6_0 hw hW hK hm hT) (fun v45 s45 p45 => ?_)
  obtain ⟨rfl, t45, f45⟩ := p45
  have W45 := (f45.2 22 (by decide)).trans hW
  have K45 := (congrFun (f45.1.at 147 rfl) _).trans hK
  have M45 := (congrFun (f45.1.at 147 rfl) _).trans hm
  refine w_retI rfl ?_
  refine ⟨rfl, ?_, f45⟩
  have h := t45
  (try simp only [ta_app, List.cons_append, List.nil_append] at h)
  exact h
theorem m_v248_6_6 {d : Nat} {s : mSt} {n m x : Int} {T : List Int} (hw : 0 ≤ n ∧ n < 6) (hW : s 146 22 = n) (hK : s 147 (45 + 4 * n + 0).toNat = 6) (hm : s 147 (45 + 4 * n + 1).toNat = m) (hT : TrM s T) : CI (d + 6) 248 [.inr (.inr 146), .inl 6, .inl x] (s) (fun v s1 => v = ((x + n) * 2) ∧ TrM s1 (ta T [11, 10]) ∧ FrM s s1) := by
  refine CI.mk rfl ?_
  show WP (d + 6) 248 0 [some (.inr (.inr 146)), some (.inl 6), some (.inl x), none] [] (encA (s)) _
  refine w_ldI rfl rfl ?_
  refine w_sw (tg := 41) rfl (by rw [w32_id (by decide) (by decide)]; rfl) ?_
  refine w_ldR rfl rfl rfl ?_
  refine w_ldI rfl rfl ?_
  refine w_call rfl rfl rfl (r_above (by omega)) ?_
  first | rw [show abv 1 = 0 from rfl] | rw [show abv 2 = 0 from rfl] | rw [show abv 3 = 0 from rfl] | rw [show abv 4 = 1 from rfl] | rw [show abv 5 = 2 from rfl] | rw [show abv 6 = 3 from rfl]
  refine w_ldI rfl rfl ?_
  refine w_callWI rfl rfl rfl rfl rfl rfl rfl (m_v248_6_3 hw hW hK hm hT) (fun v45 s45 p45 => ?_)
  obtain ⟨rfl, t45, f45⟩ := p45
  have W45 := (f45.2 22 (by decide)).trans hW
  have K45 := (congrFun (f45.1.at 147 rfl) _).trans hK
  have M45 := (congrFun (f45.1.at 147 rfl) _).trans hm
  refine w_retI rfl ?_
  refine ⟨rfl, ?_, f45⟩
  have h := t45
  (try simp only [ta_app, List.cons_append, List.nil_append] at h)
  exact h
theorem m_v249_0_0 {d : Nat} {s : mSt} {n m x : Int} {T : List Int} (hw : 0 ≤ n ∧ n < 6) (hW : s 146 22 = n) (hK : s 147 (45 + 4 * n + 0).toNat = 0) (hm : s 147 (45 + 4 * n + 1).toNat = m) (hT : TrM s T) : CI (d + 1) 249 [.inr (.inr 146), .inl 0, .inl x] (s) (fun v s1 => v = (x - m) ∧ TrM s1 (ta T [12]) ∧ FrM s s1) := by
  refine CI.mk rfl ?_
  show WP (d + 1) 249 0 [some (.inr (.inr 146)), some (.inl 0), some (.inl x)] [] (encA (s)) _
  refine w_ldI rfl rfl ?_
  refine w_sw (tg := 2) rfl (by rw [w32_id (by decide) (by decide)]; rfl) ?_
  refine w_ldR rfl rfl rfl ?_
  refine w_push rfl ?_
  refine w_callWN rfl rfl rfl rfl rfl rfl rfl (m_ran hT) (fun s4 p4 => ?_)
  obtain ⟨t4, f4⟩ := p4
  have W4 := (f4.2 22 (by decide)).trans hW
  have K4 := (congrFun (f4.1.at 147 rfl) _).trans hK
  have M4 := (congrFun (f4.1.at 147 rfl) _).trans hm
  refine w_ldI rfl rfl ?_
  refine w_ldR rfl rfl rfl ?_
  refine w_ldR rfl rfl rfl ?_
  first | refine w_getI rfl rfl rfl rfl rfl ?_ | refine w_getR rfl rfl rfl rfl rfl ?_
  rw [W4]
  refine w_push rfl ?_
  refine w_callV rfl rfl rfl rfl rfl rfl rfl (r_ofIt (by omega) (by omega)) ?_
  rw [M4]
  refine w_sub rfl ?_
  refine w_retI rfl ?_
  refine ⟨rfl, ?_, f4⟩
  have h := t4
  (try simp only [ta_app, List.cons_append, List.nil_append] at h)
  exact h
theorem m_v249_2_0 {d : Nat} {s : mSt} {n m x : Int} {T : List Int} (hw : 0 ≤ n ∧ n < 6) (hW : s 146 22 = n) (hK : s 147 (45 + 4 * n + 0).toNat = 2) (hm : s 147 (45 + 4 * n + 1).toNat = m) (hT : TrM s T) : CI (d + 1) 249 [.inr (.inr 146), .inl 0, .inl x] (s) (fun v s1 => v = (x - m) ∧ TrM s1 (ta T [12]) ∧ FrM s s1) := by
  refine CI.mk rfl ?_
  show WP (d + 1) 249 0 [some (.inr (.inr 146)), some (.inl 0), some (.inl x)] [] (encA (s)) _
  refine w_ldI rfl rfl ?_
  refine w_sw (tg := 2) rfl (by rw [w32_id (by decide) (by decide)]; rfl) ?_
  refine w_ldR rfl rfl rfl ?_
  refine w_push rfl ?_
  refine w_callWN rfl rfl rfl rfl rfl rfl rfl (m_ran hT) (fun s4 p4 => ?_)
  obtain ⟨t4, f4⟩ := p4
  have W4 := (f4.2 22 (by decide)).trans hW
  have K4 := (congrFun (f4.1.at 147 rfl) _).trans hK
  have M4 := (congrFun (f4.1.at 147 rfl) _).trans hm
  refine w_ldI rfl rfl ?_
  refine w_ldR rfl rfl rfl ?_
  refine w_ldR rfl rfl rfl ?_
  first | refine w_getI rfl rfl rfl rfl rfl ?_ | refine w_getR rfl rfl rfl rfl rfl ?_
  rw [W4]
  refine w_push rfl ?_
  refine w_callV rfl rfl rfl rfl rfl rfl rfl (r_ofIt (by omega) (by omega)) ?_
  rw [M4]
  refine w_sub rfl ?_
  refine w_retI rfl ?_
  refine ⟨rfl, ?_, f4⟩
  have h := t4
  (try simp only [ta_app, List.cons_append, List.nil_append] at h)
  exact h
theorem m_v249_2_2 {d : Nat} {s : mSt} {n m x : Int} {T : List Int} (hw : 0 ≤ n ∧ n < 6) (hW : s 146 22 = n) (hK : s 147 (45 + 4 * n + 0).toNat = 2) (hm : s 147 (45 + 4 * n + 1).toNat = m) (hT : TrM s T) : CI (d + 2) 249 [.inr (.inr 146), .inl 2, .inl x] (s) (fun v s1 => v = (x - m) ∧ TrM s1 (ta T [12]) ∧ FrM s s1) := by
  refine CI.mk rfl ?_
  show WP (d + 2) 249 0 [some (.inr (.inr 146)), some (.inl 2), some (.inl x)] [] (encA (s)) _
  refine w_ldI rfl rfl ?_
  refine w_sw (tg := 35) rfl (by rw [w32_id (by decide) (by decide)]; rfl) ?_
  refine w_ldR rfl rfl rfl ?_
  refine w_ldI rfl rfl ?_
  refine w_call rfl rfl rfl (r_above (by omega)) ?_
  first | rw [show abv 1 = 0 from rfl] | rw [show abv 2 = 0 from rfl] | rw [show abv 3 = 0 from rfl] | rw [show abv 4 = 1 from rfl] | rw [show abv 5 = 2 from rfl] | rw [show abv 6 = 3 from rfl]
  refine w_ldI rfl rfl ?_
  refine w_callWI rfl rfl rfl rfl rfl rfl rfl (m_v249_2_0 hw hW hK hm hT) (fun v39 s39 p39 => ?_)
  obtain ⟨rfl, t39, f39⟩ := p39
  have W39 := (f39.2 22 (by decide)).trans hW
  have K39 := (congrFun (f39.1.at 147 rfl) _).trans hK
  have M39 := (congrFun (f39.1.at 147 rfl) _).trans hm
  refine w_retI rfl ?_
  refine ⟨rfl, ?_, f39⟩
  have h := t39
  (try simp only [ta_app, List.cons_append, List.nil_append] at h)
  exact h
theorem m_v249_3_0 {d : Nat} {s : mSt} {n m x : Int} {T : List Int} (hw : 0 ≤ n ∧ n < 6) (hW : s 146 22 = n) (hK : s 147 (45 + 4 * n + 0).toNat = 3) (hm : s 147 (45 + 4 * n + 1).toNat = m) (hT : TrM s T) : CI (d + 1) 249 [.inr (.inr 146), .inl 0, .inl x] (s) (fun v s1 => v = (x - m) ∧ TrM s1 (ta T [12]) ∧ FrM s s1) := by
  refine CI.mk rfl ?_
  show WP (d + 1) 249 0 [some (.inr (.inr 146)), some (.inl 0), some (.inl x)] [] (encA (s)) _
  refine w_ldI rfl rfl ?_
  refine w_sw (tg := 2) rfl (by rw [w32_id (by decide) (by decide)]; rfl) ?_
  refine w_ldR rfl rfl rfl ?_
  refine w_push rfl ?_
  refine w_callWN rfl rfl rfl rfl rfl rfl rfl (m_ran hT) (fun s4 p4 => ?_)
  obtain ⟨t4, f4⟩ := p4
  have W4 := (f4.2 22 (by decide)).trans hW
  have K4 := (congrFun (f4.1.at 147 rfl) _).trans hK
  have M4 := (congrFun (f4.1.at 147 rfl) _).trans hm
  refine w_ldI rfl rfl ?_
  refine w_ldR rfl rfl rfl ?_
  refine w_ldR rfl rfl rfl ?_
  first | refine w_getI rfl rfl rfl rfl rfl ?_ | refine w_getR rfl rfl rfl rfl rfl ?_
  rw [W4]
  refine w_push rfl ?_
  refine w_callV rfl rfl rfl rfl rfl rfl rfl (r_ofIt (by omega) (by omega)) ?_
  rw [M4]
  refine w_sub rfl ?_
  refine w_retI rfl ?_
  refine ⟨rfl, ?_, f4⟩
  have h := t4
  (try simp only [ta_app, List.cons_append, List.nil_append] at h)
  exact h
theorem m_v249_3_3 {d : Nat} {s : mSt} {n m x : Int} {T : List Int} (hw : 0 ≤ n ∧ n < 6) (hW : s 146 22 = n) (hK : s 147 (45 + 4 * n + 0).toNat = 3) (hm : s 147 (45 + 4 * n + 1).toNat = m) (hT : TrM s T) : CI (d + 2) 249 [.inr (.inr 146), .inl 3, .inl x] (s) (fun v s1 => v = (-(x - m)) ∧ TrM s1 (ta T [40, 12]) ∧ FrM s s1) := by
  refine CI.mk rfl ?_
  show WP (d + 2) 249 0 [some (.inr (.inr 146)), some (.inl 3), some (.inl x)] [] (encA (s)) _
  refine w_ldI rfl rfl ?_
  refine w_sw (tg := 13) rfl (by rw [w32_id (by decide) (by decide)]; rfl) ?_
  refine w_ldR rfl rfl rfl ?_
  refine w_push rfl ?_
  refine w_callWN rfl rfl rfl rfl rfl rfl rfl (m_ran hT) (fun s15 p15 => ?_)
  obtain ⟨t15, f15⟩ := p15
  have W15 := (f15.2 22 (by decide)).trans hW
  have K15 := (congrFun (f15.1.at 147 rfl) _).trans hK
  have M15 := (congrFun (f15.1.at 147 rfl) _).trans hm
  refine w_ldR rfl rfl rfl ?_
  refine w_push rfl ?_
  refine w_call rfl rfl rfl (r_above (by omega)) ?_
  first | rw [show abv 1 = 0 from rfl] | rw [show abv 2 = 0 from rfl] | rw [show abv 3 = 0 from rfl] | rw [show abv 4 = 1 from rfl] | rw [show abv 5 = 2 from rfl] | rw [show abv 6 = 3 from rfl]
  refine w_ldI rfl rfl ?_
  refine w_callWI rfl rfl rfl rfl rfl rfl rfl (m_v249_3_0 hw W15 K15 M15 t15) (fun v20 s20 p20 => ?_)
  obtain ⟨rfl, t20, f20⟩ := p20
  have W20 := (f20.2 22 (by decide)).trans W15
  have K20 := (congrFun (f20.1.at 147 rfl) _).trans K15
  have M20 := (congrFun (f20.1.at 147 rfl) _).trans M15
  refine w_neg rfl ?_
  refine w_retI rfl ?_
  refine ⟨rfl, ?_, (f15).tr f20⟩
  have h := t20
  (try simp only [ta_app, List.cons_append, List.nil_append] at h)
  exact h
theorem m_v249_5_0 {d : Nat} {s : mSt} {n m x : Int} {T : List Int} (hw : 0 ≤ n ∧ n < 6) (hW : s 146 22 = n) (hK : s 147 (45 + 4 * n + 0).toNat = 5) (hm : s 147 (45 + 4 * n + 1).toNat = m) (hT : TrM s T) : CI (d + 1) 249 [.inr (.inr 146), .inl 0, .inl x] (s) (fun v s1 => v = (x - m) ∧ TrM s1 (ta T [12]) ∧ FrM s s1) := by
  refine CI.mk rfl ?_
  show WP (d + 1) 249 0 [some (.inr (.inr 146)), some (.inl 0), some (.inl x)] [] (encA (s)) _
  refine w_ldI rfl rfl ?_
  refine w_sw (tg := 2) rfl (by rw [w32_id (by decide) (by decide)]; rfl) ?_
  refine w_ldR rfl rfl rfl ?_
  refine w_push rfl ?_
  refine w_callWN rfl rfl rfl rfl rfl rfl rfl (m_ran hT) (fun s4 p4 => ?_)
  obtain ⟨t4, f4⟩ := p4
  have W4 := (f4.2 22 (by decide)).trans hW
  have K4 := (congrFun (f4.1.at 147 rfl) _).trans hK
  have M4 := (congrFun (f4.1.at 147 rfl) _).trans hm
  refine w_ldI rfl rfl ?_
  refine w_ldR rfl rfl rfl ?_
  refine w_ldR rfl rfl rfl ?_
  first | refine w_getI rfl rfl rfl rfl rfl ?_ | refine w_getR rfl rfl rfl rfl rfl ?_
  rw [W4]
  refine w_push rfl ?_
  refine w_callV rfl rfl rfl rfl rfl rfl rfl (r_ofIt (by omega) (by omega)) ?_
  rw [M4]
  refine w_sub rfl ?_
  refine w_retI rfl ?_
  refine ⟨rfl, ?_, f4⟩
  have h := t4
  (try simp only [ta_app, List.cons_append, List.nil_append] at h)
  exact h
theorem m_v249_5_2 {d : Nat} {s : mSt} {n m x : Int} {T : List Int} (hw : 0 ≤ n ∧ n < 6) (hW : s 146 22 = n) (hK : s 147 (45 + 4 * n + 0).toNat = 5) (hm : s 147 (45 + 4 * n + 1).toNat = m) (hT : TrM s T) : CI (d + 2) 249 [.inr (.inr 146), .inl 2, .inl x] (s) (fun v s1 => v = (x - m) ∧ TrM s1 (ta T [12]) ∧ FrM s s1) := by
  refine CI.mk rfl ?_
  show WP (d + 2) 249 0 [some (.inr (.inr 146)), some (.inl 2), some (.inl x)] [] (encA (s)) _
  refine w_ldI rfl rfl ?_
  refine w_sw (tg := 35) rfl (by rw [w32_id (by decide) (by decide)]; rfl) ?_
  refine w_ldR rfl rfl rfl ?_
  refine w_ldI rfl rfl ?_
  refine w_call rfl rfl rfl (r_above (by omega)) ?_
  first | rw [show abv 1 = 0 from rfl] | rw [show abv 2 = 0 from rfl] | rw [show abv 3 = 0 from rfl] | rw [show abv 4 = 1 from rfl] | rw [show abv 5 = 2 from rfl] | rw [show abv 6 = 3 from rfl]
  refine w_ldI rfl rfl ?_
  refine w_callWI rfl rfl rfl rfl rfl rfl rfl (m_v249_5_0 hw hW hK hm hT) (fun v39 s39 p39 => ?_)
  obtain ⟨rfl, t39, f39⟩ := p39
  have W39 := (f39.2 22 (by decide)).trans hW
  have K39 := (congrFun (f39.1.at 147 rfl) _).trans hK
  have M39 := (congrFun (f39.1.at 147 rfl) _).trans hm
  refine w_retI rfl ?_
  refine ⟨rfl, ?_, f39⟩
  have h := t39
  (try simp only [ta_app, List.cons_append, List.nil_append] at h)
  exact h
theorem m_v249_5_5 {d : Nat} {s : mSt} {n m x : Int} {T : List Int} (hw : 0 ≤ n ∧ n < 6) (hW : s 146 22 = n) (hK : s 147 (45 + 4 * n + 0).toNat = 5) (hm : s 147 (45 + 4 * n + 1).toNat = m) (hT : TrM s T) : CI (d + 3) 249 [.inr (.inr 146), .inl 5, .inl x] (s) (fun v s1 => v = (x - m) ∧ TrM s1 (ta T [12]) ∧ FrM s s1) := by
  refine CI.mk rfl ?_
  show WP (d + 3) 249 0 [some (.inr (.inr 146)), some (.inl 5), some (.inl x)] [] (encA (s)) _
  refine w_ldI rfl rfl ?_
  refine w_sw (tg := 35) rfl (by rw [w32_id (by decide) (by decide)]; rfl) ?_
  refine w_ldR rfl rfl rfl ?_
  refine w_ldI rfl rfl ?_
  refine w_call rfl rfl rfl (r_above (by omega)) ?_
  first | rw [show abv 1 = 0 from rfl] | rw [show abv 2 = 0 from rfl] | rw [show abv 3 = 0 from rfl] | rw [show abv 4 = 1 from rfl] | rw [show abv 5 = 2 from rfl] | rw [show abv 6 = 3 from rfl]
  refine w_ldI rfl rfl ?_
  refine w_callWI rfl rfl rfl rfl rfl rfl rfl (m_v249_5_2 hw hW hK hm hT) (fun v39 s39 p39 => ?_)
  obtain ⟨rfl, t39, f39⟩ := p39
  have W39 := (f39.2 22 (by decide)).trans hW
  have K39 := (congrFun (f39.1.at 147 rfl) _).trans hK
  have M39 := (congrFun (f39.1.at 147 rfl) _).trans hm
  refine w_retI rfl ?_
  refine ⟨rfl, ?_, f39⟩
  have h := t39
  (try simp only [ta_app, List.cons_append, List.nil_append] at h)
  exact h
theorem m_v249_6_0 {d : Nat} {s : mSt} {n m x : Int} {T : List Int} (hw : 0 ≤ n ∧ n < 6) (hW : s 146 22 = n) (hK : s 147 (45 + 4 * n + 0).toNat = 6) (hm : s 147 (45 + 4 * n + 1).toNat = m) (hT : TrM s T) : CI (d + 1) 249 [.inr (.inr 146), .inl 0, .inl x] (s) (fun v s1 => v = (x - m) ∧ TrM s1 (ta T [12]) ∧ FrM s s1) := by
  refine CI.mk rfl ?_
  show WP (d + 1) 249 0 [some (.inr (.inr 146)), some (.inl 0), some (.inl x)] [] (encA (s)) _
  refine w_ldI rfl rfl ?_
  refine w_sw (tg := 2) rfl (by rw [w32_id (by decide) (by decide)]; rfl) ?_
  refine w_ldR rfl rfl rfl ?_
  refine w_push rfl ?_
  refine w_callWN rfl rfl rfl rfl rfl rfl rfl (m_ran hT) (fun s4 p4 => ?_)
  obtain ⟨t4, f4⟩ := p4
  have W4 := (f4.2 22 (by decide)).trans hW
  have K4 := (congrFun (f4.1.at 147 rfl) _).trans hK
  have M4 := (congrFun (f4.1.at 147 rfl) _).trans hm
  refine w_ldI rfl rfl ?_
  refine w_ldR rfl rfl rfl ?_
  refine w_ldR rfl rfl rfl ?_
  first | refine w_getI rfl rfl rfl rfl rfl ?_ | refine w_getR rfl rfl rfl rfl rfl ?_
  rw [W4]
  refine w_push rfl ?_
  refine w_callV rfl rfl rfl rfl rfl rfl rfl (r_ofIt (by omega) (by omega)) ?_
  rw [M4]
  refine w_sub rfl ?_
  refine w_retI rfl ?_
  refine ⟨rfl, ?_, f4⟩
  have h := t4
  (try simp only [ta_app, List.cons_append, List.nil_append] at h)
  exact h
theorem m_v249_6_3 {d : Nat} {s : mSt} {n m x : Int} {T : List Int} (hw : 0 ≤ n ∧ n < 6) (hW : s 146 22 = n) (hK : s 147 (45 + 4 * n + 0).toNat = 6) (hm : s 147 (45 + 4 * n + 1).toNat = m) (hT : TrM s T) : CI (d + 2) 249 [.inr (.inr 146), .inl 3, .inl x] (s) (fun v s1 => v = (-(x - m)) ∧ TrM s1 (ta T [40, 12]) ∧ FrM s s1) := by
  refine CI.mk rfl ?_
  show WP (d + 2) 249 0 [some (.inr (.inr 146)), some (.inl 3), some (.inl x)] [] (encA (s)) _
  refine w_ldI rfl rfl ?_
  refine w_sw (tg := 13) rfl (by rw [w32_id (by decide) (by decide)]; rfl) ?_
  refine w_ldR rfl rfl rfl ?_
  refine w_push rfl ?_
  refine w_callWN rfl rfl rfl rfl rfl rfl rfl (m_ran hT) (fun s15 p15 => ?_)
  obtain ⟨t15, f15⟩ := p15
  have W15 := (f15.2 22 (by decide)).trans hW
  have K15 := (congrFun (f15.1.at 147 rfl) _).trans hK
  have M15 := (congrFun (f15.1.at 147 rfl) _).trans hm
  refine w_ldR rfl rfl rfl ?_
  refine w_push rfl ?_
  refine w_call rfl rfl rfl (r_above (by omega)) ?_
  first | rw [show abv 1 = 0 from rfl] | rw [show abv 2 = 0 from rfl] | rw [show abv 3 = 0 from rfl] | rw [show abv 4 = 1 from rfl] | rw [show abv 5 = 2 from rfl] | rw [show abv 6 = 3 from rfl]
  refine w_ldI rfl rfl ?_
  refine w_callWI rfl rfl rfl rfl rfl rfl rfl (m_v249_6_0 hw W15 K15 M15 t15) (fun v20 s20 p20 => ?_)
  obtain ⟨rfl, t20, f20⟩ := p20
  have W20 := (f20.2 22 (by decide)).trans W15
  have K20 := (congrFun (f20.1.at 147 rfl) _).trans K15
  have M20 := (congrFun (f20.1.at 147 rfl) _).trans M15
  refine w_neg rfl ?_
  refine w_retI rfl ?_
  refine ⟨rfl, ?_, (f15).tr f20⟩
  have h := t20
  (try simp only [ta_app, List.cons_append, List.nil_append] at h)
  exact h
theorem m_v249_6_6 {d : Nat} {s : mSt} {n m x : Int} {T : List Int} (hw : 0 ≤ n ∧ n < 6) (hW : s 146 22 = n) (hK : s 147 (45 + 4 * n + 0).toNat = 6) (hm : s 147 (45 + 4 * n + 1).toNat = m) (hT : TrM s T) : CI (d + 3) 249 [.inr (.inr 146), .inl 6, .inl x] (s) (fun v s1 => v = (m_xor (-(x - m)) n) ∧ TrM s1 (ta T [70, 40, 12]) ∧ FrM s s1) := by
  refine CI.mk rfl ?_
  show WP (d + 3) 249 0 [some (.inr (.inr 146)), some (.inl 6), some (.inl x)] [] (encA (s)) _
  refine w_ldI rfl rfl ?_
  refine w_sw (tg := 23) rfl (by rw [w32_id (by decide) (by decide)]; rfl) ?_
  refine w_ldR rfl rfl rfl ?_
  refine w_push rfl ?_
  refine w_callWN rfl rfl rfl rfl rfl rfl rfl (m_ran hT) (fun s25 p25 => ?_)
  obtain ⟨t25, f25⟩ := p25
  have W25 := (f25.2 22 (by decide)).trans hW
  have K25 := (congrFun (f25.1.at 147 rfl) _).trans hK
  have M25 := (congrFun (f25.1.at 147 rfl) _).trans hm
  refine w_ldR rfl rfl rfl ?_
  refine w_push rfl ?_
  refine w_call rfl rfl rfl (r_above (by omega)) ?_
  first | rw [show abv 1 = 0 from rfl] | rw [show abv 2 = 0 from rfl] | rw [show abv 3 = 0 from rfl] | rw [show abv 4 = 1 from rfl] | rw [show abv 5 = 2 from rfl] | rw [show abv 6 = 3 from rfl]
  refine w_ldI rfl rfl ?_
  refine w_callWI rfl rfl rfl rfl rfl rfl rfl (m_v249_6_3 hw W25 K25 M25 t25) (fun v30 s30 p30 => ?_)
  obtain ⟨rfl, t30, f30⟩ := p30
  have W30 := (f30.2 22 (by decide)).trans W25
  have K30 := (congrFun (f30.1.at 147 rfl) _).trans K25
  have M30 := (congrFun (f30.1.at 147 rfl) _).trans M25
  refine w_ldR rfl rfl rfl ?_
  first | refine w_getI rfl rfl rfl rfl rfl ?_ | refine w_getR rfl rfl rfl rfl rfl ?_
  rw [W30]
  refine w_bin rfl ?_
  refine w_retI rfl ?_
  refine ⟨rfl, ?_, (f25).tr f30⟩
  have h := t30
  (try simp only [ta_app, List.cons_append, List.nil_append] at h)
  exact h
theorem m_v250_0_0 {d : Nat} {s : mSt} {n m x : Int} {T : List Int} (hw : 0 ≤ n ∧ n < 6) (hW : s 146 22 = n) (hK : s 147 (45 + 4 * n + 0).toNat = 0) (hm : s 147 (45 + 4 * n + 1).toNat = m) (hT : TrM s T) : CI (d + 3) 250 [.inr (.inr 146), .inl 0, .inl x] (s) (fun v s1 => v = (m_xor ((x + n) * 2) (x - m)) ∧ TrM s1 (ta T [13, 11, 10, 12]) ∧ FrM s s1) := by
  refine CI.mk rfl ?_
  show WP (d + 3) 250 0 [some (.inr (.inr 146)), some (.inl 0), some (.inl x), none] [] (encA (s)) _
  refine w_ldI rfl rfl ?_
  refine w_sw (tg := 2) rfl (by rw [w32_id (by decide) (by decide)]; rfl) ?_
  refine w_ldR rfl rfl rfl ?_
  refine w_push rfl ?_
  refine w_callWN rfl rfl rfl rfl rfl rfl rfl (m_ran hT) (fun s4 p4 => ?_)
  obtain ⟨t4, f4⟩ := p4
  have W4 := (f4.2 22 (by decide)).trans hW
  have K4 := (congrFun (f4.1.at 147 rfl) _).trans hK
  have M4 := (congrFun (f4.1.at 147 rfl) _).trans hm
  refine w_ldR rfl rfl rfl ?_
  refine w_ldR rfl rfl rfl ?_
  refine w_callV rfl rfl rfl rfl rfl rfl rfl (m_own hw W4 K4) ?_
  refine w_ldI rfl rfl ?_
  refine w_callWI rfl rfl rfl rfl rfl rfl rfl (m_v248_0_0 hw W4 K4 M4 t4) (fun v9 s9 p9 => ?_)
  obtain ⟨rfl, t9, f9⟩ := p9
  have W9 := (f9.2 22 (by decide)).trans W4
  have K9 := (congrFun (f9.1.at 147 rfl) _).trans K4
  have M9 := (congrFun (f9.1.at 147 rfl) _).trans M4
  refine w_StI_4_3 rfl rfl ?_
  refine w_ldI rfl rfl ?_
  refine w_ldR rfl rfl rfl ?_
  refine w_ldR rfl rfl rfl ?_
  refine w_callV rfl rfl rfl rfl rfl rfl rfl (m_own hw W9 K9) ?_
  refine w_ldI rfl rfl ?_
  refine w_callWI rfl rfl rfl rfl rfl rfl rfl (m_v249_0_0 hw W9 K9 M9 t9) (fun v16 s16 p16 => ?_)
  obtain ⟨rfl, t16, f16⟩ := p16
  have W16 := (f16.2 22 (by decide)).trans W9
  have K16 := (congrFun (f16.1.at 147 rfl) _).trans K9
  have M16 := (congrFun (f16.1.at 147 rfl) _).trans M9
  refine w_bin rfl ?_
  refine w_retI rfl ?_
  refine ⟨rfl, ?_, ((f4).tr f9).tr f16⟩
  have h := t16
  (try simp only [ta_app, List.cons_append, List.nil_append] at h)
  exact h
theorem m_v250_1_0 {d : Nat} {s : mSt} {n m x : Int} {T : List Int} (hw : 0 ≤ n ∧ n < 6) (hW : s 146 22 = n) (hK : s 147 (45 + 4 * n + 0).toNat = 1) (hm : s 147 (45 + 4 * n + 1).toNat = m) (hT : TrM s T) : CI (d + 5) 250 [.inr (.inr 146), .inl 0, .inl x] (s) (fun v s1 => v = (m_xor (((x + n) * 2) - (1 - m)) (x - m)) ∧ TrM s1 (ta T [13, 20, 11, 10, 12, 12]) ∧ FrM s s1) := by
  refine CI.mk rfl ?_
  show WP (d + 5) 250 0 [some (.inr (.inr 146)), some (.inl 0), some (.inl x), none] [] (encA (s)) _
  refine w_ldI rfl rfl ?_
  refine w_sw (tg := 2) rfl (by rw [w32_id (by decide) (by decide)]; rfl) ?_
  refine w_ldR rfl rfl rfl ?_
  refine w_push rfl ?_
  refine w_callWN rfl rfl rfl rfl rfl rfl rfl (m_ran hT) (fun s4 p4 => ?_)
  obtain ⟨t4, f4⟩ := p4
  have W4 := (f4.2 22 (by decide)).trans hW
  have K4 := (congrFun (f4.1.at 147 rfl) _).trans hK
  have M4 := (congrFun (f4.1.at 147 rfl) _).trans hm
  refine w_ldR rfl rfl rfl ?_
  refine w_ldR rfl rfl rfl ?_
  refine w_callV rfl rfl rfl rfl rfl rfl rfl (m_own hw W4 K4) ?_
  refine w_ldI rfl rfl ?_
  refine w_callWI rfl rfl rfl rfl rfl rfl rfl (m_v248_1_1 hw W4 K4 M4 t4) (fun v9 s9 p9 => ?_)
  obtain ⟨rfl, t9, f9⟩ := p9
  have W9 := (f9.2 22 (by decide)).trans W4
  have K9 := (congrFun (f9.1.at 147 rfl) _).trans K4
  have M9 := (congrFun (f9.1.at 147 rfl) _).trans M4
  refine w_StI_4_3 rfl rfl ?_
  refine w_ldI rfl rfl ?_
  refine w_ldR rfl rfl rfl ?_
  refine w_ldR rfl rfl rfl ?_
  refine w_callV rfl rfl rfl rfl rfl rfl rfl (m_own hw W9 K9) ?_
  refine w_ldI rfl rfl ?_
  refine w_callWI rfl rfl rfl rfl rfl rfl rfl (m_v249_1_1 hw W9 K9 M9 t9) (fun v16 s16 p16 => ?_)
  obtain ⟨rfl, t16, f16⟩ := p16
  have W16 := (f16.2 22 (by decide)).trans W9
  have K16 := (congrFun (f16.1.at 147 rfl) _).trans K9
  have M16 := (congrFun (f16.1.at 147 rfl) _).trans M9
  refine w_bin rfl ?_
  refine w_retI rfl ?_
  refine ⟨rfl, ?_, ((f4).tr f9).tr f16⟩
  have h := t16
  (try simp only [ta_app, List.cons_append, List.nil_append] at h)
  exact h
theorem m_v250_1_1 {d : Nat} {s : mSt} {n m x : Int} {T : List Int} (hw : 0 ≤ n ∧ n < 6) (hW : s 146 22 = n) (hK : s 147 (45 + 4 * n + 0).toNat = 1) (hm : s 147 (45 + 4 * n + 1).toNat = m) (hT : TrM s T) : CI (d + 6) 250 [.inr (.inr 146), .inl 1, .inl x] (s) (fun v s1 => v = (m_xor (((x + n) * 2) - (1 - m)) (x - m)) ∧ TrM s1 (ta T [13, 20, 11, 10, 12, 12]) ∧ FrM s s1) := by
  refine CI.mk rfl ?_
  show WP (d + 6) 250 0 [some (.inr (.inr 146)), some (.inl 1), some (.inl x), none] [] (encA (s)) _
  refine w_ldI rfl rfl ?_
  refine w_sw (tg := 53) rfl (by rw [w32_id (by decide) (by decide)]; rfl) ?_
  refine w_ldR rfl rfl rfl ?_
  refine w_ldI rfl rfl ?_
  refine w_call rfl rfl rfl (r_above (by omega)) ?_
  first | rw [show abv 1 = 0 from rfl] | rw [show abv 2 = 0 from rfl] | rw [show abv 3 = 0 from rfl] | rw [show abv 4 = 1 from rfl] | rw [show abv 5 = 2 from rfl] | rw [show abv 6 = 3 from rfl]
  refine w_ldI rfl rfl ?_
  refine w_callWI rfl rfl rfl rfl rfl rfl rfl (m_v250_1_0 hw hW hK hm hT) (fun v57 s57 p57 => ?_)
  obtain ⟨rfl, t57, f57⟩ := p57
  have W57 := (f57.2 22 (by decide)).trans hW
  have K57 := (congrFun (f57.1.at 147 rfl) _).trans hK
  have M57 := (congrFun (f57.1.at 147 rfl) _).trans hm
  refine w_retI rfl ?_
  refine ⟨rfl, ?_, f57⟩
  have h := t57
  (try simp only [ta_app, List.cons_append, List.nil_append] at h)
  exact h
theorem m_v250_2_0 {d : Nat} {s : mSt} {n m x : Int} {T : List Int} (hw : 0 ≤ n ∧ n < 6) (hW : s 146 22 = n) (hK : s 147 (45 + 4 * n + 0).toNat = 2) (hm : s 147 (45 + 4 * n + 1).toNat = m) (hT : TrM s T) : CI (d + 5) 250 [.inr (.inr 146), .inl 0, .inl x] (s) (fun v s1 => v = (m_xor (((x + n) * 3) * 2) (x - m)) ∧ TrM s1 (ta T [13, 11, 30, 10, 12]) ∧ FrM s s1) := by
  refine CI.mk rfl ?_
  show WP (d + 5) 250 0 [some (.inr (.inr 146)), some (.inl 0), some (.inl x), none] [] (encA (s)) _
  refine w_ldI rfl rfl ?_
  refine w_sw (tg := 2) rfl (by rw [w32_id (by decide) (by decide)]; rfl) ?_
  refine w_ldR rfl rfl rfl ?_
  refine w_push rfl ?_
  refine w_callWN rfl rfl rfl rfl rfl rfl rfl (m_ran hT) (fun s4 p4 => ?_)
  obtain ⟨t4, f4⟩ := p4
  have W4 := (f4.2 22 (by decide)).trans hW
  have K4 := (congrFun (f4.1.at 147 rfl) _).trans hK
  have M4 := (congrFun (f4.1.at 147 rfl) _).trans hm
  refine w_ldR rfl rfl rfl ?_
  refine w_ldR rfl rfl rfl ?_
  refine w_callV rfl rfl rfl rfl rfl rfl rfl (m_own hw W4 K4) ?_
  refine w_ldI rfl rfl ?_
  refine w_callWI rfl rfl rfl rfl rfl rfl rfl (m_v248_2_2 hw W4 K4 M4 t4) (fun v9 s9 p9 => ?_)
  obtain ⟨rfl, t9, f9⟩ := p9
  have W9 := (f9.2 22 (by decide)).trans W4
  have K9 := (congrFun (f9.1.at 147 rfl) _).trans K4
  have M9 := (congrFun (f9.1.at 147 rfl) _).trans M4
  refine w_StI_4_3 rfl rfl ?_
  refine w_ldI rfl rfl ?_
  refine w_ldR rfl rfl rfl ?_
  refine w_ldR rfl rfl rfl ?_
  refine w_callV rfl rfl rfl rfl rfl rfl rfl (m_own hw W9 K9) ?_
  refine w_ldI rfl rfl ?_
  refine w_callWI rfl rfl rfl rfl rfl rfl rfl (m_v249_2_2 hw W9 K9 M9 t9) (fun v16 s16 p16 => ?_)
  obtain ⟨rfl, t16, f16⟩ := p16
  have W16 := (f16.2 22 (by decide)).trans W9
  have K16 := (congrFun (f16.1.at 147 rfl) _).trans K9
  have M16 := (congrFun (f16.1.at 147 rfl) _).trans M9
  refine w_bin rfl ?_
  refine w_retI rfl ?_
  refine ⟨rfl, ?_, ((f4).tr f9).tr f16⟩
  have h := t16
  (try simp only [ta_app, List.cons_append, List.nil_append] at h)
  exact h
theorem m_v250_2_2 {d : Nat} {s : mSt} {n m x : Int} {T : List Int} (hw : 0 ≤ n ∧ n < 6) (hW : s 146 22 = n) (hK : s 147 (45 + 4 * n + 0).toNat = 2) (hm : s 147 (45 + 4 * n + 1).toNat = m) (hT : TrM s T) : CI (d + 6) 250 [.inr (.inr 146), .inl 2, .inl x] (s) (fun v s1 => v = (m_xor (((x + n) * 3) * 2) (x - m)) ∧ TrM s1 (ta T [13, 11, 30, 10, 12]) ∧ FrM s s1) := by
  refine CI.mk rfl ?_
  show WP (d + 6) 250 0 [some (.inr (.inr 146)), some (.inl 2), some (.inl x), none] [] (encA (s)) _
  refine w_ldI rfl rfl ?_
  refine w_sw (tg := 53) rfl (by rw [w32_id (by decide) (by decide)]; rfl) ?_
  refine w_ldR rfl rfl rfl ?_
  refine w_ldI rfl rfl ?_
  refine w_call rfl rfl rfl (r_above (by omega)) ?_
  first | rw [show abv 1 = 0 from rfl] | rw [show abv 2 = 0 from rfl] | rw [show abv 3 = 0 from rfl] | rw [show abv 4 = 1 from rfl] | rw [show abv 5 = 2 from rfl] | rw [show abv 6 = 3 from rfl]
  refine w_ldI rfl rfl ?_
  refine w_callWI rfl rfl rfl rfl rfl rfl rfl (m_v250_2_0 hw hW hK hm hT) (fun v57 s57 p57 => ?_)
  obtain ⟨rfl, t57, f57⟩ := p57
  have W57 := (f57.2 22 (by decide)).trans hW
  have K57 := (congrFun (f57.1.at 147 rfl) _).trans hK
  have M57 := (congrFun (f57.1.at 147 rfl) _).trans hm
  refine w_retI rfl ?_
  refine ⟨rfl, ?_, f57⟩
  have h := t57
  (try simp only [ta_app, List.cons_append, List.nil_append] at h)
  exact h
theorem m_v250_3_0 {d : Nat} {s : mSt} {n m x : Int} {T : List Int} (hw : 0 ≤ n ∧ n < 6) (hW : s 146 22 = n) (hK : s 147 (45 + 4 * n + 0).toNat = 3) (hm : s 147 (45 + 4 * n + 1).toNat = m) (hT : TrM s T) : CI (d + 5) 250 [.inr (.inr 146), .inl 0, .inl x] (s) (fun v s1 => v = (m_xor ((x + n) * 2) (-(x - m))) ∧ TrM s1 (ta T [13, 11, 10, 40, 12]) ∧ FrM s s1) := by
  refine CI.mk rfl ?_
  show WP (d + 5) 250 0 [some (.inr (.inr 146)), some (.inl 0), some (.inl x), none] [] (encA (s)) _
  refine w_ldI rfl rfl ?_
  refine w_sw (tg := 2) rfl (by rw [w32_id (by decide) (by decide)]; rfl) ?_
  refine w_ldR rfl rfl rfl ?_
  refine w_push rfl ?_
  refine w_callWN rfl rfl rfl rfl rfl rfl rfl (m_ran hT) (fun s4 p4 => ?_)
  obtain ⟨t4, f4⟩ := p4
  have W4 := (f4.2 22 (by decide)).trans hW
  have K4 := (congrFun (f4.1.at 147 rfl) _).trans hK
  have M4 := (congrFun (f4.1.at 147 rfl) _).trans hm
  refine w_ldR rfl rfl rfl ?_
  refine w_ldR rfl rfl rfl ?_
  refine w_callV rfl rfl rfl rfl rfl rfl rfl (m_own hw W4 K4) ?_
  refine w_ldI rfl rfl ?_
  refine w_callWI rfl rfl rfl rfl rfl rfl rfl (m_v248_3_3 hw W4 K4 M4 t4) (fun v9 s9 p9 => ?_)
  obtain ⟨rfl, t9, f9⟩ := p9
  have W9 := (f9.2 22 (by decide)).trans W4
  have K9 := (congrFun (f9.1.at 147 rfl) _).trans K4
  have M9 := (congrFun (f9.1.at 147 rfl) _).trans M4
  refine w_StI_4_3 rfl rfl ?_
  refine w_ldI rfl rfl ?_
  refine w_ldR rfl rfl rfl ?_
  refine w_ldR rfl rfl rfl ?_
  refine w_callV rfl rfl rfl rfl rfl rfl rfl (m_own hw W9 K9) ?_
  refine w_ldI rfl rfl ?_
  refine w_callWI rfl rfl rfl rfl rfl rfl rfl (m_v249_3_3 hw W9 K9 M9 t9) (fun v16 s16 p16 => ?_)
  obtain ⟨rfl, t16, f16⟩ := p16
  have W16 := (f16.2 22 (by decide)).trans W9
  have K16 := (congrFun (f16.1.at 147 rfl) _).trans K9
  have M16 := (congrFun (f16.1.at 147 rfl) _).trans M9
  refine w_bin rfl ?_
  refine w_retI rfl ?_
  refine ⟨rfl, ?_, ((f4).tr f9).tr f16⟩
  have h := t16
  (try simp only [ta_app, List.cons_append, List.nil_append] at h)
  exact h
theorem m_v250_3_3 {d : Nat} {s : mSt} {n m x : Int} {T : List Int} (hw : 0 ≤ n ∧ n < 6) (hW : s 146 22 = n) (hK : s 147 (45 + 4 * n + 0).toNat = 3) (hm : s 147 (45 + 4 * n + 1).toNat = m) (hT : TrM s T) : CI (d + 6) 250 [.inr (.inr 146), .inl 3, .inl x] (s) (fun v s1 => v = (m_xor ((x + n) * 2) (-(x - m))) ∧ TrM s1 (ta T [13, 11, 10, 40, 12]) ∧ FrM s s1) := by
  refine CI.mk rfl ?_
  show WP (d + 6) 250 0 [some (.inr (.inr 146)), some (.inl 3), some (.inl x), none] [] (encA (s)) _
  refine w_ldI rfl rfl ?_
  refine w_sw (tg := 53) rfl (by rw [w32_id (by decide) (by decide)]; rfl) ?_
  refine w_ldR rfl rfl rfl ?_
  refine w_ldI rfl rfl ?_
  refine w_call rfl rfl rfl (r_above (by omega)) ?_
  first | rw [show abv 1 = 0 from rfl] | rw [show abv 2 = 0 from rfl] | rw [show abv 3 = 0 from rfl] | rw [show abv 4 = 1 from rfl] | rw [show abv 5 = 2 from rfl] | rw [show abv 6 = 3 from rfl]
  refine w_ldI rfl rfl ?_
  refine w_callWI rfl rfl rfl rfl rfl rfl rfl (m_v250_3_0 hw hW hK hm hT) (fun v57 s57 p57 => ?_)
  obtain ⟨rfl, t57, f57⟩ := p57
  have W57 := (f57.2 22 (by decide)).trans hW
  have K57 := (congrFun (f57.1.at 147 rfl) _).trans hK
  have M57 := (congrFun (f57.1.at 147 rfl) _).trans hm
  refine w_retI rfl ?_
  refine ⟨rfl, ?_, f57⟩
  have h := t57
  (try simp only [ta_app, List.cons_append, List.nil_append] at h)
  exact h
theorem m_v250_4_0 {d : Nat} {s : mSt} {n m x : Int} {T : List Int} (hw : 0 ≤ n ∧ n < 6) (hW : s 146 22 = n) (hK : s 147 (45 + 4 * n + 0).toNat = 4) (hm : s 147 (45 + 4 * n + 1).toNat = m) (hT : TrM s T) : CI (d + 7) 250 [.inr (.inr 146), .inl 0, .inl x] (s) (fun v s1 => v = (m_xor ((((x + 1) + n) * 2) - (1 - m)) (x - m)) ∧ TrM s1 (ta T [13, 50, 20, 11, 10, 12, 12]) ∧ FrM s s1) := by
  refine CI.mk rfl ?_
  show WP (d + 7) 250 0 [some (.inr (.inr 146)), some (.inl 0), some (.inl x), none] [] (encA (s)) _
  refine w_ldI rfl rfl ?_
  refine w_sw (tg := 2) rfl (by rw [w32_id (by decide) (by decide)]; rfl) ?_
  refine w_ldR rfl rfl rfl ?_
  refine w_push rfl ?_
  refine w_callWN rfl rfl rfl rfl rfl rfl rfl (m_ran hT) (fun s4 p4 => ?_)
  obtain ⟨t4, f4⟩ := p4
  have W4 := (f4.2 22 (by decide)).trans hW
  have K4 := (congrFun (f4.1.at 147 rfl) _).trans hK
  have M4 := (congrFun (f4.1.at 147 rfl) _).trans hm
  refine w_ldR rfl rfl rfl ?_
  refine w_ldR rfl rfl rfl ?_
  refine w_callV rfl rfl rfl rfl rfl rfl rfl (m_own hw W4 K4) ?_
  refine w_ldI rfl rfl ?_
  refine w_callWI rfl rfl rfl rfl rfl rfl rfl (m_v248_4_4 hw W4 K4 M4 t4) (fun v9 s9 p9 => ?_)
  obtain ⟨rfl, t9, f9⟩ := p9
  have W9 := (f9.2 22 (by decide)).trans W4
  have K9 := (congrFun (f9.1.at 147 rfl) _).trans K4
  have M9 := (congrFun (f9.1.at 147 rfl) _).trans M4
  refine w_StI_4_3 rfl rfl ?_
  refine w_ldI rfl rfl ?_
  refine w_ldR rfl rfl rfl ?_
  refine w_ldR rfl rfl rfl ?_
  refine w_callV rfl rfl rfl rfl rfl rfl rfl (m_own hw W9 K9) ?_
  refine w_ldI rfl rfl ?_
  refine w_callWI rfl rfl rfl rfl rfl rfl rfl (m_v249_4_4 hw W9 K9 M9 t9) (fun v16 s16 p16 => ?_)
  obtain ⟨rfl, t16, f16⟩ := p16
  have W16 := (f16.2 22 (by decide)).trans W9
  have K16 := (congrFun (f16.1.at 147 rfl) _).trans K9
  have M16 := (congrFun (f16.1.at 147 rfl) _).trans M9
  refine w_bin rfl ?_
  refine w_retI rfl ?_
  refine ⟨rfl, ?_, ((f4).tr f9).tr f16⟩
  have h := t16
  (try simp only [ta_app, List.cons_append, List.nil_append] at h)
  exact h
theorem m_v250_4_1 {d : Nat} {s : mSt} {n m x : Int} {T : List Int} (hw : 0 ≤ n ∧ n < 6) (hW : s 146 22 = n) (hK : s 147 (45 + 4 * n + 0).toNat = 4) (hm : s 147 (45 + 4 * n + 1).toNat = m) (hT : TrM s T) : CI (d + 8) 250 [.inr (.inr 146), .inl 1, .inl x] (s) (fun v s1 => v = (m_xor ((((x + 1) + n) * 2) - (1 - m)) (x - m)) ∧ TrM s1 (ta T [13, 50, 20, 11, 10, 12, 12]) ∧ FrM s s1) := by
  refine CI.mk rfl ?_
  show WP (d + 8) 250 0 [some (.inr (.inr 146)), some (.inl 1), some (.inl x), none] [] (encA (s)) _
  refine w_ldI rfl rfl ?_
  refine w_sw (tg := 53) rfl (by rw [w32_id (by decide) (by decide)]; rfl) ?_
  refine w_ldR rfl rfl rfl ?_
  refine w_ldI rfl rfl ?_
  refine w_call rfl rfl rfl (r_above (by omega)) ?_
  first | rw [show abv 1 = 0 from rfl] | rw [show abv 2 = 0 from rfl] | rw [show abv 3 = 0 from rfl] | rw [show abv 4 = 1 from rfl] | rw [show abv 5 = 2 from rfl] | rw [show abv 6 = 3 from rfl]
  refine w_ldI rfl rfl ?_
  refine w_callWI rfl rfl rfl rfl rfl rfl rfl (m_v250_4_0 hw hW hK hm hT) (fun v57 s57 p57 => ?_)
  obtain ⟨rfl, t57, f57⟩ := p57
  have W57 := (f57.2 22 (by decide)).trans hW
  have K57 := (congrFun (f57.1.at 147 rfl) _).trans hK
  have M57 := (congrFun (f57.1.at 147 rfl) _).trans hm
  refine w_retI rfl ?_
  refine ⟨rfl, ?_, f57⟩
  have h := t57
  (try simp only [ta_app, List.cons_append, List.nil_append] at h)
  exact h
theorem m_v250_4_4 {d : Nat} {s : mSt} {n m x : Int} {T : List Int} (hw : 0 ≤ n ∧ n < 6) (hW : s 146 22 = n) (hK : s 147 (45 + 4 * n + 0).toNat = 4) (hm : s 147 (45 + 4 * n + 1).toNat = m) (hT : TrM s T) : CI (d + 9) 250 [.inr (.inr 146), .inl 4, .inl x] (s) (fun v s1 => v = (m_xor ((((x + 1) + n) * 2) - (1 - m)) (x - m)) ∧ TrM s1 (ta T [13, 50, 20, 11, 10, 12, 12]) ∧ FrM s s1) := by
  refine CI.mk rfl ?_
  show WP (d + 9) 250 0 [some (.inr (.inr 146)), some (.inl 4), some (.inl x), none] [] (encA (s)) _
  refine w_ldI rfl rfl ?_
  refine w_sw (tg := 53) rfl (by rw [w32_id (by decide) (by decide)]; rfl) ?_
  refine w_ldR rfl rfl rfl ?_
  refine w_ldI rfl rfl ?_
  refine w_call rfl rfl rfl (r_above (by omega)) ?_
  first | rw [show abv 1 = 0 from rfl] | rw [show abv 2 = 0 from rfl] | rw [show abv 3 = 0 from rfl] | rw [show abv 4 = 1 from rfl] | rw [show abv 5 = 2 from rfl] | rw [show abv 6 = 3 from rfl]
  refine w_ldI rfl rfl ?_
  refine w_callWI rfl rfl rfl rfl rfl rfl rfl (m_v250_4_1 hw hW hK hm hT) (fun v57 s57 p57 => ?_)
  obtain ⟨rfl, t57, f57⟩ := p57
  have W57 := (f57.2 22 (by decide)).trans hW
  have K57 := (congrFun (f57.1.at 147 rfl) _).trans hK
  have M57 := (congrFun (f57.1.at 147 rfl) _).trans hm
  refine w_retI rfl ?_
  refine ⟨rfl, ?_, f57⟩
  have h := t57
  (try simp only [ta_app, List.cons_append, List.nil_append] at h)
  exact h
theorem m_v250_5_0 {d : Nat} {s : mSt} {n m x : Int} {T : List Int} (hw : 0 ≤ n ∧ n < 6) (hW : s 146 22 = n) (hK : s 147 (45 + 4 * n + 0).toNat = 5) (hm : s 147 (45 + 4 * n + 1).toNat = m) (hT : TrM s T) : CI (d + 7) 250 [.inr (.inr 146), .inl 0, .inl x] (s) (fun v s1 => v = (m_xor (((x + n) * 3) * 2) (x - m)) ∧ TrM s1 (ta T [13, 11, 30, 10, 12]) ∧ FrM s s1) := by
  refine CI.mk rfl ?_
  show WP (d + 7) 250 0 [some (.inr (.inr 146)), some (.inl 0), some (.inl x), none] [] (encA (s)) _
  refine w_ldI rfl rfl ?_
  refine w_sw (tg := 2) rfl (by rw [w32_id (by decide) (by decide)]; rfl) ?_
  refine w_ldR rfl rfl rfl ?_
  refine w_push rfl ?_
  refine w_callWN rfl rfl rfl rfl rfl rfl rfl (m_ran hT) (fun s4 p4 => ?_)
  obtain ⟨t4, f4⟩ := p4
  have W4 := (f4.2 22 (by decide)).trans hW
  have K4 := (congrFun (f4.1.at 147 rfl) _).trans hK
  have M4 := (congrFun (f4.1.at 147 rfl) _).trans hm
  refine w_ldR rfl rfl rfl ?_
  refine w_ldR rfl rfl rfl ?_
  refine w_callV rfl rfl rfl rfl rfl rfl rfl (m_own hw W4 K4) ?_
  refine w_ldI rfl rfl ?_
  refine w_callWI rfl rfl rfl rfl rfl rfl rfl (m_v248_5_5 hw W4 K4 M4 t4) (fun v9 s9 p9 => ?_)
  obtain ⟨rfl, t9, f9⟩ := p9
  have W9 := (f9.2 22 (by decide)).trans W4
  have K9 := (congrFun (f9.1.at 147 rfl) _).trans K4
  have M9 := (congrFun (f9.1.at 147 rfl) _).trans M4
  refine w_StI_4_3 rfl rfl ?_
  refine w_ldI rfl rfl ?_
  refine w_ldR rfl rfl rfl ?_
  refine w_ldR rfl rfl rfl ?_
  refine w_callV rfl rfl rfl rfl rfl rfl rfl (m_own hw W9 K9) ?_
  refine w_ldI rfl rfl ?_
  refine w_callWI rfl rfl rfl rfl rfl rfl rfl (m_v249_5_5 hw W9 K9 M9 t9) (fun v16 s16 p16 => ?_)
  obtain ⟨rfl, t16, f16⟩ := p16
  have W16 := (f16.2 22 (by decide)).trans W9
  have K16 := (congrFun (f16.1.at 147 rfl) _).trans K9
  have M16 := (congrFun (f16.1.at 147 rfl) _).trans M9
  refine w_bin rfl ?_
  refine w_retI rfl ?_
  refine ⟨rfl, ?_, ((f4).tr f9).tr f16⟩
  have h := t16
  (try simp only [ta_app, List.cons_append, List.nil_append] at h)
  exact h
theorem m_v250_5_2 {d : Nat} {s : mSt} {n m x : Int} {T : List Int} (hw : 0 ≤ n ∧ n < 6) (hW : s 146 22 = n) (hK : s 147 (45 + 4 * n + 0).toNat = 5) (hm : s 147 (45 + 4 * n + 1).toNat = m) (hT : TrM s T) : CI (d + 8) 250 [.inr (.inr 146), .inl 2, .inl x] (s) (fun v s1 => v = (m_xor (((x + n) * 3) * 2) (x - m)) ∧ TrM s1 (ta T [13, 11, 30, 10, 12]) ∧ FrM s s1) := by
  refine CI.mk rfl ?_
  show WP (d + 8) 250 0 [some (.inr (.inr 146)), some (.inl 2), some (.inl x), none] [] (encA (s)) _
  refine w_ldI rfl rfl ?_
  refine w_sw (tg := 53) rfl (by rw [w32_id (by decide) (by decide)]; rfl) ?_
  refine w_ldR rfl rfl rfl ?_
  refine w_ldI rfl rfl ?_
  refine w_call rfl rfl rfl (r_above (by omega)) ?_
  first | rw [show abv 1 = 0 from rfl] | rw [show abv 2 = 0 from rfl] | rw [show abv 3 = 0 from rfl] | rw [show abv 4 = 1 from rfl] | rw [show abv 5 = 2 from rfl] | rw [show abv 6 = 3 from rfl]
  refine w_ldI rfl rfl ?_
  refine w_callWI rfl rfl rfl rfl rfl rfl rfl (m_v250_5_0 hw hW hK hm hT) (fun v57 s57 p57 => ?_)
  obtain ⟨rfl, t57, f57⟩ := p57
  have W57 := (f57.2 22 (by decide)).trans hW
  have K57 := (congrFun (f57.1.at 147 rfl) _).trans hK
  have M57 := (congrFun (f57.1.at 147 rfl) _).trans hm
  refine w_retI rfl ?_
  refine ⟨rfl, ?_, f57⟩
  have h := t57
  (try simp only [ta_app, List.cons_append, List.nil_append] at h)
  exact h
theorem m_v250_5_5 {d : Nat} {s : mSt} {n m x : Int} {T : List Int} (hw : 0 ≤ n ∧ n < 6) (hW : s 146 22 = n) (hK : s 147 (45 + 4 * n + 0).toNat = 5) (hm : s 147 (45 + 4 * n + 1).toNat = m) (hT : TrM s T) : CI (d + 9) 250 [.inr (.inr 146), .inl 5, .inl x] (s) (fun v s1 => v = ((m_xor (((x + n) * 3) * 2) (x - m)) - ((2 + n) * 3)) ∧ TrM s1 (ta T [60, 13, 11, 30, 10, 12, 30, 10]) ∧ FrM s s1) := by
  refine CI.mk rfl ?_
  show WP (d + 9) 250 0 [some (.inr (.inr 146)), some (.inl 5), some (.inl x), none] [] (encA (s)) _
  refine w_ldI rfl rfl ?_
  refine w_sw (tg := 19) rfl (by rw [w32_id (by decide) (by decide)]; rfl) ?_
  refine w_ldR rfl rfl rfl ?_
  refine w_push rfl ?_
  refine w_callWN rfl rfl rfl rfl rfl rfl rfl (m_ran hT) (fun s21 p21 => ?_)
  obtain ⟨t21, f21⟩ := p21
  have W21 := (f21.2 22 (by decide)).trans hW
  have K21 := (congrFun (f21.1.at 147 rfl) _).trans hK
  have M21 := (congrFun (f21.1.at 147 rfl) _).trans hm
  refine w_ldR rfl rfl rfl ?_
  refine w_push rfl ?_
  refine w_call rfl rfl rfl (r_above (by omega)) ?_
  first | rw [show abv 1 = 0 from rfl] | rw [show abv 2 = 0 from rfl] | rw [show abv 3 = 0 from rfl] | rw [show abv 4 = 1 from rfl] | rw [show abv 5 = 2 from rfl] | rw [show abv 6 = 3 from rfl]
  refine w_ldI rfl rfl ?_
  refine w_callWI rfl rfl rfl rfl rfl rfl rfl (m_v250_5_2 hw W21 K21 M21 t21) (fun v26 s26 p26 => ?_)
  obtain ⟨rfl, t26, f26⟩ := p26
  have W26 := (f26.2 22 (by decide)).trans W21
  have K26 := (congrFun (f26.1.at 147 rfl) _).trans K21
  have M26 := (congrFun (f26.1.at 147 rfl) _).trans M21
  refine w_StI_4_3 rfl rfl ?_
  refine w_ldI rfl rfl ?_
  refine w_ldR rfl rfl rfl ?_
  refine w_ldR rfl rfl rfl ?_
  refine w_callV rfl rfl rfl rfl rfl rfl rfl (m_own hw W26 K26) ?_
  refine w_push rfl ?_
  refine w_callWI rfl rfl rfl rfl rfl rfl rfl (m_v247_5_5 hw W26 K26 M26 t26) (fun v33 s33 p33 => ?_)
  obtain ⟨rfl, t33, f33⟩ := p33
  have W33 := (f33.2 22 (by decide)).trans W26
  have K33 := (congrFun (f33.1.at 147 rfl) _).trans K26
  have M33 := (congrFun (f33.1.at 147 rfl) _).trans M26
  refine w_sub rfl ?_
  refine w_retI rfl ?_
  refine ⟨rfl, ?_, ((f21).tr f26).tr f33⟩
  have h := t33
  (try simp only [ta_app, List.cons_append, List.nil_append] at h)
  exact h
theorem m_v250_6_0 {d : Nat} {s : mSt} {n m x : Int} {T : List Int} (hw : 0 ≤ n ∧ n < 6) (hW : s 146 22 = n) (hK : s 147 (45 + 4 * n + 0).toNat = 6) (hm : s 147 (45 + 4 * n + 1).toNat = m) (hT : TrM s T) : CI (d + 7) 250 [.inr (.inr 146), .inl 0, .inl x] (s) (fun v s1 => v = (m_xor ((x + n) * 2) (m_xor (-(x - m)) n)) ∧ TrM s1 (ta T [13, 11, 10, 70, 40, 12]) ∧ FrM s s1) := by
  refine CI.mk rfl ?_
  show WP (d + 7) 250 0 [some (.inr (.inr 146)), some (.inl 0), some (.inl x), none] [] (encA (s)) _
  refine w_ldI rfl rfl ?_
  refine w_sw (tg := 2) rfl (by rw [w32_id (by decide) (by decide)]; rfl) ?_
  refine w_ldR rfl rfl rfl ?_
  refine w_push rfl ?_
  refine w_callWN rfl rfl rfl rfl rfl rfl rfl (m_ran hT) (fun s4 p4 => ?_)
  obtain ⟨t4, f4⟩ := p4
  have W4 := (f4.2 22 (by decide)).trans hW
  have K4 := (congrFun (f4.1.at 147 rfl) _).trans hK
  have M4 := (congrFun (f4.1.at 147 rfl) _).trans hm
  refine w_ldR rfl rfl rfl ?_
  refine w_ldR rfl rfl rfl ?_
  refine w_callV rfl rfl rfl rfl rfl rfl rfl (m_own hw W4 K4) ?_
  refine w_ldI rfl rfl ?_
  refine w_callWI rfl rfl rfl rfl rfl rfl rfl (m_v248_6_6 hw W4 K4 M4 t4) (fun v9 s9 p9 => ?_)
  obtain ⟨rfl, t9, f9⟩ := p9
  have W9 := (f9.2 22 (by decide)).trans W4
  have K9 := (congrFun (f9.1.at 147 rfl) _).trans K4
  have M9 := (congrFun (f9.1.at 147 rfl) _).trans M4
  refine w_StI_4_3 rfl rfl ?_
  refine w_ldI rfl rfl ?_
  refine w_ldR rfl rfl rfl ?_
  refine w_ldR rfl rfl rfl ?_
  refine w_callV rfl rfl rfl rfl rfl rfl rfl (m_own hw W9 K9) ?_
  refine w_ldI rfl rfl ?_
  refine w_callWI rfl rfl rfl rfl rfl rfl rfl (m_v249_6_6 hw W9 K9 M9 t9) (fun v16 s16 p16 => ?_)
  obtain ⟨rfl, t16, f16⟩ := p16
  have W16 := (f16.2 22 (by decide)).trans W9
  have K16 := (congrFun (f16.1.at 147 rfl) _).trans K9
  have M16 := (congrFun (f16.1.at 147 rfl) _).trans M9
  refine w_bin rfl ?_
  refine w_retI rfl ?_
  refine ⟨rfl, ?_, ((f4).tr f9).tr f16⟩
  have h := t16
  (try simp only [ta_app, List.cons_append, List.nil_append] at h)
  exact h
theorem m_v250_6_3 {d : Nat} {s : mSt} {n m x : Int} {T : List Int} (hw : 0 ≤ n ∧ n < 6) (hW : s 146 22 = n) (hK : s 147 (45 + 4 * n + 0).toNat = 6) (hm : s 147 (45 + 4 * n + 1).toNat = m) (hT : TrM s T) : CI (d + 8) 250 [.inr (.inr 146), .inl 3, .inl x] (s) (fun v s1 => v = (m_xor ((x + n) * 2) (m_xor (-(x - m)) n)) ∧ TrM s1 (ta T [13, 11, 10, 70, 40, 12]) ∧ FrM s s1) := by
  refine CI.mk rfl ?_
  show WP (d + 8) 250 0 [some (.inr (.inr 146)), some (.inl 3), some (.inl x), none] [] (encA (s)) _
  refine w_ldI rfl rfl ?_
  refine w_sw (tg := 53) rfl (by rw [w32_id (by decide) (by decide)]; rfl) ?_
  refine w_ldR rfl rfl rfl ?_
  refine w_ldI rfl rfl ?_
  refine w_call rfl rfl rfl (r_above (by omega)) ?_
  first | rw [show abv 1 = 0 from rfl] | rw [show abv 2 = 0 from rfl] | rw [show abv 3 = 0 from rfl] | rw [show abv 4 = 1 from rfl] | rw [show abv 5 = 2 from rfl] | rw [show abv 6 = 3 from rfl]
  refine w_ldI rfl rfl ?_
  refine w_callWI rfl rfl rfl rfl rfl rfl rfl (m_v250_6_0 hw hW hK hm hT) (fun v57 s57 p57 => ?_)
  obtain ⟨rfl, t57, f57⟩ := p57
  have W57 := (f57.2 22 (by decide)).trans hW
  have K57 := (congrFun (f57.1.at 147 rfl) _).trans hK
  have M57 := (congrFun (f57.1.at 147 rfl) _).trans hm
  refine w_retI rfl ?_
  refine ⟨rfl, ?_, f57⟩
  have h := t57
  (try simp only [ta_app, List.cons_append, List.nil_append] at h)
  exact h
theorem m_v250_6_6 {d : Nat} {s : mSt} {n m x : Int} {T : List Int} (hw : 0 ≤ n ∧ n < 6) (hW : s 146 22 = n) (hK : s 147 (45 + 4 * n + 0).toNat = 6) (hm : s 147 (45 + 4 * n + 1).toNat = m) (hT : TrM s T) : CI (d + 9) 250 [.inr (.inr 146), .inl 6, .inl x] (s) (fun v s1 => v = (((x + n) * 2) - (m_xor ((x + n) * 2) (m_xor (-(x - m)) n))) ∧ TrM s1 (ta T [71, 11, 10, 13, 11, 10, 70, 40, 12]) ∧ FrM s s1) := by
  refine CI.mk rfl ?_
  show WP (d + 9) 250 0 [some (.inr (.inr 146)), some (.inl 6), some (.inl x), none] [] (encA (s)) _
  refine w_ldI rfl rfl ?_
  refine w_sw (tg := 36) rfl (by rw [w32_id (by decide) (by decide)]; rfl) ?_
  refine w_ldR rfl rfl rfl ?_
  refine w_push rfl ?_
  refine w_callWN rfl rfl rfl rfl rfl rfl rfl (m_ran hT) (fun s38 p38 => ?_)
  obtain ⟨t38, f38⟩ := p38
  have W38 := (f38.2 22 (by decide)).trans hW
  have K38 := (congrFun (f38.1.at 147 rfl) _).trans hK
  have M38 := (congrFun (f38.1.at 147 rfl) _).trans hm
  refine w_ldR rfl rfl rfl ?_
  refine w_ldR rfl rfl rfl ?_
  refine w_callV rfl rfl rfl rfl rfl rfl rfl (m_own hw W38 K38) ?_
  refine w_ldI rfl rfl ?_
  refine w_callWI rfl rfl rfl rfl rfl rfl rfl (m_v248_6_6 hw W38 K38 M38 t38) (fun v43 s43 p43 => ?_)
  obtain ⟨rfl, t43, f43⟩ := p43
  have W43 := (f43.2 22 (by decide)).trans W38
  have K43 := (congrFun (f43.1.at 147 rfl) _).trans K38
  have M43 := (congrFun (f43.1.at 147 rfl) _).trans M38
  refine w_StI_4_3 rfl rfl ?_
  refine w_ldI rfl rfl ?_
  refine w_ldR rfl rfl rfl ?_
  refine w_push rfl ?_
  refine w_call rfl rfl rfl (r_above (by omega)) ?_
  first | rw [show abv 1 = 0 from rfl] | rw [show abv 2 = 0 from rfl] | rw [show abv 3 = 0 from rfl] | rw [show abv 4 = 1 from rfl] | rw [show abv 5 = 2 from rfl] | rw [show abv 6 = 3 from rfl]
  refine w_ldI rfl rfl ?_
  refine w_callWI rfl rfl rfl rfl rfl rfl rfl (m_v250_6_3 hw W43 K43 M43 t43) (fun v50 s50 p50 => ?_)
  obtain ⟨rfl, t50, f50⟩ := p50
  have W50 := (f50.2 22 (by decide)).trans W43
  have K50 := (congrFun (f50.1.at 147 rfl) _).trans K43
  have M50 := (congrFun (f50.1.at 147 rfl) _).trans M43
  refine w_sub rfl ?_
  refine w_retI rfl ?_
  refine ⟨rfl, ?_, ((f38).tr f43).tr f50⟩
  have h := t50
  (try simp only [ta_app, List.cons_append, List.nil_append] at h)
  exact h
theorem m_voice0 {d : Nat} {s : mSt} {k n m x : Int} {T : List Int} (hk : 0 ≤ k ∧ k ≤ 6) (hw : 0 ≤ n ∧ n < 6) (hW : s 146 22 = n) (hK : s 147 (45 + 4 * n + 0).toNat = k) (hm : s 147 (45 + 4 * n + 1).toNat = m) (hT : TrM s T) : CI (d + 9) 247 [.inr (.inr 146), .inl k, .inl x] s (fun v s1 => v = voE0 k n m x ∧ TrM s1 (ta T (voB0 k)) ∧ FrM s s1) := by
  rcases (show k = 0 ∨ k = 1 ∨ k = 2 ∨ k = 3 ∨ k = 4 ∨ k = 5 ∨ k = 6 by omega) with rfl | rfl | rfl | rfl | rfl | rfl | rfl
  · exact m_v247_0_0 hw hW hK hm hT
  · exact m_v247_1_1 hw hW hK hm hT
  · exact m_v247_2_2 hw hW hK hm hT
  · exact m_v247_3_3 hw hW hK hm hT
  · exact m_v247_4_4 hw hW hK hm hT
  · exact m_v247_5_5 hw hW hK hm hT
  · exact m_v247_6_6 hw hW hK hm hT
theorem m_voice1 {d : Nat} {s : mSt} {k n m x : Int} {T : List Int} (hk : 0 ≤ k ∧ k ≤ 6) (hw : 0 ≤ n ∧ n < 6) (hW : s 146 22 = n) (hK : s 147 (45 + 4 * n + 0).toNat = k) (hm : s 147 (45 + 4 * n + 1).toNat = m) (hT : TrM s T) : CI (d + 9) 248 [.inr (.inr 146), .inl k, .inl x] s (fun v s1 => v = voE1 k n m x ∧ TrM s1 (ta T (voB1 k)) ∧ FrM s s1) := by
  rcases (show k = 0 ∨ k = 1 ∨ k = 2 ∨ k = 3 ∨ k = 4 ∨ k = 5 ∨ k = 6 by omega) with rfl | rfl | rfl | rfl | rfl | rfl | rfl
  · exact m_v248_0_0 hw hW hK hm hT
  · exact m_v248_1_1 hw hW hK hm hT
  · exact m_v248_2_2 hw hW hK hm hT
  · exact m_v248_3_3 hw hW hK hm hT
  · exact m_v248_4_4 hw hW hK hm hT
  · exact m_v248_5_5 hw hW hK hm hT
  · exact m_v248_6_6 hw hW hK hm hT
theorem m_voice2 {d : Nat} {s : mSt} {k n m x : Int} {T : List Int} (hk : 0 ≤ k ∧ k ≤ 6) (hw : 0 ≤ n ∧ n < 6) (hW : s 146 22 = n) (hK : s 147 (45 + 4 * n + 0).toNat = k) (hm : s 147 (45 + 4 * n + 1).toNat = m) (hT : TrM s T) : CI (d + 9) 249 [.inr (.inr 146), .inl k, .inl x] s (fun v s1 => v = voE2 k n m x ∧ TrM s1 (ta T (voB2 k)) ∧ FrM s s1) := by
  rcases (show k = 0 ∨ k = 1 ∨ k = 2 ∨ k = 3 ∨ k = 4 ∨ k = 5 ∨ k = 6 by omega) with rfl | rfl | rfl | rfl | rfl | rfl | rfl
  · exact m_v249_0_0 hw hW hK hm hT
  · exact m_v249_1_1 hw hW hK hm hT
  · exact m_v249_2_2 hw hW hK hm hT
  · exact m_v249_3_3 hw hW hK hm hT
  · exact m_v249_4_4 hw hW hK hm hT
  · exact m_v249_5_5 hw hW hK hm hT
  · exact m_v249_6_6 hw hW hK hm hT
theorem m_voice3 {d : Nat} {s : mSt} {k n m x : Int} {T : List Int} (hk : 0 ≤ k ∧ k ≤ 6) (hw : 0 ≤ n ∧ n < 6) (hW : s 146 22 = n) (hK : s 147 (45 + 4 * n + 0).toNat = k) (hm : s 147 (45 + 4 * n + 1).toNat = m) (hT : TrM s T) : CI (d + 9) 250 [.inr (.inr 146), .inl k, .inl x] s (fun v s1 => v = voE3 k n m x ∧ TrM s1 (ta T (voB3 k)) ∧ FrM s s1) := by
  rcases (show k = 0 ∨ k = 1 ∨ k = 2 ∨ k = 3 ∨ k = 4 ∨ k = 5 ∨ k = 6 by omega) with rfl | rfl | rfl | rfl | rfl | rfl | rfl
  · exact m_v250_0_0 hw hW hK hm hT
  · exact m_v250_1_1 hw hW hK hm hT
  · exact m_v250_2_2 hw hW hK hm hT
  · exact m_v250_3_3 hw hW hK hm hT
  · exact m_v250_4_4 hw hW hK hm hT
  · exact m_v250_5_5 hw hW hK hm hT
  · exact m_v250_6_6 hw hW hK hm hT
theorem x_voice_y {d : Nat} {s : mSt} (hI : IvD s) {w act x : Int} (hrw : -2147483648 ≤ w ∧ w < 2147483648) (hract : -2147483648 ≤ act ∧ act < 2147483648) (hy : (0 ≤ w ∧ w ≤ s 147 39 - 1) ∧ 0 ≤ act ∧ act ≤ 3) : CI (d + 6) 128 [.inr (.inr 10), .inl w, .inl act, .inl x] (s) (fun r s1 => r = (if act = 0 then voE0 (s 147 (45 + 4 * w + 0).toNat) w (s 147 (45 + 4 * w + 1).toNat) x else if act = 1 then voE1 (s 147 (45 + 4 * w + 0).toNat) w (s 147 (45 + 4 * w + 1).toNat) x else if act = 2 then voE2 (s 147 (45 + 4 * w + 0).toNat) w (s 147 (45 + 4 * w + 1).toNat) x else voE3 (s 147 (45 + 4 * w + 0).toNat) w (s 147 (45 + 4 * w + 1).toNat) x) ∧ TrX s1 (ta [] (if act = 0 then voB0 (s 147 (45 + 4 * w + 0).toNat) else if act = 1 then voB1 (s 147 (45 + 4 * w + 0).toNat) else if act = 2 then voB2 (s 147 (45 + 4 * w + 0).toNat) else voB3 (s 147 (45 + 4 * w + 0).toNat))) ∧ Fr [11, 12] s s1) := by
  refine CI.mk rfl ?_
  show WP (d + 6) 128 0 [some (.inr (.inr 10)), some (.inl w), some (.inl act), some (.inl x), none] [] (encA (s)) _
  have hI0 := hI
  obtain ⟨⟨hM, hC, hN⟩, hV, h8⟩ := hI
  have hV0 := hV
  have hM0 := hM
  obtain ⟨vc, vpl, vga, vse, vne, veg, vre, vtu, vta, vwa, v36, v37, v39, v40, v42, v41, v43, v44, vl0, vl1, vlm⟩ := hV
  obtain ⟨hM39, hM40, hM41, hM43, hM44, hM36, hM37, hM38, hMc, hMw, hMp, hMt, hMb⟩ := hM
  refine w_ldR rfl rfl rfl ?_
  refine w_ldI rfl rfl ?_
  refine w_callV rfl rfl rfl rfl rfl rfl rfl (k_isWindow (by omega) (by omega)) ?_
  refine w_bEq0 rfl (fun b3 => ?_) (fun b3 => ?_)
  · first
    | (exfalso; omega)
    | (refine w_ldR rfl rfl rfl ?_
       refine w_push rfl ?_
       refine w_callWI rfl rfl rfl rfl rfl rfl rfl k_error1 (fun v11 s11 p11 => ?_)
       obtain ⟨rfl, rfl⟩ := p11
       refine w_retI rfl ?_
       refine ⟨?_, ?_, (Fr.mono rfl f15).tr f1⟩
       · first
         | rw [if_pos (by omega)]
         | rw [if_neg (by omega), if_pos (by omega)]
         | rw [if_neg (by omega), if_neg (by omega), if_pos (by omega)]
         | rw [if_neg (by omega), if_neg (by omega), if_neg (by omega)]
       · first
         | (rw [if_pos (by omega)]; exact t1)
         | (rw [if_neg (by omega), if_pos (by omega)]; exact t1)
         | (rw [if_neg (by omega), if_neg (by omega), if_pos (by omega)]; exact t1)
         | (rw [if_neg (by omega), if_neg (by omega), if_neg (by omega)]; exact t1))
  · first
    | (exfalso; omega)
    | (refine w_ldI rfl rfl ?_
       refine w_irLt0 rfl (by omega) (fun b5 => ?_) (fun b5 => ?_)
       · first
         | (exfalso; omega)
         | (refine w_ldR rfl rfl rfl ?_
            refine w_push rfl ?_
            refine w_callWI rfl rfl rfl rfl rfl rfl rfl k_error1 (fun v11 s11 p11 => ?_)
            obtain ⟨rfl, rfl⟩ := p11
            refine w_retI rfl ?_
            refine ⟨?_, ?_, (Fr.mono rfl f15).tr f1⟩
            · first
              | rw [if_pos (by omega)]
              | rw [if_neg (by omega), if_pos (by omega)]
              | rw [if_neg (by omega), if_neg (by omega), if_pos (by omega)]
              | rw [if_neg (by omega), if_neg (by omega), if_neg (by omega)]
            · first
              | (rw [if_pos (by omega)]; exact t1)
              | (rw [if_neg (by omega), if_pos (by omega)]; exact t1)
              | (rw [if_neg (by omega), if_neg (by omega), if_pos (by omega)]; exact t1)
              | (rw [if_neg (by omega), if_neg (by omega), if_neg (by omega)]; exact t1))
       · first
         | (exfalso; omega)
         | (refine w_ldI rfl rfl ?_
            refine w_push rfl ?_
            refine w_crLe rfl (by omega) (by omega) (fun b8 => ?_) (fun b8 => ?_)
            · first
              | (exfalso; omega)
              | (refine w_ldR rfl rfl rfl ?_
                 first | refine w_getI rfl rfl rfl rfl rfl ?_ | refine w_getR rfl rfl rfl rfl rfl ?_
                 refine w_callWN rfl rfl rfl rfl rfl rfl rfl k_empty11 (fun s15 p15 => ?_)
                 have f15 : Fr [11] s s15 := by rw [p15]; exact Fr.us rfl
                 have hMW := MOk_w hM0 (w := w) (by omega)
                 obtain ⟨la, hr, had, hLa⟩ := vlm w (by omega) (by omega)
                 have hla := hLa.1
                 have hL15 := LampA.f2 rfl f15 had hLa
                 have hT15 : TrX s15 [] := ⟨by decide, by rw [p15, us_eq, mup_eq]; rfl, fun i hi => absurd hi (Nat.not_lt_zero _)⟩
                 refine w_ldR rfl rfl rfl ?_
                 first | refine w_getI rfl rfl rfl rfl rfl ?_ | refine w_getR rfl rfl rfl rfl rfl ?_
                 first | refine w_getI rfl rfl rfl rfl rfl ?_ | refine w_getR rfl rfl rfl rfl rfl ?_
                 refine w_ldI rfl rfl ?_
                 refine w_rldL rfl rfl rfl (by omega) rfl ?_
                 rw [f15.at 15 rfl, hr, Int.toNat_natCast]
                 refine w_StR_5_4 rfl rfl (ble_1 hla) ?_
                 refine w_ldI rfl rfl ?_
                 obtain b23 | b23 | b23 | b23 := (by omega : act = 0 ∨ act = 1 ∨ act = 2 ∨ (act < 0 ∨ 3 ≤ act))
                 · first
                   | (exfalso; omega)
                   | (refine w_sw (tg := 24) rfl (by rw [w32_id (by omega) (by omega), b23]; rfl) ?_
                      refine w_ldR rfl rfl (ble_1 hla) ?_
                      refine w_ldI rfl rfl ?_
                      obtain ⟨c4, m4, g4, t4, k4⟩ := @k_voice0 (d := d + 0) s15 la _ _ _ x [] had hL15 hT15 hMW.1
                      refine w_callVI rfl rfl rfl rfl hla g4 t4 k4 (fun v1 s1 p1 => ?_)
                      obtain ⟨rfl, t1, f1⟩ := p1
                      refine w_retI rfl ?_
                      refine ⟨?_, ?_, (Fr.mono rfl f15).tr f1⟩
                      · first
                        | rw [if_pos (by omega)]
                        | rw [if_neg (by omega), if_pos (by omega)]
                        | rw [if_neg (by omega), if_neg (by omega), if_pos (by omega)]
                        | rw [if_neg (by omega), if_neg (by omega), if_neg (by omega)]
                      · first
                        | (rw [if_pos (by omega)]; exact t1)
                        | (rw [if_neg (by omega), if_pos (by omega)]; exact t1)
                        | (rw [if_neg (by omega), if_neg (by omega), if_pos (by omega)]; exact t1)
                        | (rw [if_neg (by omega), if_neg (by omega), if_neg (by omega)]; exact t1))
                 · first
                   | (exfalso; omega)
                   | (refine w_sw (tg := 28) rfl (by rw [w32_id (by omega) (by omega), b23]; rfl) ?_
                      refine w_ldR rfl rfl (ble_1 hla) ?_
                      refine w_ldI rfl rfl ?_
                      obtain ⟨c4, m4, g4, t4, k4⟩ := @k_voice1 (d := d + 0) s15 la _ _ _ x [] had hL15 hT15 hMW.1
                      refine w_callVI rfl rfl rfl rfl hla g4 t4 k4 (fun v1 s1 p1 => ?_)
                      obtain ⟨rfl, t1, f1⟩ := p1
                      refine w_retI rfl ?_
                      refine ⟨?_, ?_, (Fr.mono rfl f15).tr f1⟩
                      · first
                        | rw [if_pos (by omega)]
                        | rw [if_neg (by omega), if_pos (by omega)]
                        | rw [if_neg (by omega), if_neg (by omega), if_pos (by omega)]
                        | rw [if_neg (by omega), if_neg (by omega), if_neg (by omega)]
                      · first
                        | (rw [if_pos (by omega)]; exact t1)
                        | (rw [if_neg (by omega), if_pos (by omega)]; exact t1)
                        | (rw [if_neg (by omega), if_neg (by omega), if_pos (by omega)]; exact t1)
                        | (rw [if_neg (by omega), if_neg (by omega), if_neg (by omega)]; exact t1))
                 · first
                   | (exfalso; omega)
                   | (refine w_sw (tg := 32) rfl (by rw [w32_id (by omega) (by omega), b23]; rfl) ?_
                      refine w_ldR rfl rfl (ble_1 hla) ?_
                      refine w_ldI rfl rfl ?_
                      obtain ⟨c4, m4, g4, t4, k4⟩ := @k_voice2 (d := d + 0) s15 la _ _ _ x [] had hL15 hT15 hMW.1
                      refine w_callVI rfl rfl rfl rfl hla g4 t4 k4 (fun v1 s1 p1 => ?_)
                      obtain ⟨rfl, t1, f1⟩ := p1
                      refine w_retI rfl ?_
                      refine ⟨?_, ?_, (Fr.mono rfl f15).tr f1⟩
                      · first
                        | rw [if_pos (by omega)]
                        | rw [if_neg (by omega), if_pos (by omega)]
                        | rw [if_neg (by omega), if_neg (by omega), if_pos (by omega)]
                        | rw [if_neg (by omega), if_neg (by omega), if_neg (by omega)]
                      · first
                        | (rw [if_pos (by omega)]; exact t1)
                        | (rw [if_neg (by omega), if_pos (by omega)]; exact t1)
                        | (rw [if_neg (by omega), if_neg (by omega), if_pos (by omega)]; exact t1)
                        | (rw [if_neg (by omega), if_neg (by omega), if_neg (by omega)]; exact t1))
                 · first
                   | (exfalso; omega)
                   | (refine w_sw (tg := 36) rfl (mSwT_df (by rw [w32_id (by omega) (by omega)]; exact b23)) ?_
                      refine w_ldR rfl rfl (ble_1 hla) ?_
                      refine w_ldI rfl rfl ?_
                      obtain ⟨c4, m4, g4, t4, k4⟩ := @k_voice3 (d := d + 0) s15 la _ _ _ x [] had hL15 hT15 hMW.1
                      refine w_callVI rfl rfl rfl rfl hla g4 t4 k4 (fun v1 s1 p1 => ?_)
                      obtain ⟨rfl, t1, f1⟩ := p1
                      refine w_retI rfl ?_
                      refine ⟨?_, ?_, (Fr.mono rfl f15).tr f1⟩
                      · first
                        | rw [if_pos (by omega)]
                        | rw [if_neg (by omega), if_pos (by omega)]
                        | rw [if_neg (by omega), if_neg (by omega), if_pos (by omega)]
                        | rw [if_neg (by omega), if_neg (by omega), if_neg (by omega)]
                      · first
                        | (rw [if_pos (by omega)]; exact t1)
                        | (rw [if_neg (by omega), if_pos (by omega)]; exact t1)
                        | (rw [if_neg (by omega), if_neg (by omega), if_pos (by omega)]; exact t1)
                        | (rw [if_neg (by omega), if_neg (by omega), if_neg (by omega)]; exact t1)))
            · first
              | (exfalso; omega)
              | (refine w_ldR rfl rfl rfl ?_
                 refine w_push rfl ?_
                 refine w_callWI rfl rfl rfl rfl rfl rfl rfl k_error1 (fun v11 s11 p11 => ?_)
                 obtain ⟨rfl, rfl⟩ := p11
                 refine w_retI rfl ?_
                 refine ⟨?_, ?_, (Fr.mono rfl f15).tr f1⟩
                 · first
                   | rw [if_pos (by omega)]
                   | rw [if_neg (by omega), if_pos (by omega)]
                   | rw [if_neg (by omega), if_neg (by omega), if_pos (by omega)]
                   | rw [if_neg (by omega), if_neg (by omega), if_neg (by omega)]
                 · first
                   | (rw [if_pos (by omega)]; exact t1)
                   | (rw [if_neg (by omega), if_pos (by omega)]; exact t1)
                   | (rw [if_neg (by omega), if_neg (by omega), if_pos (by omega)]; exact t1)
                   | (rw [if_neg (by omega), if_neg (by omega), if_neg (by omega)]; exact t1))))
theorem x_voice_n {d : Nat} {s : mSt} (hI : IvD s) {w act x : Int} (hrw : -2147483648 ≤ w ∧ w < 2147483648) (hract : -2147483648 ≤ act ∧ act < 2147483648) (hy : ¬ ((0 ≤ w ∧ w ≤ s 147 39 - 1) ∧ 0 ≤ act ∧ act ≤ 3)) : CI (d + 6) 128 [.inr (.inr 10), .inl w, .inl act, .inl x] (s) (fun r s1 => r = -1000000000 - 1 ∧ s1 = us s 132 1 (s 132 1 + 1)) := by
  refine CI.mk rfl ?_
  show WP (d + 6) 128 0 [some (.inr (.inr 10)), some (.inl w), some (.inl act), some (.inl x), none] [] (encA (s)) _
  have hI0 := hI
  obtain ⟨⟨hM, hC, hN⟩, hV, h8⟩ := hI
  have hV0 := hV
  have hM0 := hM
  obtain ⟨vc, vpl, vga, vse, vne, veg, vre, vtu, vta, vwa, v36, v37, v39, v40, v42, v41, v43, v44, vl0, vl1, vlm⟩ := hV
  obtain ⟨hM39, hM40, hM41, hM43, hM44, hM36, hM37, hM38, hMc, hMw, hMp, hMt, hMb⟩ := hM
  refine w_ldR rfl rfl rfl ?_
  refine w_ldI rfl rfl ?_
  refine w_callV rfl rfl rfl rfl rfl rfl rfl (k_isWindow (by omega) (by omega)) ?_
  refine w_bEq0 rfl (fun b3 => ?_) (fun b3 => ?_)
  · first
    | (exfalso; omega)
    | (refine w_ldR rfl rfl rfl ?_
       refine w_push rfl ?_
       refine w_callWI rfl rfl rfl rfl rfl rfl rfl k_error1 (fun v11 s11 p11 => ?_)
       obtain ⟨rfl, rfl⟩ := p11
       refine w_retI rfl ?_
       exact ⟨rfl, rfl⟩)
  · first
    | (exfalso; omega)
    | (refine w_ldI rfl rfl ?_
       refine w_irLt0 rfl (by omega) (fun b5 => ?_) (fun b5 => ?_)
       · first
         | (exfalso; omega)
         | (refine w_ldR rfl rfl rfl ?_
            refine w_push rfl ?_
            refine w_callWI rfl rfl rfl rfl rfl rfl rfl k_error1 (fun v11 s11 p11 => ?_)
            obtain ⟨rfl, rfl⟩ := p11
            refine w_retI rfl ?_
            exact ⟨rfl, rfl⟩)
       · first
         | (exfalso; omega)
         | (refine w_ldI rfl rfl ?_
            refine w_push rfl ?_
            refine w_crLe rfl (by omega) (by omega) (fun b8 => ?_) (fun b8 => ?_)
            · first
              | (exfalso; omega)
              | (exfalso; omega)
            · first
              | (exfalso; omega)
              | (refine w_ldR rfl rfl rfl ?_
                 refine w_push rfl ?_
                 refine w_callWI rfl rfl rfl rfl rfl rfl rfl k_error1 (fun v11 s11 p11 => ?_)
                 obtain ⟨rfl, rfl⟩ := p11
                 refine w_retI rfl ?_
                 exact ⟨rfl, rfl⟩)))
theorem m_voice_y {d : Nat} {s : mSt} {D : Nat → Int} (hD : s 147 = D) (hM : MOk D) (hC : COk D) {w act x : Int} (hrw : -2147483648 ≤ w ∧ w < 2147483648) (hract : -2147483648 ≤ act ∧ act < 2147483648) (hy : (0 ≤ w ∧ w ≤ D 39 - 1) ∧ 0 ≤ act ∧ act ≤ 3) : CI (d + 10) 251 [.inr (.inr 146), .inl w, .inl act, .inl x] (s) (fun r s1 => r = (if act = 0 then voE0 (D (45 + 4 * w + 0).toNat) w (D (45 + 4 * w + 1).toNat) x else if act = 1 then voE1 (D (45 + 4 * w + 0).toNat) w (D (45 + 4 * w + 1).toNat) x else if act = 2 then voE2 (D (45 + 4 * w + 0).toNat) w (D (45 + 4 * w + 1).toNat) x else voE3 (D (45 + 4 * w + 0).toNat) w (D (45 + 4 * w + 1).toNat) x) ∧ TrM s1 (ta [] (if act = 0 then voB0 (D (45 + 4 * w + 0).toNat) else if act = 1 then voB1 (D (45 + 4 * w + 0).toNat) else if act = 2 then voB2 (D (45 + 4 * w + 0).toNat) else voB3 (D (45 + 4 * w + 0).toNat))) ∧ Fr [146, 159] s s1 ∧ s1 146 3 = s 146 3) := by
  refine CI.mk rfl ?_
  show WP (d + 10) 251 0 [some (.inr (.inr 146)), some (.inl w), some (.inl act), some (.inl x), none] [] (encA (s)) _
  have hM0 := hM
  obtain ⟨hM39, hM40, hM41, hM43, hM44, hM36, hM37, hM38, hMc, hMw, hMp, hMt, hMb⟩ := hM
  refine w_ldR rfl rfl rfl ?_
  refine w_ldI rfl rfl ?_
  refine w_callV rfl rfl rfl rfl rfl rfl rfl (r_isWindow (by omega) (by rw [hD]; omega)) ?_
  rw [hD]
  refine w_bEq0 rfl (fun b3 => ?_) (fun b3 => ?_)
  · first
    | (exfalso; omega)
    | (refine w_ldR rfl rfl rfl ?_
       refine w_push rfl ?_
       refine w_callV rfl rfl rfl rfl rfl rfl rfl r_finds1 ?_
       refine w_retI rfl ?_
       refine ⟨?_, ?_, (Fr.mono rfl f17).tr f1.1, by rw [f1.2 3 (by decide), g17 3 (by decide) (by decide)]⟩
       · first
         | rw [if_pos (by omega)]
         | rw [if_neg (by omega), if_pos (by omega)]
         | rw [if_neg (by omega), if_neg (by omega), if_pos (by omega)]
         | rw [if_neg (by omega), if_neg (by omega), if_neg (by omega)]
       · first
         | (rw [if_pos (by omega)]; exact t1)
         | (rw [if_neg (by omega), if_pos (by omega)]; exact t1)
         | (rw [if_neg (by omega), if_neg (by omega), if_pos (by omega)]; exact t1)
         | (rw [if_neg (by omega), if_neg (by omega), if_neg (by omega)]; exact t1))
  · first
    | (exfalso; omega)
    | (refine w_ldI rfl rfl ?_
       refine w_i2lr rfl (by omega) ?_
       refine w_push rfl ?_
       refine w_push rfl ?_
       refine w_call rfl rfl rfl (r_in (by omega) (by omega) (by omega)) ?_
       refine w_bNe0 rfl (fun b9 => ?_) (fun b9 => ?_)
       · first
         | (exfalso; omega)
         | (refine w_ldR rfl rfl rfl ?_
            refine w_push rfl ?_
            refine w_putI rfl rfl rfl rfl rfl rfl rfl ?_
            refine w_ldR rfl rfl rfl ?_
            refine w_ldI rfl rfl ?_
            refine w_putI rfl rfl rfl rfl rfl rfl rfl ?_
            generalize hs17 : us (us s 146 21 0) 146 22 w = s17
            have W17 : s17 146 22 = w := by rw [← hs17, us_eq, mup_eq]
            have f17 : Fr [146] s s17 := by rw [← hs17]; exact (Fr.us rfl).tr (Fr.us rfl)
            have g17 : ∀ i, i ≠ 21 → i ≠ 22 → s17 146 i = s 146 i := fun i h1 h2 => by rw [← hs17, us_eq, mup_ne h2, us_eq, mup_ne h1]
            have hD17 : s17 147 = D := (f17.at 147 rfl).trans hD
            have T17 : TrM s17 [] := ⟨by decide, by rw [← hs17, us_eq, mup_ne (by decide), us_eq, mup_eq]; rfl, fun i hi => absurd hi (Nat.not_lt_zero _)⟩
            have hMW := MOk_w hM0 (w := w) (by omega)
            have K17 : s17 147 (45 + 4 * w + 0).toNat = D (45 + 4 * w + 0).toNat := by rw [hD17]
            have M17 : s17 147 (45 + 4 * w + 1).toNat = D (45 + 4 * w + 1).toNat := by rw [hD17]
            refine w_ldR rfl rfl rfl ?_
            refine w_callV rfl rfl rfl rfl rfl rfl rfl (m_own (by omega) W17 K17) ?_
            refine w_StI_5_4 rfl rfl ?_
            refine w_ldI rfl rfl ?_
            refine w_irNe0 rfl (by omega) (fun b24 => ?_) (fun b24 => ?_)
            · first
              | (exfalso; omega)
              | (refine w_ldI rfl rfl ?_
                 refine w_push rfl ?_
                 refine w_crNe rfl (by omega) (by omega) (fun b32 => ?_) (fun b32 => ?_)
                 · first
                   | (exfalso; omega)
                   | (refine w_ldI rfl rfl ?_
                      refine w_push rfl ?_
                      refine w_crNe rfl (by omega) (by omega) (fun b40 => ?_) (fun b40 => ?_)
                      · first
                        | (exfalso; omega)
                        | (refine w_ldR rfl rfl rfl ?_
                           refine w_ldI rfl rfl ?_
                           refine w_ldI rfl rfl ?_
                           refine w_callWI rfl rfl rfl rfl rfl rfl rfl (m_voice3 hMW.1 (by omega) W17 K17 M17 T17) (fun v49 s49 p49 => ?_)
                           obtain ⟨rfl, t1, f1⟩ := p49
                           refine w_retI rfl ?_
                           refine ⟨?_, ?_, (Fr.mono rfl f17).tr f1.1, by rw [f1.2 3 (by decide), g17 3 (by decide) (by decide)]⟩
                           · first
                             | rw [if_pos (by omega)]
                             | rw [if_neg (by omega), if_pos (by omega)]
                             | rw [if_neg (by omega), if_neg (by omega), if_pos (by omega)]
                             | rw [if_neg (by omega), if_neg (by omega), if_neg (by omega)]
                           · first
                             | (rw [if_pos (by omega)]; exact t1)
                             | (rw [if_neg (by omega), if_pos (by omega)]; exact t1)
                             | (rw [if_neg (by omega), if_neg (by omega), if_pos (by omega)]; exact t1)
                             | (rw [if_neg (by omega), if_neg (by omega), if_neg (by omega)]; exact t1))
                      · first
                        | (exfalso; omega)
                        | (refine w_ldR rfl rfl rfl ?_
                           refine w_ldI rfl rfl ?_
                           refine w_ldI rfl rfl ?_
                           refine w_callWI rfl rfl rfl rfl rfl rfl rfl (m_voice2 hMW.1 (by omega) W17 K17 M17 T17) (fun v44 s44 p44 => ?_)
                           obtain ⟨rfl, t1, f1⟩ := p44
                           refine w_go rfl ?_
                           refine w_retI rfl ?_
                           refine ⟨?_, ?_, (Fr.mono rfl f17).tr f1.1, by rw [f1.2 3 (by decide), g17 3 (by decide) (by decide)]⟩
                           · first
                             | rw [if_pos (by omega)]
                             | rw [if_neg (by omega), if_pos (by omega)]
                             | rw [if_neg (by omega), if_neg (by omega), if_pos (by omega)]
                             | rw [if_neg (by omega), if_neg (by omega), if_neg (by omega)]
                           · first
                             | (rw [if_pos (by omega)]; exact t1)
                             | (rw [if_neg (by omega), if_pos (by omega)]; exact t1)
                             | (rw [if_neg (by omega), if_neg (by omega), if_pos (by omega)]; exact t1)
                             | (rw [if_neg (by omega), if_neg (by omega), if_neg (by omega)]; exact t1)))
                 · first
                   | (exfalso; omega)
                   | (refine w_ldR rfl rfl rfl ?_
                      refine w_ldI rfl rfl ?_
                      refine w_ldI rfl rfl ?_
                      refine w_callWI rfl rfl rfl rfl rfl rfl rfl (m_voice1 hMW.1 (by omega) W17 K17 M17 T17) (fun v36 s36 p36 => ?_)
                      obtain ⟨rfl, t1, f1⟩ := p36
                      refine w_go rfl ?_
                      refine w_retI rfl ?_
                      refine ⟨?_, ?_, (Fr.mono rfl f17).tr f1.1, by rw [f1.2 3 (by decide), g17 3 (by decide) (by decide)]⟩
                      · first
                        | rw [if_pos (by omega)]
                        | rw [if_neg (by omega), if_pos (by omega)]
                        | rw [if_neg (by omega), if_neg (by omega), if_pos (by omega)]
                        | rw [if_neg (by omega), if_neg (by omega), if_neg (by omega)]
                      · first
                        | (rw [if_pos (by omega)]; exact t1)
                        | (rw [if_neg (by omega), if_pos (by omega)]; exact t1)
                        | (rw [if_neg (by omega), if_neg (by omega), if_pos (by omega)]; exact t1)
                        | (rw [if_neg (by omega), if_neg (by omega), if_neg (by omega)]; exact t1)))
            · first
              | (exfalso; omega)
              | (refine w_ldR rfl rfl rfl ?_
                 refine w_ldI rfl rfl ?_
                 refine w_ldI rfl rfl ?_
                 refine w_callWI rfl rfl rfl rfl rfl rfl rfl (m_voice0 hMW.1 (by omega) W17 K17 M17 T17) (fun v28 s28 p28 => ?_)
                 obtain ⟨rfl, t1, f1⟩ := p28
                 refine w_go rfl ?_
                 refine w_retI rfl ?_
                 refine ⟨?_, ?_, (Fr.mono rfl f17).tr f1.1, by rw [f1.2 3 (by decide), g17 3 (by decide) (by decide)]⟩
                 · first
                   | rw [if_pos (by omega)]
                   | rw [if_neg (by omega), if_pos (by omega)]
                   | rw [if_neg (by omega), if_neg (by omega), if_pos (by omega)]
                   | rw [if_neg (by omega), if_neg (by omega), if_neg (by omega)]
                 · first
                   | (rw [if_pos (by omega)]; exact t1)
                   | (rw [if_neg (by omega), if_pos (by omega)]; exact t1)
                   | (rw [if_neg (by omega), if_neg (by omega), if_pos (by omega)]; exact t1)
                   | (rw [if_neg (by omega), if_neg (by omega), if_neg (by omega)]; exact t1)))
       · first
         | (exfalso; omega)
         | (refine w_ldR rfl rfl rfl ?_
            refine w_push rfl ?_
            refine w_callV rfl rfl rfl rfl rfl rfl rfl r_finds1 ?_
            refine w_retI rfl ?_
            refine ⟨?_, ?_, (Fr.mono rfl f17).tr f1.1, by rw [f1.2 3 (by decide), g17 3 (by decide) (by decide)]⟩
            · first
              | rw [if_pos (by omega)]
              | rw [if_neg (by omega), if_pos (by omega)]
              | rw [if_neg (by omega), if_neg (by omega), if_pos (by omega)]
              | rw [if_neg (by omega), if_neg (by omega), if_neg (by omega)]
            · first
              | (rw [if_pos (by omega)]; exact t1)
              | (rw [if_neg (by omega), if_pos (by omega)]; exact t1)
              | (rw [if_neg (by omega), if_neg (by omega), if_pos (by omega)]; exact t1)
              | (rw [if_neg (by omega), if_neg (by omega), if_neg (by omega)]; exact t1)))
theorem m_voice_n {d : Nat} {s : mSt} {D : Nat → Int} (hD : s 147 = D) (hM : MOk D) (hC : COk D) {w act x : Int} (hrw : -2147483648 ≤ w ∧ w < 2147483648) (hract : -2147483648 ≤ act ∧ act < 2147483648) (hy : ¬ ((0 ≤ w ∧ w ≤ D 39 - 1) ∧ 0 ≤ act ∧ act ≤ 3)) : CI (d + 10) 251 [.inr (.inr 146), .inl w, .inl act, .inl x] (s) (fun r s1 => r = -1000000000 - 1 ∧ s1 = us s 150 1 (s 150 1 + 1)) := by
  refine CI.mk rfl ?_
  show WP (d + 10) 251 0 [some (.inr (.inr 146)), some (.inl w), some (.inl act), some (.inl x), none] [] (encA (s)) _
  have hM0 := hM
  obtain ⟨hM39, hM40, hM41, hM43, hM44, hM36, hM37, hM38, hMc, hMw, hMp, hMt, hMb⟩ := hM
  refine w_ldR rfl rfl rfl ?_
  refine w_ldI rfl rfl ?_
  refine w_callV rfl rfl rfl rfl rfl rfl rfl (r_isWindow (by omega) (by rw [hD]; omega)) ?_
  rw [hD]
  try simp only [hD]
  refine w_bEq0 rfl (fun b3 => ?_) (fun b3 => ?_)
  · first
    | (exfalso; omega)
    | (refine w_ldR rfl rfl rfl ?_
       refine w_push rfl ?_
       refine w_callV rfl rfl rfl rfl rfl rfl rfl r_finds1 ?_
       try simp only [hD]
       refine w_retI rfl ?_
       exact ⟨rfl, rfl⟩)
  · first
    | (exfalso; omega)
    | (refine w_ldI rfl rfl ?_
       refine w_i2lr rfl (by omega) ?_
       refine w_push rfl ?_
       refine w_push rfl ?_
       refine w_call rfl rfl rfl (r_in (by omega) (by omega) (by omega)) ?_
       try simp only [hD]
       refine w_bNe0 rfl (fun b9 => ?_) (fun b9 => ?_)
       · first
         | (exfalso; omega)
         | (exfalso; omega)
       · first
         | (exfalso; omega)
         | (refine w_ldR rfl rfl rfl ?_
            refine w_push rfl ?_
            refine w_callV rfl rfl rfl rfl rfl rfl rfl r_finds1 ?_
            try simp only [hD]
            refine w_retI rfl ?_
            exact ⟨rfl, rfl⟩))
theorem st_voice {X : Nat → Int} {N : Int} {d : Nat} {s : mSt} {cnt : Int} (hI : Inv X N s cnt) {w act x : Int} (hrw : -2147483648 ≤ w ∧ w < 2147483648) (hract : -2147483648 ≤ act ∧ act < 2147483648) : Step X N (d + 150) s cnt 128 251 [.inl w, .inl act, .inl x] := by
  have hI0 := hI
  obtain ⟨hD, -, -, -, -, hT, -, hX, hU⟩ := hI
  have hD0 := hD
  obtain ⟨⟨hM, hC, hN⟩, hV, h8⟩ := hD
  have hV0 := hV
  have hM0 := hM
  obtain ⟨vc, vpl, vga, vse, vne, veg, vre, vtu, vta, vwa, v36, v37, v39, v40, v42, v41, v43, v44, vl0, vl1, vlm⟩ := hV
  obtain ⟨hM39, hM40, hM41, hM43, hM44, hM36, hM37, hM38, hMc, hMw, hMp, hMt, hMb⟩ := hM
  by_cases hy : (0 ≤ w ∧ w ≤ s 147 39 - 1) ∧ 0 ≤ act ∧ act ≤ 3
  · obtain ⟨r1, s1, k1, hr, t1, f1⟩ := x_voice_y (d := d + 144) (x := x) hD0 hrw hract hy
    have e : s1 147 = s 147 := f1.at 147 rfl
    obtain ⟨r2, s2, k2, hr2, t2, f2, e3⟩ := m_voice_y (d := d + 140) (s := s1) (x := x) e hM0 hC hrw hract hy
    refine Step.mk (by first | exact ⟨(f1.at 1 rfl).trans hX.2.1, (congrFun (f1.at 0 rfl) 1).trans hX.2.2⟩ | exact ⟨hX.2.1, hX.2.2⟩ | exact ⟨by rw [hs1, us_ne (by decide)]; exact hX.2.1, by rw [hs1, us_ne (by decide)]; exact hX.2.2⟩ | exact ⟨by rw [hs1, us_ne (by decide), us_ne (by decide)]; exact hX.2.1, by rw [hs1, us_ne (by decide), us_ne (by decide)]; exact hX.2.2⟩ | exact ⟨by rw [e1, us_ne (by decide), f1.at 1 rfl]; exact hX.2.1, by rw [e1, us_ne (by decide), f1.at 0 rfl]; exact hX.2.2⟩ | exact ⟨by rw [ft.at 1 rfl, hx 1 (by decide) (by decide)]; exact hX.2.1, by rw [ft.at 0 rfl, et, newL_0, mup_ne (by decide)]; exact hX.2.2⟩) k1 k2 (by rw [hr, hr2]) ?_
    generalize ta [] _ = T at t1 t2
    have hf := (Fr.mono (B := [11, 12, 146, 159]) rfl f1).tr (Fr.mono rfl f2)
    obtain ⟨a1, a2, a3, a4, a5, a6, a7, a8, a9⟩ := hI0
    refine ⟨a1.fr rfl rfl hf, a2.fr rfl rfl (by rw [hf.at 10 rfl]) (by rw [e3, f1.at 146 rfl]) (by omega) hf, a3.fr rfl rfl hf, ?_, a5.fr rfl hf, a6.fr rfl hf, a7.fr rfl (by omega) hf, a8.fr rfl rfl hf, a9.fr rfl rfl rfl rfl hf⟩
    refine ⟨by rw [f2.at 11 rfl, t1.2.1, t2.2.1], by have := t2.2.1; have := t2.1; omega, fun i h1 h2 => ?_⟩
    rw [t2.2.1] at h2
    rw [f2.at 12 rfl, t1.2.2 i.toNat (by omega), t2.2.2 i.toNat (by omega)]
  · obtain ⟨r1, s1, k1, hr, hs1⟩ := x_voice_n (d := d + 144) hD0 (x := x) hrw hract hy
    have e : s1 147 = s 147 := by rw [hs1]; exact us_ne (by decide)
    obtain ⟨r2, s2, k2, hr2, hs2⟩ := m_voice_n (d := d + 140) (s := s1) e hM0 hC (x := x) hrw hract hy
    rw [hs2] at k2
    exact Step.mk (by first | exact ⟨(f1.at 1 rfl).trans hX.2.1, (congrFun (f1.at 0 rfl) 1).trans hX.2.2⟩ | exact ⟨hX.2.1, hX.2.2⟩ | exact ⟨by rw [hs1, us_ne (by decide)]; exact hX.2.1, by rw [hs1, us_ne (by decide)]; exact hX.2.2⟩ | exact ⟨by rw [hs1, us_ne (by decide), us_ne (by decide)]; exact hX.2.1, by rw [hs1, us_ne (by decide), us_ne (by decide)]; exact hX.2.2⟩ | exact ⟨by rw [e1, us_ne (by decide), f1.at 1 rfl]; exact hX.2.1, by rw [e1, us_ne (by decide), f1.at 0 rfl]; exact hX.2.2⟩ | exact ⟨by rw [ft.at 1 rfl, hx 1 (by decide) (by decide)]; exact hX.2.1, by rw [ft.at 0 rfl, et, newL_0, mup_ne (by decide)]; exact hX.2.2⟩) k1 k2 (by rw [hr, hr2]) (hI0.err2 hs1)
