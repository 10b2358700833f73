/-! ===== new lamps ===== -/
theorem x_new {d mt j nx c : Nat} {fs : List mAV} {L : mL} {S : mS} {h h' : mH} {r : Option mAV} (hc : (mPr mt).2 j = some (opNew c fs nx)) (k : Run d mt nx L (.inr (.inr h.1) :: S) (h.1 + 1, h.2.1 + fs.length, mup h.2.2 h.1 (eo c fs)) r h') : Run d mt j L S h r h' := Run.step hc rfl k
theorem n_28 {d a c : Nat} {h : mH} {n m x0 x1 : Int} {r : Nat} (ha : Nat.ble 10 a = true) (hcs : [0, 1, 2, 3, 7, 8, 10].contains c = true) (hg : h.2.2 a = some (.inl (c, [.inl x0, .inl x1, .inr (.inr r)]))) : Call (d + 1) 28 [.inr (.inr a), .inl n, .inl m, .inr (.inr 11)] h none (h.1, h.2.1, mup h.2.2 a (eo c [.inl n, .inl m, .inr (.inr 11)])) := by
  refine ⟨Nat.le_of_ble_eq_true rfl, ?_⟩
  show Run (d + 1) 28 0 [some (.inr (.inr a)), some (.inl n), some (.inl m), some (.inr (.inr 11))] [] h none _
  refine x_ldR rfl rfl (ble_1 ha) ?_
  refine x_objI rfl (ble_1 ha) rfl ?_
  refine x_ldR rfl rfl (ble_1 ha) ?_
  refine x_ldI rfl rfl ?_
  refine x_put0 rfl ha hg hcs (Nat.le_of_ble_eq_true rfl) rfl ?_
  refine x_ldR rfl rfl (ble_1 ha) ?_
  refine x_ldI rfl rfl ?_
  refine x_put0 rfl ha (mup_eq _ _ _) hcs (Nat.le_of_ble_eq_true rfl) rfl ?_
  refine x_ldR rfl rfl (ble_1 ha) ?_
  refine x_ldR rfl rfl rfl ?_
  refine x_put0 rfl ha (mup_eq _ _ _) hcs (Nat.le_of_ble_eq_true rfl) rfl ?_
  refine x_retV rfl ?_
  show (h.1, h.2.1, mup (mup (mup h.2.2 a _) a _) a _) = _
  rw [mup_mup, mup_mup]
  rfl
def newL (s : mSt) (c n m : Int) : mSt := us (ua s (164 + (s 0 0).toNat) (fun i => if i = 0 then n else if i = 1 then m else if i = 3 then c else 0)) 0 0 (s 0 0 + 1)
theorem layAt_164 {a : Nat} (h : 164 ≤ a) : layAt a = none := by
  unfold layAt m_rows
  by_cases h2 : a < 192
  · rw [show a / 32 = 5 by omega, show layR[5]? = some lay_5 from rfl]
    dsimp only
    rw [List.getElem?_eq_none (by show 4 ≤ a % 32; omega)]
  · rw [List.getElem?_eq_none (by show 6 ≤ a / 32; omega)]
theorem newL_ne {s : mSt} {c n m : Int} {x : Nat} (h0 : x ≠ 0) (h1 : x ≠ 164 + (s 0 0).toNat) : newL s c n m x = s x := by
  unfold newL
  rw [us_ne h0, ua_ne h1]
theorem newL_low {s : mSt} {c n m : Int} {x : Nat} (h0 : 1 ≤ x) (h1 : x < 164) : newL s c n m x = s x := newL_ne (by omega) (by omega)
theorem newL_0 (s : mSt) (c n m : Int) : newL s c n m 0 = mup (s 0) 0 (s 0 0 + 1) := by
  unfold newL
  rw [us_eq, ua_ne (by omega)]
theorem newL_a (s : mSt) (c n m : Int) : newL s c n m (164 + (s 0 0).toNat) = fun i => if i = 0 then n else if i = 1 then m else if i = 3 then c else 0 := by
  unfold newL
  rw [us_ne (by omega), ua_eq]
theorem enc_new {s : mSt} {c : Nat} {n m : Int} (h0 : 0 ≤ s 0 0) : mup (enc s) (164 + (s 0 0).toNat) (eo c [.inl n, .inl m, .inr (.inr 11)]) = enc (newL s c n m) := by
  funext b
  by_cases e : b = 164 + (s 0 0).toNat
  · subst e
    rw [mup_eq]
    unfold enc
    rw [layAt_164 (by omega), newL_0, newL_a]
    dsimp only
    rw [if_neg (by omega), mup_eq, if_pos (by omega)]
    rfl
  · rw [mup_ne e]
    by_cases h164 : 164 ≤ b
    · unfold enc
      rw [layAt_164 h164, newL_0, newL_ne (x := b) (by omega) e]
      dsimp only
      rw [if_neg (show ¬ b = 1 by omega), if_neg (show ¬ b = 1 by omega), mup_eq]
      by_cases h2 : 164 ≤ b ∧ b < 164 + (s 0 0).toNat
      · rw [if_pos h2, if_pos (by omega)]
      · rw [if_neg h2, if_neg (by omega)]
    · by_cases hb : b = 0
      · subst hb
        unfold enc
        rw [show layAt 0 = none from rfl]
        dsimp only
        rw [if_neg (by omega), if_neg (by omega), if_neg (by omega), if_neg (by omega)]
      · unfold enc
        rw [newL_0, newL_low (x := b) (by omega) (by omega), newL_low (x := 1) (by omega) (by omega), mup_ne (show (1 : Nat) ≠ 0 by decide)]
        cases layAt b with
        | some e => rfl
        | none =>
          dsimp only
          by_cases h1 : b = 1
          · rw [if_pos h1, if_pos h1]
          · rw [if_neg h1, if_neg h1, if_neg (by omega), if_neg (by omega)]
theorem encA_new {s : mSt} {c : Nat} {n m : Int} (h0 : 0 ≤ s 0 0) {f : mEnt} : ((encA s).1 + 1, (encA s).2.1 + 3, mup (mup (encA s).2.2 (encA s).1 f) (encA s).1 (eo c [.inl n, .inl m, .inr (.inr 11)])) = encA (newL s c n m) := by
  show (164 + (s 0 0).toNat + 1, 3889 + 3 * (s 0 0).toNat + 3, mup (mup (enc s) (164 + (s 0 0).toNat) f) (164 + (s 0 0).toNat) _) = _
  rw [mup_mup, enc_new h0]
  unfold encA
  rw [newL_0, mup_eq, show (s 0 0 + 1).toNat = (s 0 0).toNat + 1 by omega, show 164 + ((s 0 0).toNat + 1) = 164 + (s 0 0).toNat + 1 by omega, show 3889 + 3 * ((s 0 0).toNat + 1) = 3889 + 3 * (s 0 0).toNat + 3 by omega]
theorem LampA.new {s : mSt} {a : Nat} {k n m c n1 m1 : Int} (h0 : 0 ≤ s 0 0) (h : LampA s a k n m) (hc : 0 ≤ c) : LampA (newL s c n1 m1) a k n m := by
  refine ⟨h.1, ?_⟩
  obtain ⟨q, rfl⟩ : ∃ q : Nat, c = (q : Int) := ⟨c.toNat, by omega⟩
  rw [← enc_new h0]
  by_cases e : a = 164 + (s 0 0).toNat
  · have := h.2
    unfold enc at this
    rw [e, layAt_164 (by omega)] at this
    dsimp only at this
    rw [if_neg (by omega), if_neg (by omega)] at this
    cases this
  · rw [mup_ne e]; exact h.2
theorem LampAt.new {s : mSt} {r k n m c n1 m1 : Int} (h0 : 0 ≤ s 0 0) (hc : 0 ≤ c) (h : LampAt s r k n m) : LampAt (newL s c n1 m1) r k n m := by
  obtain ⟨a, e, hd, hl⟩ := h
  exact ⟨a, e, hd, hl.new h0 hc⟩
theorem newL_lamp {s : mSt} {k n m : Int} (h0 : 0 ≤ s 0 0) : LampA (newL s (kc k) n m) (164 + (s 0 0).toNat) k n m := by
  refine ⟨Nat.ble_eq_true_of_le (by omega), ?_⟩
  rw [← enc_new h0, mup_eq]
theorem n_95_10 {d a : Nat} {h : mH} {n m x0 x1 : Int} {r : Nat} (ha : Nat.ble 10 a = true) (hg : h.2.2 a = some (.inl (10, [.inl x0, .inl x1, .inr (.inr r)]))) : Call (d + 2) 95 [.inr (.inr a), .inl n, .inl m, .inr (.inr 11)] h none (h.1, h.2.1, mup h.2.2 a (eo 10 [.inl n, .inl m, .inr (.inr 11)])) := by
  refine ⟨Nat.le_of_ble_eq_true rfl, ?_⟩
  show Run (d + 2) 95 0 [some (.inr (.inr a)), some (.inl n), some (.inl m), some (.inr (.inr 11))] [] h none _
  refine x_ldR rfl rfl (ble_1 ha) ?_
  refine x_ldI rfl rfl ?_
  refine x_ldI rfl rfl ?_
  refine x_ldR rfl rfl rfl ?_
  refine x_callV0 rfl rfl rfl rfl ha hg rfl (n_28 ha rfl hg) ?_
  exact x_retV rfl rfl
theorem n_16_1 {d a : Nat} {h : mH} {n m x0 x1 : Int} {r : Nat} (ha : Nat.ble 10 a = true) (hg : h.2.2 a = some (.inl (1, [.inl x0, .inl x1, .inr (.inr r)]))) : Call (d + 2) 16 [.inr (.inr a), .inl n, .inl m, .inr (.inr 11)] h none (h.1, h.2.1, mup h.2.2 a (eo 1 [.inl n, .inl m, .inr (.inr 11)])) := by
  refine ⟨Nat.le_of_ble_eq_true rfl, ?_⟩
  show Run (d + 2) 16 0 [some (.inr (.inr a)), some (.inl n), some (.inl m), some (.inr (.inr 11))] [] h none _
  refine x_ldR rfl rfl (ble_1 ha) ?_
  refine x_ldI rfl rfl ?_
  refine x_ldI rfl rfl ?_
  refine x_ldR rfl rfl rfl ?_
  refine x_callV0 rfl rfl rfl rfl ha hg rfl (n_28 ha rfl hg) ?_
  exact x_retV rfl rfl
theorem n_79_8 {d a : Nat} {h : mH} {n m x0 x1 : Int} {r : Nat} (ha : Nat.ble 10 a = true) (hg : h.2.2 a = some (.inl (8, [.inl x0, .inl x1, .inr (.inr r)]))) : Call (d + 2) 79 [.inr (.inr a), .inl n, .inl m, .inr (.inr 11)] h none (h.1, h.2.1, mup h.2.2 a (eo 8 [.inl n, .inl m, .inr (.inr 11)])) := by
  refine ⟨Nat.le_of_ble_eq_true rfl, ?_⟩
  show Run (d + 2) 79 0 [some (.inr (.inr a)), some (.inl n), some (.inl m), some (.inr (.inr 11))] [] h none _
  refine x_ldR rfl rfl (ble_1 ha) ?_
  refine x_ldI rfl rfl ?_
  refine x_ldI rfl rfl ?_
  refine x_ldR rfl rfl rfl ?_
  refine x_callV0 rfl rfl rfl rfl ha hg rfl (n_28 ha rfl hg) ?_
  exact x_retV rfl rfl
theorem n_95_0 {d a : Nat} {h : mH} {n m x0 x1 : Int} {r : Nat} (ha : Nat.ble 10 a = true) (hg : h.2.2 a = some (.inl (0, [.inl x0, .inl x1, .inr (.inr r)]))) : Call (d + 2) 95 [.inr (.inr a), .inl n, .inl m, .inr (.inr 11)] h none (h.1, h.2.1, mup h.2.2 a (eo 0 [.inl n, .inl m, .inr (.inr 11)])) := by
  refine ⟨Nat.le_of_ble_eq_true rfl, ?_⟩
  show Run (d + 2) 95 0 [some (.inr (.inr a)), some (.inl n), some (.inl m), some (.inr (.inr 11))] [] h none _
  refine x_ldR rfl rfl (ble_1 ha) ?_
  refine x_ldI rfl rfl ?_
  refine x_ldI rfl rfl ?_
  refine x_ldR rfl rfl rfl ?_
  refine x_callV0 rfl rfl rfl rfl ha hg rfl (n_28 ha rfl hg) ?_
  exact x_retV rfl rfl
theorem n_11_0 {d a : Nat} {h : mH} {n m x0 x1 : Int} {r : Nat} (ha : Nat.ble 10 a = true) (hg : h.2.2 a = some (.inl (0, [.inl x0, .inl x1, .inr (.inr r)]))) : Call (d + 3) 11 [.inr (.inr a), .inl n, .inl m, .inr (.inr 11)] h none (h.1, h.2.1, mup h.2.2 a (eo 0 [.inl n, .inl m, .inr (.inr 11)])) := by
  refine ⟨Nat.le_of_ble_eq_true rfl, ?_⟩
  show Run (d + 3) 11 0 [some (.inr (.inr a)), some (.inl n), some (.inl m), some (.inr (.inr 11))] [] h none _
  refine x_ldR rfl rfl (ble_1 ha) ?_
  refine x_ldI rfl rfl ?_
  refine x_ldI rfl rfl ?_
  refine x_ldR rfl rfl rfl ?_
  refine x_callV0 rfl rfl rfl rfl ha hg rfl (n_95_0 ha hg) ?_
  exact x_retV rfl rfl
theorem n_16_7 {d a : Nat} {h : mH} {n m x0 x1 : Int} {r : Nat} (ha : Nat.ble 10 a = true) (hg : h.2.2 a = some (.inl (7, [.inl x0, .inl x1, .inr (.inr r)]))) : Call (d + 2) 16 [.inr (.inr a), .inl n, .inl m, .inr (.inr 11)] h none (h.1, h.2.1, mup h.2.2 a (eo 7 [.inl n, .inl m, .inr (.inr 11)])) := by
  refine ⟨Nat.le_of_ble_eq_true rfl, ?_⟩
  show Run (d + 2) 16 0 [some (.inr (.inr a)), some (.inl n), some (.inl m), some (.inr (.inr 11))] [] h none _
  refine x_ldR rfl rfl (ble_1 ha) ?_
  refine x_ldI rfl rfl ?_
  refine x_ldI rfl rfl ?_
  refine x_ldR rfl rfl rfl ?_
  refine x_callV0 rfl rfl rfl rfl ha hg rfl (n_28 ha rfl hg) ?_
  exact x_retV rfl rfl
theorem n_73_7 {d a : Nat} {h : mH} {n m x0 x1 : Int} {r : Nat} (ha : Nat.ble 10 a = true) (hg : h.2.2 a = some (.inl (7, [.inl x0, .inl x1, .inr (.inr r)]))) : Call (d + 3) 73 [.inr (.inr a), .inl n, .inl m, .inr (.inr 11)] h none (h.1, h.2.1, mup h.2.2 a (eo 7 [.inl n, .inl m, .inr (.inr 11)])) := by
  refine ⟨Nat.le_of_ble_eq_true rfl, ?_⟩
  show Run (d + 3) 73 0 [some (.inr (.inr a)), some (.inl n), some (.inl m), some (.inr (.inr 11))] [] h none _
  refine x_ldR rfl rfl (ble_1 ha) ?_
  refine x_ldI rfl rfl ?_
  refine x_ldI rfl rfl ?_
  refine x_ldR rfl rfl rfl ?_
  refine x_callV0 rfl rfl rfl rfl ha hg rfl (n_16_7 ha hg) ?_
  exact x_retV rfl rfl
theorem n_79_2 {d a : Nat} {h : mH} {n m x0 x1 : Int} {r : Nat} (ha : Nat.ble 10 a = true) (hg : h.2.2 a = some (.inl (2, [.inl x0, .inl x1, .inr (.inr r)]))) : Call (d + 2) 79 [.inr (.inr a), .inl n, .inl m, .inr (.inr 11)] h none (h.1, h.2.1, mup h.2.2 a (eo 2 [.inl n, .inl m, .inr (.inr 11)])) := by
  refine ⟨Nat.le_of_ble_eq_true rfl, ?_⟩
  show Run (d + 2) 79 0 [some (.inr (.inr a)), some (.inl n), some (.inl m), some (.inr (.inr 11))] [] h none _
  refine x_ldR rfl rfl (ble_1 ha) ?_
  refine x_ldI rfl rfl ?_
  refine x_ldI rfl rfl ?_
  refine x_ldR rfl rfl rfl ?_
  refine x_callV0 rfl rfl rfl rfl ha hg rfl (n_28 ha rfl hg) ?_
  exact x_retV rfl rfl
theorem n_22_2 {d a : Nat} {h : mH} {n m x0 x1 : Int} {r : Nat} (ha : Nat.ble 10 a = true) (hg : h.2.2 a = some (.inl (2, [.inl x0, .inl x1, .inr (.inr r)]))) : Call (d + 3) 22 [.inr (.inr a), .inl n, .inl m, .inr (.inr 11)] h none (h.1, h.2.1, mup h.2.2 a (eo 2 [.inl n, .inl m, .inr (.inr 11)])) := by
  refine ⟨Nat.le_of_ble_eq_true rfl, ?_⟩
  show Run (d + 3) 22 0 [some (.inr (.inr a)), some (.inl n), some (.inl m), some (.inr (.inr 11))] [] h none _
  refine x_ldR rfl rfl (ble_1 ha) ?_
  refine x_ldI rfl rfl ?_
  refine x_ldI rfl rfl ?_
  refine x_ldR rfl rfl rfl ?_
  refine x_callV0 rfl rfl rfl rfl ha hg rfl (n_79_2 ha hg) ?_
  exact x_retV rfl rfl
theorem k_lampOf {d : Nat} {s : mSt} {km n : Int} (hk : 0 ≤ km ∧ km ≤ 69) (h0 : 0 ≤ s 0 0) : CR (d + 4) 151 [.inl km, .inl n, .inr (.inr 11)] s (fun v s1 => v = 164 + (s 0 0).toNat ∧ s1 = newL s (kc (km / 10)) n (km % 10)) := by
  refine ⟨_, _, ⟨Nat.le_of_ble_eq_true rfl, ?_⟩, rfl, rfl⟩
  have ha : Nat.ble 10 (164 + (s 0 0).toNat) = true := Nat.ble_eq_true_of_le (by omega)
  show Run (d + 4) 151 0 [some (.inl km), some (.inl n), some (.inr (.inr 11)), none] [] (encA s) _ _
  refine x_ldI rfl rfl ?_
  refine x_push rfl ?_
  refine x_div rfl (by decide) ?_
  rw [m_rem_pos (by omega) (by omega)]
  refine x_StI_4_3 rfl rfl ?_
  refine x_ldI rfl rfl ?_
  refine x_push rfl ?_
  refine x_div rfl (by decide) ?_
  rw [m_div_pos (by omega) (by omega)]
  obtain h | h | h | h | h | h | h := (by omega : km / 10 = 1 ∨ km / 10 = 2 ∨ km / 10 = 3 ∨ km / 10 = 4 ∨ km / 10 = 5 ∨ km / 10 = 6 ∨ km / 10 = 0)
  · refine x_sw (tg := 8) rfl (by rw [w32_id (by omega) (by omega), h]; rfl) ?_
    refine x_new rfl ?_
    refine x_dupR rfl ?_
    refine x_ldI rfl rfl ?_
    refine x_ldI rfl rfl ?_
    refine x_ldR rfl rfl rfl ?_
    refine x_callV0 rfl rfl rfl rfl ha (mup_eq _ _ _) rfl (n_95_10 ha (mup_eq _ _ _)) ?_
    refine x_retR rfl (ble_1 ha) rfl ?_
    rw [h]
    exact encA_new h0
  · refine x_sw (tg := 15) rfl (by rw [w32_id (by omega) (by omega), h]; rfl) ?_
    refine x_new rfl ?_
    refine x_dupR rfl ?_
    refine x_ldI rfl rfl ?_
    refine x_ldI rfl rfl ?_
    refine x_ldR rfl rfl rfl ?_
    refine x_callV0 rfl rfl rfl rfl ha (mup_eq _ _ _) rfl (n_16_1 ha (mup_eq _ _ _)) ?_
    refine x_retR rfl (ble_1 ha) rfl ?_
    rw [h]
    exact encA_new h0
  · refine x_sw (tg := 22) rfl (by rw [w32_id (by omega) (by omega), h]; rfl) ?_
    refine x_new rfl ?_
    refine x_dupR rfl ?_
    refine x_ldI rfl rfl ?_
    refine x_ldI rfl rfl ?_
    refine x_ldR rfl rfl rfl ?_
    refine x_callV0 rfl rfl rfl rfl ha (mup_eq _ _ _) rfl (n_79_8 ha (mup_eq _ _ _)) ?_
    refine x_retR rfl (ble_1 ha) rfl ?_
    rw [h]
    exact encA_new h0
  · refine x_sw (tg := 29) rfl (by rw [w32_id (by omega) (by omega), h]; rfl) ?_
    refine x_new rfl ?_
    refine x_dupR rfl ?_
    refine x_ldI rfl rfl ?_
    refine x_ldI rfl rfl ?_
    refine x_ldR rfl rfl rfl ?_
    refine x_callV0 rfl rfl rfl rfl ha (mup_eq _ _ _) rfl (n_11_0 ha (mup_eq _ _ _)) ?_
    refine x_retR rfl (ble_1 ha) rfl ?_
    rw [h]
    exact encA_new h0
  · refine x_sw (tg := 36) rfl (by rw [w32_id (by omega) (by omega), h]; rfl) ?_
    refine x_new rfl ?_
    refine x_dupR rfl ?_
    refine x_ldI rfl rfl ?_
    refine x_ldI rfl rfl ?_
    refine x_ldR rfl rfl rfl ?_
    refine x_callV0 rfl rfl rfl rfl ha (mup_eq _ _ _) rfl (n_73_7 ha (mup_eq _ _ _)) ?_
    refine x_retR rfl (ble_1 ha) rfl ?_
    rw [h]
    exact encA_new h0
  · refine x_sw (tg := 43) rfl (by rw [w32_id (by omega) (by omega), h]; rfl) ?_
    refine x_new rfl ?_
    refine x_dupR rfl ?_
    refine x_ldI rfl rfl ?_
    refine x_ldI rfl rfl ?_
    refine x_ldR rfl rfl rfl ?_
    refine x_callV0 rfl rfl rfl rfl ha (mup_eq _ _ _) rfl (n_22_2 ha (mup_eq _ _ _)) ?_
    refine x_retR rfl (ble_1 ha) rfl ?_
    rw [h]
    exact encA_new h0
  · refine x_sw (tg := 50) rfl (by rw [w32_id (by omega) (by omega), h]; rfl) ?_
    refine x_new rfl ?_
    refine x_dupR rfl ?_
    refine x_ldI rfl rfl ?_
    refine x_ldI rfl rfl ?_
    refine x_ldR rfl rfl rfl ?_
    refine x_callV0 rfl rfl rfl rfl ha (mup_eq _ _ _) rfl (n_28 ha rfl (mup_eq _ _ _)) ?_
    refine x_retR rfl (ble_1 ha) rfl ?_
    rw [h]
    exact encA_new h0
theorem VN13.fr2 {s s1 : mSt} {D : Nat → Int} (hx : ∀ x, 1 ≤ x → x < 164 → s1 x = s x) (hl : ∀ r k n m, LampAt s r k n m → LampAt s1 r k n m) (hV : VN13 s D) : VN13 s1 D := by
  obtain ⟨vc, vpl, vga, vse, vne, veg, vre, vtu, vta, vwa, v36, v37, v39, v40, v42, v41, v43, v44, vl0, vl1, vlm⟩ := hV
  exact ⟨fun i h1 h2 => by rw [hx 14 (by decide) (by decide)]; exact vc i h1 h2,
    fun i h1 h2 => by rw [hx 16 (by decide) (by decide)]; exact vpl i h1 h2,
    fun i h1 h2 => by rw [hx 17 (by decide) (by decide)]; exact vga i h1 h2,
    fun i h1 h2 => by rw [hx 18 (by decide) (by decide)]; exact vse i h1 h2,
    fun i h1 h2 => by rw [hx 19 (by decide) (by decide)]; exact vne i h1 h2,
    fun i h1 h2 => by rw [hx 20 (by decide) (by decide)]; exact veg i h1 h2,
    fun i h1 h2 => by rw [hx 21 (by decide) (by decide)]; exact vre i h1 h2,
    fun i h1 h2 => by rw [hx 23 (by decide) (by decide)]; exact vtu i h1 h2,
    fun i h1 h2 => by rw [hx 25 (by decide) (by decide)]; exact vta i h1 h2,
    fun i h1 h2 => by rw [hx 27 (by decide) (by decide)]; exact vwa i h1 h2,
    by rw [hx 13 (by decide) (by decide)]; exact v36,
    by rw [hx 13 (by decide) (by decide)]; exact v37,
    by rw [hx 13 (by decide) (by decide)]; exact v39,
    by rw [hx 13 (by decide) (by decide)]; exact v40,
    by rw [hx 13 (by decide) (by decide)]; exact v42,
    by rw [hx 22 (by decide) (by decide)]; exact v41,
    by rw [hx 24 (by decide) (by decide)]; exact v43,
    by rw [hx 26 (by decide) (by decide)]; exact v44,
    vl0.cg (by omega) (hx 35 (by decide) (by decide)) (hx 36 (by decide) (by decide)) (hx 37 (by decide) (by decide)) (fun _ _ _ _ => rfl),
    vl1.cg (by omega) (hx 43 (by decide) (by decide)) (hx 44 (by decide) (by decide)) (hx 45 (by decide) (by decide)) (fun _ _ _ _ => rfl),
    fun i h1 h2 => by rw [hx 15 (by decide) (by decide)]; exact hl _ _ _ _ (vlm i h1 h2)⟩
theorem VN51.fr2 {s s1 : mSt} {D : Nat → Int} (hx : ∀ x, 1 ≤ x → x < 164 → s1 x = s x) (hl : ∀ r k n m, LampAt s r k n m → LampAt s1 r k n m) (hV : VN51 s D) : VN51 s1 D := by
  obtain ⟨vc, vpl, vga, vse, vne, veg, vre, vtu, vta, vwa, v36, v37, v39, v40, v42, v41, v43, v44, vl0, vl1, vlm⟩ := hV
  exact ⟨fun i h1 h2 => by rw [hx 52 (by decide) (by decide)]; exact vc i h1 h2,
    fun i h1 h2 => by rw [hx 54 (by decide) (by decide)]; exact vpl i h1 h2,
    fun i h1 h2 => by rw [hx 55 (by decide) (by decide)]; exact vga i h1 h2,
    fun i h1 h2 => by rw [hx 56 (by decide) (by decide)]; exact vse i h1 h2,
    fun i h1 h2 => by rw [hx 57 (by decide) (by decide)]; exact vne i h1 h2,
    fun i h1 h2 => by rw [hx 58 (by decide) (by decide)]; exact veg i h1 h2,
    fun i h1 h2 => by rw [hx 59 (by decide) (by decide)]; exact vre i h1 h2,
    fun i h1 h2 => by rw [hx 61 (by decide) (by decide)]; exact vtu i h1 h2,
    fun i h1 h2 => by rw [hx 63 (by decide) (by decide)]; exact vta i h1 h2,
    fun i h1 h2 => by rw [hx 65 (by decide) (by decide)]; exact vwa i h1 h2,
    by rw [hx 51 (by decide) (by decide)]; exact v36,
    by rw [hx 51 (by decide) (by decide)]; exact v37,
    by rw [hx 51 (by decide) (by decide)]; exact v39,
    by rw [hx 51 (by decide) (by decide)]; exact v40,
    by rw [hx 51 (by decide) (by decide)]; exact v42,
    by rw [hx 60 (by decide) (by decide)]; exact v41,
    by rw [hx 62 (by decide) (by decide)]; exact v43,
    by rw [hx 64 (by decide) (by decide)]; exact v44,
    vl0.cg (by omega) (hx 73 (by decide) (by decide)) (hx 74 (by decide) (by decide)) (hx 75 (by decide) (by decide)) (fun _ _ _ _ => rfl),
    vl1.cg (by omega) (hx 81 (by decide) (by decide)) (hx 82 (by decide) (by decide)) (hx 83 (by decide) (by decide)) (fun _ _ _ _ => rfl),
    fun i h1 h2 => by rw [hx 53 (by decide) (by decide)]; exact hl _ _ _ _ (vlm i h1 h2)⟩
theorem VN13.set_lamp {s : mSt} {D : Nat → Int} {w a k m : Int} (hV : VN13 s D) (hw : 0 ≤ w ∧ w < 6) (hl : LampAt s a k w m) : VN13 (us s 15 w.toNat a) (mup (mup D (45 + 4 * w + 0).toNat k) (45 + 4 * w + 1).toNat m) := by
  obtain ⟨vc, vpl, vga, vse, vne, veg, vre, vtu, vta, vwa, v36, v37, v39, v40, v42, v41, v43, v44, vl0, vl1, vlm⟩ := hV
  exact ⟨fun i h1 h2 => by rw [us_ne (by decide), mup_ne (by omega), mup_ne (by omega)]; exact vc i h1 h2,
    fun i h1 h2 => by rw [us_ne (by decide), mup_ne (by omega), mup_ne (by omega)]; exact vpl i h1 h2,
    fun i h1 h2 => by rw [us_ne (by decide), mup_ne (by omega), mup_ne (by omega)]; exact vga i h1 h2,
    fun i h1 h2 => by rw [us_ne (by decide), mup_ne (by omega), mup_ne (by omega)]; exact vse i h1 h2,
    fun i h1 h2 => by rw [us_ne (by decide), mup_ne (by omega), mup_ne (by omega)]; exact vne i h1 h2,
    fun i h1 h2 => by rw [us_ne (by decide), mup_ne (by omega), mup_ne (by omega)]; exact veg i h1 h2,
    fun i h1 h2 => by rw [us_ne (by decide), mup_ne (by omega), mup_ne (by omega)]; exact vre i h1 h2,
    fun i h1 h2 => by rw [mup_ne (by omega), mup_ne (by omega)] at h2; rw [us_ne (by decide), mup_ne (by omega), mup_ne (by omega)]; exact vtu i h1 h2,
    fun i h1 h2 => by rw [mup_ne (by omega), mup_ne (by omega)] at h2; rw [us_ne (by decide), mup_ne (by omega), mup_ne (by omega)]; exact vta i h1 h2,
    fun i h1 h2 => by rw [mup_ne (by omega), mup_ne (by omega)] at h2; rw [us_ne (by decide), mup_ne (by omega), mup_ne (by omega)]; exact vwa i h1 h2,
    by rw [us_ne (by decide), mup_ne (by omega), mup_ne (by omega)]; exact v36,
    by rw [us_ne (by decide), mup_ne (by omega), mup_ne (by omega)]; exact v37,
    by rw [us_ne (by decide), mup_ne (by omega), mup_ne (by omega)]; exact v39,
    by rw [us_ne (by decide), mup_ne (by omega), mup_ne (by omega)]; exact v40,
    by rw [us_ne (by decide), mup_ne (by omega), mup_ne (by omega)]; exact v42,
    by rw [us_ne (by decide), mup_ne (by omega), mup_ne (by omega)]; exact v41,
    by rw [us_ne (by decide), mup_ne (by omega), mup_ne (by omega)]; exact v43,
    by rw [us_ne (by decide), mup_ne (by omega), mup_ne (by omega)]; exact v44,
    vl0.cg (by omega) (us_ne (by decide)) (us_ne (by decide)) (us_ne (by decide)) (fun j h1 h2 h3 => by rw [mup_ne (by omega), mup_ne (by omega)]),
    vl1.cg (by omega) (us_ne (by decide)) (us_ne (by decide)) (us_ne (by decide)) (fun j h1 h2 h3 => by rw [mup_ne (by omega), mup_ne (by omega)]),
    fun i h1 h2 => by
      by_cases e : i = w
      · subst e
        rw [us_eq, mup_eq, mup_ne (show (45 + 4 * i + 0).toNat ≠ (45 + 4 * i + 1).toNat by omega), mup_eq, mup_eq]
        exact LampAt.fr rfl (Fr.us (A := [15]) rfl) hl
      · rw [us_eq, mup_ne (show i.toNat ≠ w.toNat by omega), mup_ne (show (45 + 4 * i + 0).toNat ≠ (45 + 4 * w + 1).toNat by omega), mup_ne (show (45 + 4 * i + 0).toNat ≠ (45 + 4 * w + 0).toNat by omega), mup_ne (show (45 + 4 * i + 1).toNat ≠ (45 + 4 * w + 1).toNat by omega), mup_ne (show (45 + 4 * i + 1).toNat ≠ (45 + 4 * w + 0).toNat by omega)]
        exact LampAt.fr rfl (Fr.us (A := [15]) rfl) (vlm i h1 h2)⟩
theorem kc_nn (k : Int) : (0 : Int) ≤ (kc k : Int) := by omega
theorem Inv.lamp {s t s1 : mSt} {X : Nat → Int} {N : Int} {cnt : Int} {n m k : Int} {A : List Nat} (hA : A.all (fun x => !([0, 1, 10, 11, 12, 131, 132, 138, 139, 140, 141, 142, 143, 144, 145, 146, 149, 150, 159, 160, 161, 162, 73, 81, 111, 119].contains x)) = true) (h51 : A.all (fun x => !(vad51 x)) = true) (ht : t = newL s (kc k) n m) (hf : Fr A t s1) (hD : IvD s1) (hT : IvT s1) (h : Inv X N s cnt) : Inv X N s1 (cnt + 1) := by
  obtain ⟨a1, a2, a3, a4, a5, a6, a7, a8, a9⟩ := h
  have h0 := a7.1
  have hx : ∀ x, 1 ≤ x → x < 164 → t x = s x := fun x h1 h2 => by rw [ht]; exact newL_low h1 h2
  have hl : ∀ r k n m, LampAt s r k n m → LampAt t r k n m := fun r k n m h => by rw [ht]; exact h.new h0 (kc_nn _)
  have no : ∀ x, [0, 1, 10, 11, 12, 131, 132, 138, 139, 140, 141, 142, 143, 144, 145, 146, 149, 150, 159, 160, 161, 162, 73, 81, 111, 119].contains x = true → A.contains x = false := fun x hx => ndj hA hx
  have XX : ∀ x, 1 ≤ x → x < 164 → [0, 1, 10, 11, 12, 131, 132, 138, 139, 140, 141, 142, 143, 144, 145, 146, 149, 150, 159, 160, 161, 162, 73, 81, 111, 119].contains x = true → s1 x = s x := fun x h1 h2 h3 => (hf.at x (no x h3)).trans (hx x h1 h2)
  refine ⟨hD, ?_, ?_, ?_, ?_, hT, ?_, ?_, ?_⟩
  · obtain ⟨b1, b2, b3, b4⟩ := a2
    have e51 : s1 51 = t 51 := hf.at 51 (by
      cases hc : A.contains 51
      · rfl
      · have := List.all_eq_true.mp h51 51 (by simpa using hc)
        cases this)
    unfold IvI
    rw [XX 10 (by decide) (by decide) rfl, XX 146 (by decide) (by decide) rfl, XX 149 (by decide) (by decide) rfl, e51, hx 51 (by decide) (by decide)]
    exact ⟨b1, b2, by omega, fun q => ⟨(b4 q).1, ((b4 q).2.1.fr2 hx hl).fr h51 hf, (b4 q).2.2⟩⟩
  · intro q h1 h2
    rw [XX 132 (by decide) (by decide) rfl, XX 150 (by decide) (by decide) rfl]
    exact a3 q h1 h2
  · unfold IvR
    rw [XX 11 (by decide) (by decide) rfl, XX 12 (by decide) (by decide) rfl, XX 146 (by decide) (by decide) rfl, XX 159 (by decide) (by decide) rfl]
    exact a4
  · unfold IvS ShR
    rw [XX 131 (by decide) (by decide) rfl, XX 138 (by decide) (by decide) rfl, XX (138 + 1) (by decide) (by decide) rfl, XX 140 (by decide) (by decide) rfl, XX (140 + 1) (by decide) (by decide) rfl, XX 142 (by decide) (by decide) rfl, XX (142 + 1) (by decide) (by decide) rfl, XX 144 (by decide) (by decide) rfl, XX (144 + 1) (by decide) (by decide) rfl, XX 160 (by decide) (by decide) rfl, XX 161 (by decide) (by decide) rfl, XX 162 (by decide) (by decide) rfl]
    exact a5
  · unfold IvL
    rw [hf.at 0 (no 0 rfl), ht, newL_0, mup_eq]
    have := a7.2
    omega
  · unfold IvX
    rw [XX 1 (by decide) (by decide) rfl, hf.at 0 (no 0 rfl), ht, newL_0, mup_ne (by decide)]
    exact a8
  · unfold IvU
    rw [XX 73 (by decide) (by decide) rfl, XX 81 (by decide) (by decide) rfl, XX 111 (by decide) (by decide) rfl, XX 119 (by decide) (by decide) rfl]
    exact a9
theorem x_window_y {d : Nat} {s : mSt} (hI : IvD s) {km c : Int} (hrkm : -2147483648 ≤ km ∧ km < 2147483648) (hrc : -2147483648 ≤ c ∧ c < 2147483648) (h00 : 0 ≤ s 0 0) (hy : (0 ≤ km ∧ km ≤ 69) ∧ 0 ≤ c ∧ c ≤ 35) (h6 : ¬ s 147 39 = 6) : CI (d + 5) 103 [.inr (.inr 10), .inl km, .inl c] (s) (fun r s1 => r = s 147 39 ∧ ∃ (a : Nat) (t : mSt), a = 164 + (s 0 0).toNat ∧ t = newL s (kc (km / 10)) (s 147 39) (km % 10) ∧ LampA t a (km / 10) (s 147 39) (km % 10) ∧ s1 = us (us (us (us t 15 (s 147 39).toNat a) 16 (s 147 39).toNat c) 17 (s 147 39).toNat 0) 13 5 (s 147 39 + 1)) := by
  refine CI.mk rfl ?_
  show WP (d + 5) 103 0 [some (.inr (.inr 10)), some (.inl km), some (.inl c), none] [] (encA (s)) _
  have hI0 := hI
  obtain ⟨⟨hM, hC, hN⟩, hV, h8⟩ := hI
  have hV0 := hV
  have hM0 := hM
  obtain ⟨vc, vpl, vga, vse, vne, veg, vre, vtu, vta, vwa, v36, v37, v39, v40, v42, v41, v43, v44, vl0, vl1, vlm⟩ := hV
  obtain ⟨hM39, hM40, hM41, hM43, hM44, hM36, hM37, hM38, hMc, hMw, hMp, hMt, hMb⟩ := hM
  refine w_ldI rfl rfl ?_
  refine w_call rfl rfl rfl (k_isLamp (by omega)) ?_
  refine w_bEq0 rfl (fun b2 => ?_) (fun b2 => ?_)
  · first
    | (exfalso; omega)
    | (refine w_ldR rfl rfl rfl ?_
       refine w_push rfl ?_
       refine w_callWI rfl rfl rfl rfl rfl rfl rfl k_error1 (fun v8 s8 p8 => ?_)
       obtain ⟨rfl, rfl⟩ := p8
       refine w_retI rfl ?_
       exact ⟨rfl, v31, s31, ea, es, hn31, rfl⟩)
  · first
    | (exfalso; omega)
    | (refine w_ldI rfl rfl ?_
       refine w_call rfl rfl rfl (k_isCell (by omega)) ?_
       refine w_bNe0 rfl (fun b5 => ?_) (fun b5 => ?_)
       · first
         | (exfalso; omega)
         | (refine w_ldR rfl rfl rfl ?_
            first | refine w_getI rfl rfl rfl rfl rfl ?_ | refine w_getR rfl rfl rfl rfl rfl ?_
            first | refine w_getI rfl rfl rfl rfl rfl ?_ | refine w_getR rfl rfl rfl rfl rfl ?_
            refine w_push rfl ?_
            refine w_crLt rfl (by omega) (by omega) (fun b14 => ?_) (fun b14 => ?_)
            · first
              | (exfalso; omega)
              | (refine w_ldR rfl rfl rfl ?_
                 first | refine w_getI rfl rfl rfl rfl rfl ?_ | refine w_getR rfl rfl rfl rfl rfl ?_
                 first | refine w_getI rfl rfl rfl rfl rfl ?_ | refine w_getR rfl rfl rfl rfl rfl ?_
                 rw [v39]
                 refine w_StI_4_3 rfl rfl ?_
                 refine w_ldR rfl rfl rfl ?_
                 first | refine w_getI rfl rfl rfl rfl rfl ?_ | refine w_getR rfl rfl rfl rfl rfl ?_
                 first | refine w_getI rfl rfl rfl rfl rfl ?_ | refine w_getR rfl rfl rfl rfl rfl ?_
                 refine w_ldI rfl rfl ?_
                 refine w_ldI rfl rfl ?_
                 refine w_ldI rfl rfl ?_
                 refine w_ldR rfl rfl rfl ?_
                 first | refine w_getI rfl rfl rfl rfl rfl ?_ | refine w_getR rfl rfl rfl rfl rfl ?_
                 refine w_callR rfl rfl rfl (k_lampOf (by omega) h00) (fun v31 s31 p31 => ?_)
                 obtain ⟨ea, es⟩ := p31
                 have hx31 : ∀ x, 1 ≤ x → x < 164 → s31 x = s x := fun x h1 h2 => by rw [es]; exact newL_low h1 h2
                 have hn31 : LampA s31 v31 (km / 10) (s 147 39) (km % 10) := by rw [ea, es]; exact newL_lamp h00
                 refine w_rstL rfl rfl rfl hn31.1 hn31.2 (kc_all _) (by omega) rfl ?_
                 refine w_ldR rfl rfl rfl ?_
                 first | refine w_getI rfl rfl rfl rfl rfl ?_ | refine w_getR rfl rfl rfl rfl rfl ?_
                 first | refine w_getI rfl rfl rfl rfl rfl ?_ | refine w_getR rfl rfl rfl rfl rfl ?_
                 refine w_ldI rfl rfl ?_
                 refine w_ldI rfl rfl ?_
                 refine w_ast rfl rfl rfl (by omega) rfl ?_
                 refine w_ldR rfl rfl rfl ?_
                 first | refine w_getI rfl rfl rfl rfl rfl ?_ | refine w_getR rfl rfl rfl rfl rfl ?_
                 first | refine w_getI rfl rfl rfl rfl rfl ?_ | refine w_getR rfl rfl rfl rfl rfl ?_
                 refine w_ldI rfl rfl ?_
                 refine w_push rfl ?_
                 refine w_ast rfl rfl rfl (by omega) rfl ?_
                 refine w_ldR rfl rfl rfl ?_
                 first | refine w_getI rfl rfl rfl rfl rfl ?_ | refine w_getR rfl rfl rfl rfl rfl ?_
                 first | refine w_dupI rfl ?_ | refine w_dupR rfl ?_
                 first | refine w_getI rfl rfl rfl rfl rfl ?_ | refine w_getR rfl rfl rfl rfl rfl ?_
                 rw [us_ne (by decide), us_ne (by decide), us_ne (by decide), hx31 13 (by decide) (by decide), v39]
                 refine w_push rfl ?_
                 refine w_add rfl ?_
                 refine w_putI rfl rfl rfl rfl rfl rfl rfl ?_
                 refine w_ldI rfl rfl ?_
                 refine w_retI rfl ?_
                 exact ⟨rfl, v31, s31, ea, es, hn31, rfl⟩)
            · first
              | (exfalso; omega)
              | (refine w_ldR rfl rfl rfl ?_
                 refine w_push rfl ?_
                 refine w_callWI rfl rfl rfl rfl rfl rfl rfl k_error1 (fun v17 s17 p17 => ?_)
                 obtain ⟨rfl, rfl⟩ := p17
                 refine w_retI rfl ?_
                 exact ⟨rfl, v31, s31, ea, es, hn31, rfl⟩))
       · first
         | (exfalso; omega)
         | (refine w_ldR rfl rfl rfl ?_
            refine w_push rfl ?_
            refine w_callWI rfl rfl rfl rfl rfl rfl rfl k_error1 (fun v8 s8 p8 => ?_)
            obtain ⟨rfl, rfl⟩ := p8
            refine w_retI rfl ?_
            exact ⟨rfl, v31, s31, ea, es, hn31, rfl⟩))
theorem x_window_n {d : Nat} {s : mSt} (hI : IvD s) {km c : Int} (hrkm : -2147483648 ≤ km ∧ km < 2147483648) (hrc : -2147483648 ≤ c ∧ c < 2147483648) (hy : ¬ ((0 ≤ km ∧ km ≤ 69) ∧ 0 ≤ c ∧ c ≤ 35)) : CI (d + 5) 103 [.inr (.inr 10), .inl km, .inl c] (s) (fun r s1 => r = -1000000000 - 1 ∧ s1 = us s 132 1 (s 132 1 + 1)) := by
  refine CI.mk rfl ?_
  show WP (d + 5) 103 0 [some (.inr (.inr 10)), some (.inl km), some (.inl c), none] [] (encA (s)) _
  have hI0 := hI
  obtain ⟨⟨hM, hC, hN⟩, hV, h8⟩ := hI
  have hV0 := hV
  have hM0 := hM
  obtain ⟨vc, vpl, vga, vse, vne, veg, vre, vtu, vta, vwa, v36, v37, v39, v40, v42, v41, v43, v44, vl0, vl1, vlm⟩ := hV
  obtain ⟨hM39, hM40, hM41, hM43, hM44, hM36, hM37, hM38, hMc, hMw, hMp, hMt, hMb⟩ := hM
  refine w_ldI rfl rfl ?_
  refine w_call rfl rfl rfl (k_isLamp (by omega)) ?_
  refine w_bEq0 rfl (fun b2 => ?_) (fun b2 => ?_)
  · first
    | (exfalso; omega)
    | (refine w_ldR rfl rfl rfl ?_
       refine w_push rfl ?_
       refine w_callWI rfl rfl rfl rfl rfl rfl rfl k_error1 (fun v8 s8 p8 => ?_)
       obtain ⟨rfl, rfl⟩ := p8
       refine w_retI rfl ?_
       exact ⟨rfl, rfl⟩)
  · first
    | (exfalso; omega)
    | (refine w_ldI rfl rfl ?_
       refine w_call rfl rfl rfl (k_isCell (by omega)) ?_
       refine w_bNe0 rfl (fun b5 => ?_) (fun b5 => ?_)
       · first
         | (exfalso; omega)
         | (exfalso; omega)
       · first
         | (exfalso; omega)
         | (refine w_ldR rfl rfl rfl ?_
            refine w_push rfl ?_
            refine w_callWI rfl rfl rfl rfl rfl rfl rfl k_error1 (fun v8 s8 p8 => ?_)
            obtain ⟨rfl, rfl⟩ := p8
            refine w_retI rfl ?_
            exact ⟨rfl, rfl⟩))
theorem x_window_f {d : Nat} {s : mSt} (hI : IvD s) {km c : Int} (hrkm : -2147483648 ≤ km ∧ km < 2147483648) (hrc : -2147483648 ≤ c ∧ c < 2147483648) (hy : (0 ≤ km ∧ km ≤ 69) ∧ 0 ≤ c ∧ c ≤ 35) (h6 : s 147 39 = 6) : CI (d + 5) 103 [.inr (.inr 10), .inl km, .inl c] (s) (fun r s1 => r = -1000000000 - 4 ∧ s1 = us s 132 4 (s 132 4 + 1)) := by
  refine CI.mk rfl ?_
  show WP (d + 5) 103 0 [some (.inr (.inr 10)), some (.inl km), some (.inl c), none] [] (encA (s)) _
  have hI0 := hI
  obtain ⟨⟨hM, hC, hN⟩, hV, h8⟩ := hI
  have hV0 := hV
  have hM0 := hM
  obtain ⟨vc, vpl, vga, vse, vne, veg, vre, vtu, vta, vwa, v36, v37, v39, v40, v42, v41, v43, v44, vl0, vl1, vlm⟩ := hV
  obtain ⟨hM39, hM40, hM41, hM43, hM44, hM36, hM37, hM38, hMc, hMw, hMp, hMt, hMb⟩ := hM
  refine w_ldI rfl rfl ?_
  refine w_call rfl rfl rfl (k_isLamp (by omega)) ?_
  refine w_bEq0 rfl (fun b2 => ?_) (fun b2 => ?_)
  · first
    | (exfalso; omega)
    | (exfalso; omega)
  · first
    | (exfalso; omega)
    | (refine w_ldI rfl rfl ?_
       refine w_call rfl rfl rfl (k_isCell (by omega)) ?_
       refine w_bNe0 rfl (fun b5 => ?_) (fun b5 => ?_)
       · first
         | (exfalso; omega)
         | (refine w_ldR rfl rfl rfl ?_
            first | refine w_getI rfl rfl rfl rfl rfl ?_ | refine w_getR rfl rfl rfl rfl rfl ?_
            first | refine w_getI rfl rfl rfl rfl rfl ?_ | refine w_getR rfl rfl rfl rfl rfl ?_
            refine w_push rfl ?_
            refine w_crLt rfl (by omega) (by omega) (fun b14 => ?_) (fun b14 => ?_)
            · first
              | (exfalso; omega)
              | (exfalso; omega)
            · first
              | (exfalso; omega)
              | (refine w_ldR rfl rfl rfl ?_
                 refine w_push rfl ?_
                 refine w_callWI rfl rfl rfl rfl rfl rfl rfl k_error4 (fun v17 s17 p17 => ?_)
                 obtain ⟨rfl, rfl⟩ := p17
                 refine w_retI rfl ?_
                 exact ⟨rfl, rfl⟩))
       · first
         | (exfalso; omega)
         | (exfalso; omega))
theorem st_window {X : Nat → Int} {N : Int} {d : Nat} {s : mSt} {cnt : Int} (hI : Inv X N s cnt) {km c : Int} (hrkm : -2147483648 ≤ km ∧ km < 2147483648) (hrc : -2147483648 ≤ c ∧ c < 2147483648) : Step X N (d + 150) s cnt 103 197 [.inl km, .inl c] := by
  have hI0 := hI
  obtain ⟨hD, -, -, -, -, hT, -, hX, hU⟩ := hI
  have hD0 := hD
  obtain ⟨⟨hM, hC, hN⟩, hV, h8⟩ := hD
  have hV0 := hV
  have hM0 := hM
  obtain ⟨vc, vpl, vga, vse, vne, veg, vre, vtu, vta, vwa, v36, v37, v39, v40, v42, v41, v43, v44, vl0, vl1, vlm⟩ := hV
  obtain ⟨hM39, hM40, hM41, hM43, hM44, hM36, hM37, hM38, hMc, hMw, hMp, hMt, hMb⟩ := hM
  have h00 := hI0.2.2.2.2.2.2.1.1
  by_cases hy : (0 ≤ km ∧ km ≤ 69) ∧ 0 ≤ c ∧ c ≤ 35
  · by_cases h6 : s 147 39 = 6
    · obtain ⟨r1, s1, k1, hr, hs1⟩ := x_window_f (d := d + 145) hD0 hrkm hrc hy h6
      have e : s1 147 = s 147 := by rw [hs1]; exact us_ne (by decide)
      have k2 := r_window_f (d := d + 148) (s := s1) (by rw [e]; exact hM0) hrkm hrc hy (by rw [e]; exact h6)
      exact Step.mk (by first | exact ⟨(f1.at 1 rfl).trans hX.2.1, (congrFun (f1.at 0 rfl) 1).trans hX.2.2⟩ | exact ⟨hX.2.1, hX.2.2⟩ | exact ⟨by rw [hs1, us_ne (by decide)]; exact hX.2.1, by rw [hs1, us_ne (by decide)]; exact hX.2.2⟩ | exact ⟨by rw [hs1, us_ne (by decide), us_ne (by decide)]; exact hX.2.1, by rw [hs1, us_ne (by decide), us_ne (by decide)]; exact hX.2.2⟩ | exact ⟨by rw [e1, us_ne (by decide), f1.at 1 rfl]; exact hX.2.1, by rw [e1, us_ne (by decide), f1.at 0 rfl]; exact hX.2.2⟩ | exact ⟨by rw [ft.at 1 rfl, hx 1 (by decide) (by decide)]; exact hX.2.1, by rw [ft.at 0 rfl, et, newL_0, mup_ne (by decide)]; exact hX.2.2⟩) k1 k2 (by rw [hr]) (hI0.err2 hs1)
    · obtain ⟨r1, s1, k1, hr, a, t, ea, et, hla, hs1⟩ := x_window_y (d := d + 145) hD0 hrkm hrc h00 hy h6
      have hx : ∀ x, 1 ≤ x → x < 164 → t x = s x := fun x h1 h2 => by rw [et]; exact newL_low h1 h2
      have hll : ∀ r k n m, LampAt s r k n m → LampAt t r k n m := fun r k n m h => by rw [et]; exact h.new h00 (kc_nn _)
      have ft : Fr [13, 15, 16, 17] t s1 := by rw [hs1]; exact (((Fr.us rfl).tr (Fr.us rfl)).tr (Fr.us rfl)).tr (Fr.us rfl)
      have e : s1 147 = s 147 := (ft.at 147 rfl).trans (hx 147 (by decide) (by decide))
      have k2 := r_window_y (d := d + 148) (s := s1) (by rw [e]; exact hM0) hrkm hrc hy (by rw [e]; exact h6)
      rw [e] at k2
      refine Step.mk (by first | exact ⟨(f1.at 1 rfl).trans hX.2.1, (congrFun (f1.at 0 rfl) 1).trans hX.2.2⟩ | exact ⟨hX.2.1, hX.2.2⟩ | exact ⟨by rw [hs1, us_ne (by decide)]; exact hX.2.1, by rw [hs1, us_ne (by decide)]; exact hX.2.2⟩ | exact ⟨by rw [hs1, us_ne (by decide), us_ne (by decide)]; exact hX.2.1, by rw [hs1, us_ne (by decide), us_ne (by decide)]; exact hX.2.2⟩ | exact ⟨by rw [e1, us_ne (by decide), f1.at 1 rfl]; exact hX.2.1, by rw [e1, us_ne (by decide), f1.at 0 rfl]; exact hX.2.2⟩ | exact ⟨by rw [ft.at 1 rfl, hx 1 (by decide) (by decide)]; exact hX.2.1, by rw [ft.at 0 rfl, et, newL_0, mup_ne (by decide)]; exact hX.2.2⟩) k1 k2 (by rw [hr]) ?_
      generalize hs2 : ua s1 147 _ = s2
      have f2 : Fr [147] s1 s2 := by rw [← hs2]; exact Fr.ua rfl
      have hf : Fr [13, 15, 16, 17, 147] t s2 := (Fr.mono rfl ft).tr (Fr.mono rfl f2)
      have hwr : 0 ≤ s 147 39 ∧ s 147 39 < 6 := by omega
      have e2 : s2 147 = mup (mup (mup (mup (mup (s 147) (45 + 4 * s 147 39 + 0).toNat (km / 10)) (45 + 4 * s 147 39 + 1).toNat (km % 10)) (45 + 4 * s 147 39 + 2).toNat c) (45 + 4 * s 147 39 + 3).toNat 0) 39 (s 147 39 + 1) := by rw [← hs2, ua_eq]
      have hV2 : VN13 s2 _ := (((((hV0.fr2 hx hll).set_lamp (w := s 147 39) (a := (a : Int)) (k := km / 10) (m := km % 10) hwr ⟨a, rfl, by rw [ea]; unfold lampAdr; simp, hla⟩).set_vpl (p := s 147 39) (v := c) hwr).set_vga (p := s 147 39) (v := 0) hwr).set_v39 (v := s 147 39 + 1)).fr (A := [147]) (s1 := s2) rfl (by rw [← hs2, hs1]; exact Fr.ua rfl)
      refine hI0.lamp rfl rfl et hf (IvD.mk e2 (MOk_set (MOk_set (MOk_set (MOk_set (MOk_set hM0 ⟨by omega, by omega, by omega, by omega, by omega, by omega, by omega, by omega, by omega, fun w hw => ⟨by omega, by omega, by omega, by omega⟩, fun p hp => ⟨by omega, by omega, by omega, by omega⟩, fun j hj => by omega, fun j hj => by omega⟩) ⟨by omega, by omega, by omega, by omega, by omega, by omega, by omega, by omega, by omega, fun w hw => ⟨by omega, by omega, by omega, by omega⟩, fun p hp => ⟨by omega, by omega, by omega, by omega⟩, fun j hj => by omega, fun j hj => by omega⟩) ⟨by omega, by omega, by omega, by omega, by omega, by omega, by omega, by omega, by omega, fun w hw => ⟨by omega, by omega, by omega, by omega⟩, fun p hp => ⟨by omega, by omega, by omega, by omega⟩, fun j hj => by omega, fun j hj => by omega⟩) ⟨by omega, by omega, by omega, by omega, by omega, by omega, by omega, by omega, by omega, fun w hw => ⟨by omega, by omega, by omega, by omega⟩, fun p hp => ⟨by omega, by omega, by omega, by omega⟩, fun j hj => by omega, fun j hj => by omega⟩) ⟨by omega, by omega, by omega, by omega, by omega, by omega, by omega, by omega, by omega, fun w hw => ⟨by omega, by omega, by omega, by omega⟩, fun p hp => ⟨by omega, by omega, by omega, by omega⟩, fun j hj => by omega, fun j hj => by omega⟩) (COk_set2 (by omega) (COk_set2 (by omega) (COk_set2 (by omega) (COk_set2 (by omega) (COk_set2 (by omega) hC))))) (by rw [mup_ne (by omega), mup_ne (by omega), mup_ne (by omega), mup_ne (by omega), mup_ne (by omega)]; exact hN) hV2 (by rw [f2.at 13 rfl, hs1, us_eq, mup_ne (by decide), us_ne (by decide), us_ne (by decide), us_ne (by decide), hx 13 (by decide) (by decide), mup_ne (by omega), mup_ne (by omega), mup_ne (by omega), mup_ne (by omega), mup_ne (by omega)]; exact h8)) (hT.d (fun i hi => by rw [e2, mup_ne (by omega), mup_ne (by omega), mup_ne (by omega), mup_ne (by omega), mup_ne (by omega)]) ((hf.at 148 rfl).trans (hx 148 (by decide) (by decide))) ((hf.at 149 rfl).trans (hx 149 (by decide) (by decide))))
  · obtain ⟨r1, s1, k1, hr, hs1⟩ := x_window_n (d := d + 145) hD0 hrkm hrc hy
    have e : s1 147 = s 147 := by rw [hs1]; exact us_ne (by decide)
    have k2 := r_window_n (d := d + 148) (s := s1) (by rw [e]; exact hM0) hrkm hrc hy
    exact Step.mk (by first | exact ⟨(f1.at 1 rfl).trans hX.2.1, (congrFun (f1.at 0 rfl) 1).trans hX.2.2⟩ | exact ⟨hX.2.1, hX.2.2⟩ | exact ⟨by rw [hs1, us_ne (by decide)]; exact hX.2.1, by rw [hs1, us_ne (by decide)]; exact hX.2.2⟩ | exact ⟨by rw [hs1, us_ne (by decide), us_ne (by decide)]; exact hX.2.1, by rw [hs1, us_ne (by decide), us_ne (by decide)]; exact hX.2.2⟩ | exact ⟨by rw [e1, us_ne (by decide), f1.at 1 rfl]; exact hX.2.1, by rw [e1, us_ne (by decide), f1.at 0 rfl]; exact hX.2.2⟩ | exact ⟨by rw [ft.at 1 rfl, hx 1 (by decide) (by decide)]; exact hX.2.1, by rw [ft.at 0 rfl, et, newL_0, mup_ne (by decide)]; exact hX.2.2⟩) k1 k2 (by rw [hr]) (hI0.err2 hs1)
theorem x_become_y {d : Nat} {s : mSt} (hI : IvD s) {w km : Int} (hrw : -2147483648 ≤ w ∧ w < 2147483648) (hrkm : -2147483648 ≤ km ∧ km < 2147483648) (h00 : 0 ≤ s 0 0) (hy : (0 ≤ w ∧ w ≤ s 147 39 - 1) ∧ 0 ≤ km ∧ km ≤ 69) : CI (d + 5) 105 [.inr (.inr 10), .inl w, .inl km] (s) (fun r s1 => r = s 147 (45 + 4 * w + 0).toNat ∧ ∃ (a : Nat) (t : mSt), a = 164 + (s 0 0).toNat ∧ t = newL s (kc (km / 10)) w (km % 10) ∧ LampA t a (km / 10) w (km % 10) ∧ s1 = us t 15 w.toNat a) := by
  refine CI.mk rfl ?_
  show WP (d + 5) 105 0 [some (.inr (.inr 10)), some (.inl w), some (.inl km), none] [] (encA (s)) _
  have hI0 := hI
  obtain ⟨⟨hM, hC, hN⟩, hV, h8⟩ := hI
  have hV0 := hV
  have hM0 := hM
  obtain ⟨vc, vpl, vga, vse, vne, veg, vre, vtu, vta, vwa, v36, v37, v39, v40, v42, v41, v43, v44, vl0, vl1, vlm⟩ := hV
  obtain ⟨hM39, hM40, hM41, hM43, hM44, hM36, hM37, hM38, hMc, hMw, hMp, hMt, hMb⟩ := hM
  refine w_ldR rfl rfl rfl ?_
  refine w_ldI rfl rfl ?_
  refine w_callV rfl rfl rfl rfl rfl rfl rfl (k_isWindow (by omega) (by omega)) ?_
  refine w_bEq0 rfl (fun b3 => ?_) (fun b3 => ?_)
  · first
    | (exfalso; omega)
    | (refine w_ldR rfl rfl rfl ?_
       refine w_push rfl ?_
       refine w_callWI rfl rfl rfl rfl rfl rfl rfl k_error1 (fun v9 s9 p9 => ?_)
       obtain ⟨rfl, rfl⟩ := p9
       refine w_retI rfl ?_
       exact ⟨rfl, v26, s26, ea, es, hn26, rfl⟩)
  · first
    | (exfalso; omega)
    | (refine w_ldI rfl rfl ?_
       refine w_call rfl rfl rfl (k_isLamp (by omega)) ?_
       refine w_bNe0 rfl (fun b6 => ?_) (fun b6 => ?_)
       · first
         | (exfalso; omega)
         | (have hMW := MOk_w hM0 (w := w) (by omega)
            obtain ⟨la, hr, had, hLa⟩ := vlm w (by omega) (by omega)
            have hla := hLa.1
            refine w_ldR rfl rfl rfl ?_
            first | refine w_getI rfl rfl rfl rfl rfl ?_ | refine w_getR rfl rfl rfl rfl rfl ?_
            first | refine w_getI rfl rfl rfl rfl rfl ?_ | refine w_getR rfl rfl rfl rfl rfl ?_
            refine w_ldI rfl rfl ?_
            refine w_rldL rfl rfl rfl (by omega) rfl ?_
            rw [hr, Int.toNat_natCast]
            obtain ⟨c4, m4, g4, t4, k4⟩ := @k_kind (d := d + 4) s la _ _ _ hLa hMW.1
            refine w_callV0 rfl rfl rfl rfl hla g4 t4 k4 ?_
            refine w_StI_4_3 rfl rfl ?_
            refine w_ldR rfl rfl rfl ?_
            first | refine w_getI rfl rfl rfl rfl rfl ?_ | refine w_getR rfl rfl rfl rfl rfl ?_
            first | refine w_getI rfl rfl rfl rfl rfl ?_ | refine w_getR rfl rfl rfl rfl rfl ?_
            refine w_ldI rfl rfl ?_
            refine w_ldI rfl rfl ?_
            refine w_ldI rfl rfl ?_
            refine w_ldR rfl rfl rfl ?_
            first | refine w_getI rfl rfl rfl rfl rfl ?_ | refine w_getR rfl rfl rfl rfl rfl ?_
            refine w_callR rfl rfl rfl (k_lampOf (by omega) h00) (fun v26 s26 p26 => ?_)
            obtain ⟨ea, es⟩ := p26
            have hx26 : ∀ x, 1 ≤ x → x < 164 → s26 x = s x := fun x h1 h2 => by rw [es]; exact newL_low h1 h2
            have hn26 : LampA s26 v26 (km / 10) w (km % 10) := by rw [ea, es]; exact newL_lamp h00
            refine w_rstL rfl rfl rfl hn26.1 hn26.2 (kc_all _) (by omega) rfl ?_
            refine w_ldI rfl rfl ?_
            refine w_retI rfl ?_
            exact ⟨rfl, v26, s26, ea, es, hn26, rfl⟩)
       · first
         | (exfalso; omega)
         | (refine w_ldR rfl rfl rfl ?_
            refine w_push rfl ?_
            refine w_callWI rfl rfl rfl rfl rfl rfl rfl k_error1 (fun v9 s9 p9 => ?_)
            obtain ⟨rfl, rfl⟩ := p9
            refine w_retI rfl ?_
            exact ⟨rfl, v26, s26, ea, es, hn26, rfl⟩))
theorem x_become_n {d : Nat} {s : mSt} (hI : IvD s) {w km : Int} (hrw : -2147483648 ≤ w ∧ w < 2147483648) (hrkm : -2147483648 ≤ km ∧ km < 2147483648) (hy : ¬ ((0 ≤ w ∧ w ≤ s 147 39 - 1) ∧ 0 ≤ km ∧ km ≤ 69)) : CI (d + 5) 105 [.inr (.inr 10), .inl w, .inl km] (s) (fun r s1 => r = -1000000000 - 1 ∧ s1 = us s 132 1 (s 132 1 + 1)) := by
  refine CI.mk rfl ?_
  show WP (d + 5) 105 0 [some (.inr (.inr 10)), some (.inl w), some (.inl km), none] [] (encA (s)) _
  have hI0 := hI
  obtain ⟨⟨hM, hC, hN⟩, hV, h8⟩ := hI
  have hV0 := hV
  have hM0 := hM
  obtain ⟨vc, vpl, vga, vse, vne, veg, vre, vtu, vta, vwa, v36, v37, v39, v40, v42, v41, v43, v44, vl0, vl1, vlm⟩ := hV
  obtain ⟨hM39, hM40, hM41, hM43, hM44, hM36, hM37, hM38, hMc, hMw, hMp, hMt, hMb⟩ := hM
  refine w_ldR rfl rfl rfl ?_
  refine w_ldI rfl rfl ?_
  refine w_callV rfl rfl rfl rfl rfl rfl rfl (k_isWindow (by omega) (by omega)) ?_
  refine w_bEq0 rfl (fun b3 => ?_) (fun b3 => ?_)
  · first
    | (exfalso; omega)
    | (refine w_ldR rfl rfl rfl ?_
       refine w_push rfl ?_
       refine w_callWI rfl rfl rfl rfl rfl rfl rfl k_error1 (fun v9 s9 p9 => ?_)
       obtain ⟨rfl, rfl⟩ := p9
       refine w_retI rfl ?_
       exact ⟨rfl, rfl⟩)
  · first
    | (exfalso; omega)
    | (refine w_ldI rfl rfl ?_
       refine w_call rfl rfl rfl (k_isLamp (by omega)) ?_
       refine w_bNe0 rfl (fun b6 => ?_) (fun b6 => ?_)
       · first
         | (exfalso; omega)
         | (exfalso; omega)
       · first
         | (exfalso; omega)
         | (refine w_ldR rfl rfl rfl ?_
            refine w_push rfl ?_
            refine w_callWI rfl rfl rfl rfl rfl rfl rfl k_error1 (fun v9 s9 p9 => ?_)
            obtain ⟨rfl, rfl⟩ := p9
            refine w_retI rfl ?_
            exact ⟨rfl, rfl⟩))
theorem st_become {X : Nat → Int} {N : Int} {d : Nat} {s : mSt} {cnt : Int} (hI : Inv X N s cnt) {w km : Int} (hrw : -2147483648 ≤ w ∧ w < 2147483648) (hrkm : -2147483648 ≤ km ∧ km < 2147483648) : Step X N (d + 150) s cnt 105 209 [.inl w, .inl km] := by
  have hI0 := hI
  obtain ⟨hD, -, -, -, -, hT, -, hX, hU⟩ := hI
  have hD0 := hD
  obtain ⟨⟨hM, hC, hN⟩, hV, h8⟩ := hD
  have hV0 := hV
  have hM0 := hM
  obtain ⟨vc, vpl, vga, vse, vne, veg, vre, vtu, vta, vwa, v36, v37, v39, v40, v42, v41, v43, v44, vl0, vl1, vlm⟩ := hV
  obtain ⟨hM39, hM40, hM41, hM43, hM44, hM36, hM37, hM38, hMc, hMw, hMp, hMt, hMb⟩ := hM
  have h00 := hI0.2.2.2.2.2.2.1.1
  by_cases hy : (0 ≤ w ∧ w ≤ s 147 39 - 1) ∧ 0 ≤ km ∧ km ≤ 69
  · obtain ⟨r1, s1, k1, hr, a, t, ea, et, hla, hs1⟩ := x_become_y (d := d + 145) hD0 hrw hrkm h00 hy
    have hx : ∀ x, 1 ≤ x → x < 164 → t x = s x := fun x h1 h2 => by rw [et]; exact newL_low h1 h2
    have hll : ∀ r k n m, LampAt s r k n m → LampAt t r k n m := fun r k n m h => by rw [et]; exact h.new h00 (kc_nn _)
    have ft : Fr [15] t s1 := by rw [hs1]; exact Fr.us rfl
    have e : s1 147 = s 147 := (ft.at 147 rfl).trans (hx 147 (by decide) (by decide))
    have k2 := r_become_y (d := d + 148) (s := s1) (by rw [e]; exact hM0) hrw hrkm (by rw [e]; exact hy)
    rw [e] at k2
    refine Step.mk (by first | exact ⟨(f1.at 1 rfl).trans hX.2.1, (congrFun (f1.at 0 rfl) 1).trans hX.2.2⟩ | exact ⟨hX.2.1, hX.2.2⟩ | exact ⟨by rw [hs1, us_ne (by decide)]; exact hX.2.1, by rw [hs1, us_ne (by decide)]; exact hX.2.2⟩ | exact ⟨by rw [hs1, us_ne (by decide), us_ne (by decide)]; exact hX.2.1, by rw [hs1, us_ne (by decide), us_ne (by decide)]; exact hX.2.2⟩ | exact ⟨by rw [e1, us_ne (by decide), f1.at 1 rfl]; exact hX.2.1, by rw [e1, us_ne (by decide), f1.at 0 rfl]; exact hX.2.2⟩ | exact ⟨by rw [ft.at 1 rfl, hx 1 (by decide) (by decide)]; exact hX.2.1, by rw [ft.at 0 rfl, et, newL_0, mup_ne (by decide)]; exact hX.2.2⟩) k1 k2 (by rw [hr]) ?_
    generalize hs2 : ua s1 147 _ = s2
    have f2 : Fr [147] s1 s2 := by rw [← hs2]; exact Fr.ua rfl
    have hf : Fr [15, 147] t s2 := (Fr.mono rfl ft).tr (Fr.mono rfl f2)
    have hwr : 0 ≤ w ∧ w < 6 := by omega
    have e2 : s2 147 = mup (mup (s 147) (45 + 4 * w + 0).toNat (km / 10)) (45 + 4 * w + 1).toNat (km % 10) := by rw [← hs2, ua_eq]
    have hV2 : VN13 s2 _ := ((hV0.fr2 hx hll).set_lamp (w := w) (a := (a : Int)) (k := km / 10) (m := km % 10) hwr ⟨a, rfl, by rw [ea]; unfold lampAdr; simp, hla⟩).fr (A := [147]) (s1 := s2) rfl (by rw [← hs2, hs1]; exact Fr.ua rfl)
    refine hI0.lamp rfl rfl et hf (IvD.mk e2 (MOk_set (MOk_set hM0 ⟨by omega, by omega, by omega, by omega, by omega, by omega, by omega, by omega, by omega, fun w hw => ⟨by omega, by omega, by omega, by omega⟩, fun p hp => ⟨by omega, by omega, by omega, by omega⟩, fun j hj => by omega, fun j hj => by omega⟩) ⟨by omega, by omega, by omega, by omega, by omega, by omega, by omega, by omega, by omega, fun w hw => ⟨by omega, by omega, by omega, by omega⟩, fun p hp => ⟨by omega, by omega, by omega, by omega⟩, fun j hj => by omega, fun j hj => by omega⟩) (COk_set2 (by omega) (COk_set2 (by omega) hC)) (by rw [mup_ne (by omega), mup_ne (by omega)]; exact hN) hV2 (by rw [hf.at 13 rfl, hx 13 (by decide) (by decide), mup_ne (by omega), mup_ne (by omega)]; exact h8)) (hT.d (fun i hi => by rw [e2, mup_ne (by omega), mup_ne (by omega)]) ((hf.at 148 rfl).trans (hx 148 (by decide) (by decide))) ((hf.at 149 rfl).trans (hx 149 (by decide) (by decide))))
  · obtain ⟨r1, s1, k1, hr, hs1⟩ := x_become_n (d := d + 145) hD0 hrw hrkm hy
    have e : s1 147 = s 147 := by rw [hs1]; exact us_ne (by decide)
    have k2 := r_become_n (d := d + 148) (s := s1) (by rw [e]; exact hM0) hrw hrkm (by rw [e]; exact hy)
    exact Step.mk (by first | exact ⟨(f1.at 1 rfl).trans hX.2.1, (congrFun (f1.at 0 rfl) 1).trans hX.2.2⟩ | exact ⟨hX.2.1, hX.2.2⟩ | exact ⟨by rw [hs1, us_ne (by decide)]; exact hX.2.1, by rw [hs1, us_ne (by decide)]; exact hX.2.2⟩ | exact ⟨by rw [hs1, us_ne (by decide), us_ne (by decide)]; exact hX.2.1, by rw [hs1, us_ne (by decide), us_ne (by decide)]; exact hX.2.2⟩ | exact ⟨by rw [e1, us_ne (by decide), f1.at 1 rfl]; exact hX.2.1, by rw [e1, us_ne (by decide), f1.at 0 rfl]; exact hX.2.2⟩ | exact ⟨by rw [ft.at 1 rfl, hx 1 (by decide) (by decide)]; exact hX.2.1, by rw [ft.at 0 rfl, et, newL_0, mup_ne (by decide)]; exact hX.2.2⟩) k1 k2 (by rw [hr]) (hI0.err2 hs1)
