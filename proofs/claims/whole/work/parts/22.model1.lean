/-! ===== the reference: small methods ===== -/
def bI (p : Prop) [Decidable p] : Int := if p then 1 else 0
theorem bI_01 (p : Prop) [Decidable p] : bI p = 0 ∨ bI p = 1 := by unfold bI; split <;> simp
theorem mCmp_id {x y : Int} (hx : -9223372036854775808 ≤ x ∧ x < 9223372036854775808) (hy : -9223372036854775808 ≤ y ∧ y < 9223372036854775808) : mCmp x y = if y < x then 1 else if x = y then 0 else -1 := by
  unfold mCmp
  rw [w64_id hx.1 hx.2, w64_id hy.1 hy.2]
theorem r_in {d : Nat} {s : mSt} {v lo hi : Int} (hv : -9223372036854775808 ≤ v ∧ v < 9223372036854775808) (hl : -9223372036854775808 ≤ lo ∧ lo < 9223372036854775808) (hh : -9223372036854775808 ≤ hi ∧ hi < 9223372036854775808) : Call (d + 0) 166 [.inr (.inl v), .inr (.inl lo), .inr (.inl hi)] (encA s) (some (.inl (bI (lo ≤ v ∧ v ≤ hi)))) (encA (s)) := by
  refine ⟨Nat.le_of_ble_eq_true rfl, ?_⟩
  show Run (d + 0) 166 0 [some (.inr (.inl v)), none, some (.inr (.inl lo)), none, some (.inr (.inl hi)), none] [] (encA s) (some (.inl (bI (lo ≤ v ∧ v ≤ hi)))) (encA (s))
  refine x_ldL rfl rfl ?_
  refine x_ldL rfl rfl ?_
  refine x_cmpL rfl ?_
  refine x_irLt0 rfl (by rw [mCmp_id (by omega) (by omega)]; split <;> (try split) <;> omega) (fun h_1 => ?_) (fun h_1 => ?_)
  · refine x_push rfl ?_
    exact x_retB rfl (by first | exact bI_01 _ | decide | omega) (by (simp only [mCmp_id hv hl, mCmp_id hv hh] at *; unfold bI; split <;> (repeat' (split at *)) <;> omega)) (by rfl)
  · refine x_ldL rfl rfl ?_
    refine x_ldL rfl rfl ?_
    refine x_cmpL rfl ?_
    refine x_irGt0 rfl (by rw [mCmp_id (by omega) (by omega)]; split <;> (try split) <;> omega) (fun h_2 => ?_) (fun h_2 => ?_)
    · refine x_push rfl ?_
      exact x_retB rfl (by first | exact bI_01 _ | decide | omega) (by (simp only [mCmp_id hv hl, mCmp_id hv hh] at *; unfold bI; split <;> (repeat' (split at *)) <;> omega)) (by rfl)
    · refine x_push rfl ?_
      refine x_go rfl ?_
      exact x_retB rfl (by first | exact bI_01 _ | decide | omega) (by (simp only [mCmp_id hv hl, mCmp_id hv hh] at *; unfold bI; split <;> (repeat' (split at *)) <;> omega)) (by rfl)
theorem r_lesser {d : Nat} {s : mSt} {a b : Int} (ha : -2147483648 ≤ a ∧ a < 2147483648) (hb : -2147483648 ≤ b ∧ b < 2147483648) : Call (d + 0) 168 [.inl a, .inl b] (encA s) (some (.inl (min a b))) (encA (s)) := by
  refine ⟨Nat.le_of_ble_eq_true rfl, ?_⟩
  show Run (d + 0) 168 0 [some (.inl a), some (.inl b)] [] (encA s) (some (.inl (min a b))) (encA (s))
  refine x_ldI rfl rfl ?_
  refine x_ldI rfl rfl ?_
  refine x_crGe rfl (by omega) (by omega) (fun h_1 => ?_) (fun h_1 => ?_)
  · first
    | (exfalso; omega)
    | (refine x_ldI rfl rfl ?_
       exact x_retI rfl (by (first | rfl | omega)) (by rfl))
  · first
    | (exfalso; omega)
    | (refine x_ldI rfl rfl ?_
       refine x_go rfl ?_
       exact x_retI rfl (by (first | rfl | omega)) (by rfl))
theorem r_greater {d : Nat} {s : mSt} {a b : Int} (ha : -2147483648 ≤ a ∧ a < 2147483648) (hb : -2147483648 ≤ b ∧ b < 2147483648) : Call (d + 0) 169 [.inl a, .inl b] (encA s) (some (.inl (max a b))) (encA (s)) := by
  refine ⟨Nat.le_of_ble_eq_true rfl, ?_⟩
  show Run (d + 0) 169 0 [some (.inl a), some (.inl b)] [] (encA s) (some (.inl (max a b))) (encA (s))
  refine x_ldI rfl rfl ?_
  refine x_ldI rfl rfl ?_
  refine x_crLe rfl (by omega) (by omega) (fun h_1 => ?_) (fun h_1 => ?_)
  · first
    | (exfalso; omega)
    | (refine x_ldI rfl rfl ?_
       exact x_retI rfl (by (first | rfl | omega)) (by rfl))
  · first
    | (exfalso; omega)
    | (refine x_ldI rfl rfl ?_
       refine x_go rfl ?_
       exact x_retI rfl (by (first | rfl | omega)) (by rfl))
theorem r_held {d : Nat} {s : mSt} {v lo hi : Int} (hl : -2147483648 ≤ lo ∧ lo < 2147483648) (hh : -2147483648 ≤ hi ∧ hi < 2147483648) : Call (d + 0) 167 [.inl v, .inl lo, .inl hi] (encA s) (some (.inl (if w32 v < lo then lo else if hi < w32 v then hi else w32 v))) (encA (s)) := by
  refine ⟨Nat.le_of_ble_eq_true rfl, ?_⟩
  show Run (d + 0) 167 0 [some (.inl v), some (.inl lo), some (.inl hi)] [] (encA s) (some (.inl (if w32 v < lo then lo else if hi < w32 v then hi else w32 v))) (encA (s))
  have e1 := w32_id hl.1 hl.2
  have e2 := w32_id hh.1 hh.2
  refine x_ldI rfl rfl ?_
  refine x_ldI rfl rfl ?_
  refine x_icGe rfl (fun h_1 => ?_) (fun h_1 => ?_)
  · first
    | (exfalso; omega)
    | (refine x_ldI rfl rfl ?_
       refine x_ldI rfl rfl ?_
       refine x_icLe rfl (fun h_2 => ?_) (fun h_2 => ?_)
       · first
         | (exfalso; omega)
         | (refine x_ldN rfl rfl ?_
            exact x_retI rfl (by (simp (disch := omega) only [if_pos, if_neg])) (by rfl))
       · first
         | (exfalso; omega)
         | (refine x_ldI rfl rfl ?_
            refine x_go rfl ?_
            exact x_retI rfl (by (simp (disch := omega) only [if_pos, if_neg])) (by rfl)))
  · first
    | (exfalso; omega)
    | (refine x_ldI rfl rfl ?_
       refine x_go rfl ?_
       exact x_retI rfl (by (simp (disch := omega) only [if_pos, if_neg])) (by rfl))
theorem r_finds1 {d : Nat} {s : mSt}  : Call (d + 0) 165 [.inr (.inr 146), .inl 1] (encA s) (some (.inl (-1000000000 - 1))) (encA (us s 150 1 (s 150 1 + 1))) := by
  refine ⟨Nat.le_of_ble_eq_true rfl, ?_⟩
  show Run (d + 0) 165 0 [some (.inr (.inr 146)), some (.inl 1)] [] (encA s) (some (.inl (-1000000000 - 1))) (encA (us s 150 1 (s 150 1 + 1)))
  refine x_ldR rfl rfl rfl ?_
  first | refine x_getI rfl rfl rfl rfl rfl ?_ | refine x_getR rfl rfl rfl rfl rfl ?_
  refine x_ldI rfl rfl ?_
  refine x_dup2 rfl ?_
  refine x_ald rfl rfl rfl (by omega) rfl ?_
  refine x_push rfl ?_
  refine x_add rfl ?_
  refine x_ast rfl rfl rfl (by omega) rfl ?_
  refine x_push rfl ?_
  refine x_ldI rfl rfl ?_
  refine x_sub rfl ?_
  exact x_retI rfl (by (first | rfl | omega)) (by rfl)
theorem r_finds2 {d : Nat} {s : mSt}  : Call (d + 0) 165 [.inr (.inr 146), .inl 2] (encA s) (some (.inl (-1000000000 - 2))) (encA (us s 150 2 (s 150 2 + 1))) := by
  refine ⟨Nat.le_of_ble_eq_true rfl, ?_⟩
  show Run (d + 0) 165 0 [some (.inr (.inr 146)), some (.inl 2)] [] (encA s) (some (.inl (-1000000000 - 2))) (encA (us s 150 2 (s 150 2 + 1)))
  refine x_ldR rfl rfl rfl ?_
  first | refine x_getI rfl rfl rfl rfl rfl ?_ | refine x_getR rfl rfl rfl rfl rfl ?_
  refine x_ldI rfl rfl ?_
  refine x_dup2 rfl ?_
  refine x_ald rfl rfl rfl (by omega) rfl ?_
  refine x_push rfl ?_
  refine x_add rfl ?_
  refine x_ast rfl rfl rfl (by omega) rfl ?_
  refine x_push rfl ?_
  refine x_ldI rfl rfl ?_
  refine x_sub rfl ?_
  exact x_retI rfl (by (first | rfl | omega)) (by rfl)
theorem r_finds3 {d : Nat} {s : mSt}  : Call (d + 0) 165 [.inr (.inr 146), .inl 3] (encA s) (some (.inl (-1000000000 - 3))) (encA (us s 150 3 (s 150 3 + 1))) := by
  refine ⟨Nat.le_of_ble_eq_true rfl, ?_⟩
  show Run (d + 0) 165 0 [some (.inr (.inr 146)), some (.inl 3)] [] (encA s) (some (.inl (-1000000000 - 3))) (encA (us s 150 3 (s 150 3 + 1)))
  refine x_ldR rfl rfl rfl ?_
  first | refine x_getI rfl rfl rfl rfl rfl ?_ | refine x_getR rfl rfl rfl rfl rfl ?_
  refine x_ldI rfl rfl ?_
  refine x_dup2 rfl ?_
  refine x_ald rfl rfl rfl (by omega) rfl ?_
  refine x_push rfl ?_
  refine x_add rfl ?_
  refine x_ast rfl rfl rfl (by omega) rfl ?_
  refine x_push rfl ?_
  refine x_ldI rfl rfl ?_
  refine x_sub rfl ?_
  exact x_retI rfl (by (first | rfl | omega)) (by rfl)
theorem r_finds4 {d : Nat} {s : mSt}  : Call (d + 0) 165 [.inr (.inr 146), .inl 4] (encA s) (some (.inl (-1000000000 - 4))) (encA (us s 150 4 (s 150 4 + 1))) := by
  refine ⟨Nat.le_of_ble_eq_true rfl, ?_⟩
  show Run (d + 0) 165 0 [some (.inr (.inr 146)), some (.inl 4)] [] (encA s) (some (.inl (-1000000000 - 4))) (encA (us s 150 4 (s 150 4 + 1)))
  refine x_ldR rfl rfl rfl ?_
  first | refine x_getI rfl rfl rfl rfl rfl ?_ | refine x_getR rfl rfl rfl rfl rfl ?_
  refine x_ldI rfl rfl ?_
  refine x_dup2 rfl ?_
  refine x_ald rfl rfl rfl (by omega) rfl ?_
  refine x_push rfl ?_
  refine x_add rfl ?_
  refine x_ast rfl rfl rfl (by omega) rfl ?_
  refine x_push rfl ?_
  refine x_ldI rfl rfl ?_
  refine x_sub rfl ?_
  exact x_retI rfl (by (first | rfl | omega)) (by rfl)
theorem r_finds5 {d : Nat} {s : mSt}  : Call (d + 0) 165 [.inr (.inr 146), .inl 5] (encA s) (some (.inl (-1000000000 - 5))) (encA (us s 150 5 (s 150 5 + 1))) := by
  refine ⟨Nat.le_of_ble_eq_true rfl, ?_⟩
  show Run (d + 0) 165 0 [some (.inr (.inr 146)), some (.inl 5)] [] (encA s) (some (.inl (-1000000000 - 5))) (encA (us s 150 5 (s 150 5 + 1)))
  refine x_ldR rfl rfl rfl ?_
  first | refine x_getI rfl rfl rfl rfl rfl ?_ | refine x_getR rfl rfl rfl rfl rfl ?_
  refine x_ldI rfl rfl ?_
  refine x_dup2 rfl ?_
  refine x_ald rfl rfl rfl (by omega) rfl ?_
  refine x_push rfl ?_
  refine x_add rfl ?_
  refine x_ast rfl rfl rfl (by omega) rfl ?_
  refine x_push rfl ?_
  refine x_ldI rfl rfl ?_
  refine x_sub rfl ?_
  exact x_retI rfl (by (first | rfl | omega)) (by rfl)
theorem us_ua (s : mSt) (b k : Nat) (f : Nat → Int) (v : Int) : us (ua s b f) b k v = ua s b (mup f k v) := by
  unfold us ua
  funext a i
  by_cases h : a = b <;> simp [mup, h]
theorem ua_ua (s : mSt) (b : Nat) (f h : Nat → Int) : ua (ua s b f) b h = ua s b h := by
  unfold ua
  funext a i
  by_cases h : a = b <;> simp [mup, h]
theorem ua_ne {s : mSt} {a b : Nat} {f : Nat → Int} (h : a ≠ b) : ua s b f a = s a := by
  unfold ua mup
  rw [if_neg h]
theorem ua_eq (s : mSt) (b : Nat) (f : Nat → Int) : ua s b f b = f := by
  unfold ua mup
  rw [if_pos rfl]
theorem us_ne {s : mSt} {a b k : Nat} {v : Int} (h : a ≠ b) : us s b k v a = s a := ua_ne h
theorem us_eq (s : mSt) (b k : Nat) (v : Int) : us s b k v b = mup (s b) k v := ua_eq _ _ _
theorem ua_self (s : mSt) (b : Nat) : ua s b (s b) = s := by
  unfold ua mup
  funext a i
  by_cases h : a = b <;> simp [h]
theorem Run.pre {d mt j : Nat} {L : mL} {S : mS} {s s1 : mSt} {r : Option mAV} {h' : mH} (e : s = s1) (k : Run d mt j L S (encA s1) r h') : Run d mt j L S (encA s) r h' := e ▸ k
theorem Run.post {d mt j : Nat} {L : mL} {S : mS} {h : mH} {s s1 : mSt} {r : Option mAV} (e : s = s1) (k : Run d mt j L S h r (encA s)) : Run d mt j L S h r (encA s1) := e ▸ k
theorem upd_ext {α : Type} {s : mSt} {b : Nat} {f h : Nat → Int} (e : ∀ i, f i = h i) : ua s b f = ua s b h := by rw [show f = h from funext e]
theorem r_isCell {d : Nat} {s : mSt} {c : Int} (hc : -2147483648 ≤ c ∧ c < 2147483648) : Call (d + 1) 171 [.inl c] (encA s) (some (.inl (bI (0 ≤ c ∧ c ≤ 35)))) (encA (s)) := by
  refine ⟨Nat.le_of_ble_eq_true rfl, ?_⟩
  show Run (d + 1) 171 0 [some (.inl c)] [] (encA s) (some (.inl (bI (0 ≤ c ∧ c ≤ 35)))) (encA (s))
  refine x_ldI rfl rfl ?_
  refine x_i2lr rfl (by omega) ?_
  refine x_push rfl ?_
  refine x_push rfl ?_
  refine x_call rfl rfl rfl (r_in (by omega) (by omega) (by omega)) ?_
  exact x_retB rfl (by first | exact bI_01 _ | decide | omega) (by rfl) (by rfl)
theorem r_ofIt {d : Nat} {s : mSt} {w k : Int} (hw : 0 ≤ w ∧ w < 6) (hk : 0 ≤ k ∧ k < 4) : Call (d + 0) 174 [.inr (.inr 146), .inl w, .inl k] (encA s) (some (.inl (s 147 (45 + 4 * w + k).toNat))) (encA (s)) := by
  refine ⟨Nat.le_of_ble_eq_true rfl, ?_⟩
  show Run (d + 0) 174 0 [some (.inr (.inr 146)), some (.inl w), some (.inl k)] [] (encA s) (some (.inl (s 147 (45 + 4 * w + k).toNat))) (encA (s))
  refine x_ldR rfl rfl rfl ?_
  first | refine x_getI rfl rfl rfl rfl rfl ?_ | refine x_getR rfl rfl rfl rfl rfl ?_
  refine x_push rfl ?_
  refine x_push rfl ?_
  refine x_ldI rfl rfl ?_
  refine x_mul rfl ?_
  refine x_add rfl ?_
  refine x_ldI rfl rfl ?_
  refine x_add rfl ?_
  refine x_ald rfl rfl rfl (by omega) rfl ?_
  exact x_retI rfl (by (first | rfl | omega)) (by rfl)
theorem r_ofOne {d : Nat} {s : mSt} {p k : Int} (hp : 0 ≤ p ∧ p < 10) (hk : 0 ≤ k ∧ k < 4) : Call (d + 0) 175 [.inr (.inr 146), .inl p, .inl k] (encA s) (some (.inl (s 147 (69 + 4 * p + k).toNat))) (encA (s)) := by
  refine ⟨Nat.le_of_ble_eq_true rfl, ?_⟩
  show Run (d + 0) 175 0 [some (.inr (.inr 146)), some (.inl p), some (.inl k)] [] (encA s) (some (.inl (s 147 (69 + 4 * p + k).toNat))) (encA (s))
  refine x_ldR rfl rfl rfl ?_
  first | refine x_getI rfl rfl rfl rfl rfl ?_ | refine x_getR rfl rfl rfl rfl rfl ?_
  refine x_push rfl ?_
  refine x_push rfl ?_
  refine x_ldI rfl rfl ?_
  refine x_mul rfl ?_
  refine x_add rfl ?_
  refine x_ldI rfl rfl ?_
  refine x_add rfl ?_
  refine x_ald rfl rfl rfl (by omega) rfl ?_
  exact x_retI rfl (by (first | rfl | omega)) (by rfl)
theorem r_isWindow {d : Nat} {s : mSt} {w : Int} (hw : -2147483648 ≤ w ∧ w < 2147483648) (hd : 0 ≤ s 147 39 ∧ s 147 39 ≤ 6) : Call (d + 1) 172 [.inr (.inr 146), .inl w] (encA s) (some (.inl (bI (0 ≤ w ∧ w ≤ s 147 39 - 1)))) (encA (s)) := by
  refine ⟨Nat.le_of_ble_eq_true rfl, ?_⟩
  show Run (d + 1) 172 0 [some (.inr (.inr 146)), some (.inl w)] [] (encA s) (some (.inl (bI (0 ≤ w ∧ w ≤ s 147 39 - 1)))) (encA (s))
  refine x_ldI rfl rfl ?_
  refine x_i2lr rfl (by first | omega | (show -2147483648 ≤ s 147 39 - 1 ∧ s 147 39 - 1 < 2147483648; omega)) ?_
  refine x_push rfl ?_
  refine x_ldR rfl rfl rfl ?_
  first | refine x_getI rfl rfl rfl rfl rfl ?_ | refine x_getR rfl rfl rfl rfl rfl ?_
  refine x_push rfl ?_
  refine x_aldk 39 rfl rfl rfl rfl rfl rfl ?_
  refine x_push rfl ?_
  refine x_sub rfl ?_
  refine x_i2lr rfl (by first | omega | (show -2147483648 ≤ s 147 39 - 1 ∧ s 147 39 - 1 < 2147483648; omega)) ?_
  refine x_call rfl rfl rfl (r_in (by omega) (by omega) (by omega)) ?_
  exact x_retB rfl (by first | exact bI_01 _ | decide | omega) (by rfl) (by rfl)
theorem r_isPerson {d : Nat} {s : mSt} {w : Int} (hw : -2147483648 ≤ w ∧ w < 2147483648) (hd : 0 ≤ s 147 40 ∧ s 147 40 ≤ 10) : Call (d + 1) 173 [.inr (.inr 146), .inl w] (encA s) (some (.inl (bI (0 ≤ w ∧ w ≤ s 147 40 - 1)))) (encA (s)) := by
  refine ⟨Nat.le_of_ble_eq_true rfl, ?_⟩
  show Run (d + 1) 173 0 [some (.inr (.inr 146)), some (.inl w)] [] (encA s) (some (.inl (bI (0 ≤ w ∧ w ≤ s 147 40 - 1)))) (encA (s))
  refine x_ldI rfl rfl ?_
  refine x_i2lr rfl (by first | omega | (show -2147483648 ≤ s 147 40 - 1 ∧ s 147 40 - 1 < 2147483648; omega)) ?_
  refine x_push rfl ?_
  refine x_ldR rfl rfl rfl ?_
  first | refine x_getI rfl rfl rfl rfl rfl ?_ | refine x_getR rfl rfl rfl rfl rfl ?_
  refine x_push rfl ?_
  refine x_aldk 40 rfl rfl rfl rfl rfl rfl ?_
  refine x_push rfl ?_
  refine x_sub rfl ?_
  refine x_i2lr rfl (by first | omega | (show -2147483648 ≤ s 147 40 - 1 ∧ s 147 40 - 1 < 2147483648; omega)) ?_
  refine x_call rfl rfl rfl (r_in (by omega) (by omega) (by omega)) ?_
  exact x_retB rfl (by first | exact bI_01 _ | decide | omega) (by rfl) (by rfl)
theorem x_bEq0 {p : Prop} [Decidable p] {d mt j : Nat} {L : mL} {S : mS} {h : mH} {r : Option mAV} {h' : mH} {tg nx : Nat} (hc : (mPr mt).2 j = some (opIf jEq0 tg nx)) (k1 : ¬ p → Run d mt tg L S h r h') (k2 : p → Run d mt nx L S h r h') : Run d mt j L (.inl (bI p) :: S) h r h' := by
  refine x_irEq0 hc (by rcases bI_01 p with e | e <;> rw [e] <;> omega) (fun q => k1 fun hp => ?_) (fun q => k2 ?_)
  · unfold bI at q; rw [if_pos hp] at q; omega
  · unfold bI at q; by_cases hp : p
    · exact hp
    · rw [if_neg hp] at q; exact absurd rfl q
theorem x_bNe0 {p : Prop} [Decidable p] {d mt j : Nat} {L : mL} {S : mS} {h : mH} {r : Option mAV} {h' : mH} {tg nx : Nat} (hc : (mPr mt).2 j = some (opIf jNe0 tg nx)) (k1 : p → Run d mt tg L S h r h') (k2 : ¬ p → Run d mt nx L S h r h') : Run d mt j L (.inl (bI p) :: S) h r h' := by
  refine x_irNe0 hc (by rcases bI_01 p with e | e <;> rw [e] <;> omega) (fun q => k1 ?_) (fun q => k2 fun hp => ?_)
  · unfold bI at q; by_cases hp : p
    · exact hp
    · rw [if_neg hp] at q; exact absurd rfl q
  · unfold bI at q; rw [if_pos hp] at q; omega
theorem us_d (s : mSt) (b k : Nat) (v : Int) : us s b k v = ua s b (mup (s b) k v) := rfl
theorem mup_ne {α : Type} {f : Nat → α} {k j : Nat} {x : α} (h : j ≠ k) : mup f k x j = f j := by
  unfold mup
  rw [if_neg h]
theorem mup_eq {α : Type} (f : Nat → α) (k : Nat) (x : α) : mup f k x k = x := by
  unfold mup
  rw [if_pos rfl]
theorem mup_mup {α : Type} (f : Nat → α) (k : Nat) (x y : α) : mup (mup f k x) k y = mup f k y := by
  unfold mup
  funext j
  by_cases h : j = k <;> simp [h]
/-- what always holds of the reference's row of numbers -/
def MOk (d : Nat → Int) : Prop := (0 ≤ d 39 ∧ d 39 ≤ 6) ∧ (0 ≤ d 40 ∧ d 40 ≤ 10) ∧ (0 ≤ d 41 ∧ d 41 ≤ 12) ∧ (0 ≤ d 43 ∧ d 43 ≤ 50) ∧ (0 ≤ d 44 ∧ d 44 ≤ 20) ∧ (0 ≤ d 36 ∧ d 36 ≤ 9) ∧ (0 ≤ d 37 ∧ d 37 ≤ 9) ∧ (0 ≤ d 38 ∧ d 38 ≤ 20000) ∧
  (∀ c, c < 36 → 0 ≤ d c ∧ d c ≤ 3) ∧ (∀ w, w < 6 → (0 ≤ d (45 + 4 * w) ∧ d (45 + 4 * w) ≤ 6) ∧ (0 ≤ d (46 + 4 * w) ∧ d (46 + 4 * w) ≤ 9) ∧ (0 ≤ d (47 + 4 * w) ∧ d (47 + 4 * w) ≤ 35) ∧ (0 ≤ d (48 + 4 * w) ∧ d (48 + 4 * w) ≤ 99999)) ∧
  (∀ p, p < 10 → (0 ≤ d (69 + 4 * p) ∧ d (69 + 4 * p) ≤ 35) ∧ (0 ≤ d (70 + 4 * p) ∧ d (70 + 4 * p) ≤ 20) ∧ (0 ≤ d (71 + 4 * p) ∧ d (71 + 4 * p) ≤ 9999) ∧ (0 ≤ d (72 + 4 * p) ∧ d (72 + 4 * p) ≤ 9999)) ∧
  (∀ i, i < 12 → 0 ≤ d (109 + i) ∧ d (109 + i) ≤ 5) ∧ (∀ i, i < 50 → 0 ≤ d (243 + i) ∧ d (243 + i) ≤ 255)
theorem w32_rng (x : Int) : -2147483648 ≤ w32 x ∧ w32 x < 2147483648 := ⟨Int32.le_toInt _, Int32.toInt_lt _⟩
