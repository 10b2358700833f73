/-! ===== the reference: what a use gives; a ray ===== -/
theorem r_workedN {d : Nat} {s : mSt} {nm : Nat → Int} {b n : Int} (hn : 0 ≤ n ∧ n ≤ 50) (hb : 143 ≤ b ∧ b ≤ 193) (hC : CodeOk (s 147) b n) : Call (d + 1) 190 [.inr (.inr 146), .inl b, .inl n] (encA (ua s 151 nm)) (some (.inl ((wk (s 147) nm b (s 153) n.toNat).1 0))) (encA (ua (ua s 151 nm) 153 (wk (s 147) nm b (s 153) n.toNat).1)) := by
  have k := @r_worked d (ua s 151 nm) b n hn hb (by rw [ua_ne (by decide)]; exact hC)
  rw [ua_eq, ua_ne (show 147 ≠ 151 by decide), ua_ne (show 153 ≠ 151 by decide)] at k
  exact k
theorem hld_rng (v : Int) : 1 ≤ hld v ∧ hld v ≤ 99 := by
  unfold hld
  split
  · omega
  · split <;> omega
theorem gvV_rng (s : mSt) (use a b c e : Int) : 1 ≤ gvV s use a b c e ∧ gvV s use a b c e ≤ 99 := hld_rng _
theorem gvS_ne {s : mSt} {use a b c e : Int} {x : Nat} (h1 : x ≠ 151) (h2 : x ≠ 153) : gvS s use a b c e x = s x := by
  unfold gvS
  split
  · rw [ua_ne h2, ua_ne h1]
  · rfl
def COk (d : Nat → Int) : Prop := CodeOk d (143 + 50 * 0) (d (121 + (0 : Int)).toNat) ∧ CodeOk d (143 + 50 * 1) (d (121 + (1 : Int)).toNat)
theorem r_gives {d : Nat} {s : mSt} {use a b c e : Int} (hu : 0 ≤ use ∧ use ≤ 1) (hC : CodeOk (s 147) (143 + 50 * use) (s 147 (121 + use).toNat)) : Call (d + 2) 193 [.inr (.inr 146), .inl use, .inl a, .inl b, .inl c, .inl e] (encA s) (some (.inl (gvV s use a b c e))) (encA (gvS s use a b c e)) := by
  refine ⟨Nat.le_of_ble_eq_true rfl, ?_⟩
  show Run (d + 2) 193 0 [some (.inr (.inr 146)), some (.inl use), some (.inl a), some (.inl b), some (.inl c), some (.inl e), none] [] (encA s) (some (.inl (gvV s use a b c e))) (encA (gvS s use a b c e))
  have hn := hC.1
  refine x_ldI rfl rfl ?_
  refine x_irNe0 rfl (by omega) (fun h_1 => ?_) (fun h_1 => ?_)
  · first
    | (exfalso; omega)
    | (refine x_ldI rfl rfl ?_
       refine x_StI_7_6 rfl rfl ?_
       refine x_ldR rfl rfl rfl ?_
       first | refine x_getI rfl rfl rfl rfl rfl ?_ | refine x_getR rfl rfl rfl rfl rfl ?_
       refine x_push rfl ?_
       refine x_ldI rfl rfl ?_
       refine x_add rfl ?_
       refine x_ald rfl rfl rfl (by omega) rfl ?_
       refine x_irLe0 rfl (by omega) (fun h_2 => ?_) (fun h_2 => ?_)
       · first
         | (exfalso; omega)
         | (refine x_ldI rfl rfl ?_
            refine x_push rfl ?_
            refine x_push rfl ?_
            refine x_call rfl rfl rfl (r_held (by omega) (by omega)) ?_
            exact x_retI rfl (by (unfold gvV gvW hld; simp (disch := omega) only [if_pos, if_neg])) (by (unfold gvS gvW; simp (disch := omega) only [if_pos, if_neg])))
       · first
         | (exfalso; omega)
         | (refine x_ldR rfl rfl rfl ?_
            first | refine x_getI rfl rfl rfl rfl rfl ?_ | refine x_getR rfl rfl rfl rfl rfl ?_
            refine x_push rfl ?_
            refine x_ldI rfl rfl ?_
            refine x_astk 0 rfl rfl rfl rfl rfl rfl ?_
            refine x_ldR rfl rfl rfl ?_
            first | refine x_getI rfl rfl rfl rfl rfl ?_ | refine x_getR rfl rfl rfl rfl rfl ?_
            refine x_push rfl ?_
            refine x_ldI rfl rfl ?_
            refine x_astk 1 rfl rfl rfl rfl rfl rfl ?_
            refine x_ldR rfl rfl rfl ?_
            first | refine x_getI rfl rfl rfl rfl rfl ?_ | refine x_getR rfl rfl rfl rfl rfl ?_
            refine x_push rfl ?_
            refine x_ldI rfl rfl ?_
            refine x_astk 2 rfl rfl rfl rfl rfl rfl ?_
            refine x_ldR rfl rfl rfl ?_
            first | refine x_getI rfl rfl rfl rfl rfl ?_ | refine x_getR rfl rfl rfl rfl rfl ?_
            refine x_push rfl ?_
            refine x_ldI rfl rfl ?_
            refine x_astk 3 rfl rfl rfl rfl rfl rfl ?_
            refine Run.pre (s1 := ua s 151 (nm4 (s 151) a b c e)) (by unfold nm4; simp (disch := omega) only [us_d, ua_ua, ua_eq]) ?_
            refine x_ldR rfl rfl rfl ?_
            refine x_push rfl ?_
            refine x_push rfl ?_
            refine x_ldI rfl rfl ?_
            refine x_mul rfl ?_
            refine x_add rfl ?_
            refine x_ldR rfl rfl rfl ?_
            first | refine x_getI rfl rfl rfl rfl rfl ?_ | refine x_getR rfl rfl rfl rfl rfl ?_
            refine x_push rfl ?_
            refine x_ldI rfl rfl ?_
            refine x_add rfl ?_
            refine x_ald rfl rfl rfl (by omega) rfl ?_
            rw [ua_ne (by decide)]
            refine x_callV rfl rfl rfl rfl rfl rfl rfl (r_workedN (by omega) (by omega) hC) ?_
            refine x_StI_7_6 rfl rfl ?_
            refine x_ldI rfl rfl ?_
            refine x_push rfl ?_
            refine x_push rfl ?_
            refine x_call rfl rfl rfl (r_held (by omega) (by omega)) ?_
            exact x_retI rfl (by (unfold gvV gvW hld; simp (disch := omega) only [if_pos, if_neg])) (by (unfold gvS gvW; simp (disch := omega) only [if_pos, if_neg]))))
  · first
    | (exfalso; omega)
    | (refine x_ldI rfl rfl ?_
       refine x_ldI rfl rfl ?_
       refine x_add rfl ?_
       refine x_go rfl ?_
       refine x_StI_7_6 rfl rfl ?_
       refine x_ldR rfl rfl rfl ?_
       first | refine x_getI rfl rfl rfl rfl rfl ?_ | refine x_getR rfl rfl rfl rfl rfl ?_
       refine x_push rfl ?_
       refine x_ldI rfl rfl ?_
       refine x_add rfl ?_
       refine x_ald rfl rfl rfl (by omega) rfl ?_
       refine x_irLe0 rfl (by omega) (fun h_3 => ?_) (fun h_3 => ?_)
       · first
         | (exfalso; omega)
         | (refine x_ldI rfl rfl ?_
            refine x_push rfl ?_
            refine x_push rfl ?_
            refine x_call rfl rfl rfl (r_held (by omega) (by omega)) ?_
            exact x_retI rfl (by (unfold gvV gvW hld; simp (disch := omega) only [if_pos, if_neg])) (by (unfold gvS gvW; simp (disch := omega) only [if_pos, if_neg])))
       · first
         | (exfalso; omega)
         | (refine x_ldR rfl rfl rfl ?_
            first | refine x_getI rfl rfl rfl rfl rfl ?_ | refine x_getR rfl rfl rfl rfl rfl ?_
            refine x_push rfl ?_
            refine x_ldI rfl rfl ?_
            refine x_astk 0 rfl rfl rfl rfl rfl rfl ?_
            refine x_ldR rfl rfl rfl ?_
            first | refine x_getI rfl rfl rfl rfl rfl ?_ | refine x_getR rfl rfl rfl rfl rfl ?_
            refine x_push rfl ?_
            refine x_ldI rfl rfl ?_
            refine x_astk 1 rfl rfl rfl rfl rfl rfl ?_
            refine x_ldR rfl rfl rfl ?_
            first | refine x_getI rfl rfl rfl rfl rfl ?_ | refine x_getR rfl rfl rfl rfl rfl ?_
            refine x_push rfl ?_
            refine x_ldI rfl rfl ?_
            refine x_astk 2 rfl rfl rfl rfl rfl rfl ?_
            refine x_ldR rfl rfl rfl ?_
            first | refine x_getI rfl rfl rfl rfl rfl ?_ | refine x_getR rfl rfl rfl rfl rfl ?_
            refine x_push rfl ?_
            refine x_ldI rfl rfl ?_
            refine x_astk 3 rfl rfl rfl rfl rfl rfl ?_
            refine Run.pre (s1 := ua s 151 (nm4 (s 151) a b c e)) (by unfold nm4; simp (disch := omega) only [us_d, ua_ua, ua_eq]) ?_
            refine x_ldR rfl rfl rfl ?_
            refine x_push rfl ?_
            refine x_push rfl ?_
            refine x_ldI rfl rfl ?_
            refine x_mul rfl ?_
            refine x_add rfl ?_
            refine x_ldR rfl rfl rfl ?_
            first | refine x_getI rfl rfl rfl rfl rfl ?_ | refine x_getR rfl rfl rfl rfl rfl ?_
            refine x_push rfl ?_
            refine x_ldI rfl rfl ?_
            refine x_add rfl ?_
            refine x_ald rfl rfl rfl (by omega) rfl ?_
            rw [ua_ne (by decide)]
            refine x_callV rfl rfl rfl rfl rfl rfl rfl (r_workedN (by omega) (by omega) hC) ?_
            refine x_StI_7_6 rfl rfl ?_
            refine x_ldI rfl rfl ?_
            refine x_push rfl ?_
            refine x_push rfl ?_
            refine x_call rfl rfl rfl (r_held (by omega) (by omega)) ?_
            exact x_retI rfl (by (unfold gvV gvW hld; simp (disch := omega) only [if_pos, if_neg])) (by (unfold gvS gvW; simp (disch := omega) only [if_pos, if_neg]))))
theorem r_wantsOf {d : Nat} {s : mSt} {p : Int} (hp : 0 ≤ p ∧ p < 10) (hC : COk (s 147)) : Call (d + 3) 204 [.inr (.inr 146), .inl p] (encA s) (some (.inl (gvV s 1 (s 147 (69 + 4 * p + 1).toNat) (s 147 (69 + 4 * p + 2).toNat) (s 147 (69 + 4 * p + 3).toNat) (s 147 38)))) (encA (gvS s 1 (s 147 (69 + 4 * p + 1).toNat) (s 147 (69 + 4 * p + 2).toNat) (s 147 (69 + 4 * p + 3).toNat) (s 147 38))) := by
  refine ⟨Nat.le_of_ble_eq_true rfl, ?_⟩
  show Run (d + 3) 204 0 [some (.inr (.inr 146)), some (.inl p)] [] (encA s) (some (.inl (gvV s 1 (s 147 (69 + 4 * p + 1).toNat) (s 147 (69 + 4 * p + 2).toNat) (s 147 (69 + 4 * p + 3).toNat) (s 147 38)))) (encA (gvS s 1 (s 147 (69 + 4 * p + 1).toNat) (s 147 (69 + 4 * p + 2).toNat) (s 147 (69 + 4 * p + 3).toNat) (s 147 38)))
  refine x_ldR rfl rfl rfl ?_
  refine x_push rfl ?_
  refine x_ldR rfl rfl rfl ?_
  refine x_ldI rfl rfl ?_
  refine x_push rfl ?_
  refine x_callV rfl rfl rfl rfl rfl rfl rfl (r_ofOne (by omega) (by omega)) ?_
  refine x_ldR rfl rfl rfl ?_
  refine x_ldI rfl rfl ?_
  refine x_push rfl ?_
  refine x_callV rfl rfl rfl rfl rfl rfl rfl (r_ofOne (by omega) (by omega)) ?_
  refine x_ldR rfl rfl rfl ?_
  refine x_ldI rfl rfl ?_
  refine x_push rfl ?_
  refine x_callV rfl rfl rfl rfl rfl rfl rfl (r_ofOne (by omega) (by omega)) ?_
  refine x_ldR rfl rfl rfl ?_
  first | refine x_getI rfl rfl rfl rfl rfl ?_ | refine x_getR rfl rfl rfl rfl rfl ?_
  refine x_push rfl ?_
  refine x_aldk 38 rfl rfl rfl rfl rfl rfl ?_
  refine x_callV rfl rfl rfl rfl rfl rfl rfl (r_gives (by omega) hC.2) ?_
  exact x_retI rfl (by (first | rfl | omega)) (by rfl)
