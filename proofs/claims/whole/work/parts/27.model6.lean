/-! ===== the reference: a text worked out ===== -/
def wkS (nm : Nat → Int) (t : Int) (q : (Nat → Int) × Int) : (Nat → Int) × Int :=
  if t < 20000 then (mup q.1 q.2.toNat (if t < 10000 then t else nm (t - 10000).toNat), q.2 + 1)
  else if t = 20033 then (mup q.1 (q.2 - 1).toNat (if w32 (q.1 (q.2 - 1).toNat) = 0 then 1 else 0), q.2)
  else (mup q.1 (q.2 + -1 - 1).toNat (doneV (t - 20000) (q.1 (q.2 + -1 - 1).toNat) (q.1 (q.2 + -1).toNat)), q.2 + -1)
def wk (d nm : Nat → Int) (b : Int) (p0 : Nat → Int) : Nat → (Nat → Int) × Int
  | 0 => (p0, 0)
  | k + 1 => wkS nm (d (b + (k : Int)).toNat) (wk d nm b p0 k)
def hgt (d : Nat → Int) (b : Int) : Nat → Int
  | 0 => 0
  | k + 1 => hgt d b k + (if d (b + (k : Int)).toNat < 20000 then 1 else if d (b + (k : Int)).toNat = 20033 then 0 else -1)
theorem wk_hgt (d nm : Nat → Int) (b : Int) (p0 : Nat → Int) : ∀ k, (wk d nm b p0 k).2 = hgt d b k
  | 0 => rfl
  | k + 1 => by
    have ih := wk_hgt d nm b p0 k
    unfold wk hgt wkS
    split
    · dsimp only; omega
    · split
      · dsimp only; omega
      · dsimp only; omega
theorem hgt_le (d : Nat → Int) (b : Int) : ∀ k, hgt d b k ≤ (k : Int)
  | 0 => by show (0 : Int) ≤ 0; omega
  | k + 1 => by
    have ih := hgt_le d b k
    unfold hgt
    split
    · omega
    · split <;> omega
def CodeOk (d : Nat → Int) (b n : Int) : Prop := (0 ≤ n ∧ n ≤ 50) ∧ ∀ k : Nat, (k : Int) < n → (0 ≤ d (b + (k : Int)).toNat ∧ d (b + (k : Int)).toNat < 20200) ∧ (d (b + (k : Int)).toNat ≤ 20000 → d (b + (k : Int)).toNat < 10004) ∧ 0 ≤ hgt d b k ∧ (d (b + (k : Int)).toNat = 20033 → 1 ≤ hgt d b k) ∧ (20000 ≤ d (b + (k : Int)).toNat → d (b + (k : Int)).toNat ≠ 20033 → 2 ≤ hgt d b k)
theorem r_done {d : Nat} {s : mSt} {z v w : Int} (hz : 0 ≤ z ∧ z < 200) : Call (d + 0) 189 [.inl z, .inl v, .inl w] (encA s) (some (.inl (doneV z v w))) (encA (s)) := by
  refine ⟨Nat.le_of_ble_eq_true rfl, ?_⟩
  show Run (d + 0) 189 0 [some (.inl z), some (.inl v), some (.inl w)] [] (encA s) (some (.inl (doneV z v w))) (encA (s))
  refine x_ldI rfl rfl ?_
  obtain h_1 | h_1 | h_1 | h_1 | h_1 | h_1 | h_1 | h_1 | h_1 | h_1 := (by omega : z = 38 ∨ z = 42 ∨ z = 43 ∨ z = 45 ∨ z = 47 ∨ z = 60 ∨ z = 61 ∨ z = 62 ∨ z = 124 ∨ (¬ z = 38 ∧ ¬ z = 42 ∧ ¬ z = 43 ∧ ¬ z = 45 ∧ ¬ z = 47 ∧ ¬ z = 60 ∧ ¬ z = 61 ∧ ¬ z = 62 ∧ ¬ z = 124))
  · first
    | (exfalso; omega)
    | (refine x_sw (tg := 10) rfl (by rw [w32_id (by omega) (by omega), h_1]; rfl) ?_
       refine x_ldI rfl rfl ?_
       refine x_ifEq0 rfl (fun h_2 => ?_) (fun h_2 => ?_)
       · first
         | (exfalso; omega)
         | (refine x_push rfl ?_
            exact x_retI rfl (by (unfold doneV; simp (disch := omega) only [if_pos, if_neg])) (by rfl))
       · first
         | (exfalso; omega)
         | (refine x_ldI rfl rfl ?_
            refine x_ifEq0 rfl (fun h_3 => ?_) (fun h_3 => ?_)
            · first
              | (exfalso; omega)
              | (refine x_push rfl ?_
                 exact x_retI rfl (by (unfold doneV; simp (disch := omega) only [if_pos, if_neg])) (by rfl))
            · first
              | (exfalso; omega)
              | (refine x_push rfl ?_
                 refine x_go rfl ?_
                 exact x_retI rfl (by (unfold doneV; simp (disch := omega) only [if_pos, if_neg])) (by rfl))))
  · first
    | (exfalso; omega)
    | (refine x_sw (tg := 47) rfl (by rw [w32_id (by omega) (by omega), h_1]; rfl) ?_
       refine x_ldI rfl rfl ?_
       refine x_ldI rfl rfl ?_
       refine x_mul rfl ?_
       exact x_retI rfl (by (unfold doneV; simp (disch := omega) only [if_pos, if_neg])) (by rfl))
  · first
    | (exfalso; omega)
    | (refine x_sw (tg := 39) rfl (by rw [w32_id (by omega) (by omega), h_1]; rfl) ?_
       refine x_ldI rfl rfl ?_
       refine x_ldI rfl rfl ?_
       refine x_add rfl ?_
       exact x_retI rfl (by (unfold doneV; simp (disch := omega) only [if_pos, if_neg])) (by rfl))
  · first
    | (exfalso; omega)
    | (refine x_sw (tg := 43) rfl (by rw [w32_id (by omega) (by omega), h_1]; rfl) ?_
       refine x_ldI rfl rfl ?_
       refine x_ldI rfl rfl ?_
       refine x_sub rfl ?_
       exact x_retI rfl (by (unfold doneV; simp (disch := omega) only [if_pos, if_neg])) (by rfl))
  · first
    | (exfalso; omega)
    | (refine x_sw (tg := 51) rfl (by rw [w32_id (by omega) (by omega), h_1]; rfl) ?_
       refine x_ldI rfl rfl ?_
       refine x_ifNe0 rfl (fun h_4 => ?_) (fun h_4 => ?_)
       · first
         | (exfalso; omega)
         | (refine x_ldI rfl rfl ?_
            refine x_ldI rfl rfl ?_
            refine x_div rfl (by omega) ?_
            exact x_retI rfl (by (unfold doneV; simp (disch := omega) only [if_pos, if_neg])) (by rfl))
       · first
         | (exfalso; omega)
         | (refine x_push rfl ?_
            refine x_go rfl ?_
            exact x_retI rfl (by (unfold doneV; simp (disch := omega) only [if_pos, if_neg])) (by rfl)))
  · first
    | (exfalso; omega)
    | (refine x_sw (tg := 18) rfl (by rw [w32_id (by omega) (by omega), h_1]; rfl) ?_
       refine x_ldI rfl rfl ?_
       refine x_ldI rfl rfl ?_
       refine x_icGe rfl (fun h_5 => ?_) (fun h_5 => ?_)
       · first
         | (exfalso; omega)
         | (refine x_push rfl ?_
            exact x_retI rfl (by (unfold doneV; simp (disch := omega) only [if_pos, if_neg])) (by rfl))
       · first
         | (exfalso; omega)
         | (refine x_push rfl ?_
            refine x_go rfl ?_
            exact x_retI rfl (by (unfold doneV; simp (disch := omega) only [if_pos, if_neg])) (by rfl)))
  · first
    | (exfalso; omega)
    | (refine x_sw (tg := 25) rfl (by rw [w32_id (by omega) (by omega), h_1]; rfl) ?_
       refine x_ldI rfl rfl ?_
       refine x_ldI rfl rfl ?_
       refine x_icNe rfl (fun h_6 => ?_) (fun h_6 => ?_)
       · first
         | (exfalso; omega)
         | (refine x_push rfl ?_
            exact x_retI rfl (by (unfold doneV; simp (disch := omega) only [if_pos, if_neg])) (by rfl))
       · first
         | (exfalso; omega)
         | (refine x_push rfl ?_
            refine x_go rfl ?_
            exact x_retI rfl (by (unfold doneV; simp (disch := omega) only [if_pos, if_neg])) (by rfl)))
  · first
    | (exfalso; omega)
    | (refine x_sw (tg := 32) rfl (by rw [w32_id (by omega) (by omega), h_1]; rfl) ?_
       refine x_ldI rfl rfl ?_
       refine x_ldI rfl rfl ?_
       refine x_icLe rfl (fun h_7 => ?_) (fun h_7 => ?_)
       · first
         | (exfalso; omega)
         | (refine x_push rfl ?_
            exact x_retI rfl (by (unfold doneV; simp (disch := omega) only [if_pos, if_neg])) (by rfl))
       · first
         | (exfalso; omega)
         | (refine x_push rfl ?_
            refine x_go rfl ?_
            exact x_retI rfl (by (unfold doneV; simp (disch := omega) only [if_pos, if_neg])) (by rfl)))
  · first
    | (exfalso; omega)
    | (refine x_sw (tg := 2) rfl (by rw [w32_id (by omega) (by omega), h_1]; rfl) ?_
       refine x_ldI rfl rfl ?_
       refine x_ifNe0 rfl (fun h_8 => ?_) (fun h_8 => ?_)
       · first
         | (exfalso; omega)
         | (refine x_push rfl ?_
            refine x_go rfl ?_
            exact x_retI rfl (by (unfold doneV; simp (disch := omega) only [if_pos, if_neg])) (by rfl))
       · first
         | (exfalso; omega)
         | (refine x_ldI rfl rfl ?_
            refine x_ifEq0 rfl (fun h_9 => ?_) (fun h_9 => ?_)
            · first
              | (exfalso; omega)
              | (refine x_push rfl ?_
                 exact x_retI rfl (by (unfold doneV; simp (disch := omega) only [if_pos, if_neg])) (by rfl))
            · first
              | (exfalso; omega)
              | (refine x_push rfl ?_
                 refine x_go rfl ?_
                 exact x_retI rfl (by (unfold doneV; simp (disch := omega) only [if_pos, if_neg])) (by rfl))))
  · first
    | (exfalso; omega)
    | (refine x_sw (tg := 59) rfl (by rw [w32_id (by omega) (by omega)]; unfold mSwL; simp only [mSwL]; (repeat rw [if_neg (by omega)])) ?_
       refine x_ldI rfl rfl ?_
       refine x_ifNe0 rfl (fun h_10 => ?_) (fun h_10 => ?_)
       · first
         | (exfalso; omega)
         | (refine x_ldI rfl rfl ?_
            refine x_ldI rfl rfl ?_
            refine x_div rfl (by omega) ?_
            exact x_retI rfl (by (unfold doneV; simp (disch := omega) only [if_pos, if_neg])) (by rfl))
       · first
         | (exfalso; omega)
         | (refine x_push rfl ?_
            refine x_go rfl ?_
            exact x_retI rfl (by (unfold doneV; simp (disch := omega) only [if_pos, if_neg])) (by rfl)))
theorem l_worked {d : Nat} {s : mSt} {b n : Int} {x5 : Option mAV} (k : Nat) (i : Int) (hn : 0 ≤ n ∧ n ≤ 50) (hb : 143 ≤ b ∧ b ≤ 193) (hC : CodeOk (s 147) b n) (hi : i = b + (k : Int)) (hk : (k : Int) ≤ n) : Run (d + 1) 190 4 [some (.inr (.inr 146)), some (.inl b), some (.inl n), some (.inl (wk (s 147) (s 151) b (s 153) k).2), some (.inl i), x5] [] (encA (ua s 153 (wk (s 147) (s 151) b (s 153) k).1)) (some (.inl ((wk (s 147) (s 151) b (s 153) n.toNat).1 0))) (encA (ua s 153 (wk (s 147) (s 151) b (s 153) n.toNat).1)) := by
  subst hi
  have hw := wk_hgt (s 147) (s 151) b (s 153) k
  have hl := hgt_le (s 147) b k
  have hc := hC.2 k
  refine x_ldI rfl rfl ?_
  refine x_ldI rfl rfl ?_
  refine x_ldI rfl rfl ?_
  refine x_add rfl ?_
  refine x_crGe rfl (by omega) (by omega) (fun h_1 => ?_) (fun h_1 => ?_)
  · first
    | (exfalso; omega)
    | (refine x_ldR rfl rfl rfl ?_
       first | refine x_getI rfl rfl rfl rfl rfl ?_ | refine x_getR rfl rfl rfl rfl rfl ?_
       refine x_push rfl ?_
       refine x_aldk 0 rfl rfl rfl rfl rfl rfl ?_
       exact x_retI rfl (by (rw [show k = n.toNat by omega, ua_eq])) (by (rw [show k = n.toNat by omega])))
  · first
    | (exfalso; omega)
    | (have hc := hc (by omega)
       refine x_ldR rfl rfl rfl ?_
       first | refine x_getI rfl rfl rfl rfl rfl ?_ | refine x_getR rfl rfl rfl rfl rfl ?_
       refine x_ldI rfl rfl ?_
       refine x_ald rfl rfl rfl (by omega) rfl ?_
       rw [ua_ne (by decide)]
       refine x_StI_6_5 rfl rfl ?_
       refine x_ldI rfl rfl ?_
       refine x_push rfl ?_
       refine x_crGe rfl (by omega) (by omega) (fun h_2 => ?_) (fun h_2 => ?_)
       · first
         | (exfalso; omega)
         | (refine x_ldI rfl rfl ?_
            refine x_push rfl ?_
            refine x_crNe rfl (by omega) (by omega) (fun h_3 => ?_) (fun h_3 => ?_)
            · first
              | (exfalso; omega)
              | (refine x_inc_6_3 rfl rfl ?_
                 refine x_ldR rfl rfl rfl ?_
                 first | refine x_getI rfl rfl rfl rfl rfl ?_ | refine x_getR rfl rfl rfl rfl rfl ?_
                 refine x_ldI rfl rfl ?_
                 refine x_push rfl ?_
                 refine x_sub rfl ?_
                 refine x_ldI rfl rfl ?_
                 refine x_push rfl ?_
                 refine x_sub rfl ?_
                 refine x_ldR rfl rfl rfl ?_
                 first | refine x_getI rfl rfl rfl rfl rfl ?_ | refine x_getR rfl rfl rfl rfl rfl ?_
                 refine x_ldI rfl rfl ?_
                 refine x_push rfl ?_
                 refine x_sub rfl ?_
                 refine x_ald rfl rfl rfl (by omega) rfl ?_
                 refine x_ldR rfl rfl rfl ?_
                 first | refine x_getI rfl rfl rfl rfl rfl ?_ | refine x_getR rfl rfl rfl rfl rfl ?_
                 refine x_ldI rfl rfl ?_
                 refine x_ald rfl rfl rfl (by omega) rfl ?_
                 refine x_call rfl rfl rfl (r_done (by omega)) ?_
                 refine x_ast rfl rfl rfl (by omega) rfl ?_
                 refine x_inc_6_4 rfl rfl ?_
                 refine x_go rfl ?_
                 exact Run.loc (by simp (disch := omega) only [wk, wkS, if_pos, if_neg]) (Run.pre (by simp (disch := omega) only [us_ua, ua_eq, ua_ne, wk, wkS, if_pos, if_neg]; (try rfl)) (l_worked (x5 := some (.inl (s 147 (b + (k : Int)).toNat))) (k + 1) (b + (k : Int) + 1) hn hb hC (by omega) (by omega))))
            · first
              | (exfalso; omega)
              | (refine x_ldR rfl rfl rfl ?_
                 first | refine x_getI rfl rfl rfl rfl rfl ?_ | refine x_getR rfl rfl rfl rfl rfl ?_
                 refine x_ldI rfl rfl ?_
                 refine x_push rfl ?_
                 refine x_sub rfl ?_
                 refine x_ldR rfl rfl rfl ?_
                 first | refine x_getI rfl rfl rfl rfl rfl ?_ | refine x_getR rfl rfl rfl rfl rfl ?_
                 refine x_ldI rfl rfl ?_
                 refine x_push rfl ?_
                 refine x_sub rfl ?_
                 refine x_ald rfl rfl rfl (by omega) rfl ?_
                 rw [ua_eq]
                 refine x_ifNe0 rfl (fun h_4 => ?_) (fun h_4 => ?_)
                 · first
                   | (exfalso; omega)
                   | (refine x_push rfl ?_
                      refine x_ast rfl rfl rfl (by omega) rfl ?_
                      refine x_go rfl ?_
                      refine x_inc_6_4 rfl rfl ?_
                      refine x_go rfl ?_
                      exact Run.loc (by simp (disch := omega) only [wk, wkS, if_pos, if_neg]) (Run.pre (by simp (disch := omega) only [us_ua, ua_eq, ua_ne, wk, wkS, if_pos, if_neg]; (try rfl)) (l_worked (x5 := some (.inl (s 147 (b + (k : Int)).toNat))) (k + 1) (b + (k : Int) + 1) hn hb hC (by omega) (by omega))))
                 · first
                   | (exfalso; omega)
                   | (refine x_push rfl ?_
                      refine x_go rfl ?_
                      refine x_ast rfl rfl rfl (by omega) rfl ?_
                      refine x_go rfl ?_
                      refine x_inc_6_4 rfl rfl ?_
                      refine x_go rfl ?_
                      exact Run.loc (by simp (disch := omega) only [wk, wkS, if_pos, if_neg]) (Run.pre (by simp (disch := omega) only [us_ua, ua_eq, ua_ne, wk, wkS, if_pos, if_neg]; (try rfl)) (l_worked (x5 := some (.inl (s 147 (b + (k : Int)).toNat))) (k + 1) (b + (k : Int) + 1) hn hb hC (by omega) (by omega))))))
       · first
         | (exfalso; omega)
         | (refine x_ldR rfl rfl rfl ?_
            first | refine x_getI rfl rfl rfl rfl rfl ?_ | refine x_getR rfl rfl rfl rfl rfl ?_
            refine x_ldI rfl rfl ?_
            refine x_ldI rfl rfl ?_
            refine x_push rfl ?_
            refine x_crGe rfl (by omega) (by omega) (fun h_5 => ?_) (fun h_5 => ?_)
            · first
              | (exfalso; omega)
              | (refine x_ldR rfl rfl rfl ?_
                 first | refine x_getI rfl rfl rfl rfl rfl ?_ | refine x_getR rfl rfl rfl rfl rfl ?_
                 refine x_ldI rfl rfl ?_
                 refine x_push rfl ?_
                 refine x_sub rfl ?_
                 refine x_ald rfl rfl rfl (by omega) rfl ?_
                 refine x_ast rfl rfl rfl (by omega) rfl ?_
                 refine x_inc_6_3 rfl rfl ?_
                 refine x_go rfl ?_
                 refine x_inc_6_4 rfl rfl ?_
                 refine x_go rfl ?_
                 exact Run.loc (by simp (disch := omega) only [wk, wkS, if_pos, if_neg]) (Run.pre (by simp (disch := omega) only [us_ua, ua_eq, ua_ne, wk, wkS, if_pos, if_neg]; (try rfl)) (l_worked (x5 := some (.inl (s 147 (b + (k : Int)).toNat))) (k + 1) (b + (k : Int) + 1) hn hb hC (by omega) (by omega))))
            · first
              | (exfalso; omega)
              | (refine x_ldI rfl rfl ?_
                 refine x_go rfl ?_
                 refine x_ast rfl rfl rfl (by omega) rfl ?_
                 refine x_inc_6_3 rfl rfl ?_
                 refine x_go rfl ?_
                 refine x_inc_6_4 rfl rfl ?_
                 refine x_go rfl ?_
                 exact Run.loc (by simp (disch := omega) only [wk, wkS, if_pos, if_neg]) (Run.pre (by simp (disch := omega) only [us_ua, ua_eq, ua_ne, wk, wkS, if_pos, if_neg]; (try rfl)) (l_worked (x5 := some (.inl (s 147 (b + (k : Int)).toNat))) (k + 1) (b + (k : Int) + 1) hn hb hC (by omega) (by omega))))))
termination_by (n - k).toNat
decreasing_by all_goals omega
theorem r_worked {d : Nat} {s : mSt} {b n : Int} (hn : 0 ≤ n ∧ n ≤ 50) (hb : 143 ≤ b ∧ b ≤ 193) (hC : CodeOk (s 147) b n) : Call (d + 1) 190 [.inr (.inr 146), .inl b, .inl n] (encA s) (some (.inl ((wk (s 147) (s 151) b (s 153) n.toNat).1 0))) (encA (ua s 153 (wk (s 147) (s 151) b (s 153) n.toNat).1)) := by
  refine ⟨Nat.le_of_ble_eq_true rfl, ?_⟩
  show Run (d + 1) 190 0 [some (.inr (.inr 146)), some (.inl b), some (.inl n), none, none, none] [] (encA s) (some (.inl ((wk (s 147) (s 151) b (s 153) n.toNat).1 0))) (encA (ua s 153 (wk (s 147) (s 151) b (s 153) n.toNat).1))
  refine x_push rfl ?_
  refine x_StI_6_3 rfl rfl ?_
  refine x_ldI rfl rfl ?_
  refine x_StI_6_4 rfl rfl ?_
  exact Run.pre (by rw [show (wk (s 147) (s 151) b (s 153) 0).1 = s 153 from rfl, ua_self]) (l_worked 0 b hn hb hC (by omega) (by omega))
def hld (v : Int) : Int := if v < 1 then 1 else if 99 < v then 99 else v
def nm4 (f : Nat → Int) (a b c e : Int) : Nat → Int := mup (mup (mup (mup f 0 a) 1 b) 2 c) 3 e
/-- how a row of numbers gives by a use -/
def gvW (s : mSt) (use a b c e : Int) : (Nat → Int) × Int := wk (s 147) (nm4 (s 151) a b c e) (143 + 50 * use) (s 153) (s 147 (121 + use).toNat).toNat
def gvV (s : mSt) (use a b c e : Int) : Int := hld (w32 (if 0 < s 147 (121 + use).toNat then (gvW s use a b c e).1 0 else if use = 0 then a + b else a))
def gvS (s : mSt) (use a b c e : Int) : mSt := if 0 < s 147 (121 + use).toNat then ua (ua s 151 (nm4 (s 151) a b c e)) 153 (gvW s use a b c e).1 else s
