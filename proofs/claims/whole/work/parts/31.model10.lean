/-! ===== the reference: nights and looks ahead ===== -/
theorem r_goesBy2 {d : Nat} {s : mSt} {l1 l2 l3 : Option mAV} : Run (d + 6) 223 30 [some (.inr (.inr 146)), l1, l2, l3] [] (encA s) none (encA (ua s 147 (mup (s 147) 38 (s 147 38 + 1)))) := by
  refine x_ldR rfl rfl rfl ?_
  first | refine x_getI rfl rfl rfl rfl rfl ?_ | refine x_getR rfl rfl rfl rfl rfl ?_
  refine x_push rfl ?_
  refine x_dup2 rfl ?_
  refine x_aldk 38 rfl rfl rfl rfl rfl rfl ?_
  refine x_push rfl ?_
  refine x_add rfl ?_
  refine x_astk 38 rfl rfl rfl rfl rfl rfl ?_
  exact x_retV rfl (by (simp (disch := omega) only [us_d, ua_ua, ua_eq, mup_ne, mup_eq]))
theorem r_goesBy {d : Nat} {s : mSt} (hM : MOk (s 147)) (hC : COk (s 147)) : Call (d + 6) 223 [.inr (.inr 146)] (encA s) (none) (encA (gbS s)) := by
  refine ⟨Nat.le_of_ble_eq_true rfl, ?_⟩
  show Run (d + 6) 223 0 [some (.inr (.inr 146)), none, none, none] [] (encA s) (none) (encA (gbS s))
  have hl := litW_rng hM
  have h4 := hM.2.1
  refine x_ldR rfl rfl rfl ?_
  refine x_callV rfl rfl rfl rfl rfl rfl rfl (r_litNow hM) ?_
  refine x_StI_4_1 rfl rfl ?_
  refine x_ldI rfl rfl ?_
  refine x_irLt0 rfl (by omega) (fun h_1 => ?_) (fun h_1 => ?_)
  · first
    | (exfalso; omega)
    | (exact Run.post (by unfold gbS gb1; rw [if_pos (by omega)]) r_goesBy2)
  · first
    | (exfalso; omega)
    | (refine x_ldR rfl rfl rfl ?_
       refine x_ldI rfl rfl ?_
       refine x_callV rfl rfl rfl rfl rfl rfl rfl (r_metBy hM hC (by omega)) ?_
       refine x_StI_4_2 rfl rfl ?_
       refine x_push rfl ?_
       refine x_StI_4_3 rfl rfl ?_
       exact l_goesBy (s := (mbS s (litW (s 147))).2) (s 147 40).toNat 0 (by rw [mbS_ne (by decide) (by decide) (by decide)]; exact hM) (by rw [mbS_ne (by decide) (by decide) (by decide)]; exact hC) (by omega) (by rw [mbS_ne (by decide) (by decide) (by decide)]; omega) (Run.post (by unfold gbS gb1; rw [if_neg (by omega)]) r_goesBy2))
def gnS : Nat → mSt → mSt
  | 0, s => s
  | n + 1, s => gnS n (gbS s)
theorem gnS_ok : ∀ (n : Nat) (s : mSt), MOk (s 147) → COk (s 147) → s 147 38 + n ≤ 20000 → MOk (gnS n s 147) ∧ COk (gnS n s 147) ∧ (∀ i, i ≠ 38 → (i < 48 ∨ 109 ≤ i) → gnS n s 147 i = s 147 i) ∧ gnS n s 147 38 = s 147 38 + n
  | 0, s, hM, hC, _ => ⟨hM, hC, fun _ _ _ => rfl, by show s 147 38 = s 147 38 + 0; omega⟩
  | n + 1, s, hM, hC, hn => by
    have h := gbS_ok hM hC (by omega)
    have ih := gnS_ok n (gbS s) h.1 h.2.1 (by omega)
    unfold gnS
    exact ⟨ih.1, ih.2.1, fun i e hi => (ih.2.2.1 i e hi).trans (h.2.2.1 i e hi), by omega⟩
theorem gnS_ne {x : Nat} (h0 : x ≠ 147) (h1 : x ≠ 151) (h2 : x ≠ 153) (h3 : x ≠ 154) : ∀ (n : Nat) (s : mSt), gnS n s x = s x
  | 0, s => rfl
  | n + 1, s => by
    unfold gnS
    rw [gnS_ne h0 h1 h2 h3 n, gbS_ne h0 h1 h2 h3]
theorem m_ushr8 (x : Int) : 0 ≤ m_ushr x 8 ∧ m_ushr x 8 < 16777216 := by
  unfold m_ushr
  rw [show (Int32.ofInt 8).toUInt32 &&& Int32.toUInt32 31 = 8 from by decide]
  generalize (Int32.ofInt x).toUInt32 = u
  have h1 : (u >>> 8).toNat = u.toNat / 256 := by
    rw [UInt32.toNat_shiftRight]
    exact Nat.shiftRight_eq_div_pow _ _
  have h2 := u.toNat_lt
  have h3 : (u >>> 8).toInt32.toInt = ((u >>> 8).toNat : Int) := BitVec.toInt_eq_toNat_of_lt (by show 2 * (u >>> 8).toNat < 2 ^ 32; omega)
  rw [h3]
  omega
def fogS (lo : Int) (s : mSt) : mSt := if lo = 0 then ua s 147 (mup (s 147) 36 (s 147 36)) else ua s 147 (mup (mup (s 147) 42 (s 147 42 * 1103515245 + 12345)) 36 (m_rem (m_ushr (s 147 42 * 1103515245 + 12345) 8) 4))
theorem fogS_ok {lo : Int} {s : mSt} (hM : MOk (s 147)) (hC : COk (s 147)) : MOk (fogS lo s 147) ∧ COk (fogS lo s 147) ∧ (∀ i, i ≠ 36 → i ≠ 42 → fogS lo s 147 i = s 147 i) := by
  have h6 := hM.2.2.2.2.2.1
  have h8 := m_ushr8 (s 147 42 * 1103515245 + 12345)
  have h9 := @m_rem_rng (m_ushr (s 147 42 * 1103515245 + 12345) 8) 4 (by omega) (by omega)
  unfold fogS
  split
  · rw [ua_eq]
    refine ⟨MOk_set hM ⟨by omega, by omega, by omega, by omega, by omega, by omega, by omega, by omega, by omega, fun w hw => ⟨by omega, by omega, by omega, by omega⟩, fun p hp => ⟨by omega, by omega, by omega, by omega⟩, fun j hj => by omega, fun j hj => by omega⟩, COk_set (by omega) hC, fun i h1 h2 => mup_ne h1⟩
  · rw [ua_eq]
    refine ⟨MOk_set (MOk_set hM ⟨by omega, by omega, by omega, by omega, by omega, by omega, by omega, by omega, by omega, fun w hw => ⟨by omega, by omega, by omega, by omega⟩, fun p hp => ⟨by omega, by omega, by omega, by omega⟩, fun j hj => by omega, fun j hj => by omega⟩) ⟨by omega, by omega, by omega, by omega, by omega, by omega, by omega, by omega, by omega, fun w hw => ⟨by omega, by omega, by omega, by omega⟩, fun p hp => ⟨by omega, by omega, by omega, by omega⟩, fun j hj => by omega, fun j hj => by omega⟩, COk_set (by omega) (COk_set (by omega) hC), fun i h1 h2 => ?_⟩
    rw [mup_ne h1, mup_ne h2]
theorem fogS_ne {lo : Int} {s : mSt} {x : Nat} (h : x ≠ 147) : fogS lo s x = s x := by
  unfold fogS
  split
  · exact ua_ne h
  · exact ua_ne h
def gsS (lo : Int) : Nat → mSt → mSt
  | 0, s => s
  | n + 1, s => gsS lo n (gbS (fogS lo s))
theorem gsS_ok {lo : Int} : ∀ (n : Nat) (s : mSt), MOk (s 147) → COk (s 147) → s 147 38 + n ≤ 20000 → MOk (gsS lo n s 147) ∧ COk (gsS lo n s 147) ∧ (∀ i, i ≠ 36 → i ≠ 42 → i ≠ 38 → (i < 48 ∨ 109 ≤ i) → gsS lo n s 147 i = s 147 i) ∧ gsS lo n s 147 38 = s 147 38 + n
  | 0, s, hM, hC, _ => ⟨hM, hC, fun _ _ _ _ _ => rfl, by show s 147 38 = s 147 38 + 0; omega⟩
  | n + 1, s, hM, hC, hn => by
    have h0 := fogS_ok (lo := lo) hM hC
    have h00 := h0.2.2 38 (by decide) (by decide)
    have h := gbS_ok h0.1 h0.2.1 (by omega)
    have ih := gsS_ok (lo := lo) n (gbS (fogS lo s)) h.1 h.2.1 (by omega)
    unfold gsS
    exact ⟨ih.1, ih.2.1, fun i e1 e2 e3 hi => (ih.2.2.1 i e1 e2 e3 hi).trans ((h.2.2.1 i e3 hi).trans (h0.2.2 i e1 e2)), by omega⟩
theorem gsS_ne {lo : Int} {x : Nat} (h0 : x ≠ 147) (h1 : x ≠ 151) (h2 : x ≠ 153) (h3 : x ≠ 154) : ∀ (n : Nat) (s : mSt), gsS lo n s x = s x
  | 0, s => rfl
  | n + 1, s => by
    unfold gsS
    rw [gsS_ne h0 h1 h2 h3 n, gbS_ne h0 h1 h2 h3, fogS_ne h0]
theorem l_goesOn {d : Nat} {s : mSt} {n : Int} (m : Nat) (k : Int) (hM : MOk (s 147)) (hC : COk (s 147)) (hk : k + m = n ∧ 0 ≤ k ∧ n ≤ 1000) (hn : s 147 38 + m ≤ 20000) : Run (d + 7) 229 2 [some (.inr (.inr 146)), some (.inl n), some (.inl k)] [] (encA (s)) (none) (encA (gnS m s)) := by
  refine x_ldI rfl rfl ?_
  refine x_ldI rfl rfl ?_
  refine x_crGe rfl (by omega) (by omega) (fun h_1 => ?_) (fun h_1 => ?_)
  · first
    | (exfalso; omega)
    | (exact x_retV rfl (by (obtain rfl : m = 0 := (by omega); rfl)))
  · first
    | (exfalso; omega)
    | (obtain ⟨m, rfl⟩ : ∃ q, m = q + 1 := ⟨m - 1, by omega⟩
       refine x_ldR rfl rfl rfl ?_
       refine x_callV rfl rfl rfl rfl rfl rfl rfl (r_goesBy hM hC) ?_
       refine x_inc_3_2 rfl rfl ?_
       refine x_go rfl ?_
       have hg := gbS_ok hM hC (by omega)
       exact l_goesOn (s := gbS s) m (k + 1) hg.1 hg.2.1 (by omega) (by omega))
termination_by m
decreasing_by all_goals omega
theorem r_goesOn {d : Nat} {s : mSt} {n : Int} (hM : MOk (s 147)) (hC : COk (s 147)) (h0 : 0 ≤ n ∧ n ≤ 1000) (hn : s 147 38 + n ≤ 20000) : Call (d + 7) 229 [.inr (.inr 146), .inl n] (encA s) (none) (encA (gnS n.toNat s)) := by
  refine ⟨Nat.le_of_ble_eq_true rfl, ?_⟩
  show Run (d + 7) 229 0 [some (.inr (.inr 146)), some (.inl n), none] [] (encA s) (none) (encA (gnS n.toNat s))
  refine x_push rfl ?_
  refine x_StI_3_2 rfl rfl ?_
  exact l_goesOn n.toNat 0 hM hC (by omega) (by omega)
theorem l_goes {d : Nat} {s : mSt} {n lo : Int} {r : Option mAV} {s' : mSt} (m : Nat) (k : Int) (hM : MOk (s 147)) (hC : COk (s 147)) (hlo : lo = 0 ∨ lo = 1) (hk : k + m = n ∧ 0 ≤ k ∧ n ≤ 1000) (hn : s 147 38 + m ≤ 20000) (kk : Run (d + 7) 226 46 [some (.inr (.inr 146)), some (.inl n), some (.inl lo), some (.inl n)] [] (encA (gsS lo m s)) r (encA s')) : Run (d + 7) 226 24 [some (.inr (.inr 146)), some (.inl n), some (.inl lo), some (.inl k)] [] (encA (s)) (r) (encA (s')) := by
  refine x_ldI rfl rfl ?_
  refine x_ldI rfl rfl ?_
  refine x_crGe rfl (by omega) (by omega) (fun h_1 => ?_) (fun h_1 => ?_)
  · first
    | (exfalso; omega)
    | (obtain rfl : m = 0 := by omega
       obtain rfl : k = n := by omega
       exact kk)
  · first
    | (exfalso; omega)
    | (obtain ⟨m, rfl⟩ : ∃ q, m = q + 1 := ⟨m - 1, by omega⟩
       have hf := fogS_ok (lo := lo) hM hC
       have hf8 := hf.2.2 38 (by decide) (by decide)
       refine x_ldR rfl rfl rfl ?_
       first | refine x_getI rfl rfl rfl rfl rfl ?_ | refine x_getR rfl rfl rfl rfl rfl ?_
       refine x_push rfl ?_
       refine x_ldI rfl rfl ?_
       refine x_irEq0 rfl (by omega) (fun h_2 => ?_) (fun h_2 => ?_)
       · first
         | (exfalso; omega)
         | (refine x_ldR rfl rfl rfl ?_
            first | refine x_getI rfl rfl rfl rfl rfl ?_ | refine x_getR rfl rfl rfl rfl rfl ?_
            refine x_push rfl ?_
            refine x_aldk 36 rfl rfl rfl rfl rfl rfl ?_
            refine x_astk 36 rfl rfl rfl rfl rfl rfl ?_
            refine Run.pre (s1 := fogS lo s) (by unfold fogS; first | (rw [if_pos (by omega)]; simp (disch := omega) only [us_d, ua_ua, ua_eq, mup_ne, mup_eq]; done) | (rw [if_neg (by omega)]; simp (disch := omega) only [us_d, ua_ua, ua_eq, mup_ne, mup_eq]) | (rw [if_pos (by omega)]; rfl)) ?_
            refine x_ldR rfl rfl rfl ?_
            refine x_callV rfl rfl rfl rfl rfl rfl rfl (r_goesBy hf.1 hf.2.1) ?_
            refine x_inc_4_3 rfl rfl ?_
            refine x_go rfl ?_
            have hg := gbS_ok hf.1 hf.2.1 (by omega)
            exact l_goes (s := gbS (fogS lo s)) m (k + 1) hg.1 hg.2.1 hlo (by omega) (by omega) kk)
       · first
         | (exfalso; omega)
         | (refine x_ldR rfl rfl rfl ?_
            refine x_callV rfl rfl rfl rfl rfl rfl rfl r_drawn ?_
            refine x_push rfl ?_
            refine x_div rfl (by decide) ?_
            refine x_go rfl ?_
            refine x_astk 36 rfl rfl rfl rfl rfl rfl ?_
            refine Run.pre (s1 := fogS lo s) (by unfold fogS; first | (rw [if_pos (by omega)]; simp (disch := omega) only [us_d, ua_ua, ua_eq, mup_ne, mup_eq]; done) | (rw [if_neg (by omega)]; simp (disch := omega) only [us_d, ua_ua, ua_eq, mup_ne, mup_eq]) | (rw [if_pos (by omega)]; rfl)) ?_
            refine x_ldR rfl rfl rfl ?_
            refine x_callV rfl rfl rfl rfl rfl rfl rfl (r_goesBy hf.1 hf.2.1) ?_
            refine x_inc_4_3 rfl rfl ?_
            refine x_go rfl ?_
            have hg := gbS_ok hf.1 hf.2.1 (by omega)
            exact l_goes (s := gbS (fogS lo s)) m (k + 1) hg.1 hg.2.1 hlo (by omega) (by omega) kk))
termination_by m
decreasing_by all_goals omega
