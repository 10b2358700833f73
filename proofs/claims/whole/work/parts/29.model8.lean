/-! ===== the reference: light, who is met ===== -/
theorem Run.postR {d mt j : Nat} {L : mL} {S : mS} {h : mH} {q q1 : Int × mSt} (e : q = q1) (k : Run d mt j L S h (some (.inl q.1)) (encA q.2)) : Run d mt j L S h (some (.inl q1.1)) (encA q1.2) := e ▸ k
theorem shn_rng {d : Nat → Int} (hM : MOk d) {w : Int} (hw : 0 ≤ w ∧ w < 6) : 0 ≤ shn d w ∧ shn d w ≤ 21 := by
  have h := MOk_w hM hw
  unfold shn shK
  repeat' split
  all_goals omega
theorem dms_rng (d : Nat → Int) (w : Int) : 1 ≤ dms d w ∧ dms d w ≤ 3 := by
  unfold dms dmK
  repeat' split
  all_goals omega
theorem rayS_ne {dm : Int} {x : Nat} (h1 : x ≠ 151) (h2 : x ≠ 153) (h3 : x ≠ 154) : ∀ (n : Nat) (s : mSt) (k c way has : Int), rayS dm n s k c way has x = s x
  | 0, s, k, c, way, has => rfl
  | n + 1, s, k, c, way, has => by
    unfold rayS
    split
    · rfl
    · split
      · exact gvS_ne h1 h2
      · split
        · exact gvS_ne h1 h2
        · rw [rayS_ne h1 h2 h3 n, us_ne h3, gvS_ne h1 h2]
theorem rayS_L {dm : Int} : ∀ (n : Nat) (s : mSt) (k c way has : Int), LOk (s 154) → has ≤ 30 → LOk (rayS dm n s k c way has 154)
  | 0, s, k, c, way, has, h, _ => h
  | n + 1, s, k, c, way, has, h, hh => by
    have hg := gvV_rng s 0 (s 147 36) dm has k
    unfold rayS
    split
    · exact h
    · split
      · rw [gvS_ne (by decide) (by decide)]; exact h
      · split
        · rw [gvS_ne (by decide) (by decide)]; exact h
        · refine rayS_L n _ _ _ _ _ ?_ (by omega)
          rw [us_eq, gvS_ne (by decide) (by decide)]
          intro i hi
          unfold mup
          split
          · rename_i e
            have := h i hi
            rw [e] at this
            omega
          · exact h i hi
def wyS (w : Int) : Nat → mSt → Int → mSt
  | 0, s, _ => s
  | n + 1, s, way => if 0 < shn (s 147) w then wyS w n (rayS (dms (s 147) w) 40 s 0 (s 147 (45 + 4 * w + 2).toNat) way (shn (s 147) w)) (way + 1) else s
theorem wyS_ne {w : Int} {x : Nat} (h1 : x ≠ 151) (h2 : x ≠ 153) (h3 : x ≠ 154) : ∀ (n : Nat) (s : mSt) (way : Int), wyS w n s way x = s x
  | 0, s, way => rfl
  | n + 1, s, way => by
    unfold wyS
    split
    · rw [wyS_ne h1 h2 h3 n, rayS_ne h1 h2 h3]
    · rfl
theorem wyS_L {w : Int} (hw : 0 ≤ w ∧ w < 6) : ∀ (n : Nat) (s : mSt) (way : Int), MOk (s 147) → LOk (s 154) → LOk (wyS w n s way 154)
  | 0, s, way, _, h => h
  | n + 1, s, way, hM, h => by
    have := shn_rng hM hw
    unfold wyS
    split
    · refine wyS_L hw n _ _ ?_ (rayS_L _ _ _ _ _ _ h (by omega))
      rw [rayS_ne (by decide) (by decide) (by decide)]; exact hM
    · exact h
def shi0 (s : mSt) (w : Int) : mSt := ua s 154 (mup (cp 36 (fun _ => 0) (s 154)) (s 147 (45 + 4 * w + 2).toNat).toNat (shn (s 147) w))
def shiS (s : mSt) (w : Int) : mSt := wyS w 4 (shi0 s w) 0
theorem shiS_ne {s : mSt} {w : Int} {x : Nat} (h1 : x ≠ 151) (h2 : x ≠ 153) (h3 : x ≠ 154) : shiS s w x = s x := by
  unfold shiS shi0
  rw [wyS_ne h1 h2 h3, ua_ne h3]
theorem shi0_L {s : mSt} {w : Int} (hM : MOk (s 147)) (hw : 0 ≤ w ∧ w < 6) : LOk (shi0 s w 154) := by
  have := shn_rng hM hw
  unfold shi0
  rw [ua_eq]
  refine LOk_up (fun c hc => ?_) (by omega)
  unfold cp
  rw [if_pos hc]
  show 0 ≤ (0 : Int) ∧ (0 : Int) ≤ 30
  omega
theorem shiS_L {s : mSt} {w : Int} (hM : MOk (s 147)) (hw : 0 ≤ w ∧ w < 6) : LOk (shiS s w 154) := by
  refine wyS_L hw _ _ _ ?_ (shi0_L hM hw)
  unfold shi0
  rw [ua_ne (by decide)]; exact hM
def wtV (s : mSt) (p : Int) : Int := gvV s 1 (s 147 (69 + 4 * p + 1).toNat) (s 147 (69 + 4 * p + 2).toNat) (s 147 (69 + 4 * p + 3).toNat) (s 147 38)
def wtS (s : mSt) (p : Int) : mSt := gvS s 1 (s 147 (69 + 4 * p + 1).toNat) (s 147 (69 + 4 * p + 2).toNat) (s 147 (69 + 4 * p + 3).toNat) (s 147 38)
def mnS : Nat → mSt → Int → Int → Int × mSt
  | 0, s, _, set => (set, s)
  | n + 1, s, p, set => mnS n (wtS s p) (p + 1) (m_or set (if s 154 (s 147 (69 + 4 * p + 0).toNat).toNat < wtV s p then 0 else m_shl 1 p))
theorem mnS_ne {x : Nat} (h1 : x ≠ 151) (h2 : x ≠ 153) : ∀ (n : Nat) (s : mSt) (p set : Int), (mnS n s p set).2 x = s x
  | 0, s, p, set => rfl
  | n + 1, s, p, set => by
    unfold mnS wtS
    rw [mnS_ne h1 h2 n, gvS_ne h1 h2]
def mbS (s : mSt) (w : Int) : Int × mSt := mnS (s 147 40).toNat (shiS s w) 0 0
theorem mbS_ne {s : mSt} {w : Int} {x : Nat} (h1 : x ≠ 151) (h2 : x ≠ 153) (h3 : x ≠ 154) : (mbS s w).2 x = s x := by
  unfold mbS
  rw [mnS_ne h1 h2, shiS_ne h1 h2 h3]
def onV (x : Int) : Nat → Int
  | 0 => 0
  | k + 1 => onV x k + m_and (m_shr x (k : Int)) 1
theorem r_ray {d : Nat} {s : mSt} {w way : Int} (hM : MOk (s 147)) (hC : COk (s 147)) (hL : LOk (s 154)) (hw : 0 ≤ w ∧ w < 6) (hway : 0 ≤ way ∧ way < 4) : Call (d + 3) 202 [.inr (.inr 146), .inl w, .inl way] (encA s) (none) (encA (rayS (dms (s 147) w) 40 s 0 (s 147 (45 + 4 * w + 2).toNat) way (shn (s 147) w))) := by
  refine ⟨Nat.le_of_ble_eq_true rfl, ?_⟩
  show Run (d + 3) 202 0 [some (.inr (.inr 146)), some (.inl w), some (.inl way), none, none, none, none, none] [] (encA s) (none) (encA (rayS (dms (s 147) w) 40 s 0 (s 147 (45 + 4 * w + 2).toNat) way (shn (s 147) w)))
  have hMW := MOk_w hM hw
  have h1 := shn_rng hM hw
  have h2 := dms_rng (s 147) w
  refine x_ldI rfl rfl ?_
  refine x_StI_8_3 rfl rfl ?_
  refine x_ldR rfl rfl rfl ?_
  refine x_ldI rfl rfl ?_
  refine x_push rfl ?_
  refine x_callV rfl rfl rfl rfl rfl rfl rfl (r_ofIt (by omega) (by omega)) ?_
  refine x_StI_8_4 rfl rfl ?_
  refine x_ldR rfl rfl rfl ?_
  refine x_ldI rfl rfl ?_
  refine x_callV rfl rfl rfl rfl rfl rfl rfl (r_shinesOf hM hw) ?_
  refine x_StI_8_5 rfl rfl ?_
  refine x_ldR rfl rfl rfl ?_
  refine x_ldI rfl rfl ?_
  refine x_callV rfl rfl rfl rfl rfl rfl rfl (r_dimsOf hM hw) ?_
  refine x_StI_8_6 rfl rfl ?_
  refine x_push rfl ?_
  refine x_StI_8_7 rfl rfl ?_
  exact l_ray 40 0 _ _ _ _ hM hC hL (by omega) (by omega) hway (by omega) h2
theorem l_shine0 {d : Nat} {s : mSt} {w : Int} {r : Option mAV} {s' : mSt} (k : Int) (hk : 0 ≤ k ∧ k ≤ 36) (kk : Run (d + 4) 203 12 [some (.inr (.inr 146)), some (.inl w), some (.inl 36)] [] (encA (ua s 154 (cp 36 (fun _ => 0) (s 154)))) r (encA s')) : Run (d + 4) 203 2 [some (.inr (.inr 146)), some (.inl w), some (.inl k)] [] (encA (ua s 154 (cp k.toNat (fun _ => 0) (s 154)))) (r) (encA (s')) := by
  refine x_ldI rfl rfl ?_
  refine x_push rfl ?_
  refine x_crGe rfl (by omega) (by omega) (fun h_1 => ?_) (fun h_1 => ?_)
  · first
    | (exfalso; omega)
    | (obtain rfl : k = 36 := by omega
       exact kk)
  · first
    | (exfalso; omega)
    | (refine x_ldR rfl rfl rfl ?_
       first | refine x_getI rfl rfl rfl rfl rfl ?_ | refine x_getR rfl rfl rfl rfl rfl ?_
       refine x_ldI rfl rfl ?_
       refine x_push rfl ?_
       refine x_ast rfl rfl rfl (by omega) rfl ?_
       refine x_inc_3_2 rfl rfl ?_
       refine x_go rfl ?_
       exact Run.pre (by rw [us_ua, tn_1 hk.1, ← cp_up]) (l_shine0 (k + 1) (by omega) kk))
termination_by (36 - k).toNat
decreasing_by all_goals omega
theorem l_shine1 {d : Nat} {s : mSt} {w : Int} (n : Nat) (way : Int) (hM : MOk (s 147)) (hC : COk (s 147)) (hL : LOk (s 154)) (hw : 0 ≤ w ∧ w < 6) (hk : way + n = 4 ∧ 0 ≤ way) : Run (d + 4) 203 24 [some (.inr (.inr 146)), some (.inl w), some (.inl way)] [] (encA (s)) (none) (encA (wyS w n s way)) := by
  have h1 := shn_rng hM hw
  refine x_ldI rfl rfl ?_
  refine x_push rfl ?_
  refine x_crGe rfl (by omega) (by omega) (fun h_1 => ?_) (fun h_1 => ?_)
  · first
    | (exfalso; omega)
    | (exact x_retV rfl (by (first | (obtain rfl : n = 0 := (by omega); rfl) | simp (disch := omega) only [wyS, if_neg])))
  · first
    | (exfalso; omega)
    | (obtain ⟨n, rfl⟩ : ∃ m, n = m + 1 := ⟨n - 1, by omega⟩
       refine x_ldR rfl rfl rfl ?_
       refine x_ldI rfl rfl ?_
       refine x_callV rfl rfl rfl rfl rfl rfl rfl (r_shinesOf hM hw) ?_
       refine x_irLe0 rfl (by omega) (fun h_2 => ?_) (fun h_2 => ?_)
       · first
         | (exfalso; omega)
         | (exact x_retV rfl (by (first | (obtain rfl : n = 0 := (by omega); rfl) | simp (disch := omega) only [wyS, if_neg])))
       · first
         | (exfalso; omega)
         | (refine x_ldR rfl rfl rfl ?_
            refine x_ldI rfl rfl ?_
            refine x_ldI rfl rfl ?_
            refine x_callV rfl rfl rfl rfl rfl rfl rfl (r_ray hM hC hL hw (by omega)) ?_
            refine x_inc_3_2 rfl rfl ?_
            refine x_go rfl ?_
            exact Run.post (by simp (disch := omega) only [wyS, if_pos]) (l_shine1 (s := rayS (dms (s 147) w) 40 s 0 (s 147 (45 + 4 * w + 2).toNat) way (shn (s 147) w)) n (way + 1) (by rw [rayS_ne (by decide) (by decide) (by decide)]; exact hM) (by rw [rayS_ne (by decide) (by decide) (by decide)]; exact hC) (rayS_L _ _ _ _ _ _ hL (by omega)) hw (by omega))))
termination_by (4 - way).toNat
decreasing_by all_goals omega
theorem r_shine2 {d : Nat} {s : mSt} {w : Int} (hM : MOk (s 147)) (hC : COk (s 147)) (hw : 0 ≤ w ∧ w < 6) : Run (d + 4) 203 12 [some (.inr (.inr 146)), some (.inl w), some (.inl 36)] [] (encA (ua s 154 (cp 36 (fun _ => 0) (s 154)))) none (encA (shiS s w)) := by
  have hMW := MOk_w hM hw
  have h1 := shn_rng hM hw
  have hM1 : MOk (ua s 154 (cp 36 (fun _ => 0) (s 154)) 147) := by rw [ua_ne (by decide)]; exact hM
  refine x_ldR rfl rfl rfl ?_
  first | refine x_getI rfl rfl rfl rfl rfl ?_ | refine x_getR rfl rfl rfl rfl rfl ?_
  refine x_ldR rfl rfl rfl ?_
  refine x_ldI rfl rfl ?_
  refine x_push rfl ?_
  refine x_callV rfl rfl rfl rfl rfl rfl rfl (r_ofIt (by omega) (by omega)) ?_
  rw [ua_ne (by decide)]
  refine x_ldR rfl rfl rfl ?_
  refine x_ldI rfl rfl ?_
  refine x_callV rfl rfl rfl rfl rfl rfl rfl (r_shinesOf hM1 hw) ?_
  rw [ua_ne (by decide)]
  refine x_ast rfl rfl rfl (by omega) rfl ?_
  refine x_push rfl ?_
  refine x_StI_3_2 rfl rfl ?_
  exact Run.pre (s1 := shi0 s w) (by unfold shi0; rw [us_ua]) (l_shine1 4 0 (by unfold shi0; rw [ua_ne (by decide)]; exact hM) (by unfold shi0; rw [ua_ne (by decide)]; exact hC) (shi0_L hM hw) hw (by omega))
theorem r_shine {d : Nat} {s : mSt} {w : Int} (hM : MOk (s 147)) (hC : COk (s 147)) (hw : 0 ≤ w ∧ w < 6) : Call (d + 4) 203 [.inr (.inr 146), .inl w] (encA s) (none) (encA (shiS s w)) := by
  refine ⟨Nat.le_of_ble_eq_true rfl, ?_⟩
  show Run (d + 4) 203 0 [some (.inr (.inr 146)), some (.inl w), none] [] (encA s) (none) (encA (shiS s w))
  have hMW := MOk_w hM hw
  refine x_push rfl ?_
  refine x_StI_3_2 rfl rfl ?_
  refine Run.pre (s1 := ua s 154 (cp (0 : Int).toNat (fun _ => 0) (s 154))) (by rw [show (0 : Int).toNat = 0 from rfl, cp_0, ua_self]) (l_shine0 0 (by omega) ?_)
  exact r_shine2 hM hC hw
theorem l_metNow {d : Nat} {s : mSt} (n : Nat) (p set : Int) (hM : MOk (s 147)) (hC : COk (s 147)) (hL : LOk (s 154)) (hk : p + n = s 147 40 ∧ 0 ≤ p) : Run (d + 4) 205 4 [some (.inr (.inr 146)), some (.inl set), some (.inl p)] [] (encA (s)) (some (.inl (mnS n s p set).1)) (encA ((mnS n s p set).2)) := by
  have hM0 := hM
  obtain ⟨hM39, hM40, hM41, hM43, hM44, hM36, hM37, hM38, hMc, hMw, hMp, hMt, hMb⟩ := hM
  have hg := gvV_rng s 1 (s 147 (69 + 4 * p + 1).toNat) (s 147 (69 + 4 * p + 2).toNat) (s 147 (69 + 4 * p + 3).toNat) (s 147 38)
  have hwt : wtV s p = gvV s 1 (s 147 (69 + 4 * p + 1).toNat) (s 147 (69 + 4 * p + 2).toNat) (s 147 (69 + 4 * p + 3).toNat) (s 147 38) := rfl
  refine x_ldI rfl rfl ?_
  refine x_ldR rfl rfl rfl ?_
  first | refine x_getI rfl rfl rfl rfl rfl ?_ | refine x_getR rfl rfl rfl rfl rfl ?_
  refine x_push rfl ?_
  refine x_aldk 40 rfl rfl rfl rfl rfl rfl ?_
  refine x_crGe rfl (by omega) (by omega) (fun h_1 => ?_) (fun h_1 => ?_)
  · first
    | (exfalso; omega)
    | (refine x_ldI rfl rfl ?_
       exact x_retI rfl (by (obtain rfl : n = 0 := (by omega); rfl)) (by (obtain rfl : n = 0 := (by omega); rfl)))
  · first
    | (exfalso; omega)
    | (obtain ⟨n, rfl⟩ : ∃ m, n = m + 1 := ⟨n - 1, by omega⟩
       have hp := MOk_p hM0 (p := p) (by omega)
       have hl := hL (s 147 (69 + 4 * p + 0).toNat).toNat (by omega)
       refine x_ldI rfl rfl ?_
       refine x_ldR rfl rfl rfl ?_
       first | refine x_getI rfl rfl rfl rfl rfl ?_ | refine x_getR rfl rfl rfl rfl rfl ?_
       refine x_ldR rfl rfl rfl ?_
       refine x_ldI rfl rfl ?_
       refine x_push rfl ?_
       refine x_callV rfl rfl rfl rfl rfl rfl rfl (r_ofOne (by omega) (by omega)) ?_
       refine x_ald rfl rfl rfl (by omega) rfl ?_
       refine x_ldR rfl rfl rfl ?_
       refine x_ldI rfl rfl ?_
       refine x_callV rfl rfl rfl rfl rfl rfl rfl (r_wantsOf (by omega) hC) ?_
       refine x_crLt rfl (by omega) (by omega) (fun h_2 => ?_) (fun h_2 => ?_)
       · first
         | (exfalso; omega)
         | (refine x_push rfl ?_
            refine x_bin rfl ?_
            refine x_StI_3_1 rfl rfl ?_
            refine x_inc_3_2 rfl rfl ?_
            refine x_go rfl ?_
            exact Run.postR (by simp (disch := omega) only [mnS, if_pos, if_neg]) (l_metNow (s := wtS s p) n (p + 1) _ (by unfold wtS; rw [gvS_ne (by decide) (by decide)]; exact hM0) (by unfold wtS; rw [gvS_ne (by decide) (by decide)]; exact hC) (by unfold wtS; rw [gvS_ne (by decide) (by decide)]; exact hL) (by unfold wtS; rw [gvS_ne (by decide) (by decide)]; omega)))
       · first
         | (exfalso; omega)
         | (refine x_push rfl ?_
            refine x_ldI rfl rfl ?_
            refine x_bin rfl ?_
            refine x_go rfl ?_
            refine x_bin rfl ?_
            refine x_StI_3_1 rfl rfl ?_
            refine x_inc_3_2 rfl rfl ?_
            refine x_go rfl ?_
            exact Run.postR (by simp (disch := omega) only [mnS, if_pos, if_neg]) (l_metNow (s := wtS s p) n (p + 1) _ (by unfold wtS; rw [gvS_ne (by decide) (by decide)]; exact hM0) (by unfold wtS; rw [gvS_ne (by decide) (by decide)]; exact hC) (by unfold wtS; rw [gvS_ne (by decide) (by decide)]; exact hL) (by unfold wtS; rw [gvS_ne (by decide) (by decide)]; omega))))
termination_by n
decreasing_by all_goals omega
theorem r_metNow {d : Nat} {s : mSt} (hM : MOk (s 147)) (hC : COk (s 147)) (hL : LOk (s 154)) : Call (d + 4) 205 [.inr (.inr 146)] (encA s) (some (.inl (mnS (s 147 40).toNat s 0 0).1)) (encA ((mnS (s 147 40).toNat s 0 0).2)) := by
  refine ⟨Nat.le_of_ble_eq_true rfl, ?_⟩
  show Run (d + 4) 205 0 [some (.inr (.inr 146)), none, none] [] (encA s) (some (.inl (mnS (s 147 40).toNat s 0 0).1)) (encA ((mnS (s 147 40).toNat s 0 0).2))
  have hM0 := hM
  obtain ⟨hM39, hM40, hM41, hM43, hM44, hM36, hM37, hM38, hMc, hMw, hMp, hMt, hMb⟩ := hM
  refine x_push rfl ?_
  refine x_StI_3_1 rfl rfl ?_
  refine x_push rfl ?_
  refine x_StI_3_2 rfl rfl ?_
  exact l_metNow (s 147 40).toNat 0 0 hM0 hC hL (by omega)
theorem r_metBy {d : Nat} {s : mSt} {w : Int} (hM : MOk (s 147)) (hC : COk (s 147)) (hw : 0 ≤ w ∧ w < 6) : Call (d + 5) 206 [.inr (.inr 146), .inl w] (encA s) (some (.inl (mbS s w).1)) (encA ((mbS s w).2)) := by
  refine ⟨Nat.le_of_ble_eq_true rfl, ?_⟩
  show Run (d + 5) 206 0 [some (.inr (.inr 146)), some (.inl w)] [] (encA s) (some (.inl (mbS s w).1)) (encA ((mbS s w).2))
  refine x_ldR rfl rfl rfl ?_
  refine x_ldI rfl rfl ?_
  refine x_callV rfl rfl rfl rfl rfl rfl rfl (r_shine hM hC hw) ?_
  refine x_ldR rfl rfl rfl ?_
  refine x_callV rfl rfl rfl rfl rfl rfl rfl (r_metNow (by rw [shiS_ne (by decide) (by decide) (by decide)]; exact hM) (by rw [shiS_ne (by decide) (by decide) (by decide)]; exact hC) (shiS_L hM hw)) ?_
  exact x_retI rfl (by (unfold mbS; rw [shiS_ne (by decide) (by decide) (by decide)])) (by (unfold mbS; rw [shiS_ne (by decide) (by decide) (by decide)]))
theorem l_ones {d : Nat} {s : mSt} {x : Int} (k : Nat) (i : Int) (hi : i = (k : Int)) (hk : k ≤ 10) : Run (d + 0) 207 4 [some (.inl x), some (.inl (onV x k)), some (.inl i)] [] (encA (s)) (some (.inl (onV x 10))) (encA (s)) := by
  subst hi
  refine x_ldI rfl rfl ?_
  refine x_push rfl ?_
  refine x_crGe rfl (by omega) (by omega) (fun h_1 => ?_) (fun h_1 => ?_)
  · first
    | (exfalso; omega)
    | (refine x_ldI rfl rfl ?_
       exact x_retI rfl (by (rw [show k = 10 by omega])) (by rfl))
  · first
    | (exfalso; omega)
    | (refine x_ldI rfl rfl ?_
       refine x_ldI rfl rfl ?_
       refine x_ldI rfl rfl ?_
       refine x_bin rfl ?_
       refine x_push rfl ?_
       refine x_bin rfl ?_
       refine x_add rfl ?_
       refine x_StI_3_1 rfl rfl ?_
       refine x_inc_3_2 rfl rfl ?_
       refine x_go rfl ?_
       exact l_ones (k + 1) ((k : Int) + 1) (by omega) (by omega))
termination_by 10 - k
decreasing_by all_goals omega
theorem r_ones {d : Nat} {s : mSt} {x : Int} : Call (d + 0) 207 [.inl x] (encA s) (some (.inl (onV x 10))) (encA (s)) := by
  refine ⟨Nat.le_of_ble_eq_true rfl, ?_⟩
  show Run (d + 0) 207 0 [some (.inl x), none, none] [] (encA s) (some (.inl (onV x 10))) (encA (s))
  refine x_push rfl ?_
  refine x_StI_3_1 rfl rfl ?_
  refine x_push rfl ?_
  refine x_StI_3_2 rfl rfl ?_
  exact l_ones 0 0 rfl (by omega)
