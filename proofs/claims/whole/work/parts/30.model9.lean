/-! ===== the reference: nights ===== -/
theorem MOk_set {d : Nat → Int} (hM : MOk d) {i : Nat} {v : Int} (h : (i = 39 → 0 ≤ v ∧ v ≤ 6) ∧ (i = 40 → 0 ≤ v ∧ v ≤ 10) ∧ (i = 41 → 0 ≤ v ∧ v ≤ 12) ∧ (i = 43 → 0 ≤ v ∧ v ≤ 50) ∧ (i = 44 → 0 ≤ v ∧ v ≤ 20) ∧ (i = 36 → 0 ≤ v ∧ v ≤ 9) ∧ (i = 37 → 0 ≤ v ∧ v ≤ 9) ∧ (i = 38 → 0 ≤ v ∧ v ≤ 20000) ∧ (i < 36 → 0 ≤ v ∧ v ≤ 3) ∧
  (∀ w, w < 6 → (i = 45 + 4 * w → 0 ≤ v ∧ v ≤ 6) ∧ (i = 46 + 4 * w → 0 ≤ v ∧ v ≤ 9) ∧ (i = 47 + 4 * w → 0 ≤ v ∧ v ≤ 35) ∧ (i = 48 + 4 * w → 0 ≤ v ∧ v ≤ 99999)) ∧
  (∀ p, p < 10 → (i = 69 + 4 * p → 0 ≤ v ∧ v ≤ 35) ∧ (i = 70 + 4 * p → 0 ≤ v ∧ v ≤ 20) ∧ (i = 71 + 4 * p → 0 ≤ v ∧ v ≤ 9999) ∧ (i = 72 + 4 * p → 0 ≤ v ∧ v ≤ 9999)) ∧
  (∀ j, j < 12 → i = 109 + j → 0 ≤ v ∧ v ≤ 5) ∧ (∀ j, j < 50 → i = 243 + j → 0 ≤ v ∧ v ≤ 255)) : MOk (mup d i v) := by
  obtain ⟨g39, g40, g41, g43, g44, g36, g37, g38, gc, gw, gp, gt, gb⟩ := h
  obtain ⟨h39, h40, h41, h43, h44, h36, h37, h38, hc, hw, hp, ht, hb⟩ := hM
  have up : ∀ {j : Nat} {a b : Int}, (i = j → a ≤ v ∧ v ≤ b) → (a ≤ d j ∧ d j ≤ b) → a ≤ mup d i v j ∧ mup d i v j ≤ b := by
    intro j a b e1 e2
    unfold mup
    split
    · rename_i e; exact e1 e.symm
    · exact e2
  refine ⟨up g39 h39, up g40 h40, up g41 h41, up g43 h43, up g44 h44, up g36 h36, up g37 h37, up g38 h38, fun c k => up (fun e => gc (by omega)) (hc c k), fun w k => ?_, fun p k => ?_, fun j k => up (gt j k) (ht j k), fun j k => up (gb j k) (hb j k)⟩
  · obtain ⟨a1, a2, a3, a4⟩ := gw w k
    obtain ⟨b1, b2, b3, b4⟩ := hw w k
    exact ⟨up a1 b1, up a2 b2, up a3 b3, up a4 b4⟩
  · obtain ⟨a1, a2, a3, a4⟩ := gp p k
    obtain ⟨b1, b2, b3, b4⟩ := hp p k
    exact ⟨up a1 b1, up a2 b2, up a3 b3, up a4 b4⟩
theorem hgt_congr {d d1 : Nat → Int} {b : Int} (hb : 143 ≤ b ∧ b ≤ 193) (h : ∀ j, 143 ≤ j → j < 243 → d1 j = d j) : ∀ k, k ≤ 50 → hgt d1 b k = hgt d b k
  | 0, _ => rfl
  | k + 1, hk => by
    unfold hgt
    rw [hgt_congr hb h k (by omega), h (b + (k : Int)).toNat (by omega) (by omega)]
theorem CodeOk_congr {d d1 : Nat → Int} {b n : Int} (hb : 143 ≤ b ∧ b ≤ 193) (h : ∀ j, 143 ≤ j → j < 243 → d1 j = d j) (hC : CodeOk d b n) : CodeOk d1 b n := by
  obtain ⟨hn, hC⟩ := hC
  refine ⟨hn, fun k hk => ?_⟩
  rw [hgt_congr hb h k (by omega), h (b + (k : Int)).toNat (by omega) (by omega)]
  exact hC k hk
theorem COk_congr {d d1 : Nat → Int} (h : ∀ j, 121 ≤ j → j < 243 → d1 j = d j) (hC : COk d) : COk d1 := by
  unfold COk
  rw [h (121 + (0 : Int)).toNat (by decide) (by decide), h (121 + (1 : Int)).toNat (by decide) (by decide)]
  exact ⟨CodeOk_congr (by decide) (fun j h1 h2 => h j (by omega) h2) hC.1, CodeOk_congr (by decide) (fun j h1 h2 => h j (by omega) h2) hC.2⟩
theorem COk_set {d : Nat → Int} {i : Nat} {v : Int} (hi : i < 121 ∨ 243 ≤ i) (hC : COk d) : COk (mup d i v) :=
  COk_congr (fun j h1 h2 => mup_ne (by omega)) hC
def rdP (d : Nat → Int) (p : Int) : Int := min (d 37) (d (69 + 4 * p + 2).toNat)
def rdD (d : Nat → Int) (p w : Int) : Nat → Int := mup (mup (mup d (69 + 4 * p + 3).toNat (min 9999 (d (69 + 4 * p + 3).toNat + 1))) (69 + 4 * p + 2).toNat (d (69 + 4 * p + 2).toNat - rdP d p)) (45 + 4 * w + 3).toNat (min 99999 (d (45 + 4 * w + 3).toNat + rdP d p))
theorem rdD_ok {d : Nat → Int} (hM : MOk d) {p w : Int} (hp0 : 0 ≤ p ∧ p < 10) (hw0 : 0 ≤ w ∧ w < 6) : MOk (rdD d p w) := by
  have h1 := MOk_p hM hp0
  have h2 := MOk_w hM hw0
  have h3 := hM.2.2.2.2.2.2.1
  have h4 : 0 ≤ rdP d p ∧ rdP d p ≤ d (69 + 4 * p + 2).toNat := by unfold rdP; omega
  unfold rdD
  refine MOk_set (MOk_set (MOk_set hM ⟨by omega, by omega, by omega, by omega, by omega, by omega, by omega, by omega, by omega, fun w hw => ⟨by omega, by omega, by omega, by omega⟩, fun p hp => ⟨by omega, by omega, by omega, by omega⟩, fun j hj => by omega, fun j hj => by omega⟩) ⟨by omega, by omega, by omega, by omega, by omega, by omega, by omega, by omega, by omega, fun w hw => ⟨by omega, by omega, by omega, by omega⟩, fun p hp => ⟨by omega, by omega, by omega, by omega⟩, fun j hj => by omega, fun j hj => by omega⟩) ⟨by omega, by omega, by omega, by omega, by omega, by omega, by omega, by omega, by omega, fun w hw => ⟨by omega, by omega, by omega, by omega⟩, fun p hp => ⟨by omega, by omega, by omega, by omega⟩, fun j hj => by omega, fun j hj => by omega⟩
theorem rdD_c {d : Nat → Int} (hC : COk d) {p w : Int} (hp0 : 0 ≤ p ∧ p < 10) (hw0 : 0 ≤ w ∧ w < 6) : COk (rdD d p w) := by
  unfold rdD
  exact COk_set (by omega) (COk_set (by omega) (COk_set (by omega) hC))
theorem rdD_lo {d : Nat → Int} {p w : Int} {i : Nat} (hp0 : 0 ≤ p ∧ p < 10) (hw0 : 0 ≤ w ∧ w < 6) (hi : i < 48 ∨ 109 ≤ i) : rdD d p w i = d i := by
  unfold rdD
  rw [mup_ne (by omega), mup_ne (by omega), mup_ne (by omega)]
theorem m_and_rng (x y : Int) : -2147483648 ≤ m_and x y ∧ m_and x y < 2147483648 := ⟨Int32.le_toInt _, Int32.toInt_lt _⟩
theorem r_reads {d : Nat} {s : mSt} {p w : Int} (hM : MOk (s 147)) (hp : 0 ≤ p ∧ p < 10) (hw : 0 ≤ w ∧ w < 6) : Call (d + 1) 222 [.inr (.inr 146), .inl p, .inl w] (encA s) (none) (encA (ua s 147 (rdD (s 147) p w))) := by
  refine ⟨Nat.le_of_ble_eq_true rfl, ?_⟩
  show Run (d + 1) 222 0 [some (.inr (.inr 146)), some (.inl p), some (.inl w), none] [] (encA s) (none) (encA (ua s 147 (rdD (s 147) p w)))
  have h1 := MOk_p hM hp
  have h2 := MOk_w hM hw
  have h3 := hM.2.2.2.2.2.2.1
  have h4 : 0 ≤ rdP (s 147) p ∧ rdP (s 147) p ≤ s 147 (69 + 4 * p + 2).toNat := by unfold rdP; omega
  refine x_ldR rfl rfl rfl ?_
  first | refine x_getI rfl rfl rfl rfl rfl ?_ | refine x_getR rfl rfl rfl rfl rfl ?_
  refine x_push rfl ?_
  refine x_aldk 37 rfl rfl rfl rfl rfl rfl ?_
  refine x_ldR rfl rfl rfl ?_
  refine x_ldI rfl rfl ?_
  refine x_push rfl ?_
  refine x_callV rfl rfl rfl rfl rfl rfl rfl (r_ofOne (by omega) (by omega)) ?_
  refine x_call rfl rfl rfl (r_lesser (by omega) (by omega)) ?_
  rw [show min (s 147 37) (s 147 (69 + 4 * p + 2).toNat) = rdP (s 147) p from rfl]
  refine x_StI_4_3 rfl rfl ?_
  refine x_ldR rfl rfl rfl ?_
  first | refine x_getI rfl rfl rfl rfl rfl ?_ | refine x_getR rfl rfl rfl rfl rfl ?_
  refine x_push rfl ?_
  refine x_push rfl ?_
  refine x_ldI rfl rfl ?_
  refine x_mul rfl ?_
  refine x_add rfl ?_
  refine x_push rfl ?_
  refine x_add rfl ?_
  refine x_push rfl ?_
  refine x_ldR rfl rfl rfl ?_
  refine x_ldI rfl rfl ?_
  refine x_push rfl ?_
  refine x_callV rfl rfl rfl rfl rfl rfl rfl (r_ofOne (by omega) (by omega)) ?_
  refine x_push rfl ?_
  refine x_add rfl ?_
  refine x_call rfl rfl rfl (r_lesser (by omega) (by omega)) ?_
  refine x_ast rfl rfl rfl (by omega) rfl ?_
  refine x_ldR rfl rfl rfl ?_
  first | refine x_getI rfl rfl rfl rfl rfl ?_ | refine x_getR rfl rfl rfl rfl rfl ?_
  refine x_push rfl ?_
  refine x_push rfl ?_
  refine x_ldI rfl rfl ?_
  refine x_mul rfl ?_
  refine x_add rfl ?_
  refine x_push rfl ?_
  refine x_add rfl ?_
  refine x_dup2 rfl ?_
  refine x_ald rfl rfl rfl (by omega) rfl ?_
  simp (disch := omega) only [us_d, ua_ua, ua_eq, mup_ne, mup_eq]
  refine x_ldI rfl rfl ?_
  refine x_sub rfl ?_
  refine x_ast rfl rfl rfl (by omega) rfl ?_
  simp (disch := omega) only [us_d, ua_ua, ua_eq, mup_ne, mup_eq]
  refine x_ldR rfl rfl rfl ?_
  first | refine x_getI rfl rfl rfl rfl rfl ?_ | refine x_getR rfl rfl rfl rfl rfl ?_
  refine x_push rfl ?_
  refine x_push rfl ?_
  refine x_ldI rfl rfl ?_
  refine x_mul rfl ?_
  refine x_add rfl ?_
  refine x_push rfl ?_
  refine x_add rfl ?_
  refine x_push rfl ?_
  refine x_ldR rfl rfl rfl ?_
  refine x_ldI rfl rfl ?_
  refine x_push rfl ?_
  refine x_callV rfl rfl rfl rfl rfl rfl rfl (r_ofIt (by omega) (by omega)) ?_
  simp (disch := omega) only [us_d, ua_ua, ua_eq, mup_ne, mup_eq]
  refine x_ldI rfl rfl ?_
  refine x_add rfl ?_
  refine x_call rfl rfl rfl (r_lesser (by omega) (by omega)) ?_
  refine x_ast rfl rfl rfl (by omega) rfl ?_
  exact x_retV rfl (by (unfold rdD; simp (disch := omega) only [us_d, ua_ua, ua_eq, mup_ne, mup_eq]))
def gbL (w met : Int) : Nat → mSt → Int → mSt
  | 0, s, _ => s
  | n + 1, s, p => gbL w met n (if m_and (m_shr met p) 1 = 1 then ua s 147 (rdD (s 147) p w) else s) (p + 1)
def gb1 (s : mSt) : mSt := if litW (s 147) < 0 then s else gbL (litW (s 147)) (mbS s (litW (s 147))).1 (s 147 40).toNat (mbS s (litW (s 147))).2 0
def gbS (s : mSt) : mSt := ua (gb1 s) 147 (mup (gb1 s 147) 38 (gb1 s 147 38 + 1))
theorem gbL_ne {w met : Int} {x : Nat} (h : x ≠ 147) : ∀ (n : Nat) (s : mSt) (p : Int), gbL w met n s p x = s x
  | 0, s, p => rfl
  | n + 1, s, p => by
    unfold gbL
    rw [gbL_ne h n]
    split
    · exact ua_ne h
    · rfl
theorem gbL_ok {w met : Int} (hw : 0 ≤ w ∧ w < 6) : ∀ (n : Nat) (s : mSt) (p : Int), MOk (s 147) → COk (s 147) → 0 ≤ p → p + n ≤ 10 → MOk (gbL w met n s p 147) ∧ COk (gbL w met n s p 147) ∧ ∀ i, (i < 48 ∨ 109 ≤ i) → gbL w met n s p 147 i = s 147 i
  | 0, s, p, hM, hC, _, _ => ⟨hM, hC, fun _ _ => rfl⟩
  | n + 1, s, p, hM, hC, hp, hn => by
    unfold gbL
    split
    · have ih := gbL_ok (met := met) hw n (ua s 147 (rdD (s 147) p w)) (p + 1) (by rw [ua_eq]; exact rdD_ok hM (by omega) hw) (by rw [ua_eq]; exact rdD_c hC (by omega) hw) (by omega) (by omega)
      refine ⟨ih.1, ih.2.1, fun i hi => ?_⟩
      rw [ih.2.2 i hi, ua_eq, rdD_lo (by omega) hw hi]
    · exact gbL_ok hw n s (p + 1) hM hC (by omega) (by omega)
theorem litW_rng {d : Nat → Int} (hM : MOk d) : -1 ≤ litW d ∧ litW d < 6 := by
  obtain ⟨h39, h40, h41, h43, h44, h36, h37, h38, hc, hw, hp, ht, hb⟩ := hM
  unfold litW
  split
  · omega
  · have h1 := Int.emod_nonneg (d 38) (show d 41 ≠ 0 by omega)
    have h2 := Int.emod_lt_of_pos (d 38) (show 0 < d 41 by omega)
    have h3 := ht (d 38 % d 41).toNat (by omega)
    rw [show (109 + d 38 % d 41).toNat = 109 + (d 38 % d 41).toNat by omega]
    omega
theorem gb1_ok {s : mSt} (hM : MOk (s 147)) (hC : COk (s 147)) : MOk (gb1 s 147) ∧ COk (gb1 s 147) ∧ ∀ i, (i < 48 ∨ 109 ≤ i) → gb1 s 147 i = s 147 i := by
  have hl := litW_rng hM
  have h4 := hM.2.1
  unfold gb1
  split
  · exact ⟨hM, hC, fun _ _ => rfl⟩
  · have := gbL_ok (w := litW (s 147)) (met := (mbS s (litW (s 147))).1) (by omega) (s 147 40).toNat (mbS s (litW (s 147))).2 0 (by rw [mbS_ne (by decide) (by decide) (by decide)]; exact hM) (by rw [mbS_ne (by decide) (by decide) (by decide)]; exact hC) (by omega) (by omega)
    rw [mbS_ne (x := 147) (by decide) (by decide) (by decide)] at this
    exact this
theorem gbS_ok {s : mSt} (hM : MOk (s 147)) (hC : COk (s 147)) (hn : s 147 38 < 20000) : MOk (gbS s 147) ∧ COk (gbS s 147) ∧ (∀ i, i ≠ 38 → (i < 48 ∨ 109 ≤ i) → gbS s 147 i = s 147 i) ∧ gbS s 147 38 = s 147 38 + 1 := by
  have h := gb1_ok hM hC
  have h8 := h.2.2 38 (by omega)
  have h9 := hM.2.2.2.2.2.2.2.1
  unfold gbS
  rw [ua_eq]
  refine ⟨MOk_set h.1 ⟨by omega, by omega, by omega, by omega, by omega, by omega, by omega, by omega, by omega, fun w hw => ⟨by omega, by omega, by omega, by omega⟩, fun p hp => ⟨by omega, by omega, by omega, by omega⟩, fun j hj => by omega, fun j hj => by omega⟩, COk_set (by omega) h.2.1, fun i e hi => ?_, ?_⟩
  · rw [mup_ne e, h.2.2 i hi]
  · rw [mup_eq, h8]
theorem gbS_ne {s : mSt} {x : Nat} (h0 : x ≠ 147) (h1 : x ≠ 151) (h2 : x ≠ 153) (h3 : x ≠ 154) : gbS s x = s x := by
  unfold gbS gb1
  rw [ua_ne h0]
  split
  · rfl
  · rw [gbL_ne h0, mbS_ne h1 h2 h3]
theorem l_goesBy {d : Nat} {s : mSt} {w met : Int} {r : Option mAV} {s' : mSt} (n : Nat) (p : Int) (hM : MOk (s 147)) (hC : COk (s 147)) (hw : 0 ≤ w ∧ w < 6) (hk : p + n = s 147 40 ∧ 0 ≤ p) (kk : Run (d + 6) 223 30 [some (.inr (.inr 146)), some (.inl w), some (.inl met), some (.inl (s 147 40))] [] (encA (gbL w met n s p)) r (encA s')) : Run (d + 6) 223 11 [some (.inr (.inr 146)), some (.inl w), some (.inl met), some (.inl p)] [] (encA (s)) (r) (encA (s')) := by
  have h4 := hM.2.1
  have h5 := m_and_rng (m_shr met p) 1
  refine x_ldI rfl rfl ?_
  refine x_ldR rfl rfl rfl ?_
  first | refine x_getI rfl rfl rfl rfl rfl ?_ | refine x_getR rfl rfl rfl rfl rfl ?_
  refine x_push rfl ?_
  refine x_aldk 40 rfl rfl rfl rfl rfl rfl ?_
  refine x_crGe rfl (by omega) (by omega) (fun h_1 => ?_) (fun h_1 => ?_)
  · first
    | (exfalso; omega)
    | (obtain rfl : n = 0 := by omega
       obtain rfl : p = s 147 40 := by omega
       exact kk)
  · first
    | (exfalso; omega)
    | (obtain ⟨n, rfl⟩ : ∃ m, n = m + 1 := ⟨n - 1, by omega⟩
       refine x_ldI rfl rfl ?_
       refine x_ldI rfl rfl ?_
       refine x_bin rfl ?_
       refine x_push rfl ?_
       refine x_bin rfl ?_
       refine x_push rfl ?_
       refine x_crNe rfl (by omega) (by omega) (fun h_2 => ?_) (fun h_2 => ?_)
       · first
         | (exfalso; omega)
         | (refine x_inc_4_3 rfl rfl ?_
            refine x_go rfl ?_
            first | exact l_goesBy (s := ua s 147 (rdD (s 147) p w)) n (p + 1) (by rw [ua_eq]; exact rdD_ok hM (by omega) hw) (by rw [ua_eq]; exact rdD_c hC (by omega) hw) hw (by rw [ua_eq, rdD_lo (by omega) hw (by omega)]; omega) (by rw [ua_eq, rdD_lo (by omega) hw (by omega)]; unfold gbL at kk; rw [if_pos (by omega)] at kk; exact kk) | exact l_goesBy (s := s) n (p + 1) hM hC hw (by omega) (by unfold gbL at kk; rw [if_neg (by omega)] at kk; exact kk))
       · first
         | (exfalso; omega)
         | (refine x_ldR rfl rfl rfl ?_
            refine x_ldI rfl rfl ?_
            refine x_ldI rfl rfl ?_
            refine x_callV rfl rfl rfl rfl rfl rfl rfl (r_reads hM (by omega) hw) ?_
            refine x_inc_4_3 rfl rfl ?_
            refine x_go rfl ?_
            first | exact l_goesBy (s := ua s 147 (rdD (s 147) p w)) n (p + 1) (by rw [ua_eq]; exact rdD_ok hM (by omega) hw) (by rw [ua_eq]; exact rdD_c hC (by omega) hw) hw (by rw [ua_eq, rdD_lo (by omega) hw (by omega)]; omega) (by rw [ua_eq, rdD_lo (by omega) hw (by omega)]; unfold gbL at kk; rw [if_pos (by omega)] at kk; exact kk) | exact l_goesBy (s := s) n (p + 1) hM hC hw (by omega) (by unfold gbL at kk; rw [if_neg (by omega)] at kk; exact kk)))
termination_by n
decreasing_by all_goals omega
