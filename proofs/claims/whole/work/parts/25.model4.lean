theorem Run.loc {d mt j : Nat} {L L1 : mL} {S : mS} {h : mH} {r : Option mAV} {h1 : mH} (e : L = L1) (k : Run d mt j L1 S h r h1) : Run d mt j L S h r h1 := e ▸ k
/-! ===== the reference: loops over its row of numbers ===== -/
def cp (n : Nat) (f h : Nat → Int) : Nat → Int := fun i => if i < n then f i else h i
theorem cp_0 (f h : Nat → Int) : cp 0 f h = h := by funext i; simp [cp]
theorem cp_up (f h : Nat → Int) (k : Nat) : mup (cp k f h) k (f k) = cp (k + 1) f h := by
  funext i
  unfold mup cp
  by_cases e : i = k
  · subst e; simp
  · rw [if_neg e]
    by_cases e2 : i < k
    · rw [if_pos e2, if_pos (by omega)]
    · rw [if_neg e2, if_neg (by omega)]
theorem cp_all {f h : Nat → Int} {n : Nat} (ht : ∀ i, n ≤ i → f i = h i) : cp n f h = f := by
  funext i
  unfold cp
  by_cases e : i < n
  · rw [if_pos e]
  · rw [if_neg e, ht i (by omega)]
theorem tn_1 {k : Int} (h : 0 ≤ k) : (k + 1).toNat = k.toNat + 1 := by omega
theorem l_copies_147_148 {d : Nat} {s : mSt} (k : Int) (hk : 0 ≤ k ∧ k ≤ 300) : Run (d + 0) 170 2 [some (.inr (.inr 147)), some (.inr (.inr 148)), some (.inl k)] [] (encA (ua s 148 (cp k.toNat (s 147) (s 148)))) (none) (encA (ua s 148 (cp 300 (s 147) (s 148)))) := by
  refine x_ldI rfl rfl ?_
  refine x_push rfl ?_
  refine x_crGe rfl (by omega) (by omega) (fun h_1 => ?_) (fun h_1 => ?_)
  · first
    | (exfalso; omega)
    | (exact x_retV rfl (by (rw [show k.toNat = 300 by omega])))
  · first
    | (exfalso; omega)
    | (refine x_ldR rfl rfl rfl ?_
       refine x_ldI rfl rfl ?_
       refine x_ldR rfl rfl rfl ?_
       refine x_ldI rfl rfl ?_
       refine x_ald rfl rfl rfl (by omega) rfl ?_
       refine x_ast rfl rfl rfl (by omega) rfl ?_
       refine x_inc_3_2 rfl rfl ?_
       refine x_go rfl ?_
       exact Run.pre (by rw [us_ua, ua_ne (by decide), cp_up, tn_1 hk.1]) (l_copies_147_148 (k + 1) (by omega)))
termination_by (300 - k).toNat
decreasing_by all_goals omega
theorem r_copies_147_148 {d : Nat} {s : mSt} (ht : ∀ i, 300 ≤ i → s 147 i = s 148 i) : Call (d + 0) 170 [.inr (.inr 147), .inr (.inr 148)] (encA s) none (encA (ua s 148 (s 147))) := by
  refine ⟨Nat.le_of_ble_eq_true rfl, ?_⟩
  show Run (d + 0) 170 0 [some (.inr (.inr 147)), some (.inr (.inr 148)), none] [] (encA s) none (encA (ua s 148 (s 147)))
  rw [show ua s 148 (s 147) = ua s 148 (cp 300 (s 147) (s 148)) by rw [cp_all ht]]
  refine x_push rfl ?_
  refine x_StI_3_2 rfl rfl ?_
  exact Run.pre (by rw [show (0 : Int).toNat = 0 from rfl, cp_0, ua_self]) (l_copies_147_148 0 (by omega))
theorem l_copies_148_147 {d : Nat} {s : mSt} (k : Int) (hk : 0 ≤ k ∧ k ≤ 300) : Run (d + 0) 170 2 [some (.inr (.inr 148)), some (.inr (.inr 147)), some (.inl k)] [] (encA (ua s 147 (cp k.toNat (s 148) (s 147)))) (none) (encA (ua s 147 (cp 300 (s 148) (s 147)))) := by
  refine x_ldI rfl rfl ?_
  refine x_push rfl ?_
  refine x_crGe rfl (by omega) (by omega) (fun h_1 => ?_) (fun h_1 => ?_)
  · first
    | (exfalso; omega)
    | (exact x_retV rfl (by (rw [show k.toNat = 300 by omega])))
  · first
    | (exfalso; omega)
    | (refine x_ldR rfl rfl rfl ?_
       refine x_ldI rfl rfl ?_
       refine x_ldR rfl rfl rfl ?_
       refine x_ldI rfl rfl ?_
       refine x_ald rfl rfl rfl (by omega) rfl ?_
       refine x_ast rfl rfl rfl (by omega) rfl ?_
       refine x_inc_3_2 rfl rfl ?_
       refine x_go rfl ?_
       exact Run.pre (by rw [us_ua, ua_ne (by decide), cp_up, tn_1 hk.1]) (l_copies_148_147 (k + 1) (by omega)))
termination_by (300 - k).toNat
decreasing_by all_goals omega
theorem r_copies_148_147 {d : Nat} {s : mSt} (ht : ∀ i, 300 ≤ i → s 148 i = s 147 i) : Call (d + 0) 170 [.inr (.inr 148), .inr (.inr 147)] (encA s) none (encA (ua s 147 (s 148))) := by
  refine ⟨Nat.le_of_ble_eq_true rfl, ?_⟩
  show Run (d + 0) 170 0 [some (.inr (.inr 148)), some (.inr (.inr 147)), none] [] (encA s) none (encA (ua s 147 (s 148)))
  rw [show ua s 147 (s 148) = ua s 147 (cp 300 (s 148) (s 147)) by rw [cp_all ht]]
  refine x_push rfl ?_
  refine x_StI_3_2 rfl rfl ?_
  exact Run.pre (by rw [show (0 : Int).toNat = 0 from rfl, cp_0, ua_self]) (l_copies_148_147 0 (by omega))
theorem l_copies_147_149 {d : Nat} {s : mSt} (k : Int) (hk : 0 ≤ k ∧ k ≤ 300) : Run (d + 0) 170 2 [some (.inr (.inr 147)), some (.inr (.inr 149)), some (.inl k)] [] (encA (ua s 149 (cp k.toNat (s 147) (s 149)))) (none) (encA (ua s 149 (cp 300 (s 147) (s 149)))) := by
  refine x_ldI rfl rfl ?_
  refine x_push rfl ?_
  refine x_crGe rfl (by omega) (by omega) (fun h_1 => ?_) (fun h_1 => ?_)
  · first
    | (exfalso; omega)
    | (exact x_retV rfl (by (rw [show k.toNat = 300 by omega])))
  · first
    | (exfalso; omega)
    | (refine x_ldR rfl rfl rfl ?_
       refine x_ldI rfl rfl ?_
       refine x_ldR rfl rfl rfl ?_
       refine x_ldI rfl rfl ?_
       refine x_ald rfl rfl rfl (by omega) rfl ?_
       refine x_ast rfl rfl rfl (by omega) rfl ?_
       refine x_inc_3_2 rfl rfl ?_
       refine x_go rfl ?_
       exact Run.pre (by rw [us_ua, ua_ne (by decide), cp_up, tn_1 hk.1]) (l_copies_147_149 (k + 1) (by omega)))
termination_by (300 - k).toNat
decreasing_by all_goals omega
theorem r_copies_147_149 {d : Nat} {s : mSt} (ht : ∀ i, 300 ≤ i → s 147 i = s 149 i) : Call (d + 0) 170 [.inr (.inr 147), .inr (.inr 149)] (encA s) none (encA (ua s 149 (s 147))) := by
  refine ⟨Nat.le_of_ble_eq_true rfl, ?_⟩
  show Run (d + 0) 170 0 [some (.inr (.inr 147)), some (.inr (.inr 149)), none] [] (encA s) none (encA (ua s 149 (s 147)))
  rw [show ua s 149 (s 147) = ua s 149 (cp 300 (s 147) (s 149)) by rw [cp_all ht]]
  refine x_push rfl ?_
  refine x_StI_3_2 rfl rfl ?_
  exact Run.pre (by rw [show (0 : Int).toNat = 0 from rfl, cp_0, ua_self]) (l_copies_147_149 0 (by omega))
theorem l_copies_149_147 {d : Nat} {s : mSt} (k : Int) (hk : 0 ≤ k ∧ k ≤ 300) : Run (d + 0) 170 2 [some (.inr (.inr 149)), some (.inr (.inr 147)), some (.inl k)] [] (encA (ua s 147 (cp k.toNat (s 149) (s 147)))) (none) (encA (ua s 147 (cp 300 (s 149) (s 147)))) := by
  refine x_ldI rfl rfl ?_
  refine x_push rfl ?_
  refine x_crGe rfl (by omega) (by omega) (fun h_1 => ?_) (fun h_1 => ?_)
  · first
    | (exfalso; omega)
    | (exact x_retV rfl (by (rw [show k.toNat = 300 by omega])))
  · first
    | (exfalso; omega)
    | (refine x_ldR rfl rfl rfl ?_
       refine x_ldI rfl rfl ?_
       refine x_ldR rfl rfl rfl ?_
       refine x_ldI rfl rfl ?_
       refine x_ald rfl rfl rfl (by omega) rfl ?_
       refine x_ast rfl rfl rfl (by omega) rfl ?_
       refine x_inc_3_2 rfl rfl ?_
       refine x_go rfl ?_
       exact Run.pre (by rw [us_ua, ua_ne (by decide), cp_up, tn_1 hk.1]) (l_copies_149_147 (k + 1) (by omega)))
termination_by (300 - k).toNat
decreasing_by all_goals omega
theorem r_copies_149_147 {d : Nat} {s : mSt} (ht : ∀ i, 300 ≤ i → s 149 i = s 147 i) : Call (d + 0) 170 [.inr (.inr 149), .inr (.inr 147)] (encA s) none (encA (ua s 147 (s 149))) := by
  refine ⟨Nat.le_of_ble_eq_true rfl, ?_⟩
  show Run (d + 0) 170 0 [some (.inr (.inr 149)), some (.inr (.inr 147)), none] [] (encA s) none (encA (ua s 147 (s 149)))
  rw [show ua s 147 (s 149) = ua s 147 (cp 300 (s 149) (s 147)) by rw [cp_all ht]]
  refine x_push rfl ?_
  refine x_StI_3_2 rfl rfl ?_
  exact Run.pre (by rw [show (0 : Int).toNat = 0 from rfl, cp_0, ua_self]) (l_copies_149_147 0 (by omega))
def sumT (f : Nat → Int) : Nat → Int
  | 0 => 0
  | n + 1 => sumT f n + f n
theorem l_readOfAll {d : Nat} {s : mSt} (k : Int) (hM : MOk (s 147)) (hk : 0 ≤ k ∧ k ≤ s 147 40) : Run (d + 1) 225 4 [some (.inr (.inr 146)), some (.inl (sumT (fun p => s 147 (69 + 4 * p + 3)) k.toNat)), some (.inl k)] [] (encA (s)) (some (.inl (sumT (fun p => s 147 (69 + 4 * p + 3)) (s 147 40).toNat))) (encA (s)) := by
  obtain ⟨hM39, hM40, hM41, hM43, hM44, hM36, hM37, hM38, hMc, hMw, hMp, hMt, hMb⟩ := hM
  refine x_ldI rfl rfl ?_
  refine x_ldR rfl rfl rfl ?_
  first | refine x_getI rfl rfl rfl rfl rfl ?_ | refine x_getR rfl rfl rfl rfl rfl ?_
  refine x_push rfl ?_
  refine x_aldk 40 rfl rfl rfl rfl rfl rfl ?_
  refine x_crGe rfl (by omega) (by omega) (fun h_1 => ?_) (fun h_1 => ?_)
  · first
    | (exfalso; omega)
    | (refine x_ldI rfl rfl ?_
       exact x_retI rfl (by (rw [show k = s 147 40 by omega])) (by rfl))
  · first
    | (exfalso; omega)
    | (refine x_ldI rfl rfl ?_
       refine x_ldR rfl rfl rfl ?_
       refine x_ldI rfl rfl ?_
       refine x_push rfl ?_
       refine x_callV rfl rfl rfl rfl rfl rfl rfl (r_ofOne (by omega) (by omega)) ?_
       refine x_add rfl ?_
       refine x_StI_3_1 rfl rfl ?_
       refine x_inc_3_2 rfl rfl ?_
       refine x_go rfl ?_
       exact Run.loc (by rw [tn_1 hk.1]; simp only [sumT]; rw [show (69 + 4 * k + 3).toNat = 69 + 4 * k.toNat + 3 by omega]) (l_readOfAll (k + 1) ⟨hM39, hM40, hM41, hM43, hM44, hM36, hM37, hM38, hMc, hMw, hMp, hMt, hMb⟩ (by omega)))
termination_by (s 147 40 - k).toNat
decreasing_by all_goals omega
theorem r_readOfAll {d : Nat} {s : mSt} (hM : MOk (s 147)) : Call (d + 1) 225 [.inr (.inr 146)] (encA s) (some (.inl (sumT (fun p => s 147 (69 + 4 * p + 3)) (s 147 40).toNat))) (encA (s)) := by
  refine ⟨Nat.le_of_ble_eq_true rfl, ?_⟩
  show Run (d + 1) 225 0 [some (.inr (.inr 146)), none, none] [] (encA s) (some (.inl (sumT (fun p => s 147 (69 + 4 * p + 3)) (s 147 40).toNat))) (encA (s))
  obtain ⟨hM39, hM40, hM41, hM43, hM44, hM36, hM37, hM38, hMc, hMw, hMp, hMt, hMb⟩ := hM
  refine x_push rfl ?_
  refine x_StI_3_1 rfl rfl ?_
  refine x_push rfl ?_
  refine x_StI_3_2 rfl rfl ?_
  exact l_readOfAll 0 ⟨hM39, hM40, hM41, hM43, hM44, hM36, hM37, hM38, hMc, hMw, hMp, hMt, hMb⟩ (by omega)
