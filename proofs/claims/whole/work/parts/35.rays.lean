/-! ===== the class: rays over any ground ===== -/
theorem m_max_id {x y : Int} (hx : -2147483648 ≤ x ∧ x < 2147483648) (hy : -2147483648 ≤ y ∧ y < 2147483648) : m_max x y = max x y := by
  unfold m_max
  rw [w32_id hx.1 hx.2, w32_id hy.1 hy.2]
  split <;> omega
theorem m_min_id {x y : Int} (hx : -2147483648 ≤ x ∧ x < 2147483648) (hy : -2147483648 ≤ y ∧ y < 2147483648) : m_min x y = min x y := by
  unfold m_min
  rw [w32_id hx.1 hx.2, w32_id hy.1 hy.2]
  split <;> omega
theorem xor_1 : ∀ w : Fin 4, m_xor (w.val : Int) 1 = if (w.val : Int) < 2 then 1 - (w.val : Int) else 5 - (w.val : Int) := by decide +kernel
theorem m_xor_way {w : Int} (hw : 0 ≤ w ∧ w < 4) : m_xor w 1 = if w < 2 then 1 - w else 5 - w := by
  obtain ⟨b, rfl⟩ : ∃ b : Nat, w = (b : Int) := ⟨w.toNat, by omega⟩
  exact xor_1 ⟨b, by omega⟩
theorem k_neighbour {d : Nat} {s : mSt} {c way : Int} (hc : 0 ≤ c ∧ c < 36) (hw : 0 ≤ way ∧ way < 4) : Call (d + 0) 57 [.inl c, .inl way] (encA (s)) (some (.inl (nxc c way))) (encA (s)) := by
  refine CI.ex (CI.mk rfl ?_)
  show WP (d + 0) 57 0 [some (.inl c), some (.inl way)] [] (encA (s)) _
  refine w_ldI rfl rfl ?_
  obtain b1 | b1 | b1 | b1 := (by omega : way = 0 ∨ way = 1 ∨ way = 2 ∨ (way < 0 ∨ 3 ≤ way))
  · first
    | (exfalso; omega)
    | (refine w_sw (tg := 2) rfl (by rw [w32_id (by omega) (by omega), b1]; rfl) ?_
       refine w_ldI rfl rfl ?_
       refine w_push rfl ?_
       refine w_crLt rfl (by first | omega | (rw [m_rem_pos (by omega) (by omega)]; omega)) (by first | omega | (rw [m_rem_pos (by omega) (by omega)]; omega)) (fun b4 => ?_) (fun b4 => ?_)
       · first
         | (exfalso; omega)
         | (refine w_push rfl ?_
            refine w_retI rfl ?_
            refine ⟨?_, rfl⟩
            unfold nxc
            (try rw [m_rem_pos (by omega) (by omega)] at *)
            repeat' split
            all_goals omega)
       · first
         | (exfalso; omega)
         | (refine w_ldI rfl rfl ?_
            refine w_push rfl ?_
            refine w_sub rfl ?_
            refine w_go rfl ?_
            refine w_retI rfl ?_
            refine ⟨?_, rfl⟩
            unfold nxc
            (try rw [m_rem_pos (by omega) (by omega)] at *)
            repeat' split
            all_goals omega))
  · first
    | (exfalso; omega)
    | (refine w_sw (tg := 11) rfl (by rw [w32_id (by omega) (by omega), b1]; rfl) ?_
       refine w_ldI rfl rfl ?_
       refine w_push rfl ?_
       refine w_div rfl (by decide) ?_
       refine w_push rfl ?_
       refine w_crGe rfl (by first | omega | (rw [m_rem_pos (by omega) (by omega)]; omega)) (by first | omega | (rw [m_rem_pos (by omega) (by omega)]; omega)) (fun b15 => ?_) (fun b15 => ?_)
       · first
         | (exfalso; omega)
         | (refine w_push rfl ?_
            refine w_retI rfl ?_
            refine ⟨?_, rfl⟩
            unfold nxc
            (try rw [m_rem_pos (by omega) (by omega)] at *)
            repeat' split
            all_goals omega)
       · first
         | (exfalso; omega)
         | (refine w_ldI rfl rfl ?_
            refine w_push rfl ?_
            refine w_add rfl ?_
            refine w_go rfl ?_
            refine w_retI rfl ?_
            refine ⟨?_, rfl⟩
            unfold nxc
            (try rw [m_rem_pos (by omega) (by omega)] at *)
            repeat' split
            all_goals omega))
  · first
    | (exfalso; omega)
    | (refine w_sw (tg := 22) rfl (by rw [w32_id (by omega) (by omega), b1]; rfl) ?_
       refine w_ldI rfl rfl ?_
       refine w_push rfl ?_
       refine w_crGe rfl (by first | omega | (rw [m_rem_pos (by omega) (by omega)]; omega)) (by first | omega | (rw [m_rem_pos (by omega) (by omega)]; omega)) (fun b24 => ?_) (fun b24 => ?_)
       · first
         | (exfalso; omega)
         | (refine w_push rfl ?_
            refine w_retI rfl ?_
            refine ⟨?_, rfl⟩
            unfold nxc
            (try rw [m_rem_pos (by omega) (by omega)] at *)
            repeat' split
            all_goals omega)
       · first
         | (exfalso; omega)
         | (refine w_ldI rfl rfl ?_
            refine w_push rfl ?_
            refine w_add rfl ?_
            refine w_go rfl ?_
            refine w_retI rfl ?_
            refine ⟨?_, rfl⟩
            unfold nxc
            (try rw [m_rem_pos (by omega) (by omega)] at *)
            repeat' split
            all_goals omega))
  · first
    | (exfalso; omega)
    | (refine w_sw (tg := 31) rfl (mSwT_df (by rw [w32_id (by omega) (by omega)]; exact b1)) ?_
       refine w_ldI rfl rfl ?_
       refine w_push rfl ?_
       refine w_div rfl (by decide) ?_
       refine w_irLe0 rfl (by first | omega | (rw [m_rem_pos (by omega) (by omega)]; omega)) (fun b34 => ?_) (fun b34 => ?_)
       · first
         | (exfalso; omega)
         | (refine w_push rfl ?_
            refine w_retI rfl ?_
            refine ⟨?_, rfl⟩
            unfold nxc
            (try rw [m_rem_pos (by omega) (by omega)] at *)
            repeat' split
            all_goals omega)
       · first
         | (exfalso; omega)
         | (refine w_ldI rfl rfl ?_
            refine w_push rfl ?_
            refine w_sub rfl ?_
            refine w_go rfl ?_
            refine w_retI rfl ?_
            refine ⟨?_, rfl⟩
            unfold nxc
            (try rw [m_rem_pos (by omega) (by omega)] at *)
            repeat' split
            all_goals omega))
theorem k_turned {d : Nat} {s : mSt} {way g : Int} (hw : 0 ≤ way ∧ way < 4) (hg : 0 ≤ g ∧ g ≤ 3) : Call (d + 0) 58 [.inl way, .inl g] (encA (s)) (some (.inl (trn way g))) (encA (s)) := by
  refine CI.ex (CI.mk rfl ?_)
  show WP (d + 0) 58 0 [some (.inl way), some (.inl g)] [] (encA (s)) _
  refine w_ldI rfl rfl ?_
  refine w_push rfl ?_
  refine w_crNe rfl (by omega) (by omega) (fun b2 => ?_) (fun b2 => ?_)
  · first
    | (exfalso; omega)
    | (refine w_ldI rfl rfl ?_
       refine w_push rfl ?_
       refine w_crNe rfl (by omega) (by omega) (fun b9 => ?_) (fun b9 => ?_)
       · first
         | (exfalso; omega)
         | (refine w_ldI rfl rfl ?_
            refine w_retI rfl ?_
            refine ⟨?_, rfl⟩
            unfold trn
            (try rw [m_xor_way hw])
            repeat' split
            all_goals omega)
       · first
         | (exfalso; omega)
         | (refine w_push rfl ?_
            refine w_ldI rfl rfl ?_
            refine w_sub rfl ?_
            refine w_go rfl ?_
            refine w_retI rfl ?_
            refine ⟨?_, rfl⟩
            unfold trn
            (try rw [m_xor_way hw])
            repeat' split
            all_goals omega))
  · first
    | (exfalso; omega)
    | (refine w_ldI rfl rfl ?_
       refine w_push rfl ?_
       refine w_bin rfl ?_
       refine w_retI rfl ?_
       refine ⟨?_, rfl⟩
       unfold trn
       (try rw [m_xor_way hw])
       repeat' split
       all_goals omega)
theorem k_isCell {d : Nat} {s : mSt} {c : Int} (hc : -2147483648 ≤ c ∧ c < 2147483648) : Call (d + 0) 142 [.inl c] (encA (s)) (some (.inl (bI (0 ≤ c ∧ c < 36)))) (encA (s)) := by
  refine CI.ex (CI.mk rfl ?_)
  show WP (d + 0) 142 0 [some (.inl c)] [] (encA (s)) _
  refine w_ldI rfl rfl ?_
  refine w_irLt0 rfl (by omega) (fun b1 => ?_) (fun b1 => ?_)
  · first
    | (exfalso; omega)
    | (refine w_push rfl ?_
       refine w_retB rfl (by first | exact bI_01 _ | decide | omega) ?_
       refine ⟨?_, rfl⟩
       unfold bI
       first | rw [if_pos (by omega)] | rw [if_neg (by omega)])
  · first
    | (exfalso; omega)
    | (refine w_ldI rfl rfl ?_
       refine w_push rfl ?_
       refine w_crGe rfl (by omega) (by omega) (fun b4 => ?_) (fun b4 => ?_)
       · first
         | (exfalso; omega)
         | (refine w_push rfl ?_
            refine w_retB rfl (by first | exact bI_01 _ | decide | omega) ?_
            refine ⟨?_, rfl⟩
            unfold bI
            first | rw [if_pos (by omega)] | rw [if_neg (by omega)])
       · first
         | (exfalso; omega)
         | (refine w_push rfl ?_
            refine w_go rfl ?_
            refine w_retB rfl (by first | exact bI_01 _ | decide | omega) ?_
            refine ⟨?_, rfl⟩
            unfold bI
            first | rw [if_pos (by omega)] | rw [if_neg (by omega)]))
theorem k_lightIn {d : Nat} {s : mSt} {c : Int} (hc : -2147483648 ≤ c ∧ c < 2147483648) : Call (d + 1) 59 [.inr (.inr 127), .inl c] (encA (s)) (some (.inl (if 0 ≤ c ∧ c < 36 then s 129 c.toNat else 0))) (encA (s)) := by
  refine CI.ex (CI.mk rfl ?_)
  show WP (d + 1) 59 0 [some (.inr (.inr 127)), some (.inl c)] [] (encA (s)) _
  refine w_ldI rfl rfl ?_
  refine w_call rfl rfl rfl (k_isCell hc) ?_
  refine w_bEq0 rfl (fun b2 => ?_) (fun b2 => ?_)
  · first
    | (exfalso; omega)
    | (refine w_push rfl ?_
       refine w_retI rfl ?_
       refine ⟨?_, rfl⟩
       first | rw [if_pos (by omega)] | rw [if_neg (by omega)])
  · first
    | (exfalso; omega)
    | (refine w_ldR rfl rfl rfl ?_
       first | refine w_getI rfl rfl rfl rfl rfl ?_ | refine w_getR rfl rfl rfl rfl rfl ?_
       refine w_ldI rfl rfl ?_
       refine w_ald rfl rfl rfl (by omega) rfl ?_
       refine w_go rfl ?_
       refine w_retI rfl ?_
       refine ⟨?_, rfl⟩
       first | rw [if_pos (by omega)] | rw [if_neg (by omega)])
theorem l_fill128 {d : Nat} {s : mSt} {P : mSt → Prop} (k : Nat) (i : Int) (hi : i = (k : Int)) (hk : k ≤ 41) (hl : ∀ q, q < k → s 128 q = 0) (hP : ∀ s1, Fr [128] s s1 → (∀ q, q < 41 → s1 128 q = 0) → P s1) : WP (d + 0) 2 5 [some (.inr (.inr 128)), some (.inl 0), some (.inl i), some (.inl 41)] [] (encA (s)) (QV P) := by
  subst hi
  refine w_ldI rfl rfl ?_
  refine w_ldI rfl rfl ?_
  refine w_crGe rfl (by omega) (by omega) (fun b7 => ?_) (fun b7 => ?_)
  · first
    | (exfalso; omega)
    | (refine w_retV rfl ?_
       obtain rfl : k = 41 := by omega
       exact hP s Fr.rf hl)
  · first
    | (exfalso; omega)
    | (refine w_ldR rfl rfl rfl ?_
       refine w_ldI rfl rfl ?_
       refine w_ldI rfl rfl ?_
       refine w_ast rfl rfl rfl (by omega) rfl ?_
       refine w_inc_4_2 rfl rfl ?_
       refine w_go rfl ?_
       exact l_fill128 (k + 1) ((k : Int) + 1) (by omega) (by omega) (fun q hq => by
         rw [us_eq]
         unfold mup
         split
         · rfl
         · exact hl q (by omega)) (fun s1 hf hs => hP s1 ((Fr.us rfl).tr hf) hs))
termination_by (41 - k)
decreasing_by all_goals omega
theorem k_fill128 {d : Nat} {s : mSt}  : CV (d + 0) 2 [.inr (.inr 128), .inl 0] (s) (fun s1 => Fr [128] s s1 ∧ ∀ q, q < 41 → s1 128 q = 0) := by
  refine CV.mk rfl ?_
  show WP (d + 0) 2 0 [some (.inr (.inr 128)), some (.inl 0), none, none] [] (encA (s)) _
  refine w_push rfl ?_
  refine w_StI_4_2 rfl rfl ?_
  refine w_ldR rfl rfl rfl ?_
  refine w_alen rfl rfl rfl ?_
  refine w_StI_4_3 rfl rfl ?_
  exact l_fill128 0 0 rfl (by omega) (fun q hq => by omega) (fun s1 hf hs => ⟨hf, hs⟩)
theorem l_fill129 {d : Nat} {s : mSt} {P : mSt → Prop} (k : Nat) (i : Int) (hi : i = (k : Int)) (hk : k ≤ 36) (hl : ∀ q, q < k → s 129 q = 0) (hP : ∀ s1, Fr [129] s s1 → (∀ q, q < 36 → s1 129 q = 0) → P s1) : WP (d + 0) 2 5 [some (.inr (.inr 129)), some (.inl 0), some (.inl i), some (.inl 36)] [] (encA (s)) (QV P) := by
  subst hi
  refine w_ldI rfl rfl ?_
  refine w_ldI rfl rfl ?_
  refine w_crGe rfl (by omega) (by omega) (fun b7 => ?_) (fun b7 => ?_)
  · first
    | (exfalso; omega)
    | (refine w_retV rfl ?_
       obtain rfl : k = 36 := by omega
       exact hP s Fr.rf hl)
  · first
    | (exfalso; omega)
    | (refine w_ldR rfl rfl rfl ?_
       refine w_ldI rfl rfl ?_
       refine w_ldI rfl rfl ?_
       refine w_ast rfl rfl rfl (by omega) rfl ?_
       refine w_inc_4_2 rfl rfl ?_
       refine w_go rfl ?_
       exact l_fill129 (k + 1) ((k : Int) + 1) (by omega) (by omega) (fun q hq => by
         rw [us_eq]
         unfold mup
         split
         · rfl
         · exact hl q (by omega)) (fun s1 hf hs => hP s1 ((Fr.us rfl).tr hf) hs))
termination_by (36 - k)
decreasing_by all_goals omega
theorem k_fill129 {d : Nat} {s : mSt}  : CV (d + 0) 2 [.inr (.inr 129), .inl 0] (s) (fun s1 => Fr [129] s s1 ∧ ∀ q, q < 36 → s1 129 q = 0) := by
  refine CV.mk rfl ?_
  show WP (d + 0) 2 0 [some (.inr (.inr 129)), some (.inl 0), none, none] [] (encA (s)) _
  refine w_push rfl ?_
  refine w_StI_4_2 rfl rfl ?_
  refine w_ldR rfl rfl rfl ?_
  refine w_alen rfl rfl rfl ?_
  refine w_StI_4_3 rfl rfl ?_
  exact l_fill129 0 0 rfl (by omega) (fun q hq => by omega) (fun s1 hf hs => ⟨hf, hs⟩)
theorem l_follow14 {d : Nat} {s : mSt} {P : mSt → Prop} {l2 l3 : Int} {Gf lf L : Nat → Int} (n k : Nat) (i c way : Int) (hi : i = (k : Int) + 1) (hg : ∀ c : Int, 0 ≤ c → c < 36 → s 14 c.toNat = Gf c.toNat) (hgr : ∀ c : Nat, c < 36 → 0 ≤ Gf c ∧ Gf c ≤ 3) (hlf : ∀ k : Nat, k ≤ 40 → s 128 k = lf k) (hlr : ∀ k, -200 ≤ lf k ∧ lf k ≤ 30) (hl : ∀ i, i < 36 → s 129 i = L i) (hL : LOk L) (hk : k + n = 40) (hc : 0 ≤ c ∧ c < 36) (hw : 0 ≤ way ∧ way < 4) (hP : ∀ s1, Fr [129] s s1 → (∀ i, i < 36 → s1 129 i = rayF Gf lf n k c way L i) → P s1) : WP (d + 1) 56 6 [some (.inr (.inr 127)), some (.inr (.inr 14)), some (.inl l2), some (.inl l3), some (.inl c), some (.inl way), some (.inl i)] [] (encA (s)) (QV P) := by
  subst hi
  have hlk := hlr (k + 1)
  have hx := @nxc_rng c way hc
  have ek : ((k : Int) + 1).toNat = k + 1 := by omega
  refine w_ldI rfl rfl ?_
  refine w_push rfl ?_
  refine w_crGt rfl (by omega) (by omega) (fun b8 => ?_) (fun b8 => ?_)
  · first
    | (exfalso; omega)
    | (refine w_retV rfl ?_
       exact hP s Fr.rf (fun i hi => by
         rw [hl i hi]
         by_cases h0 : n = 0
         · subst h0; rfl
         · rw [rayF_b (by omega)]))
  · first
    | (exfalso; omega)
    | (refine w_ldR rfl rfl rfl ?_
       first | refine w_getI rfl rfl rfl rfl rfl ?_ | refine w_getR rfl rfl rfl rfl rfl ?_
       refine w_ldI rfl rfl ?_
       refine w_ald rfl rfl rfl (by omega) rfl ?_
       rw [ek, hlf (k + 1) (by omega)]
       refine w_irLe0 rfl (by omega) (fun b13 => ?_) (fun b13 => ?_)
       · first
         | (exfalso; omega)
         | (refine w_retV rfl ?_
            exact hP s Fr.rf (fun i hi => by
              rw [hl i hi]
              by_cases h0 : n = 0
              · subst h0; rfl
              · rw [rayF_b (by omega)]))
       · first
         | (exfalso; omega)
         | (obtain ⟨n, rfl⟩ : ∃ m, n = m + 1 := ⟨n - 1, by omega⟩
            refine w_ldI rfl rfl ?_
            refine w_ldI rfl rfl ?_
            refine w_call rfl rfl rfl (k_neighbour hc hw) ?_
            refine w_StI_7_4 rfl rfl ?_
            refine w_ldI rfl rfl ?_
            refine w_irLt0 rfl (by omega) (fun b19 => ?_) (fun b19 => ?_)
            · first
              | (exfalso; omega)
              | (refine w_retV rfl ?_
                 exact hP s Fr.rf (fun i hi => by rw [hl i hi]; first | rw [rayF_a (by omega)] | rw [rayF_c b24]))
            · first
              | (exfalso; omega)
              | (refine w_ldR rfl rfl rfl ?_
                 refine w_ldI rfl rfl ?_
                 refine w_ald rfl rfl rfl (by omega) rfl ?_
                 rw [hg _ (by omega) (by omega)]
                 have hg3 := hgr (nxc c way).toNat (by omega)
                 refine w_push rfl ?_
                 refine w_crNe rfl (by omega) (by omega) (fun b24 => ?_) (fun b24 => ?_)
                 · first
                   | (exfalso; omega)
                   | (refine w_ldR rfl rfl rfl ?_
                      first | refine w_getI rfl rfl rfl rfl rfl ?_ | refine w_getR rfl rfl rfl rfl rfl ?_
                      refine w_ldI rfl rfl ?_
                      refine w_ldR rfl rfl rfl ?_
                      first | refine w_getI rfl rfl rfl rfl rfl ?_ | refine w_getR rfl rfl rfl rfl rfl ?_
                      refine w_ldI rfl rfl ?_
                      refine w_ald rfl rfl rfl (by omega) rfl ?_
                      rw [hl _ (by omega)]
                      refine w_ldR rfl rfl rfl ?_
                      first | refine w_getI rfl rfl rfl rfl rfl ?_ | refine w_getR rfl rfl rfl rfl rfl ?_
                      refine w_ldI rfl rfl ?_
                      refine w_ald rfl rfl rfl (by omega) rfl ?_
                      rw [ek, hlf (k + 1) (by omega)]
                      refine w_m2 rfl rfl ?_
                      have hLx := hL (nxc c way).toNat (by omega)
                      rw [m_max_id (by omega) (by omega)]
                      refine w_ast rfl rfl rfl (by omega) rfl ?_
                      refine w_ldI rfl rfl ?_
                      refine w_ldR rfl rfl rfl ?_
                      refine w_ldI rfl rfl ?_
                      refine w_ald rfl rfl rfl (by omega) rfl ?_
                      rw [us_ne (by decide), hg _ (by omega) (by omega)]
                      refine w_call rfl rfl rfl (k_turned hw (hgr _ (by omega))) ?_
                      refine w_StI_7_5 rfl rfl ?_
                      refine w_inc_7_6 rfl rfl ?_
                      refine w_go rfl ?_
                      exact l_follow14 (L := mup L (nxc c way).toNat (max (L (nxc c way).toNat) (lf (k + 1)))) n (k + 1) ((k : Int) + 1 + 1) (nxc c way) (trn way (Gf (nxc c way).toNat)) (by omega) (fun c h1 h2 => by rw [us_ne (by decide)]; exact hg c h1 h2) hgr (fun k hk => by rw [us_ne (by decide)]; exact hlf k hk) hlr (fun i hi => by
                        rw [us_eq]
                        unfold mup
                        split
                        · rfl
                        · exact hl i hi) (LOk_up hL (by omega)) (by omega) (by omega) (trn_rng hw) (fun s1 hf hs => hP s1 ((Fr.us rfl).tr hf) (fun i hi => by rw [rayF_s (by omega) (by omega) b24]; exact hs i hi)))
                 · first
                   | (exfalso; omega)
                   | (refine w_retV rfl ?_
                      exact hP s Fr.rf (fun i hi => by rw [hl i hi]; first | rw [rayF_a (by omega)] | rw [rayF_c b24])))))
termination_by (40 - k)
decreasing_by all_goals omega
theorem k_follow14 {d : Nat} {s : mSt} {c way : Int} {Gf lf L : Nat → Int} (hg : ∀ c : Int, 0 ≤ c → c < 36 → s 14 c.toNat = Gf c.toNat) (hgr : ∀ c : Nat, c < 36 → 0 ≤ Gf c ∧ Gf c ≤ 3) (hlf : ∀ k : Nat, k ≤ 40 → s 128 k = lf k) (hlr : ∀ k, -200 ≤ lf k ∧ lf k ≤ 30) (hl : ∀ i, i < 36 → s 129 i = L i) (hL : LOk L) (hc : 0 ≤ c ∧ c < 36) (hw : 0 ≤ way ∧ way < 4) : CV (d + 1) 56 [.inr (.inr 127), .inr (.inr 14), .inl c, .inl way] (s) (fun s1 => Fr [129] s s1 ∧ ∀ i, i < 36 → s1 129 i = rayF Gf lf 40 0 c way L i) := by
  refine CV.mk rfl ?_
  show WP (d + 1) 56 0 [some (.inr (.inr 127)), some (.inr (.inr 14)), some (.inl c), some (.inl way), none, none, none] [] (encA (s)) _
  refine w_ldI rfl rfl ?_
  refine w_StI_7_4 rfl rfl ?_
  refine w_ldI rfl rfl ?_
  refine w_StI_7_5 rfl rfl ?_
  refine w_push rfl ?_
  refine w_StI_7_6 rfl rfl ?_
  exact l_follow14 40 0 1 c way rfl hg hgr hlf hlr hl hL rfl hc hw (fun s1 hf hs => ⟨hf, hs⟩)
/-- all ways, one behind the other -/
def rwF (G lf : Nat → Int) (c : Int) : Nat → Int → (Nat → Int) → (Nat → Int)
  | 0, _, L => L
  | n + 1, way, L => rwF G lf c n (way + 1) (rayF G lf 40 0 c way L)
theorem rw_li (G lf : Nat → Int) (c : Int) : mup (rwF G lf c 4 0 (fun _ => 0)) c.toNat (lf 0) = liF G lf c := rfl
theorem l_spread14 {d : Nat} {s : mSt} {Q : mQ} {c : Int} {Gf lf L : Nat → Int} (n : Nat) (way : Int) (hg : ∀ c : Int, 0 ≤ c → c < 36 → s 14 c.toNat = Gf c.toNat) (hgr : ∀ c : Nat, c < 36 → 0 ≤ Gf c ∧ Gf c ≤ 3) (hlf : ∀ k : Nat, k ≤ 40 → s 128 k = lf k) (hlr : ∀ k, -200 ≤ lf k ∧ lf k ≤ 30) (hl : ∀ i, i < 36 → s 129 i = L i) (hL : LOk L) (hc : 0 ≤ c ∧ c < 36) (hk : way + n = 4 ∧ 0 ≤ way) (kk : ∀ s1, Fr [129] s s1 → (∀ i, i < 36 → s1 129 i = rwF Gf lf c n way L i) → WP (d + 2) 55 16 [some (.inr (.inr 127)), some (.inr (.inr 14)), some (.inl c), some (.inl 4)] [] (encA (s1)) (Q)) : WP (d + 2) 55 6 [some (.inr (.inr 127)), some (.inr (.inr 14)), some (.inl c), some (.inl way)] [] (encA (s)) (Q) := by
  refine w_ldI rfl rfl ?_
  refine w_push rfl ?_
  refine w_crGe rfl (by omega) (by omega) (fun b8 => ?_) (fun b8 => ?_)
  · first
    | (exfalso; omega)
    | (obtain rfl : n = 0 := by omega
       obtain rfl : way = 4 := by omega
       exact kk s Fr.rf hl)
  · first
    | (exfalso; omega)
    | (obtain ⟨n, rfl⟩ : ∃ m, n = m + 1 := ⟨n - 1, by omega⟩
       refine w_ldR rfl rfl rfl ?_
       refine w_ldR rfl rfl rfl ?_
       refine w_ldI rfl rfl ?_
       refine w_ldI rfl rfl ?_
       refine w_callWN rfl rfl rfl rfl rfl rfl rfl (k_follow14 hg hgr hlf hlr hl hL hc (by omega)) (fun s13 p13 => ?_)
       refine w_inc_4_3 rfl rfl ?_
       refine w_go rfl ?_
       obtain ⟨f13, l13⟩ := p13
       exact l_spread14 (L := rayF Gf lf 40 0 c way L) n (way + 1) (fun c h1 h2 => by rw [f13.at 14 rfl]; exact hg c h1 h2) hgr (fun k hk => by rw [f13.at 128 rfl]; exact hlf k hk) hlr l13 (rayF_L (fun k => (hlr k).2) _ _ _ _ _ hL) hc (by omega) (fun s1 hf hs => kk s1 (f13.tr hf) hs))
termination_by n
decreasing_by all_goals omega
theorem k_spreadZ14 {d : Nat} {s s0 : mSt} {c : Int} {Gf lf : Nat → Int} (hf : Fr [129] s0 s) (hlf : ∀ k : Nat, k ≤ 40 → s 128 k = lf k) (hl : ∀ i, i < 36 → s 129 i = rwF Gf lf c 4 0 (fun _ => 0) i) (hc : 0 ≤ c ∧ c < 36) : WP (d + 2) 55 16 [some (.inr (.inr 127)), some (.inr (.inr 14)), some (.inl c), some (.inl 4)] [] (encA (s)) (QV (fun s1 => Fr [129] s0 s1 ∧ ∀ i, i < 36 → s1 129 i = liF Gf lf c i)) := by
  refine w_ldR rfl rfl rfl ?_
  first | refine w_getI rfl rfl rfl rfl rfl ?_ | refine w_getR rfl rfl rfl rfl rfl ?_
  refine w_ldI rfl rfl ?_
  refine w_ldR rfl rfl rfl ?_
  first | refine w_getI rfl rfl rfl rfl rfl ?_ | refine w_getR rfl rfl rfl rfl rfl ?_
  refine w_push rfl ?_
  refine w_aldk 0 rfl rfl rfl rfl rfl rfl ?_
  rw [hlf 0 (by omega)]
  refine w_ast rfl rfl rfl (by omega) rfl ?_
  refine w_retV rfl ?_
  refine ⟨hf.tr (Fr.us rfl), fun i hi => ?_⟩
  rw [us_eq, ← rw_li]
  unfold mup
  split
  · rfl
  · exact hl i hi
theorem k_spread14 {d : Nat} {s : mSt} {c : Int} {Gf lf : Nat → Int} (hg : ∀ c : Int, 0 ≤ c → c < 36 → s 14 c.toNat = Gf c.toNat) (hgr : ∀ c : Nat, c < 36 → 0 ≤ Gf c ∧ Gf c ≤ 3) (hlf : ∀ k : Nat, k ≤ 40 → s 128 k = lf k) (hlr : ∀ k, -200 ≤ lf k ∧ lf k ≤ 30) (hc : 0 ≤ c ∧ c < 36) : CV (d + 2) 55 [.inr (.inr 127), .inr (.inr 14), .inl c] (s) (fun s1 => Fr [129] s s1 ∧ ∀ i, i < 36 → s1 129 i = liF Gf lf c i) := by
  refine CV.mk rfl ?_
  show WP (d + 2) 55 0 [some (.inr (.inr 127)), some (.inr (.inr 14)), some (.inl c), none] [] (encA (s)) _
  refine w_ldR rfl rfl rfl ?_
  first | refine w_getI rfl rfl rfl rfl rfl ?_ | refine w_getR rfl rfl rfl rfl rfl ?_
  refine w_push rfl ?_
  refine w_callN rfl rfl rfl k_fill129 (fun s3 p3 => ?_)
  obtain ⟨f3, l3⟩ := p3
  refine w_push rfl ?_
  refine w_StI_4_3 rfl rfl ?_
  exact l_spread14 (L := fun _ => 0) 4 0 (fun c h1 h2 => by rw [f3.at 14 rfl]; exact hg c h1 h2) hgr (fun k hk => by rw [f3.at 128 rfl]; exact hlf k hk) hlr l3 (fun c _ => by show 0 ≤ (0 : Int) ∧ (0 : Int) ≤ 30; omega) hc (by omega) (fun s1 hf hs => k_spreadZ14 (f3.tr hf) (fun k hk => by rw [hf.at 128 rfl, f3.at 128 rfl]; exact hlf k hk) hs hc)
theorem l_follow90 {d : Nat} {s : mSt} {P : mSt → Prop} {l2 l3 : Int} {Gf lf L : Nat → Int} (n k : Nat) (i c way : Int) (hi : i = (k : Int) + 1) (hg : ∀ c : Int, 0 ≤ c → c < 36 → s 90 c.toNat = Gf c.toNat) (hgr : ∀ c : Nat, c < 36 → 0 ≤ Gf c ∧ Gf c ≤ 3) (hlf : ∀ k : Nat, k ≤ 40 → s 128 k = lf k) (hlr : ∀ k, -200 ≤ lf k ∧ lf k ≤ 30) (hl : ∀ i, i < 36 → s 129 i = L i) (hL : LOk L) (hk : k + n = 40) (hc : 0 ≤ c ∧ c < 36) (hw : 0 ≤ way ∧ way < 4) (hP : ∀ s1, Fr [129] s s1 → (∀ i, i < 36 → s1 129 i = rayF Gf lf n k c way L i) → P s1) : WP (d + 1) 56 6 [some (.inr (.inr 127)), some (.inr (.inr 90)), some (.inl l2), some (.inl l3), some (.inl c), some (.inl way), some (.inl i)] [] (encA (s)) (QV P) := by
  subst hi
  have hlk := hlr (k + 1)
  have hx := @nxc_rng c way hc
  have ek : ((k : Int) + 1).toNat = k + 1 := by omega
  refine w_ldI rfl rfl ?_
  refine w_push rfl ?_
  refine w_crGt rfl (by omega) (by omega) (fun b8 => ?_) (fun b8 => ?_)
  · first
    | (exfalso; omega)
    | (refine w_retV rfl ?_
       exact hP s Fr.rf (fun i hi => by
         rw [hl i hi]
         by_cases h0 : n = 0
         · subst h0; rfl
         · rw [rayF_b (by omega)]))
  · first
    | (exfalso; omega)
    | (refine w_ldR rfl rfl rfl ?_
       first | refine w_getI rfl rfl rfl rfl rfl ?_ | refine w_getR rfl rfl rfl rfl rfl ?_
       refine w_ldI rfl rfl ?_
       refine w_ald rfl rfl rfl (by omega) rfl ?_
       rw [ek, hlf (k + 1) (by omega)]
       refine w_irLe0 rfl (by omega) (fun b13 => ?_) (fun b13 => ?_)
       · first
         | (exfalso; omega)
         | (refine w_retV rfl ?_
            exact hP s Fr.rf (fun i hi => by
              rw [hl i hi]
              by_cases h0 : n = 0
              · subst h0; rfl
              · rw [rayF_b (by omega)]))
       · first
         | (exfalso; omega)
         | (obtain ⟨n, rfl⟩ : ∃ m, n = m + 1 := ⟨n - 1, by omega⟩
            refine w_ldI rfl rfl ?_
            refine w_ldI rfl rfl ?_
            refine w_call rfl rfl rfl (k_neighbour hc hw) ?_
            refine w_StI_7_4 rfl rfl ?_
            refine w_ldI rfl rfl ?_
            refine w_irLt0 rfl (by omega) (fun b19 => ?_) (fun b19 => ?_)
            · first
              | (exfalso; omega)
              | (refine w_retV rfl ?_
                 exact hP s Fr.rf (fun i hi => by rw [hl i hi]; first | rw [rayF_a (by omega)] | rw [rayF_c b24]))
            · first
              | (exfalso; omega)
              | (refine w_ldR rfl rfl rfl ?_
                 refine w_ldI rfl rfl ?_
                 refine w_ald rfl rfl rfl (by omega) rfl ?_
                 rw [hg _ (by omega) (by omega)]
                 have hg3 := hgr (nxc c way).toNat (by omega)
                 refine w_push rfl ?_
                 refine w_crNe rfl (by omega) (by omega) (fun b24 => ?_) (fun b24 => ?_)
                 · first
                   | (exfalso; omega)
                   | (refine w_ldR rfl rfl rfl ?_
                      first | refine w_getI rfl rfl rfl rfl rfl ?_ | refine w_getR rfl rfl rfl rfl rfl ?_
                      refine w_ldI rfl rfl ?_
                      refine w_ldR rfl rfl rfl ?_
                      first | refine w_getI rfl rfl rfl rfl rfl ?_ | refine w_getR rfl rfl rfl rfl rfl ?_
                      refine w_ldI rfl rfl ?_
                      refine w_ald rfl rfl rfl (by omega) rfl ?_
                      rw [hl _ (by omega)]
                      refine w_ldR rfl rfl rfl ?_
                      first | refine w_getI rfl rfl rfl rfl rfl ?_ | refine w_getR rfl rfl rfl rfl rfl ?_
                      refine w_ldI rfl rfl ?_
                      refine w_ald rfl rfl rfl (by omega) rfl ?_
                      rw [ek, hlf (k + 1) (by omega)]
                      refine w_m2 rfl rfl ?_
                      have hLx := hL (nxc c way).toNat (by omega)
                      rw [m_max_id (by omega) (by omega)]
                      refine w_ast rfl rfl rfl (by omega) rfl ?_
                      refine w_ldI rfl rfl ?_
                      refine w_ldR rfl rfl rfl ?_
                      refine w_ldI rfl rfl ?_
                      refine w_ald rfl rfl rfl (by omega) rfl ?_
                      rw [us_ne (by decide), hg _ (by omega) (by omega)]
                      refine w_call rfl rfl rfl (k_turned hw (hgr _ (by omega))) ?_
                      refine w_StI_7_5 rfl rfl ?_
                      refine w_inc_7_6 rfl rfl ?_
                      refine w_go rfl ?_
                      exact l_follow90 (L := mup L (nxc c way).toNat (max (L (nxc c way).toNat) (lf (k + 1)))) n (k + 1) ((k : Int) + 1 + 1) (nxc c way) (trn way (Gf (nxc c way).toNat)) (by omega) (fun c h1 h2 => by rw [us_ne (by decide)]; exact hg c h1 h2) hgr (fun k hk => by rw [us_ne (by decide)]; exact hlf k hk) hlr (fun i hi => by
                        rw [us_eq]
                        unfold mup
                        split
                        · rfl
                        · exact hl i hi) (LOk_up hL (by omega)) (by omega) (by omega) (trn_rng hw) (fun s1 hf hs => hP s1 ((Fr.us rfl).tr hf) (fun i hi => by rw [rayF_s (by omega) (by omega) b24]; exact hs i hi)))
                 · first
                   | (exfalso; omega)
                   | (refine w_retV rfl ?_
                      exact hP s Fr.rf (fun i hi => by rw [hl i hi]; first | rw [rayF_a (by omega)] | rw [rayF_c b24])))))
termination_by (40 - k)
decreasing_by all_goals omega
theorem k_follow90 {d : Nat} {s : mSt} {c way : Int} {Gf lf L : Nat → Int} (hg : ∀ c : Int, 0 ≤ c → c < 36 → s 90 c.toNat = Gf c.toNat) (hgr : ∀ c : Nat, c < 36 → 0 ≤ Gf c ∧ Gf c ≤ 3) (hlf : ∀ k : Nat, k ≤ 40 → s 128 k = lf k) (hlr : ∀ k, -200 ≤ lf k ∧ lf k ≤ 30) (hl : ∀ i, i < 36 → s 129 i = L i) (hL : LOk L) (hc : 0 ≤ c ∧ c < 36) (hw : 0 ≤ way ∧ way < 4) : CV (d + 1) 56 [.inr (.inr 127), .inr (.inr 90), .inl c, .inl way] (s) (fun s1 => Fr [129] s s1 ∧ ∀ i, i < 36 → s1 129 i = rayF Gf lf 40 0 c way L i) := by
  refine CV.mk rfl ?_
  show WP (d + 1) 56 0 [some (.inr (.inr 127)), some (.inr (.inr 90)), some (.inl c), some (.inl way), none, none, none] [] (encA (s)) _
  refine w_ldI rfl rfl ?_
  refine w_StI_7_4 rfl rfl ?_
  refine w_ldI rfl rfl ?_
  refine w_StI_7_5 rfl rfl ?_
  refine w_push rfl ?_
  refine w_StI_7_6 rfl rfl ?_
  exact l_follow90 40 0 1 c way rfl hg hgr hlf hlr hl hL rfl hc hw (fun s1 hf hs => ⟨hf, hs⟩)
theorem l_spread90 {d : Nat} {s : mSt} {Q : mQ} {c : Int} {Gf lf L : Nat → Int} (n : Nat) (way : Int) (hg : ∀ c : Int, 0 ≤ c → c < 36 → s 90 c.toNat = Gf c.toNat) (hgr : ∀ c : Nat, c < 36 → 0 ≤ Gf c ∧ Gf c ≤ 3) (hlf : ∀ k : Nat, k ≤ 40 → s 128 k = lf k) (hlr : ∀ k, -200 ≤ lf k ∧ lf k ≤ 30) (hl : ∀ i, i < 36 → s 129 i = L i) (hL : LOk L) (hc : 0 ≤ c ∧ c < 36) (hk : way + n = 4 ∧ 0 ≤ way) (kk : ∀ s1, Fr [129] s s1 → (∀ i, i < 36 → s1 129 i = rwF Gf lf c n way L i) → WP (d + 2) 55 16 [some (.inr (.inr 127)), some (.inr (.inr 90)), some (.inl c), some (.inl 4)] [] (encA (s1)) (Q)) : WP (d + 2) 55 6 [some (.inr (.inr 127)), some (.inr (.inr 90)), some (.inl c), some (.inl way)] [] (encA (s)) (Q) := by
  refine w_ldI rfl rfl ?_
  refine w_push rfl ?_
  refine w_crGe rfl (by omega) (by omega) (fun b8 => ?_) (fun b8 => ?_)
  · first
    | (exfalso; omega)
    | (obtain rfl : n = 0 := by omega
       obtain rfl : way = 4 := by omega
       exact kk s Fr.rf hl)
  · first
    | (exfalso; omega)
    | (obtain ⟨n, rfl⟩ : ∃ m, n = m + 1 := ⟨n - 1, by omega⟩
       refine w_ldR rfl rfl rfl ?_
       refine w_ldR rfl rfl rfl ?_
       refine w_ldI rfl rfl ?_
       refine w_ldI rfl rfl ?_
       refine w_callWN rfl rfl rfl rfl rfl rfl rfl (k_follow90 hg hgr hlf hlr hl hL hc (by omega)) (fun s13 p13 => ?_)
       refine w_inc_4_3 rfl rfl ?_
       refine w_go rfl ?_
       obtain ⟨f13, l13⟩ := p13
       exact l_spread90 (L := rayF Gf lf 40 0 c way L) n (way + 1) (fun c h1 h2 => by rw [f13.at 90 rfl]; exact hg c h1 h2) hgr (fun k hk => by rw [f13.at 128 rfl]; exact hlf k hk) hlr l13 (rayF_L (fun k => (hlr k).2) _ _ _ _ _ hL) hc (by omega) (fun s1 hf hs => kk s1 (f13.tr hf) hs))
termination_by n
decreasing_by all_goals omega
theorem k_spreadZ90 {d : Nat} {s s0 : mSt} {c : Int} {Gf lf : Nat → Int} (hf : Fr [129] s0 s) (hlf : ∀ k : Nat, k ≤ 40 → s 128 k = lf k) (hl : ∀ i, i < 36 → s 129 i = rwF Gf lf c 4 0 (fun _ => 0) i) (hc : 0 ≤ c ∧ c < 36) : WP (d + 2) 55 16 [some (.inr (.inr 127)), some (.inr (.inr 90)), some (.inl c), some (.inl 4)] [] (encA (s)) (QV (fun s1 => Fr [129] s0 s1 ∧ ∀ i, i < 36 → s1 129 i = liF Gf lf c i)) := by
  refine w_ldR rfl rfl rfl ?_
  first | refine w_getI rfl rfl rfl rfl rfl ?_ | refine w_getR rfl rfl rfl rfl rfl ?_
  refine w_ldI rfl rfl ?_
  refine w_ldR rfl rfl rfl ?_
  first | refine w_getI rfl rfl rfl rfl rfl ?_ | refine w_getR rfl rfl rfl rfl rfl ?_
  refine w_push rfl ?_
  refine w_aldk 0 rfl rfl rfl rfl rfl rfl ?_
  rw [hlf 0 (by omega)]
  refine w_ast rfl rfl rfl (by omega) rfl ?_
  refine w_retV rfl ?_
  refine ⟨hf.tr (Fr.us rfl), fun i hi => ?_⟩
  rw [us_eq, ← rw_li]
  unfold mup
  split
  · rfl
  · exact hl i hi
theorem k_spread90 {d : Nat} {s : mSt} {c : Int} {Gf lf : Nat → Int} (hg : ∀ c : Int, 0 ≤ c → c < 36 → s 90 c.toNat = Gf c.toNat) (hgr : ∀ c : Nat, c < 36 → 0 ≤ Gf c ∧ Gf c ≤ 3) (hlf : ∀ k : Nat, k ≤ 40 → s 128 k = lf k) (hlr : ∀ k, -200 ≤ lf k ∧ lf k ≤ 30) (hc : 0 ≤ c ∧ c < 36) : CV (d + 2) 55 [.inr (.inr 127), .inr (.inr 90), .inl c] (s) (fun s1 => Fr [129] s s1 ∧ ∀ i, i < 36 → s1 129 i = liF Gf lf c i) := by
  refine CV.mk rfl ?_
  show WP (d + 2) 55 0 [some (.inr (.inr 127)), some (.inr (.inr 90)), some (.inl c), none] [] (encA (s)) _
  refine w_ldR rfl rfl rfl ?_
  first | refine w_getI rfl rfl rfl rfl rfl ?_ | refine w_getR rfl rfl rfl rfl rfl ?_
  refine w_push rfl ?_
  refine w_callN rfl rfl rfl k_fill129 (fun s3 p3 => ?_)
  obtain ⟨f3, l3⟩ := p3
  refine w_push rfl ?_
  refine w_StI_4_3 rfl rfl ?_
  exact l_spread90 (L := fun _ => 0) 4 0 (fun c h1 h2 => by rw [f3.at 90 rfl]; exact hg c h1 h2) hgr (fun k hk => by rw [f3.at 128 rfl]; exact hlf k hk) hlr l3 (fun c _ => by show 0 ≤ (0 : Int) ∧ (0 : Int) ≤ 30; omega) hc (by omega) (fun s1 hf hs => k_spreadZ90 (f3.tr hf) (fun k hk => by rw [hf.at 128 rfl, f3.at 128 rfl]; exact hlf k hk) hs hc)
