/-! ===== the class: what a law gives ===== -/
theorem mm_hld (v : Int) : m_max 1 (m_min 99 v) = hld (w32 v) := by
  have h := w32_rng v
  have e1 : w32 1 = 1 := w32_id (by omega) (by omega)
  have e99 : w32 99 = 99 := w32_id (by omega) (by omega)
  unfold m_max m_min hld
  rw [e1, e99]
  by_cases h1 : w32 v < 99
  · rw [if_pos h1, w32_w32, if_neg (show ¬ 99 < w32 v by omega)]
    by_cases h2 : 1 < w32 v
    · rw [if_pos h2, if_neg (by omega)]
    · rw [if_neg h2]; split <;> omega
  · rw [if_neg h1, e99, if_pos (by omega), if_neg (by omega)]
    split <;> omega
/-- a law's code is that of the row of numbers D, the base B, n tokens -/
def LwR (s : mSt) (q : Nat) (D : Nat → Int) (use : Int) : Prop := s q 0 = use ∧ s (q + 1) 1 = D (121 + use).toNat ∧ ∀ i : Int, 0 ≤ i → i < D (121 + use).toNat → i < 50 → s (q + 2) i.toNat = tk (D (143 + 50 * use + i).toNat)
theorem k_named {d : Nat} {s : mSt} {z a b c e : Int} (hz : 0 ≤ z ∧ z < 4) : Call (d + 0) 51 [.inl z, .inl a, .inl b, .inl c, .inl e] (encA (s)) (some (.inl (n4 a b c e z.toNat))) (encA (s)) := by
  refine CI.ex (CI.mk rfl ?_)
  show WP (d + 0) 51 0 [some (.inl z), some (.inl a), some (.inl b), some (.inl c), some (.inl e)] [] (encA (s)) _
  refine w_ldI rfl rfl ?_
  obtain b1 | b1 | b1 | b1 := (by omega : z = 0 ∨ z = 1 ∨ z = 2 ∨ (z < 0 ∨ 3 ≤ z))
  · first
    | (exfalso; omega)
    | (refine w_sw (tg := 2) rfl (by rw [w32_id (by omega) (by omega), b1]; rfl) ?_
       refine w_ldI rfl rfl ?_
       refine w_retI rfl ?_
       refine ⟨?_, rfl⟩
       unfold n4
       rcases (show z.toNat = 0 ∨ z.toNat = 1 ∨ z.toNat = 2 ∨ z.toNat = 3 by omega) with h | h | h | h <;> first | (exfalso; omega) | (rw [h]; rfl))
  · first
    | (exfalso; omega)
    | (refine w_sw (tg := 4) rfl (by rw [w32_id (by omega) (by omega), b1]; rfl) ?_
       refine w_ldI rfl rfl ?_
       refine w_retI rfl ?_
       refine ⟨?_, rfl⟩
       unfold n4
       rcases (show z.toNat = 0 ∨ z.toNat = 1 ∨ z.toNat = 2 ∨ z.toNat = 3 by omega) with h | h | h | h <;> first | (exfalso; omega) | (rw [h]; rfl))
  · first
    | (exfalso; omega)
    | (refine w_sw (tg := 6) rfl (by rw [w32_id (by omega) (by omega), b1]; rfl) ?_
       refine w_ldI rfl rfl ?_
       refine w_retI rfl ?_
       refine ⟨?_, rfl⟩
       unfold n4
       rcases (show z.toNat = 0 ∨ z.toNat = 1 ∨ z.toNat = 2 ∨ z.toNat = 3 by omega) with h | h | h | h <;> first | (exfalso; omega) | (rw [h]; rfl))
  · first
    | (exfalso; omega)
    | (refine w_sw (tg := 8) rfl (mSwT_df (by rw [w32_id (by omega) (by omega)]; exact b1)) ?_
       refine w_ldI rfl rfl ?_
       refine w_retI rfl ?_
       refine ⟨?_, rfl⟩
       unfold n4
       rcases (show z.toNat = 0 ∨ z.toNat = 1 ∨ z.toNat = 2 ∨ z.toNat = 3 by omega) with h | h | h | h <;> first | (exfalso; omega) | (rw [h]; rfl))
theorem k_joined {d : Nat} {s : mSt} {z v w : Int} (hz : 0 ≤ z ∧ z < 200) : Call (d + 0) 52 [.inl z, .inl v, .inl w] (encA (s)) (some (.inl (doneV z v w))) (encA (s)) := by
  refine CI.ex (CI.mk rfl ?_)
  show WP (d + 0) 52 0 [some (.inl z), some (.inl v), some (.inl w)] [] (encA (s)) _
  refine w_ldI rfl rfl ?_
  obtain b1 | b1 | b1 | b1 | b1 | b1 | b1 | b1 | b1 | b1 := (by omega : z = 38 ∨ z = 42 ∨ z = 43 ∨ z = 45 ∨ z = 47 ∨ z = 60 ∨ z = 61 ∨ z = 62 ∨ z = 124 ∨ (¬ z = 38 ∧ ¬ z = 42 ∧ ¬ z = 43 ∧ ¬ z = 45 ∧ ¬ z = 47 ∧ ¬ z = 60 ∧ ¬ z = 61 ∧ ¬ z = 62 ∧ ¬ z = 124))
  · first
    | (exfalso; omega)
    | (refine w_sw (tg := 10) rfl (by rw [w32_id (by omega) (by omega), b1]; rfl) ?_
       refine w_ldI rfl rfl ?_
       refine w_ifEq0 rfl (fun b11 => ?_) (fun b11 => ?_)
       · first
         | (exfalso; omega)
         | (refine w_push rfl ?_
            refine w_retI rfl ?_
            refine ⟨?_, rfl⟩
            unfold doneV
            simp (disch := omega) only [if_pos, if_neg])
       · first
         | (exfalso; omega)
         | (refine w_ldI rfl rfl ?_
            refine w_ifEq0 rfl (fun b13 => ?_) (fun b13 => ?_)
            · first
              | (exfalso; omega)
              | (refine w_push rfl ?_
                 refine w_retI rfl ?_
                 refine ⟨?_, rfl⟩
                 unfold doneV
                 simp (disch := omega) only [if_pos, if_neg])
            · first
              | (exfalso; omega)
              | (refine w_push rfl ?_
                 refine w_go rfl ?_
                 refine w_retI rfl ?_
                 refine ⟨?_, rfl⟩
                 unfold doneV
                 simp (disch := omega) only [if_pos, if_neg])))
  · first
    | (exfalso; omega)
    | (refine w_sw (tg := 47) rfl (by rw [w32_id (by omega) (by omega), b1]; rfl) ?_
       refine w_ldI rfl rfl ?_
       refine w_ldI rfl rfl ?_
       refine w_mul rfl ?_
       refine w_retI rfl ?_
       refine ⟨?_, rfl⟩
       unfold doneV
       simp (disch := omega) only [if_pos, if_neg])
  · first
    | (exfalso; omega)
    | (refine w_sw (tg := 39) rfl (by rw [w32_id (by omega) (by omega), b1]; rfl) ?_
       refine w_ldI rfl rfl ?_
       refine w_ldI rfl rfl ?_
       refine w_add rfl ?_
       refine w_retI rfl ?_
       refine ⟨?_, rfl⟩
       unfold doneV
       simp (disch := omega) only [if_pos, if_neg])
  · first
    | (exfalso; omega)
    | (refine w_sw (tg := 43) rfl (by rw [w32_id (by omega) (by omega), b1]; rfl) ?_
       refine w_ldI rfl rfl ?_
       refine w_ldI rfl rfl ?_
       refine w_sub rfl ?_
       refine w_retI rfl ?_
       refine ⟨?_, rfl⟩
       unfold doneV
       simp (disch := omega) only [if_pos, if_neg])
  · first
    | (exfalso; omega)
    | (refine w_sw (tg := 51) rfl (by rw [w32_id (by omega) (by omega), b1]; rfl) ?_
       refine w_ldI rfl rfl ?_
       refine w_ifNe0 rfl (fun b52 => ?_) (fun b52 => ?_)
       · first
         | (exfalso; omega)
         | (refine w_ldI rfl rfl ?_
            refine w_ldI rfl rfl ?_
            refine w_div rfl (by omega) ?_
            refine w_retI rfl ?_
            refine ⟨?_, rfl⟩
            unfold doneV
            simp (disch := omega) only [if_pos, if_neg])
       · first
         | (exfalso; omega)
         | (refine w_push rfl ?_
            refine w_go rfl ?_
            refine w_retI rfl ?_
            refine ⟨?_, rfl⟩
            unfold doneV
            simp (disch := omega) only [if_pos, if_neg]))
  · first
    | (exfalso; omega)
    | (refine w_sw (tg := 18) rfl (by rw [w32_id (by omega) (by omega), b1]; rfl) ?_
       refine w_ldI rfl rfl ?_
       refine w_ldI rfl rfl ?_
       refine w_icGe rfl (fun b20 => ?_) (fun b20 => ?_)
       · first
         | (exfalso; omega)
         | (refine w_push rfl ?_
            refine w_retI rfl ?_
            refine ⟨?_, rfl⟩
            unfold doneV
            simp (disch := omega) only [if_pos, if_neg])
       · first
         | (exfalso; omega)
         | (refine w_push rfl ?_
            refine w_go rfl ?_
            refine w_retI rfl ?_
            refine ⟨?_, rfl⟩
            unfold doneV
            simp (disch := omega) only [if_pos, if_neg]))
  · first
    | (exfalso; omega)
    | (refine w_sw (tg := 25) rfl (by rw [w32_id (by omega) (by omega), b1]; rfl) ?_
       refine w_ldI rfl rfl ?_
       refine w_ldI rfl rfl ?_
       refine w_icNe rfl (fun b27 => ?_) (fun b27 => ?_)
       · first
         | (exfalso; omega)
         | (refine w_push rfl ?_
            refine w_retI rfl ?_
            refine ⟨?_, rfl⟩
            unfold doneV
            simp (disch := omega) only [if_pos, if_neg])
       · first
         | (exfalso; omega)
         | (refine w_push rfl ?_
            refine w_go rfl ?_
            refine w_retI rfl ?_
            refine ⟨?_, rfl⟩
            unfold doneV
            simp (disch := omega) only [if_pos, if_neg]))
  · first
    | (exfalso; omega)
    | (refine w_sw (tg := 32) rfl (by rw [w32_id (by omega) (by omega), b1]; rfl) ?_
       refine w_ldI rfl rfl ?_
       refine w_ldI rfl rfl ?_
       refine w_icLe rfl (fun b34 => ?_) (fun b34 => ?_)
       · first
         | (exfalso; omega)
         | (refine w_push rfl ?_
            refine w_retI rfl ?_
            refine ⟨?_, rfl⟩
            unfold doneV
            simp (disch := omega) only [if_pos, if_neg])
       · first
         | (exfalso; omega)
         | (refine w_push rfl ?_
            refine w_go rfl ?_
            refine w_retI rfl ?_
            refine ⟨?_, rfl⟩
            unfold doneV
            simp (disch := omega) only [if_pos, if_neg]))
  · first
    | (exfalso; omega)
    | (refine w_sw (tg := 2) rfl (by rw [w32_id (by omega) (by omega), b1]; rfl) ?_
       refine w_ldI rfl rfl ?_
       refine w_ifNe0 rfl (fun b3 => ?_) (fun b3 => ?_)
       · first
         | (exfalso; omega)
         | (refine w_push rfl ?_
            refine w_go rfl ?_
            refine w_retI rfl ?_
            refine ⟨?_, rfl⟩
            unfold doneV
            simp (disch := omega) only [if_pos, if_neg])
       · first
         | (exfalso; omega)
         | (refine w_ldI rfl rfl ?_
            refine w_ifEq0 rfl (fun b5 => ?_) (fun b5 => ?_)
            · first
              | (exfalso; omega)
              | (refine w_push rfl ?_
                 refine w_retI rfl ?_
                 refine ⟨?_, rfl⟩
                 unfold doneV
                 simp (disch := omega) only [if_pos, if_neg])
            · first
              | (exfalso; omega)
              | (refine w_push rfl ?_
                 refine w_go rfl ?_
                 refine w_retI rfl ?_
                 refine ⟨?_, rfl⟩
                 unfold doneV
                 simp (disch := omega) only [if_pos, if_neg])))
  · first
    | (exfalso; omega)
    | (refine w_sw (tg := 59) rfl (by rw [w32_id (by omega) (by omega)]; unfold mSwL; simp only [mSwL]; (repeat rw [if_neg (by omega)])) ?_
       refine w_ldI rfl rfl ?_
       refine w_ifNe0 rfl (fun b60 => ?_) (fun b60 => ?_)
       · first
         | (exfalso; omega)
         | (refine w_ldI rfl rfl ?_
            refine w_ldI rfl rfl ?_
            refine w_div rfl (by omega) ?_
            refine w_retI rfl ?_
            refine ⟨?_, rfl⟩
            unfold doneV
            simp (disch := omega) only [if_pos, if_neg])
       · first
         | (exfalso; omega)
         | (refine w_push rfl ?_
            refine w_go rfl ?_
            refine w_retI rfl ?_
            refine ⟨?_, rfl⟩
            unfold doneV
            simp (disch := omega) only [if_pos, if_neg]))
theorem k_without35 {d : Nat} {s : mSt} {a b use : Int} (hu : s 35 0 = use) (hu1 : 0 ≤ use ∧ use ≤ 1) : Call (d + 0) 50 [.inr (.inr 35), .inl a, .inl b] (encA (s)) (some (.inl (if use = 0 then a + b else a))) (encA (s)) := by
  refine CI.ex (CI.mk rfl ?_)
  show WP (d + 0) 50 0 [some (.inr (.inr 35)), some (.inl a), some (.inl b)] [] (encA (s)) _
  refine w_ldR rfl rfl rfl ?_
  first | refine w_getI rfl rfl rfl rfl rfl ?_ | refine w_getR rfl rfl rfl rfl rfl ?_
  refine w_irNe0 rfl (by omega) (fun b2 => ?_) (fun b2 => ?_)
  · first
    | (exfalso; omega)
    | (refine w_ldI rfl rfl ?_
       refine w_retI rfl ?_
       refine ⟨?_, rfl⟩
       first | rw [if_pos (by omega)] | rw [if_neg (by omega)])
  · first
    | (exfalso; omega)
    | (refine w_ldI rfl rfl ?_
       refine w_ldI rfl rfl ?_
       refine w_add rfl ?_
       refine w_go rfl ?_
       refine w_retI rfl ?_
       refine ⟨?_, rfl⟩
       first | rw [if_pos (by omega)] | rw [if_neg (by omega)])
theorem l_lg35 {d : Nat} {s : mSt} {P : Int → mSt → Prop} {D : Nat → Int} {use a b c e : Int} {l : List Int} {x7 : Option mAV} {s0 : mSt} (hv0 : ∀ s1, Fr [38] s0 s1 → P (gv D use a b c e) s1) (k : Nat) (i hh : Int) (hi : i = (k : Int)) (hhl : hh = (l.length : Int)) (hev : evN (n4 a b c e) D (143 + 50 * use) k = l) (hst : Stk l (s 38)) (hu : 0 ≤ use ∧ use ≤ 1) (hL : LwR s0 35 D use) (hC : CodeOk D (143 + 50 * use) (D (121 + use).toNat)) (hD : True) (hN : True) (hf : Fr [38] s0 s) (hk : (k : Int) ≤ D (121 + use).toNat) : WP (d + 1) 49 4 [some (.inr (.inr 35)), some (.inl a), some (.inl b), some (.inl c), some (.inl e), some (.inl hh), some (.inl i), x7] [] (encA (s)) (QI P) := by
  subst hi
  have hlen := evN_len (nm := n4 a b c e) hC k hk
  rw [hev] at hlen
  have hle := hgt_le D (143 + 50 * use) k
  have hcn := hC.1
  have hc := hC.2 k
  have hsz : s 36 1 = D (121 + use).toNat := (congrFun (hf.at 36 rfl) 1).trans hL.2.1
  have htk : ∀ t : Int, (t < 10000 ∧ tk t = t) ∨ (10000 ≤ t ∧ t < 20000 ∧ tk t = 9999 - t) ∨ (20000 ≤ t ∧ tk t = t - 10000) := fun t => by unfold tk; split; (exact Or.inl ⟨by omega, rfl⟩); split; (exact Or.inr (Or.inl ⟨by omega, by omega, rfl⟩)); (exact Or.inr (Or.inr ⟨by omega, rfl⟩))
  have ht := htk (D (143 + 50 * use + (k : Int)).toNat)
  refine w_ldI rfl rfl ?_
  refine w_ldR rfl rfl rfl ?_
  first | refine w_getI rfl rfl rfl rfl rfl ?_ | refine w_getR rfl rfl rfl rfl rfl ?_
  first | refine w_getI rfl rfl rfl rfl rfl ?_ | refine w_getR rfl rfl rfl rfl rfl ?_
  refine w_crGe rfl (by omega) (by omega) (fun b8 => ?_) (fun b8 => ?_)
  · first
    | (exfalso; omega)
    | (refine w_ldI rfl rfl ?_
       refine w_irLe0 rfl (by omega) (fun b93 => ?_) (fun b93 => ?_)
       · first
         | (exfalso; omega)
         | (refine w_ldR rfl rfl rfl ?_
            refine w_ldI rfl rfl ?_
            refine w_ldI rfl rfl ?_
            refine w_callV rfl rfl rfl rfl rfl rfl rfl (k_without35 (use := use) ((congrFun (hf.at 35 rfl) 0).trans hL.1) hu) ?_
            refine w_StI_8_6 rfl rfl ?_
            refine w_push rfl ?_
            refine w_push rfl ?_
            refine w_ldI rfl rfl ?_
            refine w_m2 rfl rfl ?_
            refine w_m2 rfl rfl ?_
            refine w_retI rfl ?_
            rw [mm_hld]
            have hp := hgt_pos hC k
            have hk2 : (k : Int) = D (121 + use).toNat := by omega
            have e0 : (D (121 + use).toNat).toNat = k := by omega
            have hfin := hv0 s hf
            unfold gv at hfin
            rw [e0, hev] at hfin
            first
            | (rw [if_pos (by omega), hst.bot (by omega)] at hfin; exact hfin)
            | (rw [if_neg (by omega)] at hfin; exact hfin))
       · first
         | (exfalso; omega)
         | (refine w_ldR rfl rfl rfl ?_
            first | refine w_getI rfl rfl rfl rfl rfl ?_ | refine w_getR rfl rfl rfl rfl rfl ?_
            refine w_push rfl ?_
            refine w_aldk 0 rfl rfl rfl rfl rfl rfl ?_
            refine w_go rfl ?_
            refine w_StI_8_6 rfl rfl ?_
            refine w_push rfl ?_
            refine w_push rfl ?_
            refine w_ldI rfl rfl ?_
            refine w_m2 rfl rfl ?_
            refine w_m2 rfl rfl ?_
            refine w_retI rfl ?_
            rw [mm_hld]
            have hp := hgt_pos hC k
            have hk2 : (k : Int) = D (121 + use).toNat := by omega
            have e0 : (D (121 + use).toNat).toNat = k := by omega
            have hfin := hv0 s hf
            unfold gv at hfin
            rw [e0, hev] at hfin
            first
            | (rw [if_pos (by omega), hst.bot (by omega)] at hfin; exact hfin)
            | (rw [if_neg (by omega)] at hfin; exact hfin)))
  · first
    | (exfalso; omega)
    | (have hc := hc (by omega)
       refine w_ldR rfl rfl rfl ?_
       first | refine w_getI rfl rfl rfl rfl rfl ?_ | refine w_getR rfl rfl rfl rfl rfl ?_
       refine w_ldI rfl rfl ?_
       refine w_callV rfl rfl rfl rfl rfl rfl rfl (k_at36 (by omega) (by omega)) ?_
       rw [show rowAt s 36 (k : Int) = tk (D (143 + 50 * use + (k : Int)).toNat) by unfold rowAt; rw [if_pos (by omega)]; exact (congrFun (hf.at 37 rfl) _).trans (hL.2.2 k (by omega) (by omega) (by omega))]
       refine w_StI_8_7 rfl rfl ?_
       refine w_ldI rfl rfl ?_
       refine w_push rfl ?_
       refine w_crNe rfl (by omega) (by omega) (fun b16 => ?_) (fun b16 => ?_)
       · first
         | (exfalso; omega)
         | (refine w_ldI rfl rfl ?_
            refine w_push rfl ?_
            refine w_crLe rfl (by omega) (by omega) (fun b39 => ?_) (fun b39 => ?_)
            · first
              | (exfalso; omega)
              | (refine w_ldI rfl rfl ?_
                 refine w_push rfl ?_
                 refine w_crGe rfl (by omega) (by omega) (fun b67 => ?_) (fun b67 => ?_)
                 · first
                   | (exfalso; omega)
                   | (refine w_inc_8_6 rfl rfl ?_
                      refine w_go rfl ?_
                      first
                      | (rcases l with _ | ⟨y, r⟩
                         · exfalso; simp at hhl; omega
                         · have e1 : (hh - 1).toNat = r.length := by simp at hhl; omega
                           have hf2 : Fr [38] s0 (us s 38 (hh - 1).toNat 1) := hf.tr (Fr.us rfl)
                           have hw : w32 y = 0 := by have := hst.1; rw [e1, this] at b31; exact b31
                           exact l_lg35 (l := 1 :: r) hv0 (k + 1) ((k : Int) + 1) _ (by omega) (by simp only [List.length_cons]; omega) (by rw [evN, hev]; simp only [evT]; rw [if_neg (by omega), if_pos (by omega), if_pos hw]) (by rw [us_eq, e1]; exact hst.2.push) hu hL hC hD hN hf2 (by omega))
                      | (rcases l with _ | ⟨y, r⟩
                         · exfalso; simp at hhl; omega
                         · have e1 : (hh - 1).toNat = r.length := by simp at hhl; omega
                           have hf2 : Fr [38] s0 (us s 38 (hh - 1).toNat 0) := hf.tr (Fr.us rfl)
                           have hw : ¬ w32 y = 0 := by have := hst.1; rw [e1, this] at b31; exact b31
                           exact l_lg35 (l := 0 :: r) hv0 (k + 1) ((k : Int) + 1) _ (by omega) (by simp only [List.length_cons]; omega) (by rw [evN, hev]; simp only [evT]; rw [if_neg (by omega), if_pos (by omega), if_neg hw]) (by rw [us_eq, e1]; exact hst.2.push) hu hL hC hD hN hf2 (by omega))
                      | (rcases l with _ | ⟨y, r⟩
                         · exfalso; simp at hhl; omega
                         · rcases r with _ | ⟨x, r⟩
                           · exfalso; simp at hhl; omega
                           · have e1 : (hh + -1 - 1).toNat = r.length := by simp at hhl; omega
                             have e2 : (hh + -1).toNat = r.length + 1 := by simp at hhl; omega
                             have g1 : s 38 (hh + -1).toNat = y := by rw [e2]; exact hst.1
                             have g2 : s 38 (hh + -1 - 1).toNat = x := by rw [e1]; exact hst.2.1
                             rw [g1, g2]
                             have hf2 : Fr [38] s0 (us s 38 (hh + -1 - 1).toNat (doneV (tk (D (143 + 50 * use + (k : Int)).toNat) - 10000) x y)) := hf.tr (Fr.us rfl)
                             have ez : tk (D (143 + 50 * use + (k : Int)).toNat) - 10000 = (D (143 + 50 * use + (k : Int)).toNat) - 20000 := by omega
                             exact l_lg35 (l := doneV (tk (D (143 + 50 * use + (k : Int)).toNat) - 10000) x y :: r) hv0 (k + 1) ((k : Int) + 1) _ (by omega) (by simp only [List.length_cons]; omega) (by rw [evN, hev]; simp only [evT]; rw [if_neg (by omega), if_neg (by omega), ez]) (by rw [us_eq, e1]; exact hst.2.2.push) hu hL hC hD hN hf2 (by omega))
                      | (have e1 : hh.toNat = l.length := by omega
                         have hf2 : Fr [38] s0 (us s 38 hh.toNat (tk (D (143 + 50 * use + (k : Int)).toNat))) := hf.tr (Fr.us rfl)
                         have ez : tk (D (143 + 50 * use + (k : Int)).toNat) = (D (143 + 50 * use + (k : Int)).toNat) := by omega
                         exact l_lg35 (l := tk (D (143 + 50 * use + (k : Int)).toNat) :: l) hv0 (k + 1) ((k : Int) + 1) _ (by omega) (by simp only [List.length_cons]; omega) (by rw [evN, hev]; simp only [evT]; rw [if_pos (by omega), if_pos (by omega), ez]) (by rw [us_eq, e1]; exact hst.push) hu hL hC hD hN hf2 (by omega))
                      | (have e1 : hh.toNat = l.length := by omega
                         have hf2 : Fr [38] s0 (us s 38 hh.toNat (n4 a b c e (-1 - tk (D (143 + 50 * use + (k : Int)).toNat)).toNat)) := hf.tr (Fr.us rfl)
                         have ez : -1 - tk (D (143 + 50 * use + (k : Int)).toNat) = (D (143 + 50 * use + (k : Int)).toNat) - 10000 := by omega
                         exact l_lg35 (l := n4 a b c e (-1 - tk (D (143 + 50 * use + (k : Int)).toNat)).toNat :: l) hv0 (k + 1) ((k : Int) + 1) _ (by omega) (by simp only [List.length_cons]; omega) (by rw [evN, hev]; simp only [evT]; rw [if_pos (by omega), if_neg (by omega), ez]) (by rw [us_eq, e1]; exact hst.push) hu hL hC hD hN hf2 (by omega)))
                 · first
                   | (exfalso; omega)
                   | (refine w_ldI rfl rfl ?_
                      refine w_ldR rfl rfl rfl ?_
                      first | refine w_getI rfl rfl rfl rfl rfl ?_ | refine w_getR rfl rfl rfl rfl rfl ?_
                      refine w_alen rfl rfl rfl ?_
                      refine w_crGe rfl (by omega) (by omega) (fun b72 => ?_) (fun b72 => ?_)
                      · first
                        | (exfalso; omega)
                        | (refine w_inc_8_6 rfl rfl ?_
                           refine w_go rfl ?_
                           first
                           | (rcases l with _ | ⟨y, r⟩
                              · exfalso; simp at hhl; omega
                              · have e1 : (hh - 1).toNat = r.length := by simp at hhl; omega
                                have hf2 : Fr [38] s0 (us s 38 (hh - 1).toNat 1) := hf.tr (Fr.us rfl)
                                have hw : w32 y = 0 := by have := hst.1; rw [e1, this] at b31; exact b31
                                exact l_lg35 (l := 1 :: r) hv0 (k + 1) ((k : Int) + 1) _ (by omega) (by simp only [List.length_cons]; omega) (by rw [evN, hev]; simp only [evT]; rw [if_neg (by omega), if_pos (by omega), if_pos hw]) (by rw [us_eq, e1]; exact hst.2.push) hu hL hC hD hN hf2 (by omega))
                           | (rcases l with _ | ⟨y, r⟩
                              · exfalso; simp at hhl; omega
                              · have e1 : (hh - 1).toNat = r.length := by simp at hhl; omega
                                have hf2 : Fr [38] s0 (us s 38 (hh - 1).toNat 0) := hf.tr (Fr.us rfl)
                                have hw : ¬ w32 y = 0 := by have := hst.1; rw [e1, this] at b31; exact b31
                                exact l_lg35 (l := 0 :: r) hv0 (k + 1) ((k : Int) + 1) _ (by omega) (by simp only [List.length_cons]; omega) (by rw [evN, hev]; simp only [evT]; rw [if_neg (by omega), if_pos (by omega), if_neg hw]) (by rw [us_eq, e1]; exact hst.2.push) hu hL hC hD hN hf2 (by omega))
                           | (rcases l with _ | ⟨y, r⟩
                              · exfalso; simp at hhl; omega
                              · rcases r with _ | ⟨x, r⟩
                                · exfalso; simp at hhl; omega
                                · have e1 : (hh + -1 - 1).toNat = r.length := by simp at hhl; omega
                                  have e2 : (hh + -1).toNat = r.length + 1 := by simp at hhl; omega
                                  have g1 : s 38 (hh + -1).toNat = y := by rw [e2]; exact hst.1
                                  have g2 : s 38 (hh + -1 - 1).toNat = x := by rw [e1]; exact hst.2.1
                                  rw [g1, g2]
                                  have hf2 : Fr [38] s0 (us s 38 (hh + -1 - 1).toNat (doneV (tk (D (143 + 50 * use + (k : Int)).toNat) - 10000) x y)) := hf.tr (Fr.us rfl)
                                  have ez : tk (D (143 + 50 * use + (k : Int)).toNat) - 10000 = (D (143 + 50 * use + (k : Int)).toNat) - 20000 := by omega
                                  exact l_lg35 (l := doneV (tk (D (143 + 50 * use + (k : Int)).toNat) - 10000) x y :: r) hv0 (k + 1) ((k : Int) + 1) _ (by omega) (by simp only [List.length_cons]; omega) (by rw [evN, hev]; simp only [evT]; rw [if_neg (by omega), if_neg (by omega), ez]) (by rw [us_eq, e1]; exact hst.2.2.push) hu hL hC hD hN hf2 (by omega))
                           | (have e1 : hh.toNat = l.length := by omega
                              have hf2 : Fr [38] s0 (us s 38 hh.toNat (tk (D (143 + 50 * use + (k : Int)).toNat))) := hf.tr (Fr.us rfl)
                              have ez : tk (D (143 + 50 * use + (k : Int)).toNat) = (D (143 + 50 * use + (k : Int)).toNat) := by omega
                              exact l_lg35 (l := tk (D (143 + 50 * use + (k : Int)).toNat) :: l) hv0 (k + 1) ((k : Int) + 1) _ (by omega) (by simp only [List.length_cons]; omega) (by rw [evN, hev]; simp only [evT]; rw [if_pos (by omega), if_pos (by omega), ez]) (by rw [us_eq, e1]; exact hst.push) hu hL hC hD hN hf2 (by omega))
                           | (have e1 : hh.toNat = l.length := by omega
                              have hf2 : Fr [38] s0 (us s 38 hh.toNat (n4 a b c e (-1 - tk (D (143 + 50 * use + (k : Int)).toNat)).toNat)) := hf.tr (Fr.us rfl)
                              have ez : -1 - tk (D (143 + 50 * use + (k : Int)).toNat) = (D (143 + 50 * use + (k : Int)).toNat) - 10000 := by omega
                              exact l_lg35 (l := n4 a b c e (-1 - tk (D (143 + 50 * use + (k : Int)).toNat)).toNat :: l) hv0 (k + 1) ((k : Int) + 1) _ (by omega) (by simp only [List.length_cons]; omega) (by rw [evN, hev]; simp only [evT]; rw [if_pos (by omega), if_neg (by omega), ez]) (by rw [us_eq, e1]; exact hst.push) hu hL hC hD hN hf2 (by omega)))
                      · first
                        | (exfalso; omega)
                        | (refine w_ldR rfl rfl rfl ?_
                           first | refine w_getI rfl rfl rfl rfl rfl ?_ | refine w_getR rfl rfl rfl rfl rfl ?_
                           refine w_ldI rfl rfl ?_
                           refine w_ldI rfl rfl ?_
                           refine w_irGe0 rfl (by omega) (fun b77 => ?_) (fun b77 => ?_)
                           · first
                             | (exfalso; omega)
                             | (refine w_ldI rfl rfl ?_
                                refine w_ast rfl rfl rfl (by omega) rfl ?_
                                refine w_inc_8_5 rfl rfl ?_
                                refine w_inc_8_6 rfl rfl ?_
                                refine w_go rfl ?_
                                first
                                | (rcases l with _ | ⟨y, r⟩
                                   · exfalso; simp at hhl; omega
                                   · have e1 : (hh - 1).toNat = r.length := by simp at hhl; omega
                                     have hf2 : Fr [38] s0 (us s 38 (hh - 1).toNat 1) := hf.tr (Fr.us rfl)
                                     have hw : w32 y = 0 := by have := hst.1; rw [e1, this] at b31; exact b31
                                     exact l_lg35 (l := 1 :: r) hv0 (k + 1) ((k : Int) + 1) _ (by omega) (by simp only [List.length_cons]; omega) (by rw [evN, hev]; simp only [evT]; rw [if_neg (by omega), if_pos (by omega), if_pos hw]) (by rw [us_eq, e1]; exact hst.2.push) hu hL hC hD hN hf2 (by omega))
                                | (rcases l with _ | ⟨y, r⟩
                                   · exfalso; simp at hhl; omega
                                   · have e1 : (hh - 1).toNat = r.length := by simp at hhl; omega
                                     have hf2 : Fr [38] s0 (us s 38 (hh - 1).toNat 0) := hf.tr (Fr.us rfl)
                                     have hw : ¬ w32 y = 0 := by have := hst.1; rw [e1, this] at b31; exact b31
                                     exact l_lg35 (l := 0 :: r) hv0 (k + 1) ((k : Int) + 1) _ (by omega) (by simp only [List.length_cons]; omega) (by rw [evN, hev]; simp only [evT]; rw [if_neg (by omega), if_pos (by omega), if_neg hw]) (by rw [us_eq, e1]; exact hst.2.push) hu hL hC hD hN hf2 (by omega))
                                | (rcases l with _ | ⟨y, r⟩
                                   · exfalso; simp at hhl; omega
                                   · rcases r with _ | ⟨x, r⟩
                                     · exfalso; simp at hhl; omega
                                     · have e1 : (hh + -1 - 1).toNat = r.length := by simp at hhl; omega
                                       have e2 : (hh + -1).toNat = r.length + 1 := by simp at hhl; omega
                                       have g1 : s 38 (hh + -1).toNat = y := by rw [e2]; exact hst.1
                                       have g2 : s 38 (hh + -1 - 1).toNat = x := by rw [e1]; exact hst.2.1
                                       rw [g1, g2]
                                       have hf2 : Fr [38] s0 (us s 38 (hh + -1 - 1).toNat (doneV (tk (D (143 + 50 * use + (k : Int)).toNat) - 10000) x y)) := hf.tr (Fr.us rfl)
                                       have ez : tk (D (143 + 50 * use + (k : Int)).toNat) - 10000 = (D (143 + 50 * use + (k : Int)).toNat) - 20000 := by omega
                                       exact l_lg35 (l := doneV (tk (D (143 + 50 * use + (k : Int)).toNat) - 10000) x y :: r) hv0 (k + 1) ((k : Int) + 1) _ (by omega) (by simp only [List.length_cons]; omega) (by rw [evN, hev]; simp only [evT]; rw [if_neg (by omega), if_neg (by omega), ez]) (by rw [us_eq, e1]; exact hst.2.2.push) hu hL hC hD hN hf2 (by omega))
                                | (have e1 : hh.toNat = l.length := by omega
                                   have hf2 : Fr [38] s0 (us s 38 hh.toNat (tk (D (143 + 50 * use + (k : Int)).toNat))) := hf.tr (Fr.us rfl)
                                   have ez : tk (D (143 + 50 * use + (k : Int)).toNat) = (D (143 + 50 * use + (k : Int)).toNat) := by omega
                                   exact l_lg35 (l := tk (D (143 + 50 * use + (k : Int)).toNat) :: l) hv0 (k + 1) ((k : Int) + 1) _ (by omega) (by simp only [List.length_cons]; omega) (by rw [evN, hev]; simp only [evT]; rw [if_pos (by omega), if_pos (by omega), ez]) (by rw [us_eq, e1]; exact hst.push) hu hL hC hD hN hf2 (by omega))
                                | (have e1 : hh.toNat = l.length := by omega
                                   have hf2 : Fr [38] s0 (us s 38 hh.toNat (n4 a b c e (-1 - tk (D (143 + 50 * use + (k : Int)).toNat)).toNat)) := hf.tr (Fr.us rfl)
                                   have ez : -1 - tk (D (143 + 50 * use + (k : Int)).toNat) = (D (143 + 50 * use + (k : Int)).toNat) - 10000 := by omega
                                   exact l_lg35 (l := n4 a b c e (-1 - tk (D (143 + 50 * use + (k : Int)).toNat)).toNat :: l) hv0 (k + 1) ((k : Int) + 1) _ (by omega) (by simp only [List.length_cons]; omega) (by rw [evN, hev]; simp only [evT]; rw [if_pos (by omega), if_neg (by omega), ez]) (by rw [us_eq, e1]; exact hst.push) hu hL hC hD hN hf2 (by omega)))
                           · first
                             | (exfalso; omega)
                             | (refine w_push rfl ?_
                                refine w_ldI rfl rfl ?_
                                refine w_sub rfl ?_
                                refine w_ldI rfl rfl ?_
                                refine w_ldI rfl rfl ?_
                                refine w_ldI rfl rfl ?_
                                refine w_ldI rfl rfl ?_
                                refine w_call rfl rfl rfl (k_named (by omega)) ?_
                                refine w_go rfl ?_
                                refine w_ast rfl rfl rfl (by omega) rfl ?_
                                refine w_inc_8_5 rfl rfl ?_
                                refine w_inc_8_6 rfl rfl ?_
                                refine w_go rfl ?_
                                first
                                | (rcases l with _ | ⟨y, r⟩
                                   · exfalso; simp at hhl; omega
                                   · have e1 : (hh - 1).toNat = r.length := by simp at hhl; omega
                                     have hf2 : Fr [38] s0 (us s 38 (hh - 1).toNat 1) := hf.tr (Fr.us rfl)
                                     have hw : w32 y = 0 := by have := hst.1; rw [e1, this] at b31; exact b31
                                     exact l_lg35 (l := 1 :: r) hv0 (k + 1) ((k : Int) + 1) _ (by omega) (by simp only [List.length_cons]; omega) (by rw [evN, hev]; simp only [evT]; rw [if_neg (by omega), if_pos (by omega), if_pos hw]) (by rw [us_eq, e1]; exact hst.2.push) hu hL hC hD hN hf2 (by omega))
                                | (rcases l with _ | ⟨y, r⟩
                                   · exfalso; simp at hhl; omega
                                   · have e1 : (hh - 1).toNat = r.length := by simp at hhl; omega
                                     have hf2 : Fr [38] s0 (us s 38 (hh - 1).toNat 0) := hf.tr (Fr.us rfl)
                                     have hw : ¬ w32 y = 0 := by have := hst.1; rw [e1, this] at b31; exact b31
                                     exact l_lg35 (l := 0 :: r) hv0 (k + 1) ((k : Int) + 1) _ (by omega) (by simp only [List.length_cons]; omega) (by rw [evN, hev]; simp only [evT]; rw [if_neg (by omega), if_pos (by omega), if_neg hw]) (by rw [us_eq, e1]; exact hst.2.push) hu hL hC hD hN hf2 (by omega))
                                | (rcases l with _ | ⟨y, r⟩
                                   · exfalso; simp at hhl; omega
                                   · rcases r with _ | ⟨x, r⟩
                                     · exfalso; simp at hhl; omega
                                     · have e1 : (hh + -1 - 1).toNat = r.length := by simp at hhl; omega
                                       have e2 : (hh + -1).toNat = r.length + 1 := by simp at hhl; omega
                                       have g1 : s 38 (hh + -1).toNat = y := by rw [e2]; exact hst.1
                                       have g2 : s 38 (hh + -1 - 1).toNat = x := by rw [e1]; exact hst.2.1
                                       rw [g1, g2]
                                       have hf2 : Fr [38] s0 (us s 38 (hh + -1 - 1).toNat (doneV (tk (D (143 + 50 * use + (k : Int)).toNat) - 10000) x y)) := hf.tr (Fr.us rfl)
                                       have ez : tk (D (143 + 50 * use + (k : Int)).toNat) - 10000 = (D (143 + 50 * use + (k : Int)).toNat) - 20000 := by omega
                                       exact l_lg35 (l := doneV (tk (D (143 + 50 * use + (k : Int)).toNat) - 10000) x y :: r) hv0 (k + 1) ((k : Int) + 1) _ (by omega) (by simp only [List.length_cons]; omega) (by rw [evN, hev]; simp only [evT]; rw [if_neg (by omega), if_neg (by omega), ez]) (by rw [us_eq, e1]; exact hst.2.2.push) hu hL hC hD hN hf2 (by omega))
                                | (have e1 : hh.toNat = l.length := by omega
                                   have hf2 : Fr [38] s0 (us s 38 hh.toNat (tk (D (143 + 50 * use + (k : Int)).toNat))) := hf.tr (Fr.us rfl)
                                   have ez : tk (D (143 + 50 * use + (k : Int)).toNat) = (D (143 + 50 * use + (k : Int)).toNat) := by omega
                                   exact l_lg35 (l := tk (D (143 + 50 * use + (k : Int)).toNat) :: l) hv0 (k + 1) ((k : Int) + 1) _ (by omega) (by simp only [List.length_cons]; omega) (by rw [evN, hev]; simp only [evT]; rw [if_pos (by omega), if_pos (by omega), ez]) (by rw [us_eq, e1]; exact hst.push) hu hL hC hD hN hf2 (by omega))
                                | (have e1 : hh.toNat = l.length := by omega
                                   have hf2 : Fr [38] s0 (us s 38 hh.toNat (n4 a b c e (-1 - tk (D (143 + 50 * use + (k : Int)).toNat)).toNat)) := hf.tr (Fr.us rfl)
                                   have ez : -1 - tk (D (143 + 50 * use + (k : Int)).toNat) = (D (143 + 50 * use + (k : Int)).toNat) - 10000 := by omega
                                   exact l_lg35 (l := n4 a b c e (-1 - tk (D (143 + 50 * use + (k : Int)).toNat)).toNat :: l) hv0 (k + 1) ((k : Int) + 1) _ (by omega) (by simp only [List.length_cons]; omega) (by rw [evN, hev]; simp only [evT]; rw [if_pos (by omega), if_neg (by omega), ez]) (by rw [us_eq, e1]; exact hst.push) hu hL hC hD hN hf2 (by omega))))))
            · first
              | (exfalso; omega)
              | (refine w_ldI rfl rfl ?_
                 refine w_push rfl ?_
                 refine w_crLt rfl (by omega) (by omega) (fun b42 => ?_) (fun b42 => ?_)
                 · first
                   | (exfalso; omega)
                   | (refine w_ldI rfl rfl ?_
                      refine w_push rfl ?_
                      refine w_crGe rfl (by omega) (by omega) (fun b67 => ?_) (fun b67 => ?_)
                      · first
                        | (exfalso; omega)
                        | (refine w_inc_8_6 rfl rfl ?_
                           refine w_go rfl ?_
                           first
                           | (rcases l with _ | ⟨y, r⟩
                              · exfalso; simp at hhl; omega
                              · have e1 : (hh - 1).toNat = r.length := by simp at hhl; omega
                                have hf2 : Fr [38] s0 (us s 38 (hh - 1).toNat 1) := hf.tr (Fr.us rfl)
                                have hw : w32 y = 0 := by have := hst.1; rw [e1, this] at b31; exact b31
                                exact l_lg35 (l := 1 :: r) hv0 (k + 1) ((k : Int) + 1) _ (by omega) (by simp only [List.length_cons]; omega) (by rw [evN, hev]; simp only [evT]; rw [if_neg (by omega), if_pos (by omega), if_pos hw]) (by rw [us_eq, e1]; exact hst.2.push) hu hL hC hD hN hf2 (by omega))
                           | (rcases l with _ | ⟨y, r⟩
                              · exfalso; simp at hhl; omega
                              · have e1 : (hh - 1).toNat = r.length := by simp at hhl; omega
                                have hf2 : Fr [38] s0 (us s 38 (hh - 1).toNat 0) := hf.tr (Fr.us rfl)
                                have hw : ¬ w32 y = 0 := by have := hst.1; rw [e1, this] at b31; exact b31
                                exact l_lg35 (l := 0 :: r) hv0 (k + 1) ((k : Int) + 1) _ (by omega) (by simp only [List.length_cons]; omega) (by rw [evN, hev]; simp only [evT]; rw [if_neg (by omega), if_pos (by omega), if_neg hw]) (by rw [us_eq, e1]; exact hst.2.push) hu hL hC hD hN hf2 (by omega))
                           | (rcases l with _ | ⟨y, r⟩
                              · exfalso; simp at hhl; omega
                              · rcases r with _ | ⟨x, r⟩
                                · exfalso; simp at hhl; omega
                                · have e1 : (hh + -1 - 1).toNat = r.length := by simp at hhl; omega
                                  have e2 : (hh + -1).toNat = r.length + 1 := by simp at hhl; omega
                                  have g1 : s 38 (hh + -1).toNat = y := by rw [e2]; exact hst.1
                                  have g2 : s 38 (hh + -1 - 1).toNat = x := by rw [e1]; exact hst.2.1
                                  rw [g1, g2]
                                  have hf2 : Fr [38] s0 (us s 38 (hh + -1 - 1).toNat (doneV (tk (D (143 + 50 * use + (k : Int)).toNat) - 10000) x y)) := hf.tr (Fr.us rfl)
                                  have ez : tk (D (143 + 50 * use + (k : Int)).toNat) - 10000 = (D (143 + 50 * use + (k : Int)).toNat) - 20000 := by omega
                                  exact l_lg35 (l := doneV (tk (D (143 + 50 * use + (k : Int)).toNat) - 10000) x y :: r) hv0 (k + 1) ((k : Int) + 1) _ (by omega) (by simp only [List.length_cons]; omega) (by rw [evN, hev]; simp only [evT]; rw [if_neg (by omega), if_neg (by omega), ez]) (by rw [us_eq, e1]; exact hst.2.2.push) hu hL hC hD hN hf2 (by omega))
                           | (have e1 : hh.toNat = l.length := by omega
                              have hf2 : Fr [38] s0 (us s 38 hh.toNat (tk (D (143 + 50 * use + (k : Int)).toNat))) := hf.tr (Fr.us rfl)
                              have ez : tk (D (143 + 50 * use + (k : Int)).toNat) = (D (143 + 50 * use + (k : Int)).toNat) := by omega
                              exact l_lg35 (l := tk (D (143 + 50 * use + (k : Int)).toNat) :: l) hv0 (k + 1) ((k : Int) + 1) _ (by omega) (by simp only [List.length_cons]; omega) (by rw [evN, hev]; simp only [evT]; rw [if_pos (by omega), if_pos (by omega), ez]) (by rw [us_eq, e1]; exact hst.push) hu hL hC hD hN hf2 (by omega))
                           | (have e1 : hh.toNat = l.length := by omega
                              have hf2 : Fr [38] s0 (us s 38 hh.toNat (n4 a b c e (-1 - tk (D (143 + 50 * use + (k : Int)).toNat)).toNat)) := hf.tr (Fr.us rfl)
                              have ez : -1 - tk (D (143 + 50 * use + (k : Int)).toNat) = (D (143 + 50 * use + (k : Int)).toNat) - 10000 := by omega
                              exact l_lg35 (l := n4 a b c e (-1 - tk (D (143 + 50 * use + (k : Int)).toNat)).toNat :: l) hv0 (k + 1) ((k : Int) + 1) _ (by omega) (by simp only [List.length_cons]; omega) (by rw [evN, hev]; simp only [evT]; rw [if_pos (by omega), if_neg (by omega), ez]) (by rw [us_eq, e1]; exact hst.push) hu hL hC hD hN hf2 (by omega)))
                      · first
                        | (exfalso; omega)
                        | (refine w_ldI rfl rfl ?_
                           refine w_ldR rfl rfl rfl ?_
                           first | refine w_getI rfl rfl rfl rfl rfl ?_ | refine w_getR rfl rfl rfl rfl rfl ?_
                           refine w_alen rfl rfl rfl ?_
                           refine w_crGe rfl (by omega) (by omega) (fun b72 => ?_) (fun b72 => ?_)
                           · first
                             | (exfalso; omega)
                             | (refine w_inc_8_6 rfl rfl ?_
                                refine w_go rfl ?_
                                first
                                | (rcases l with _ | ⟨y, r⟩
                                   · exfalso; simp at hhl; omega
                                   · have e1 : (hh - 1).toNat = r.length := by simp at hhl; omega
                                     have hf2 : Fr [38] s0 (us s 38 (hh - 1).toNat 1) := hf.tr (Fr.us rfl)
                                     have hw : w32 y = 0 := by have := hst.1; rw [e1, this] at b31; exact b31
                                     exact l_lg35 (l := 1 :: r) hv0 (k + 1) ((k : Int) + 1) _ (by omega) (by simp only [List.length_cons]; omega) (by rw [evN, hev]; simp only [evT]; rw [if_neg (by omega), if_pos (by omega), if_pos hw]) (by rw [us_eq, e1]; exact hst.2.push) hu hL hC hD hN hf2 (by omega))
                                | (rcases l with _ | ⟨y, r⟩
                                   · exfalso; simp at hhl; omega
                                   · have e1 : (hh - 1).toNat = r.length := by simp at hhl; omega
                                     have hf2 : Fr [38] s0 (us s 38 (hh - 1).toNat 0) := hf.tr (Fr.us rfl)
                                     have hw : ¬ w32 y = 0 := by have := hst.1; rw [e1, this] at b31; exact b31
                                     exact l_lg35 (l := 0 :: r) hv0 (k + 1) ((k : Int) + 1) _ (by omega) (by simp only [List.length_cons]; omega) (by rw [evN, hev]; simp only [evT]; rw [if_neg (by omega), if_pos (by omega), if_neg hw]) (by rw [us_eq, e1]; exact hst.2.push) hu hL hC hD hN hf2 (by omega))
                                | (rcases l with _ | ⟨y, r⟩
                                   · exfalso; simp at hhl; omega
                                   · rcases r with _ | ⟨x, r⟩
                                     · exfalso; simp at hhl; omega
                                     · have e1 : (hh + -1 - 1).toNat = r.length := by simp at hhl; omega
                                       have e2 : (hh + -1).toNat = r.length + 1 := by simp at hhl; omega
                                       have g1 : s 38 (hh + -1).toNat = y := by rw [e2]; exact hst.1
                                       have g2 : s 38 (hh + -1 - 1).toNat = x := by rw [e1]; exact hst.2.1
                                       rw [g1, g2]
                                       have hf2 : Fr [38] s0 (us s 38 (hh + -1 - 1).toNat (doneV (tk (D (143 + 50 * use + (k : Int)).toNat) - 10000) x y)) := hf.tr (Fr.us rfl)
                                       have ez : tk (D (143 + 50 * use + (k : Int)).toNat) - 10000 = (D (143 + 50 * use + (k : Int)).toNat) - 20000 := by omega
                                       exact l_lg35 (l := doneV (tk (D (143 + 50 * use + (k : Int)).toNat) - 10000) x y :: r) hv0 (k + 1) ((k : Int) + 1) _ (by omega) (by simp only [List.length_cons]; omega) (by rw [evN, hev]; simp only [evT]; rw [if_neg (by omega), if_neg (by omega), ez]) (by rw [us_eq, e1]; exact hst.2.2.push) hu hL hC hD hN hf2 (by omega))
                                | (have e1 : hh.toNat = l.length := by omega
                                   have hf2 : Fr [38] s0 (us s 38 hh.toNat (tk (D (143 + 50 * use + (k : Int)).toNat))) := hf.tr (Fr.us rfl)
                                   have ez : tk (D (143 + 50 * use + (k : Int)).toNat) = (D (143 + 50 * use + (k : Int)).toNat) := by omega
                                   exact l_lg35 (l := tk (D (143 + 50 * use + (k : Int)).toNat) :: l) hv0 (k + 1) ((k : Int) + 1) _ (by omega) (by simp only [List.length_cons]; omega) (by rw [evN, hev]; simp only [evT]; rw [if_pos (by omega), if_pos (by omega), ez]) (by rw [us_eq, e1]; exact hst.push) hu hL hC hD hN hf2 (by omega))
                                | (have e1 : hh.toNat = l.length := by omega
                                   have hf2 : Fr [38] s0 (us s 38 hh.toNat (n4 a b c e (-1 - tk (D (143 + 50 * use + (k : Int)).toNat)).toNat)) := hf.tr (Fr.us rfl)
                                   have ez : -1 - tk (D (143 + 50 * use + (k : Int)).toNat) = (D (143 + 50 * use + (k : Int)).toNat) - 10000 := by omega
                                   exact l_lg35 (l := n4 a b c e (-1 - tk (D (143 + 50 * use + (k : Int)).toNat)).toNat :: l) hv0 (k + 1) ((k : Int) + 1) _ (by omega) (by simp only [List.length_cons]; omega) (by rw [evN, hev]; simp only [evT]; rw [if_pos (by omega), if_neg (by omega), ez]) (by rw [us_eq, e1]; exact hst.push) hu hL hC hD hN hf2 (by omega)))
                           · first
                             | (exfalso; omega)
                             | (refine w_ldR rfl rfl rfl ?_
                                first | refine w_getI rfl rfl rfl rfl rfl ?_ | refine w_getR rfl rfl rfl rfl rfl ?_
                                refine w_ldI rfl rfl ?_
                                refine w_ldI rfl rfl ?_
                                refine w_irGe0 rfl (by omega) (fun b77 => ?_) (fun b77 => ?_)
                                · first
                                  | (exfalso; omega)
                                  | (refine w_ldI rfl rfl ?_
                                     refine w_ast rfl rfl rfl (by omega) rfl ?_
                                     refine w_inc_8_5 rfl rfl ?_
                                     refine w_inc_8_6 rfl rfl ?_
                                     refine w_go rfl ?_
                                     first
                                     | (rcases l with _ | ⟨y, r⟩
                                        · exfalso; simp at hhl; omega
                                        · have e1 : (hh - 1).toNat = r.length := by simp at hhl; omega
                                          have hf2 : Fr [38] s0 (us s 38 (hh - 1).toNat 1) := hf.tr (Fr.us rfl)
                                          have hw : w32 y = 0 := by have := hst.1; rw [e1, this] at b31; exact b31
                                          exact l_lg35 (l := 1 :: r) hv0 (k + 1) ((k : Int) + 1) _ (by omega) (by simp only [List.length_cons]; omega) (by rw [evN, hev]; simp only [evT]; rw [if_neg (by omega), if_pos (by omega), if_pos hw]) (by rw [us_eq, e1]; exact hst.2.push) hu hL hC hD hN hf2 (by omega))
                                     | (rcases l with _ | ⟨y, r⟩
                                        · exfalso; simp at hhl; omega
                                        · have e1 : (hh - 1).toNat = r.length := by simp at hhl; omega
                                          have hf2 : Fr [38] s0 (us s 38 (hh - 1).toNat 0) := hf.tr (Fr.us rfl)
                                          have hw : ¬ w32 y = 0 := by have := hst.1; rw [e1, this] at b31; exact b31
                                          exact l_lg35 (l := 0 :: r) hv0 (k + 1) ((k : Int) + 1) _ (by omega) (by simp only [List.length_cons]; omega) (by rw [evN, hev]; simp only [evT]; rw [if_neg (by omega), if_pos (by omega), if_neg hw]) (by rw [us_eq, e1]; exact hst.2.push) hu hL hC hD hN hf2 (by omega))
                                     | (rcases l with _ | ⟨y, r⟩
                                        · exfalso; simp at hhl; omega
                                        · rcases r with _ | ⟨x, r⟩
                                          · exfalso; simp at hhl; omega
                                          · have e1 : (hh + -1 - 1).toNat = r.length := by simp at hhl; omega
                                            have e2 : (hh + -1).toNat = r.length + 1 := by simp at hhl; omega
                                            have g1 : s 38 (hh + -1).toNat = y := by rw [e2]; exact hst.1
                                            have g2 : s 38 (hh + -1 - 1).toNat = x := by rw [e1]; exact hst.2.1
                                            rw [g1, g2]
                                            have hf2 : Fr [38] s0 (us s 38 (hh + -1 - 1).toNat (doneV (tk (D (143 + 50 * use + (k : Int)).toNat) - 10000) x y)) := hf.tr (Fr.us rfl)
                                            have ez : tk (D (143 + 50 * use + (k : Int)).toNat) - 10000 = (D (143 + 50 * use + (k : Int)).toNat) - 20000 := by omega
                                            exact l_lg35 (l := doneV (tk (D (143 + 50 * use + (k : Int)).toNat) - 10000) x y :: r) hv0 (k + 1) ((k : Int) + 1) _ (by omega) (by simp only [List.length_cons]; omega) (by rw [evN, hev]; simp only [evT]; rw [if_neg (by omega), if_neg (by omega), ez]) (by rw [us_eq, e1]; exact hst.2.2.push) hu hL hC hD hN hf2 (by omega))
                                     | (have e1 : hh.toNat = l.length := by omega
                                        have hf2 : Fr [38] s0 (us s 38 hh.toNat (tk (D (143 + 50 * use + (k : Int)).toNat))) := hf.tr (Fr.us rfl)
                                        have ez : tk (D (143 + 50 * use + (k : Int)).toNat) = (D (143 + 50 * use + (k : Int)).toNat) := by omega
                                        exact l_lg35 (l := tk (D (143 + 50 * use + (k : Int)).toNat) :: l) hv0 (k + 1) ((k : Int) + 1) _ (by omega) (by simp only [List.length_cons]; omega) (by rw [evN, hev]; simp only [evT]; rw [if_pos (by omega), if_pos (by omega), ez]) (by rw [us_eq, e1]; exact hst.push) hu hL hC hD hN hf2 (by omega))
                                     | (have e1 : hh.toNat = l.length := by omega
                                        have hf2 : Fr [38] s0 (us s 38 hh.toNat (n4 a b c e (-1 - tk (D (143 + 50 * use + (k : Int)).toNat)).toNat)) := hf.tr (Fr.us rfl)
                                        have ez : -1 - tk (D (143 + 50 * use + (k : Int)).toNat) = (D (143 + 50 * use + (k : Int)).toNat) - 10000 := by omega
                                        exact l_lg35 (l := n4 a b c e (-1 - tk (D (143 + 50 * use + (k : Int)).toNat)).toNat :: l) hv0 (k + 1) ((k : Int) + 1) _ (by omega) (by simp only [List.length_cons]; omega) (by rw [evN, hev]; simp only [evT]; rw [if_pos (by omega), if_neg (by omega), ez]) (by rw [us_eq, e1]; exact hst.push) hu hL hC hD hN hf2 (by omega)))
                                · first
                                  | (exfalso; omega)
                                  | (refine w_push rfl ?_
                                     refine w_ldI rfl rfl ?_
                                     refine w_sub rfl ?_
                                     refine w_ldI rfl rfl ?_
                                     refine w_ldI rfl rfl ?_
                                     refine w_ldI rfl rfl ?_
                                     refine w_ldI rfl rfl ?_
                                     refine w_call rfl rfl rfl (k_named (by omega)) ?_
                                     refine w_go rfl ?_
                                     refine w_ast rfl rfl rfl (by omega) rfl ?_
                                     refine w_inc_8_5 rfl rfl ?_
                                     refine w_inc_8_6 rfl rfl ?_
                                     refine w_go rfl ?_
                                     first
                                     | (rcases l with _ | ⟨y, r⟩
                                        · exfalso; simp at hhl; omega
                                        · have e1 : (hh - 1).toNat = r.length := by simp at hhl; omega
                                          have hf2 : Fr [38] s0 (us s 38 (hh - 1).toNat 1) := hf.tr (Fr.us rfl)
                                          have hw : w32 y = 0 := by have := hst.1; rw [e1, this] at b31; exact b31
                                          exact l_lg35 (l := 1 :: r) hv0 (k + 1) ((k : Int) + 1) _ (by omega) (by simp only [List.length_cons]; omega) (by rw [evN, hev]; simp only [evT]; rw [if_neg (by omega), if_pos (by omega), if_pos hw]) (by rw [us_eq, e1]; exact hst.2.push) hu hL hC hD hN hf2 (by omega))
                                     | (rcases l with _ | ⟨y, r⟩
                                        · exfalso; simp at hhl; omega
                                        · have e1 : (hh - 1).toNat = r.length := by simp at hhl; omega
                                          have hf2 : Fr [38] s0 (us s 38 (hh - 1).toNat 0) := hf.tr (Fr.us rfl)
                                          have hw : ¬ w32 y = 0 := by have := hst.1; rw [e1, this] at b31; exact b31
                                          exact l_lg35 (l := 0 :: r) hv0 (k + 1) ((k : Int) + 1) _ (by omega) (by simp only [List.length_cons]; omega) (by rw [evN, hev]; simp only [evT]; rw [if_neg (by omega), if_pos (by omega), if_neg hw]) (by rw [us_eq, e1]; exact hst.2.push) hu hL hC hD hN hf2 (by omega))
                                     | (rcases l with _ | ⟨y, r⟩
                                        · exfalso; simp at hhl; omega
                                        · rcases r with _ | ⟨x, r⟩
                                          · exfalso; simp at hhl; omega
                                          · have e1 : (hh + -1 - 1).toNat = r.length := by simp at hhl; omega
                                            have e2 : (hh + -1).toNat = r.length + 1 := by simp at hhl; omega
                                            have g1 : s 38 (hh + -1).toNat = y := by rw [e2]; exact hst.1
                                            have g2 : s 38 (hh + -1 - 1).toNat = x := by rw [e1]; exact hst.2.1
                                            rw [g1, g2]
                                            have hf2 : Fr [38] s0 (us s 38 (hh + -1 - 1).toNat (doneV (tk (D (143 + 50 * use + (k : Int)).toNat) - 10000) x y)) := hf.tr (Fr.us rfl)
                                            have ez : tk (D (143 + 50 * use + (k : Int)).toNat) - 10000 = (D (143 + 50 * use + (k : Int)).toNat) - 20000 := by omega
                                            exact l_lg35 (l := doneV (tk (D (143 + 50 * use + (k : Int)).toNat) - 10000) x y :: r) hv0 (k + 1) ((k : Int) + 1) _ (by omega) (by simp only [List.length_cons]; omega) (by rw [evN, hev]; simp only [evT]; rw [if_neg (by omega), if_neg (by omega), ez]) (by rw [us_eq, e1]; exact hst.2.2.push) hu hL hC hD hN hf2 (by omega))
                                     | (have e1 : hh.toNat = l.length := by omega
                                        have hf2 : Fr [38] s0 (us s 38 hh.toNat (tk (D (143 + 50 * use + (k : Int)).toNat))) := hf.tr (Fr.us rfl)
                                        have ez : tk (D (143 + 50 * use + (k : Int)).toNat) = (D (143 + 50 * use + (k : Int)).toNat) := by omega
                                        exact l_lg35 (l := tk (D (143 + 50 * use + (k : Int)).toNat) :: l) hv0 (k + 1) ((k : Int) + 1) _ (by omega) (by simp only [List.length_cons]; omega) (by rw [evN, hev]; simp only [evT]; rw [if_pos (by omega), if_pos (by omega), ez]) (by rw [us_eq, e1]; exact hst.push) hu hL hC hD hN hf2 (by omega))
                                     | (have e1 : hh.toNat = l.length := by omega
                                        have hf2 : Fr [38] s0 (us s 38 hh.toNat (n4 a b c e (-1 - tk (D (143 + 50 * use + (k : Int)).toNat)).toNat)) := hf.tr (Fr.us rfl)
                                        have ez : -1 - tk (D (143 + 50 * use + (k : Int)).toNat) = (D (143 + 50 * use + (k : Int)).toNat) - 10000 := by omega
                                        exact l_lg35 (l := n4 a b c e (-1 - tk (D (143 + 50 * use + (k : Int)).toNat)).toNat :: l) hv0 (k + 1) ((k : Int) + 1) _ (by omega) (by simp only [List.length_cons]; omega) (by rw [evN, hev]; simp only [evT]; rw [if_pos (by omega), if_neg (by omega), ez]) (by rw [us_eq, e1]; exact hst.push) hu hL hC hD hN hf2 (by omega))))))
                 · first
                   | (exfalso; omega)
                   | (refine w_inc_8_5 rfl rfl ?_
                      refine w_ldR rfl rfl rfl ?_
                      first | refine w_getI rfl rfl rfl rfl rfl ?_ | refine w_getR rfl rfl rfl rfl rfl ?_
                      refine w_ldI rfl rfl ?_
                      refine w_push rfl ?_
                      refine w_sub rfl ?_
                      refine w_ldI rfl rfl ?_
                      refine w_push rfl ?_
                      refine w_sub rfl ?_
                      refine w_ldR rfl rfl rfl ?_
                      first | refine w_getI rfl rfl rfl rfl rfl ?_ | refine w_getR rfl rfl rfl rfl rfl ?_
                      refine w_ldI rfl rfl ?_
                      refine w_push rfl ?_
                      refine w_sub rfl ?_
                      refine w_ald rfl rfl rfl (by omega) rfl ?_
                      refine w_ldR rfl rfl rfl ?_
                      first | refine w_getI rfl rfl rfl rfl rfl ?_ | refine w_getR rfl rfl rfl rfl rfl ?_
                      refine w_ldI rfl rfl ?_
                      refine w_ald rfl rfl rfl (by omega) rfl ?_
                      refine w_call rfl rfl rfl (k_joined (by omega)) ?_
                      refine w_ast rfl rfl rfl (by omega) rfl ?_
                      refine w_go rfl ?_
                      refine w_inc_8_6 rfl rfl ?_
                      refine w_go rfl ?_
                      first
                      | (rcases l with _ | ⟨y, r⟩
                         · exfalso; simp at hhl; omega
                         · have e1 : (hh - 1).toNat = r.length := by simp at hhl; omega
                           have hf2 : Fr [38] s0 (us s 38 (hh - 1).toNat 1) := hf.tr (Fr.us rfl)
                           have hw : w32 y = 0 := by have := hst.1; rw [e1, this] at b31; exact b31
                           exact l_lg35 (l := 1 :: r) hv0 (k + 1) ((k : Int) + 1) _ (by omega) (by simp only [List.length_cons]; omega) (by rw [evN, hev]; simp only [evT]; rw [if_neg (by omega), if_pos (by omega), if_pos hw]) (by rw [us_eq, e1]; exact hst.2.push) hu hL hC hD hN hf2 (by omega))
                      | (rcases l with _ | ⟨y, r⟩
                         · exfalso; simp at hhl; omega
                         · have e1 : (hh - 1).toNat = r.length := by simp at hhl; omega
                           have hf2 : Fr [38] s0 (us s 38 (hh - 1).toNat 0) := hf.tr (Fr.us rfl)
                           have hw : ¬ w32 y = 0 := by have := hst.1; rw [e1, this] at b31; exact b31
                           exact l_lg35 (l := 0 :: r) hv0 (k + 1) ((k : Int) + 1) _ (by omega) (by simp only [List.length_cons]; omega) (by rw [evN, hev]; simp only [evT]; rw [if_neg (by omega), if_pos (by omega), if_neg hw]) (by rw [us_eq, e1]; exact hst.2.push) hu hL hC hD hN hf2 (by omega))
                      | (rcases l with _ | ⟨y, r⟩
                         · exfalso; simp at hhl; omega
                         · rcases r with _ | ⟨x, r⟩
                           · exfalso; simp at hhl; omega
                           · have e1 : (hh + -1 - 1).toNat = r.length := by simp at hhl; omega
                             have e2 : (hh + -1).toNat = r.length + 1 := by simp at hhl; omega
                             have g1 : s 38 (hh + -1).toNat = y := by rw [e2]; exact hst.1
                             have g2 : s 38 (hh + -1 - 1).toNat = x := by rw [e1]; exact hst.2.1
                             rw [g1, g2]
                             have hf2 : Fr [38] s0 (us s 38 (hh + -1 - 1).toNat (doneV (tk (D (143 + 50 * use + (k : Int)).toNat) - 10000) x y)) := hf.tr (Fr.us rfl)
                             have ez : tk (D (143 + 50 * use + (k : Int)).toNat) - 10000 = (D (143 + 50 * use + (k : Int)).toNat) - 20000 := by omega
                             exact l_lg35 (l := doneV (tk (D (143 + 50 * use + (k : Int)).toNat) - 10000) x y :: r) hv0 (k + 1) ((k : Int) + 1) _ (by omega) (by simp only [List.length_cons]; omega) (by rw [evN, hev]; simp only [evT]; rw [if_neg (by omega), if_neg (by omega), ez]) (by rw [us_eq, e1]; exact hst.2.2.push) hu hL hC hD hN hf2 (by omega))
                      | (have e1 : hh.toNat = l.length := by omega
                         have hf2 : Fr [38] s0 (us s 38 hh.toNat (tk (D (143 + 50 * use + (k : Int)).toNat))) := hf.tr (Fr.us rfl)
                         have ez : tk (D (143 + 50 * use + (k : Int)).toNat) = (D (143 + 50 * use + (k : Int)).toNat) := by omega
                         exact l_lg35 (l := tk (D (143 + 50 * use + (k : Int)).toNat) :: l) hv0 (k + 1) ((k : Int) + 1) _ (by omega) (by simp only [List.length_cons]; omega) (by rw [evN, hev]; simp only [evT]; rw [if_pos (by omega), if_pos (by omega), ez]) (by rw [us_eq, e1]; exact hst.push) hu hL hC hD hN hf2 (by omega))
                      | (have e1 : hh.toNat = l.length := by omega
                         have hf2 : Fr [38] s0 (us s 38 hh.toNat (n4 a b c e (-1 - tk (D (143 + 50 * use + (k : Int)).toNat)).toNat)) := hf.tr (Fr.us rfl)
                         have ez : -1 - tk (D (143 + 50 * use + (k : Int)).toNat) = (D (143 + 50 * use + (k : Int)).toNat) - 10000 := by omega
                         exact l_lg35 (l := n4 a b c e (-1 - tk (D (143 + 50 * use + (k : Int)).toNat)).toNat :: l) hv0 (k + 1) ((k : Int) + 1) _ (by omega) (by simp only [List.length_cons]; omega) (by rw [evN, hev]; simp only [evT]; rw [if_pos (by omega), if_neg (by omega), ez]) (by rw [us_eq, e1]; exact hst.push) hu hL hC hD hN hf2 (by omega)))))
       · first
         | (exfalso; omega)
         | (refine w_ldI rfl rfl ?_
            refine w_push rfl ?_
            refine w_crLt rfl (by omega) (by omega) (fun b19 => ?_) (fun b19 => ?_)
            · first
              | (exfalso; omega)
              | (refine w_ldI rfl rfl ?_
                 refine w_push rfl ?_
                 refine w_crLe rfl (by omega) (by omega) (fun b39 => ?_) (fun b39 => ?_)
                 · first
                   | (exfalso; omega)
                   | (refine w_ldI rfl rfl ?_
                      refine w_push rfl ?_
                      refine w_crGe rfl (by omega) (by omega) (fun b67 => ?_) (fun b67 => ?_)
                      · first
                        | (exfalso; omega)
                        | (refine w_inc_8_6 rfl rfl ?_
                           refine w_go rfl ?_
                           first
                           | (rcases l with _ | ⟨y, r⟩
                              · exfalso; simp at hhl; omega
                              · have e1 : (hh - 1).toNat = r.length := by simp at hhl; omega
                                have hf2 : Fr [38] s0 (us s 38 (hh - 1).toNat 1) := hf.tr (Fr.us rfl)
                                have hw : w32 y = 0 := by have := hst.1; rw [e1, this] at b31; exact b31
                                exact l_lg35 (l := 1 :: r) hv0 (k + 1) ((k : Int) + 1) _ (by omega) (by simp only [List.length_cons]; omega) (by rw [evN, hev]; simp only [evT]; rw [if_neg (by omega), if_pos (by omega), if_pos hw]) (by rw [us_eq, e1]; exact hst.2.push) hu hL hC hD hN hf2 (by omega))
                           | (rcases l with _ | ⟨y, r⟩
                              · exfalso; simp at hhl; omega
                              · have e1 : (hh - 1).toNat = r.length := by simp at hhl; omega
                                have hf2 : Fr [38] s0 (us s 38 (hh - 1).toNat 0) := hf.tr (Fr.us rfl)
                                have hw : ¬ w32 y = 0 := by have := hst.1; rw [e1, this] at b31; exact b31
                                exact l_lg35 (l := 0 :: r) hv0 (k + 1) ((k : Int) + 1) _ (by omega) (by simp only [List.length_cons]; omega) (by rw [evN, hev]; simp only [evT]; rw [if_neg (by omega), if_pos (by omega), if_neg hw]) (by rw [us_eq, e1]; exact hst.2.push) hu hL hC hD hN hf2 (by omega))
                           | (rcases l with _ | ⟨y, r⟩
                              · exfalso; simp at hhl; omega
                              · rcases r with _ | ⟨x, r⟩
                                · exfalso; simp at hhl; omega
                                · have e1 : (hh + -1 - 1).toNat = r.length := by simp at hhl; omega
                                  have e2 : (hh + -1).toNat = r.length + 1 := by simp at hhl; omega
                                  have g1 : s 38 (hh + -1).toNat = y := by rw [e2]; exact hst.1
                                  have g2 : s 38 (hh + -1 - 1).toNat = x := by rw [e1]; exact hst.2.1
                                  rw [g1, g2]
                                  have hf2 : Fr [38] s0 (us s 38 (hh + -1 - 1).toNat (doneV (tk (D (143 + 50 * use + (k : Int)).toNat) - 10000) x y)) := hf.tr (Fr.us rfl)
                                  have ez : tk (D (143 + 50 * use + (k : Int)).toNat) - 10000 = (D (143 + 50 * use + (k : Int)).toNat) - 20000 := by omega
                                  exact l_lg35 (l := doneV (tk (D (143 + 50 * use + (k : Int)).toNat) - 10000) x y :: r) hv0 (k + 1) ((k : Int) + 1) _ (by omega) (by simp only [List.length_cons]; omega) (by rw [evN, hev]; simp only [evT]; rw [if_neg (by omega), if_neg (by omega), ez]) (by rw [us_eq, e1]; exact hst.2.2.push) hu hL hC hD hN hf2 (by omega))
                           | (have e1 : hh.toNat = l.length := by omega
                              have hf2 : Fr [38] s0 (us s 38 hh.toNat (tk (D (143 + 50 * use + (k : Int)).toNat))) := hf.tr (Fr.us rfl)
                              have ez : tk (D (143 + 50 * use + (k : Int)).toNat) = (D (143 + 50 * use + (k : Int)).toNat) := by omega
                              exact l_lg35 (l := tk (D (143 + 50 * use + (k : Int)).toNat) :: l) hv0 (k + 1) ((k : Int) + 1) _ (by omega) (by simp only [List.length_cons]; omega) (by rw [evN, hev]; simp only [evT]; rw [if_pos (by omega), if_pos (by omega), ez]) (by rw [us_eq, e1]; exact hst.push) hu hL hC hD hN hf2 (by omega))
                           | (have e1 : hh.toNat = l.length := by omega
                              have hf2 : Fr [38] s0 (us s 38 hh.toNat (n4 a b c e (-1 - tk (D (143 + 50 * use + (k : Int)).toNat)).toNat)) := hf.tr (Fr.us rfl)
                              have ez : -1 - tk (D (143 + 50 * use + (k : Int)).toNat) = (D (143 + 50 * use + (k : Int)).toNat) - 10000 := by omega
                              exact l_lg35 (l := n4 a b c e (-1 - tk (D (143 + 50 * use + (k : Int)).toNat)).toNat :: l) hv0 (k + 1) ((k : Int) + 1) _ (by omega) (by simp only [List.length_cons]; omega) (by rw [evN, hev]; simp only [evT]; rw [if_pos (by omega), if_neg (by omega), ez]) (by rw [us_eq, e1]; exact hst.push) hu hL hC hD hN hf2 (by omega)))
                      · first
                        | (exfalso; omega)
                        | (refine w_ldI rfl rfl ?_
                           refine w_ldR rfl rfl rfl ?_
                           first | refine w_getI rfl rfl rfl rfl rfl ?_ | refine w_getR rfl rfl rfl rfl rfl ?_
                           refine w_alen rfl rfl rfl ?_
                           refine w_crGe rfl (by omega) (by omega) (fun b72 => ?_) (fun b72 => ?_)
                           · first
                             | (exfalso; omega)
                             | (refine w_inc_8_6 rfl rfl ?_
                                refine w_go rfl ?_
                                first
                                | (rcases l with _ | ⟨y, r⟩
                                   · exfalso; simp at hhl; omega
                                   · have e1 : (hh - 1).toNat = r.length := by simp at hhl; omega
                                     have hf2 : Fr [38] s0 (us s 38 (hh - 1).toNat 1) := hf.tr (Fr.us rfl)
                                     have hw : w32 y = 0 := by have := hst.1; rw [e1, this] at b31; exact b31
                                     exact l_lg35 (l := 1 :: r) hv0 (k + 1) ((k : Int) + 1) _ (by omega) (by simp only [List.length_cons]; omega) (by rw [evN, hev]; simp only [evT]; rw [if_neg (by omega), if_pos (by omega), if_pos hw]) (by rw [us_eq, e1]; exact hst.2.push) hu hL hC hD hN hf2 (by omega))
                                | (rcases l with _ | ⟨y, r⟩
                                   · exfalso; simp at hhl; omega
                                   · have e1 : (hh - 1).toNat = r.length := by simp at hhl; omega
                                     have hf2 : Fr [38] s0 (us s 38 (hh - 1).toNat 0) := hf.tr (Fr.us rfl)
                                     have hw : ¬ w32 y = 0 := by have := hst.1; rw [e1, this] at b31; exact b31
                                     exact l_lg35 (l := 0 :: r) hv0 (k + 1) ((k : Int) + 1) _ (by omega) (by simp only [List.length_cons]; omega) (by rw [evN, hev]; simp only [evT]; rw [if_neg (by omega), if_pos (by omega), if_neg hw]) (by rw [us_eq, e1]; exact hst.2.push) hu hL hC hD hN hf2 (by omega))
                                | (rcases l with _ | ⟨y, r⟩
                                   · exfalso; simp at hhl; omega
                                   · rcases r with _ | ⟨x, r⟩
                                     · exfalso; simp at hhl; omega
                                     · have e1 : (hh + -1 - 1).toNat = r.length := by simp at hhl; omega
                                       have e2 : (hh + -1).toNat = r.length + 1 := by simp at hhl; omega
                                       have g1 : s 38 (hh + -1).toNat = y := by rw [e2]; exact hst.1
                                       have g2 : s 38 (hh + -1 - 1).toNat = x := by rw [e1]; exact hst.2.1
                                       rw [g1, g2]
                                       have hf2 : Fr [38] s0 (us s 38 (hh + -1 - 1).toNat (doneV (tk (D (143 + 50 * use + (k : Int)).toNat) - 10000) x y)) := hf.tr (Fr.us rfl)
                                       have ez : tk (D (143 + 50 * use + (k : Int)).toNat) - 10000 = (D (143 + 50 * use + (k : Int)).toNat) - 20000 := by omega
                                       exact l_lg35 (l := doneV (tk (D (143 + 50 * use + (k : Int)).toNat) - 10000) x y :: r) hv0 (k + 1) ((k : Int) + 1) _ (by omega) (by simp only [List.length_cons]; omega) (by rw [evN, hev]; simp only [evT]; rw [if_neg (by omega), if_neg (by omega), ez]) (by rw [us_eq, e1]; exact hst.2.2.push) hu hL hC hD hN hf2 (by omega))
                                | (have e1 : hh.toNat = l.length := by omega
                                   have hf2 : Fr [38] s0 (us s 38 hh.toNat (tk (D (143 + 50 * use + (k : Int)).toNat))) := hf.tr (Fr.us rfl)
                                   have ez : tk (D (143 + 50 * use + (k : Int)).toNat) = (D (143 + 50 * use + (k : Int)).toNat) := by omega
                                   exact l_lg35 (l := tk (D (143 + 50 * use + (k : Int)).toNat) :: l) hv0 (k + 1) ((k : Int) + 1) _ (by omega) (by simp only [List.length_cons]; omega) (by rw [evN, hev]; simp only [evT]; rw [if_pos (by omega), if_pos (by omega), ez]) (by rw [us_eq, e1]; exact hst.push) hu hL hC hD hN hf2 (by omega))
                                | (have e1 : hh.toNat = l.length := by omega
                                   have hf2 : Fr [38] s0 (us s 38 hh.toNat (n4 a b c e (-1 - tk (D (143 + 50 * use + (k : Int)).toNat)).toNat)) := hf.tr (Fr.us rfl)
                                   have ez : -1 - tk (D (143 + 50 * use + (k : Int)).toNat) = (D (143 + 50 * use + (k : Int)).toNat) - 10000 := by omega
                                   exact l_lg35 (l := n4 a b c e (-1 - tk (D (143 + 50 * use + (k : Int)).toNat)).toNat :: l) hv0 (k + 1) ((k : Int) + 1) _ (by omega) (by simp only [List.length_cons]; omega) (by rw [evN, hev]; simp only [evT]; rw [if_pos (by omega), if_neg (by omega), ez]) (by rw [us_eq, e1]; exact hst.push) hu hL hC hD hN hf2 (by omega)))
                           · first
                             | (exfalso; omega)
                             | (refine w_ldR rfl rfl rfl ?_
                                first | refine w_getI rfl rfl rfl rfl rfl ?_ | refine w_getR rfl rfl rfl rfl rfl ?_
                                refine w_ldI rfl rfl ?_
                                refine w_ldI rfl rfl ?_
                                refine w_irGe0 rfl (by omega) (fun b77 => ?_) (fun b77 => ?_)
                                · first
                                  | (exfalso; omega)
                                  | (refine w_ldI rfl rfl ?_
                                     refine w_ast rfl rfl rfl (by omega) rfl ?_
                                     refine w_inc_8_5 rfl rfl ?_
                                     refine w_inc_8_6 rfl rfl ?_
                                     refine w_go rfl ?_
                                     first
                                     | (rcases l with _ | ⟨y, r⟩
                                        · exfalso; simp at hhl; omega
                                        · have e1 : (hh - 1).toNat = r.length := by simp at hhl; omega
                                          have hf2 : Fr [38] s0 (us s 38 (hh - 1).toNat 1) := hf.tr (Fr.us rfl)
                                          have hw : w32 y = 0 := by have := hst.1; rw [e1, this] at b31; exact b31
                                          exact l_lg35 (l := 1 :: r) hv0 (k + 1) ((k : Int) + 1) _ (by omega) (by simp only [List.length_cons]; omega) (by rw [evN, hev]; simp only [evT]; rw [if_neg (by omega), if_pos (by omega), if_pos hw]) (by rw [us_eq, e1]; exact hst.2.push) hu hL hC hD hN hf2 (by omega))
                                     | (rcases l with _ | ⟨y, r⟩
                                        · exfalso; simp at hhl; omega
                                        · have e1 : (hh - 1).toNat = r.length := by simp at hhl; omega
                                          have hf2 : Fr [38] s0 (us s 38 (hh - 1).toNat 0) := hf.tr (Fr.us rfl)
                                          have hw : ¬ w32 y = 0 := by have := hst.1; rw [e1, this] at b31; exact b31
                                          exact l_lg35 (l := 0 :: r) hv0 (k + 1) ((k : Int) + 1) _ (by omega) (by simp only [List.length_cons]; omega) (by rw [evN, hev]; simp only [evT]; rw [if_neg (by omega), if_pos (by omega), if_neg hw]) (by rw [us_eq, e1]; exact hst.2.push) hu hL hC hD hN hf2 (by omega))
                                     | (rcases l with _ | ⟨y, r⟩
                                        · exfalso; simp at hhl; omega
                                        · rcases r with _ | ⟨x, r⟩
                                          · exfalso; simp at hhl; omega
                                          · have e1 : (hh + -1 - 1).toNat = r.length := by simp at hhl; omega
                                            have e2 : (hh + -1).toNat = r.length + 1 := by simp at hhl; omega
                                            have g1 : s 38 (hh + -1).toNat = y := by rw [e2]; exact hst.1
                                            have g2 : s 38 (hh + -1 - 1).toNat = x := by rw [e1]; exact hst.2.1
                                            rw [g1, g2]
                                            have hf2 : Fr [38] s0 (us s 38 (hh + -1 - 1).toNat (doneV (tk (D (143 + 50 * use + (k : Int)).toNat) - 10000) x y)) := hf.tr (Fr.us rfl)
                                            have ez : tk (D (143 + 50 * use + (k : Int)).toNat) - 10000 = (D (143 + 50 * use + (k : Int)).toNat) - 20000 := by omega
                                            exact l_lg35 (l := doneV (tk (D (143 + 50 * use + (k : Int)).toNat) - 10000) x y :: r) hv0 (k + 1) ((k : Int) + 1) _ (by omega) (by simp only [List.length_cons]; omega) (by rw [evN, hev]; simp only [evT]; rw [if_neg (by omega), if_neg (by omega), ez]) (by rw [us_eq, e1]; exact hst.2.2.push) hu hL hC hD hN hf2 (by omega))
                                     | (have e1 : hh.toNat = l.length := by omega
                                        have hf2 : Fr [38] s0 (us s 38 hh.toNat (tk (D (143 + 50 * use + (k : Int)).toNat))) := hf.tr (Fr.us rfl)
                                        have ez : tk (D (143 + 50 * use + (k : Int)).toNat) = (D (143 + 50 * use + (k : Int)).toNat) := by omega
                                        exact l_lg35 (l := tk (D (143 + 50 * use + (k : Int)).toNat) :: l) hv0 (k + 1) ((k : Int) + 1) _ (by omega) (by simp only [List.length_cons]; omega) (by rw [evN, hev]; simp only [evT]; rw [if_pos (by omega), if_pos (by omega), ez]) (by rw [us_eq, e1]; exact hst.push) hu hL hC hD hN hf2 (by omega))
                                     | (have e1 : hh.toNat = l.length := by omega
                                        have hf2 : Fr [38] s0 (us s 38 hh.toNat (n4 a b c e (-1 - tk (D (143 + 50 * use + (k : Int)).toNat)).toNat)) := hf.tr (Fr.us rfl)
                                        have ez : -1 - tk (D (143 + 50 * use + (k : Int)).toNat) = (D (143 + 50 * use + (k : Int)).toNat) - 10000 := by omega
                                        exact l_lg35 (l := n4 a b c e (-1 - tk (D (143 + 50 * use + (k : Int)).toNat)).toNat :: l) hv0 (k + 1) ((k : Int) + 1) _ (by omega) (by simp only [List.length_cons]; omega) (by rw [evN, hev]; simp only [evT]; rw [if_pos (by omega), if_neg (by omega), ez]) (by rw [us_eq, e1]; exact hst.push) hu hL hC hD hN hf2 (by omega)))
                                · first
                                  | (exfalso; omega)
                                  | (refine w_push rfl ?_
                                     refine w_ldI rfl rfl ?_
                                     refine w_sub rfl ?_
                                     refine w_ldI rfl rfl ?_
                                     refine w_ldI rfl rfl ?_
                                     refine w_ldI rfl rfl ?_
                                     refine w_ldI rfl rfl ?_
                                     refine w_call rfl rfl rfl (k_named (by omega)) ?_
                                     refine w_go rfl ?_
                                     refine w_ast rfl rfl rfl (by omega) rfl ?_
                                     refine w_inc_8_5 rfl rfl ?_
                                     refine w_inc_8_6 rfl rfl ?_
                                     refine w_go rfl ?_
                                     first
                                     | (rcases l with _ | ⟨y, r⟩
                                        · exfalso; simp at hhl; omega
                                        · have e1 : (hh - 1).toNat = r.length := by simp at hhl; omega
                                          have hf2 : Fr [38] s0 (us s 38 (hh - 1).toNat 1) := hf.tr (Fr.us rfl)
                                          have hw : w32 y = 0 := by have := hst.1; rw [e1, this] at b31; exact b31
                                          exact l_lg35 (l := 1 :: r) hv0 (k + 1) ((k : Int) + 1) _ (by omega) (by simp only [List.length_cons]; omega) (by rw [evN, hev]; simp only [evT]; rw [if_neg (by omega), if_pos (by omega), if_pos hw]) (by rw [us_eq, e1]; exact hst.2.push) hu hL hC hD hN hf2 (by omega))
                                     | (rcases l with _ | ⟨y, r⟩
                                        · exfalso; simp at hhl; omega
                                        · have e1 : (hh - 1).toNat = r.length := by simp at hhl; omega
                                          have hf2 : Fr [38] s0 (us s 38 (hh - 1).toNat 0) := hf.tr (Fr.us rfl)
                                          have hw : ¬ w32 y = 0 := by have := hst.1; rw [e1, this] at b31; exact b31
                                          exact l_lg35 (l := 0 :: r) hv0 (k + 1) ((k : Int) + 1) _ (by omega) (by simp only [List.length_cons]; omega) (by rw [evN, hev]; simp only [evT]; rw [if_neg (by omega), if_pos (by omega), if_neg hw]) (by rw [us_eq, e1]; exact hst.2.push) hu hL hC hD hN hf2 (by omega))
                                     | (rcases l with _ | ⟨y, r⟩
                                        · exfalso; simp at hhl; omega
                                        · rcases r with _ | ⟨x, r⟩
                                          · exfalso; simp at hhl; omega
                                          · have e1 : (hh + -1 - 1).toNat = r.length := by simp at hhl; omega
                                            have e2 : (hh + -1).toNat = r.length + 1 := by simp at hhl; omega
                                            have g1 : s 38 (hh + -1).toNat = y := by rw [e2]; exact hst.1
                                            have g2 : s 38 (hh + -1 - 1).toNat = x := by rw [e1]; exact hst.2.1
                                            rw [g1, g2]
                                            have hf2 : Fr [38] s0 (us s 38 (hh + -1 - 1).toNat (doneV (tk (D (143 + 50 * use + (k : Int)).toNat) - 10000) x y)) := hf.tr (Fr.us rfl)
                                            have ez : tk (D (143 + 50 * use + (k : Int)).toNat) - 10000 = (D (143 + 50 * use + (k : Int)).toNat) - 20000 := by omega
                                            exact l_lg35 (l := doneV (tk (D (143 + 50 * use + (k : Int)).toNat) - 10000) x y :: r) hv0 (k + 1) ((k : Int) + 1) _ (by omega) (by simp only [List.length_cons]; omega) (by rw [evN, hev]; simp only [evT]; rw [if_neg (by omega), if_neg (by omega), ez]) (by rw [us_eq, e1]; exact hst.2.2.push) hu hL hC hD hN hf2 (by omega))
                                     | (have e1 : hh.toNat = l.length := by omega
                                        have hf2 : Fr [38] s0 (us s 38 hh.toNat (tk (D (143 + 50 * use + (k : Int)).toNat))) := hf.tr (Fr.us rfl)
                                        have ez : tk (D (143 + 50 * use + (k : Int)).toNat) = (D (143 + 50 * use + (k : Int)).toNat) := by omega
                                        exact l_lg35 (l := tk (D (143 + 50 * use + (k : Int)).toNat) :: l) hv0 (k + 1) ((k : Int) + 1) _ (by omega) (by simp only [List.length_cons]; omega) (by rw [evN, hev]; simp only [evT]; rw [if_pos (by omega), if_pos (by omega), ez]) (by rw [us_eq, e1]; exact hst.push) hu hL hC hD hN hf2 (by omega))
                                     | (have e1 : hh.toNat = l.length := by omega
                                        have hf2 : Fr [38] s0 (us s 38 hh.toNat (n4 a b c e (-1 - tk (D (143 + 50 * use + (k : Int)).toNat)).toNat)) := hf.tr (Fr.us rfl)
                                        have ez : -1 - tk (D (143 + 50 * use + (k : Int)).toNat) = (D (143 + 50 * use + (k : Int)).toNat) - 10000 := by omega
                                        exact l_lg35 (l := n4 a b c e (-1 - tk (D (143 + 50 * use + (k : Int)).toNat)).toNat :: l) hv0 (k + 1) ((k : Int) + 1) _ (by omega) (by simp only [List.length_cons]; omega) (by rw [evN, hev]; simp only [evT]; rw [if_pos (by omega), if_neg (by omega), ez]) (by rw [us_eq, e1]; exact hst.push) hu hL hC hD hN hf2 (by omega))))))
                 · first
                   | (exfalso; omega)
                   | (refine w_ldI rfl rfl ?_
                      refine w_push rfl ?_
                      refine w_crLt rfl (by omega) (by omega) (fun b42 => ?_) (fun b42 => ?_)
                      · first
                        | (exfalso; omega)
                        | (refine w_ldI rfl rfl ?_
                           refine w_push rfl ?_
                           refine w_crGe rfl (by omega) (by omega) (fun b67 => ?_) (fun b67 => ?_)
                           · first
                             | (exfalso; omega)
                             | (refine w_inc_8_6 rfl rfl ?_
                                refine w_go rfl ?_
                                first
                                | (rcases l with _ | ⟨y, r⟩
                                   · exfalso; simp at hhl; omega
                                   · have e1 : (hh - 1).toNat = r.length := by simp at hhl; omega
                                     have hf2 : Fr [38] s0 (us s 38 (hh - 1).toNat 1) := hf.tr (Fr.us rfl)
                                     have hw : w32 y = 0 := by have := hst.1; rw [e1, this] at b31; exact b31
                                     exact l_lg35 (l := 1 :: r) hv0 (k + 1) ((k : Int) + 1) _ (by omega) (by simp only [List.length_cons]; omega) (by rw [evN, hev]; simp only [evT]; rw [if_neg (by omega), if_pos (by omega), if_pos hw]) (by rw [us_eq, e1]; exact hst.2.push) hu hL hC hD hN hf2 (by omega))
                                | (rcases l with _ | ⟨y, r⟩
                                   · exfalso; simp at hhl; omega
                                   · have e1 : (hh - 1).toNat = r.length := by simp at hhl; omega
                                     have hf2 : Fr [38] s0 (us s 38 (hh - 1).toNat 0) := hf.tr (Fr.us rfl)
                                     have hw : ¬ w32 y = 0 := by have := hst.1; rw [e1, this] at b31; exact b31
                                     exact l_lg35 (l := 0 :: r) hv0 (k + 1) ((k : Int) + 1) _ (by omega) (by simp only [List.length_cons]; omega) (by rw [evN, hev]; simp only [evT]; rw [if_neg (by omega), if_pos (by omega), if_neg hw]) (by rw [us_eq, e1]; exact hst.2.push) hu hL hC hD hN hf2 (by omega))
                                | (rcases l with _ | ⟨y, r⟩
                                   · exfalso; simp at hhl; omega
                                   · rcases r with _ | ⟨x, r⟩
                                     · exfalso; simp at hhl; omega
                                     · have e1 : (hh + -1 - 1).toNat = r.length := by simp at hhl; omega
                                       have e2 : (hh + -1).toNat = r.length + 1 := by simp at hhl; omega
                                       have g1 : s 38 (hh + -1).toNat = y := by rw [e2]; exact hst.1
                                       have g2 : s 38 (hh + -1 - 1).toNat = x := by rw [e1]; exact hst.2.1
                                       rw [g1, g2]
                                       have hf2 : Fr [38] s0 (us s 38 (hh + -1 - 1).toNat (doneV (tk (D (143 + 50 * use + (k : Int)).toNat) - 10000) x y)) := hf.tr (Fr.us rfl)
                                       have ez : tk (D (143 + 50 * use + (k : Int)).toNat) - 10000 = (D (143 + 50 * use + (k : Int)).toNat) - 20000 := by omega
                                       exact l_lg35 (l := doneV (tk (D (143 + 50 * use + (k : Int)).toNat) - 10000) x y :: r) hv0 (k + 1) ((k : Int) + 1) _ (by omega) (by simp only [List.length_cons]; omega) (by rw [evN, hev]; simp only [evT]; rw [if_neg (by omega), if_neg (by omega), ez]) (by rw [us_eq, e1]; exact hst.2.2.push) hu hL hC hD hN hf2 (by omega))
                                | (have e1 : hh.toNat = l.length := by omega
                                   have hf2 : Fr [38] s0 (us s 38 hh.toNat (tk (D (143 + 50 * use + (k : Int)).toNat))) := hf.tr (Fr.us rfl)
                                   have ez : tk (D (143 + 50 * use + (k : Int)).toNat) = (D (143 + 50 * use + (k : Int)).toNat) := by omega
                                   exact l_lg35 (l := tk (D (143 + 50 * use + (k : Int)).toNat) :: l) hv0 (k + 1) ((k : Int) + 1) _ (by omega) (by simp only [List.length_cons]; omega) (by rw [evN, hev]; simp only [evT]; rw [if_pos (by omega), if_pos (by omega), ez]) (by rw [us_eq, e1]; exact hst.push) hu hL hC hD hN hf2 (by omega))
                                | (have e1 : hh.toNat = l.length := by omega
                                   have hf2 : Fr [38] s0 (us s 38 hh.toNat (n4 a b c e (-1 - tk (D (143 + 50 * use + (k : Int)).toNat)).toNat)) := hf.tr (Fr.us rfl)
                                   have ez : -1 - tk (D (143 + 50 * use + (k : Int)).toNat) = (D (143 + 50 * use + (k : Int)).toNat) - 10000 := by omega
                                   exact l_lg35 (l := n4 a b c e (-1 - tk (D (143 + 50 * use + (k : Int)).toNat)).toNat :: l) hv0 (k + 1) ((k : Int) + 1) _ (by omega) (by simp only [List.length_cons]; omega) (by rw [evN, hev]; simp only [evT]; rw [if_pos (by omega), if_neg (by omega), ez]) (by rw [us_eq, e1]; exact hst.push) hu hL hC hD hN hf2 (by omega)))
                           · first
                             | (exfalso; omega)
                             | (refine w_ldI rfl rfl ?_
                                refine w_ldR rfl rfl rfl ?_
                                first | refine w_getI rfl rfl rfl rfl rfl ?_ | refine w_getR rfl rfl rfl rfl rfl ?_
                                refine w_alen rfl rfl rfl ?_
                                refine w_crGe rfl (by omega) (by omega) (fun b72 => ?_) (fun b72 => ?_)
                                · first
                                  | (exfalso; omega)
                                  | (refine w_inc_8_6 rfl rfl ?_
                                     refine w_go rfl ?_
                                     first
                                     | (rcases l with _ | ⟨y, r⟩
                                        · exfalso; simp at hhl; omega
                                        · have e1 : (hh - 1).toNat = r.length := by simp at hhl; omega
                                          have hf2 : Fr [38] s0 (us s 38 (hh - 1).toNat 1) := hf.tr (Fr.us rfl)
                                          have hw : w32 y = 0 := by have := hst.1; rw [e1, this] at b31; exact b31
                                          exact l_lg35 (l := 1 :: r) hv0 (k + 1) ((k : Int) + 1) _ (by omega) (by simp only [List.length_cons]; omega) (by rw [evN, hev]; simp only [evT]; rw [if_neg (by omega), if_pos (by omega), if_pos hw]) (by rw [us_eq, e1]; exact hst.2.push) hu hL hC hD hN hf2 (by omega))
                                     | (rcases l with _ | ⟨y, r⟩
                                        · exfalso; simp at hhl; omega
                                        · have e1 : (hh - 1).toNat = r.length := by simp at hhl; omega
                                          have hf2 : Fr [38] s0 (us s 38 (hh - 1).toNat 0) := hf.tr (Fr.us rfl)
                                          have hw : ¬ w32 y = 0 := by have := hst.1; rw [e1, this] at b31; exact b31
                                          exact l_lg35 (l := 0 :: r) hv0 (k + 1) ((k : Int) + 1) _ (by omega) (by simp only [List.length_cons]; omega) (by rw [evN, hev]; simp only [evT]; rw [if_neg (by omega), if_pos (by omega), if_neg hw]) (by rw [us_eq, e1]; exact hst.2.push) hu hL hC hD hN hf2 (by omega))
                                     | (rcases l with _ | ⟨y, r⟩
                                        · exfalso; simp at hhl; omega
                                        · rcases r with _ | ⟨x, r⟩
                                          · exfalso; simp at hhl; omega
                                          · have e1 : (hh + -1 - 1).toNat = r.length := by simp at hhl; omega
                                            have e2 : (hh + -1).toNat = r.length + 1 := by simp at hhl; omega
                                            have g1 : s 38 (hh + -1).toNat = y := by rw [e2]; exact hst.1
                                            have g2 : s 38 (hh + -1 - 1).toNat = x := by rw [e1]; exact hst.2.1
                                            rw [g1, g2]
                                            have hf2 : Fr [38] s0 (us s 38 (hh + -1 - 1).toNat (doneV (tk (D (143 + 50 * use + (k : Int)).toNat) - 10000) x y)) := hf.tr (Fr.us rfl)
                                            have ez : tk (D (143 + 50 * use + (k : Int)).toNat) - 10000 = (D (143 + 50 * use + (k : Int)).toNat) - 20000 := by omega
                                            exact l_lg35 (l := doneV (tk (D (143 + 50 * use + (k : Int)).toNat) - 10000) x y :: r) hv0 (k + 1) ((k : Int) + 1) _ (by omega) (by simp only [List.length_cons]; omega) (by rw [evN, hev]; simp only [evT]; rw [if_neg (by omega), if_neg (by omega), ez]) (by rw [us_eq, e1]; exact hst.2.2.push) hu hL hC hD hN hf2 (by omega))
                                     | (have e1 : hh.toNat = l.length := by omega
                                        have hf2 : Fr [38] s0 (us s 38 hh.toNat (tk (D (143 + 50 * use + (k : Int)).toNat))) := hf.tr (Fr.us rfl)
                                        have ez : tk (D (143 + 50 * use + (k : Int)).toNat) = (D (143 + 50 * use + (k : Int)).toNat) := by omega
                                        exact l_lg35 (l := tk (D (143 + 50 * use + (k : Int)).toNat) :: l) hv0 (k + 1) ((k : Int) + 1) _ (by omega) (by simp only [List.length_cons]; omega) (by rw [evN, hev]; simp only [evT]; rw [if_pos (by omega), if_pos (by omega), ez]) (by rw [us_eq, e1]; exact hst.push) hu hL hC hD hN hf2 (by omega))
                                     | (have e1 : hh.toNat = l.length := by omega
                                        have hf2 : Fr [38] s0 (us s 38 hh.toNat (n4 a b c e (-1 - tk (D (143 + 50 * use + (k : Int)).toNat)).toNat)) := hf.tr (Fr.us rfl)
                                        have ez : -1 - tk (D (143 + 50 * use + (k : Int)).toNat) = (D (143 + 50 * use + (k : Int)).toNat) - 10000 := by omega
                                        exact l_lg35 (l := n4 a b c e (-1 - tk (D (143 + 50 * use + (k : Int)).toNat)).toNat :: l) hv0 (k + 1) ((k : Int) + 1) _ (by omega) (by simp only [List.length_cons]; omega) (by rw [evN, hev]; simp only [evT]; rw [if_pos (by omega), if_neg (by omega), ez]) (by rw [us_eq, e1]; exact hst.push) hu hL hC hD hN hf2 (by omega)))
                                · first
                                  | (exfalso; omega)
                                  | (refine w_ldR rfl rfl rfl ?_
                                     first | refine w_getI rfl rfl rfl rfl rfl ?_ | refine w_getR rfl rfl rfl rfl rfl ?_
                                     refine w_ldI rfl rfl ?_
                                     refine w_ldI rfl rfl ?_
                                     refine w_irGe0 rfl (by omega) (fun b77 => ?_) (fun b77 => ?_)
                                     · first
                                       | (exfalso; omega)
                                       | (refine w_ldI rfl rfl ?_
                                          refine w_ast rfl rfl rfl (by omega) rfl ?_
                                          refine w_inc_8_5 rfl rfl ?_
                                          refine w_inc_8_6 rfl rfl ?_
                                          refine w_go rfl ?_
                                          first
                                          | (rcases l with _ | ⟨y, r⟩
                                             · exfalso; simp at hhl; omega
                                             · have e1 : (hh - 1).toNat = r.length := by simp at hhl; omega
                                               have hf2 : Fr [38] s0 (us s 38 (hh - 1).toNat 1) := hf.tr (Fr.us rfl)
                                               have hw : w32 y = 0 := by have := hst.1; rw [e1, this] at b31; exact b31
                                               exact l_lg35 (l := 1 :: r) hv0 (k + 1) ((k : Int) + 1) _ (by omega) (by simp only [List.length_cons]; omega) (by rw [evN, hev]; simp only [evT]; rw [if_neg (by omega), if_pos (by omega), if_pos hw]) (by rw [us_eq, e1]; exact hst.2.push) hu hL hC hD hN hf2 (by omega))
                                          | (rcases l with _ | ⟨y, r⟩
                                             · exfalso; simp at hhl; omega
                                             · have e1 : (hh - 1).toNat = r.length := by simp at hhl; omega
                                               have hf2 : Fr [38] s0 (us s 38 (hh - 1).toNat 0) := hf.tr (Fr.us rfl)
                                               have hw : ¬ w32 y = 0 := by have := hst.1; rw [e1, this] at b31; exact b31
                                               exact l_lg35 (l := 0 :: r) hv0 (k + 1) ((k : Int) + 1) _ (by omega) (by simp only [List.length_cons]; omega) (by rw [evN, hev]; simp only [evT]; rw [if_neg (by omega), if_pos (by omega), if_neg hw]) (by rw [us_eq, e1]; exact hst.2.push) hu hL hC hD hN hf2 (by omega))
                                          | (rcases l with _ | ⟨y, r⟩
                                             · exfalso; simp at hhl; omega
                                             · rcases r with _ | ⟨x, r⟩
                                               · exfalso; simp at hhl; omega
                                               · have e1 : (hh + -1 - 1).toNat = r.length := by simp at hhl; omega
                                                 have e2 : (hh + -1).toNat = r.length + 1 := by simp at hhl; omega
                                                 have g1 : s 38 (hh + -1).toNat = y := by rw [e2]; exact hst.1
                                                 have g2 : s 38 (hh + -1 - 1).toNat = x := by rw [e1]; exact hst.2.1
                                                 rw [g1, g2]
                                                 have hf2 : Fr [38] s0 (us s 38 (hh + -1 - 1).toNat (doneV (tk (D (143 + 50 * use + (k : Int)).toNat) - 10000) x y)) := hf.tr (Fr.us rfl)
                                                 have ez : tk (D (143 + 50 * use + (k : Int)).toNat) - 10000 = (D (143 + 50 * use + (k : Int)).toNat) - 20000 := by omega
                                                 exact l_lg35 (l := doneV (tk (D (143 + 50 * use + (k : Int)).toNat) - 10000) x y :: r) hv0 (k + 1) ((k : Int) + 1) _ (by omega) (by simp only [List.length_cons]; omega) (by rw [evN, hev]; simp only [evT]; rw [if_neg (by omega), if_neg (by omega), ez]) (by rw [us_eq, e1]; exact hst.2.2.push) hu hL hC hD hN hf2 (by omega))
                                          | (have e1 : hh.toNat = l.length := by omega
                                             have hf2 : Fr [38] s0 (us s 38 hh.toNat (tk (D (143 + 50 * use + (k : Int)).toNat))) := hf.tr (Fr.us rfl)
                                             have ez : tk (D (143 + 50 * use + (k : Int)).toNat) = (D (143 + 50 * use + (k : Int)).toNat) := by omega
                                             exact l_lg35 (l := tk (D (143 + 50 * use + (k : Int)).toNat) :: l) hv0 (k + 1) ((k : Int) + 1) _ (by omega) (by simp only [List.length_cons]; omega) (by rw [evN, hev]; simp only [evT]; rw [if_pos (by omega), if_pos (by omega), ez]) (by rw [us_eq, e1]; exact hst.push) hu hL hC hD hN hf2 (by omega))
                                          | (have e1 : hh.toNat = l.length := by omega
                                             have hf2 : Fr [38] s0 (us s 38 hh.toNat (n4 a b c e (-1 - tk (D (143 + 50 * use + (k : Int)).toNat)).toNat)) := hf.tr (Fr.us rfl)
                                             have ez : -1 - tk (D (143 + 50 * use + (k : Int)).toNat) = (D (143 + 50 * use + (k : Int)).toNat) - 10000 := by omega
                                             exact l_lg35 (l := n4 a b c e (-1 - tk (D (143 + 50 * use + (k : Int)).toNat)).toNat :: l) hv0 (k + 1) ((k : Int) + 1) _ (by omega) (by simp only [List.length_cons]; omega) (by rw [evN, hev]; simp only [evT]; rw [if_pos (by omega), if_neg (by omega), ez]) (by rw [us_eq, e1]; exact hst.push) hu hL hC hD hN hf2 (by omega)))
                                     · first
                                       | (exfalso; omega)
                                       | (refine w_push rfl ?_
                                          refine w_ldI rfl rfl ?_
                                          refine w_sub rfl ?_
                                          refine w_ldI rfl rfl ?_
                                          refine w_ldI rfl rfl ?_
                                          refine w_ldI rfl rfl ?_
                                          refine w_ldI rfl rfl ?_
                                          refine w_call rfl rfl rfl (k_named (by omega)) ?_
                                          refine w_go rfl ?_
                                          refine w_ast rfl rfl rfl (by omega) rfl ?_
                                          refine w_inc_8_5 rfl rfl ?_
                                          refine w_inc_8_6 rfl rfl ?_
                                          refine w_go rfl ?_
                                          first
                                          | (rcases l with _ | ⟨y, r⟩
                                             · exfalso; simp at hhl; omega
                                             · have e1 : (hh - 1).toNat = r.length := by simp at hhl; omega
                                               have hf2 : Fr [38] s0 (us s 38 (hh - 1).toNat 1) := hf.tr (Fr.us rfl)
                                               have hw : w32 y = 0 := by have := hst.1; rw [e1, this] at b31; exact b31
                                               exact l_lg35 (l := 1 :: r) hv0 (k + 1) ((k : Int) + 1) _ (by omega) (by simp only [List.length_cons]; omega) (by rw [evN, hev]; simp only [evT]; rw [if_neg (by omega), if_pos (by omega), if_pos hw]) (by rw [us_eq, e1]; exact hst.2.push) hu hL hC hD hN hf2 (by omega))
                                          | (rcases l with _ | ⟨y, r⟩
                                             · exfalso; simp at hhl; omega
                                             · have e1 : (hh - 1).toNat = r.length := by simp at hhl; omega
                                               have hf2 : Fr [38] s0 (us s 38 (hh - 1).toNat 0) := hf.tr (Fr.us rfl)
                                               have hw : ¬ w32 y = 0 := by have := hst.1; rw [e1, this] at b31; exact b31
                                               exact l_lg35 (l := 0 :: r) hv0 (k + 1) ((k : Int) + 1) _ (by omega) (by simp only [List.length_cons]; omega) (by rw [evN, hev]; simp only [evT]; rw [if_neg (by omega), if_pos (by omega), if_neg hw]) (by rw [us_eq, e1]; exact hst.2.push) hu hL hC hD hN hf2 (by omega))
                                          | (rcases l with _ | ⟨y, r⟩
                                             · exfalso; simp at hhl; omega
                                             · rcases r with _ | ⟨x, r⟩
                                               · exfalso; simp at hhl; omega
                                               · have e1 : (hh + -1 - 1).toNat = r.length := by simp at hhl; omega
                                                 have e2 : (hh + -1).toNat = r.length + 1 := by simp at hhl; omega
                                                 have g1 : s 38 (hh + -1).toNat = y := by rw [e2]; exact hst.1
                                                 have g2 : s 38 (hh + -1 - 1).toNat = x := by rw [e1]; exact hst.2.1
                                                 rw [g1, g2]
                                                 have hf2 : Fr [38] s0 (us s 38 (hh + -1 - 1).toNat (doneV (tk (D (143 + 50 * use + (k : Int)).toNat) - 10000) x y)) := hf.tr (Fr.us rfl)
                                                 have ez : tk (D (143 + 50 * use + (k : Int)).toNat) - 10000 = (D (143 + 50 * use + (k : Int)).toNat) - 20000 := by omega
                                                 exact l_lg35 (l := doneV (tk (D (143 + 50 * use + (k : Int)).toNat) - 10000) x y :: r) hv0 (k + 1) ((k : Int) + 1) _ (by omega) (by simp only [List.length_cons]; omega) (by rw [evN, hev]; simp only [evT]; rw [if_neg (by omega), if_neg (by omega), ez]) (by rw [us_eq, e1]; exact hst.2.2.push) hu hL hC hD hN hf2 (by omega))
                                          | (have e1 : hh.toNat = l.length := by omega
                                             have hf2 : Fr [38] s0 (us s 38 hh.toNat (tk (D (143 + 50 * use + (k : Int)).toNat))) := hf.tr (Fr.us rfl)
                                             have ez : tk (D (143 + 50 * use + (k : Int)).toNat) = (D (143 + 50 * use + (k : Int)).toNat) := by omega
                                             exact l_lg35 (l := tk (D (143 + 50 * use + (k : Int)).toNat) :: l) hv0 (k + 1) ((k : Int) + 1) _ (by omega) (by simp only [List.length_cons]; omega) (by rw [evN, hev]; simp only [evT]; rw [if_pos (by omega), if_pos (by omega), ez]) (by rw [us_eq, e1]; exact hst.push) hu hL hC hD hN hf2 (by omega))
                                          | (have e1 : hh.toNat = l.length := by omega
                                             have hf2 : Fr [38] s0 (us s 38 hh.toNat (n4 a b c e (-1 - tk (D (143 + 50 * use + (k : Int)).toNat)).toNat)) := hf.tr (Fr.us rfl)
                                             have ez : -1 - tk (D (143 + 50 * use + (k : Int)).toNat) = (D (143 + 50 * use + (k : Int)).toNat) - 10000 := by omega
                                             exact l_lg35 (l := n4 a b c e (-1 - tk (D (143 + 50 * use + (k : Int)).toNat)).toNat :: l) hv0 (k + 1) ((k : Int) + 1) _ (by omega) (by simp only [List.length_cons]; omega) (by rw [evN, hev]; simp only [evT]; rw [if_pos (by omega), if_neg (by omega), ez]) (by rw [us_eq, e1]; exact hst.push) hu hL hC hD hN hf2 (by omega))))))
                      · first
                        | (exfalso; omega)
                        | (refine w_inc_8_5 rfl rfl ?_
                           refine w_ldR rfl rfl rfl ?_
                           first | refine w_getI rfl rfl rfl rfl rfl ?_ | refine w_getR rfl rfl rfl rfl rfl ?_
                           refine w_ldI rfl rfl ?_
                           refine w_push rfl ?_
                           refine w_sub rfl ?_
                           refine w_ldI rfl rfl ?_
                           refine w_push rfl ?_
                           refine w_sub rfl ?_
                           refine w_ldR rfl rfl rfl ?_
                           first | refine w_getI rfl rfl rfl rfl rfl ?_ | refine w_getR rfl rfl rfl rfl rfl ?_
                           refine w_ldI rfl rfl ?_
                           refine w_push rfl ?_
                           refine w_sub rfl ?_
                           refine w_ald rfl rfl rfl (by omega) rfl ?_
                           refine w_ldR rfl rfl rfl ?_
                           first | refine w_getI rfl rfl rfl rfl rfl ?_ | refine w_getR rfl rfl rfl rfl rfl ?_
                           refine w_ldI rfl rfl ?_
                           refine w_ald rfl rfl rfl (by omega) rfl ?_
                           refine w_call rfl rfl rfl (k_joined (by omega)) ?_
                           refine w_ast rfl rfl rfl (by omega) rfl ?_
                           refine w_go rfl ?_
                           refine w_inc_8_6 rfl rfl ?_
                           refine w_go rfl ?_
                           first
                           | (rcases l with _ | ⟨y, r⟩
                              · exfalso; simp at hhl; omega
                              · have e1 : (hh - 1).toNat = r.length := by simp at hhl; omega
                                have hf2 : Fr [38] s0 (us s 38 (hh - 1).toNat 1) := hf.tr (Fr.us rfl)
                                have hw : w32 y = 0 := by have := hst.1; rw [e1, this] at b31; exact b31
                                exact l_lg35 (l := 1 :: r) hv0 (k + 1) ((k : Int) + 1) _ (by omega) (by simp only [List.length_cons]; omega) (by rw [evN, hev]; simp only [evT]; rw [if_neg (by omega), if_pos (by omega), if_pos hw]) (by rw [us_eq, e1]; exact hst.2.push) hu hL hC hD hN hf2 (by omega))
                           | (rcases l with _ | ⟨y, r⟩
                              · exfalso; simp at hhl; omega
                              · have e1 : (hh - 1).toNat = r.length := by simp at hhl; omega
                                have hf2 : Fr [38] s0 (us s 38 (hh - 1).toNat 0) := hf.tr (Fr.us rfl)
                                have hw : ¬ w32 y = 0 := by have := hst.1; rw [e1, this] at b31; exact b31
                                exact l_lg35 (l := 0 :: r) hv0 (k + 1) ((k : Int) + 1) _ (by omega) (by simp only [List.length_cons]; omega) (by rw [evN, hev]; simp only [evT]; rw [if_neg (by omega), if_pos (by omega), if_neg hw]) (by rw [us_eq, e1]; exact hst.2.push) hu hL hC hD hN hf2 (by omega))
                           | (rcases l with _ | ⟨y, r⟩
                              · exfalso; simp at hhl; omega
                              · rcases r with _ | ⟨x, r⟩
                                · exfalso; simp at hhl; omega
                                · have e1 : (hh + -1 - 1).toNat = r.length := by simp at hhl; omega
                                  have e2 : (hh + -1).toNat = r.length + 1 := by simp at hhl; omega
                                  have g1 : s 38 (hh + -1).toNat = y := by rw [e2]; exact hst.1
                                  have g2 : s 38 (hh + -1 - 1).toNat = x := by rw [e1]; exact hst.2.1
                                  rw [g1, g2]
                                  have hf2 : Fr [38] s0 (us s 38 (hh + -1 - 1).toNat (doneV (tk (D (143 + 50 * use + (k : Int)).toNat) - 10000) x y)) := hf.tr (Fr.us rfl)
                                  have ez : tk (D (143 + 50 * use + (k : Int)).toNat) - 10000 = (D (143 + 50 * use + (k : Int)).toNat) - 20000 := by omega
                                  exact l_lg35 (l := doneV (tk (D (143 + 50 * use + (k : Int)).toNat) - 10000) x y :: r) hv0 (k + 1) ((k : Int) + 1) _ (by omega) (by simp only [List.length_cons]; omega) (by rw [evN, hev]; simp only [evT]; rw [if_neg (by omega), if_neg (by omega), ez]) (by rw [us_eq, e1]; exact hst.2.2.push) hu hL hC hD hN hf2 (by omega))
                           | (have e1 : hh.toNat = l.length := by omega
                              have hf2 : Fr [38] s0 (us s 38 hh.toNat (tk (D (143 + 50 * use + (k : Int)).toNat))) := hf.tr (Fr.us rfl)
                              have ez : tk (D (143 + 50 * use + (k : Int)).toNat) = (D (143 + 50 * use + (k : Int)).toNat) := by omega
                              exact l_lg35 (l := tk (D (143 + 50 * use + (k : Int)).toNat) :: l) hv0 (k + 1) ((k : Int) + 1) _ (by omega) (by simp only [List.length_cons]; omega) (by rw [evN, hev]; simp only [evT]; rw [if_pos (by omega), if_pos (by omega), ez]) (by rw [us_eq, e1]; exact hst.push) hu hL hC hD hN hf2 (by omega))
                           | (have e1 : hh.toNat = l.length := by omega
                              have hf2 : Fr [38] s0 (us s 38 hh.toNat (n4 a b c e (-1 - tk (D (143 + 50 * use + (k : Int)).toNat)).toNat)) := hf.tr (Fr.us rfl)
                              have ez : -1 - tk (D (143 + 50 * use + (k : Int)).toNat) = (D (143 + 50 * use + (k : Int)).toNat) - 10000 := by omega
                              exact l_lg35 (l := n4 a b c e (-1 - tk (D (143 + 50 * use + (k : Int)).toNat)).toNat :: l) hv0 (k + 1) ((k : Int) + 1) _ (by omega) (by simp only [List.length_cons]; omega) (by rw [evN, hev]; simp only [evT]; rw [if_pos (by omega), if_neg (by omega), ez]) (by rw [us_eq, e1]; exact hst.push) hu hL hC hD hN hf2 (by omega)))))
            · first
              | (exfalso; omega)
              | (refine w_ldR rfl rfl rfl ?_
                 first | refine w_getI rfl rfl rfl rfl rfl ?_ | refine w_getR rfl rfl rfl rfl rfl ?_
                 refine w_ldI rfl rfl ?_
                 refine w_push rfl ?_
                 refine w_sub rfl ?_
                 refine w_ldR rfl rfl rfl ?_
                 first | refine w_getI rfl rfl rfl rfl rfl ?_ | refine w_getR rfl rfl rfl rfl rfl ?_
                 refine w_ldI rfl rfl ?_
                 refine w_push rfl ?_
                 refine w_sub rfl ?_
                 refine w_ald rfl rfl rfl (by omega) rfl ?_
                 refine w_ifNe0 rfl (fun b31 => ?_) (fun b31 => ?_)
                 · first
                   | (exfalso; omega)
                   | (refine w_push rfl ?_
                      refine w_ast rfl rfl rfl (by omega) rfl ?_
                      refine w_go rfl ?_
                      refine w_inc_8_6 rfl rfl ?_
                      refine w_go rfl ?_
                      first
                      | (rcases l with _ | ⟨y, r⟩
                         · exfalso; simp at hhl; omega
                         · have e1 : (hh - 1).toNat = r.length := by simp at hhl; omega
                           have hf2 : Fr [38] s0 (us s 38 (hh - 1).toNat 1) := hf.tr (Fr.us rfl)
                           have hw : w32 y = 0 := by have := hst.1; rw [e1, this] at b31; exact b31
                           exact l_lg35 (l := 1 :: r) hv0 (k + 1) ((k : Int) + 1) _ (by omega) (by simp only [List.length_cons]; omega) (by rw [evN, hev]; simp only [evT]; rw [if_neg (by omega), if_pos (by omega), if_pos hw]) (by rw [us_eq, e1]; exact hst.2.push) hu hL hC hD hN hf2 (by omega))
                      | (rcases l with _ | ⟨y, r⟩
                         · exfalso; simp at hhl; omega
                         · have e1 : (hh - 1).toNat = r.length := by simp at hhl; omega
                           have hf2 : Fr [38] s0 (us s 38 (hh - 1).toNat 0) := hf.tr (Fr.us rfl)
                           have hw : ¬ w32 y = 0 := by have := hst.1; rw [e1, this] at b31; exact b31
                           exact l_lg35 (l := 0 :: r) hv0 (k + 1) ((k : Int) + 1) _ (by omega) (by simp only [List.length_cons]; omega) (by rw [evN, hev]; simp only [evT]; rw [if_neg (by omega), if_pos (by omega), if_neg hw]) (by rw [us_eq, e1]; exact hst.2.push) hu hL hC hD hN hf2 (by omega))
                      | (rcases l with _ | ⟨y, r⟩
                         · exfalso; simp at hhl; omega
                         · rcases r with _ | ⟨x, r⟩
                           · exfalso; simp at hhl; omega
                           · have e1 : (hh + -1 - 1).toNat = r.length := by simp at hhl; omega
                             have e2 : (hh + -1).toNat = r.length + 1 := by simp at hhl; omega
                             have g1 : s 38 (hh + -1).toNat = y := by rw [e2]; exact hst.1
                             have g2 : s 38 (hh + -1 - 1).toNat = x := by rw [e1]; exact hst.2.1
                             rw [g1, g2]
                             have hf2 : Fr [38] s0 (us s 38 (hh + -1 - 1).toNat (doneV (tk (D (143 + 50 * use + (k : Int)).toNat) - 10000) x y)) := hf.tr (Fr.us rfl)
                             have ez : tk (D (143 + 50 * use + (k : Int)).toNat) - 10000 = (D (143 + 50 * use + (k : Int)).toNat) - 20000 := by omega
                             exact l_lg35 (l := doneV (tk (D (143 + 50 * use + (k : Int)).toNat) - 10000) x y :: r) hv0 (k + 1) ((k : Int) + 1) _ (by omega) (by simp only [List.length_cons]; omega) (by rw [evN, hev]; simp only [evT]; rw [if_neg (by omega), if_neg (by omega), ez]) (by rw [us_eq, e1]; exact hst.2.2.push) hu hL hC hD hN hf2 (by omega))
                      | (have e1 : hh.toNat = l.length := by omega
                         have hf2 : Fr [38] s0 (us s 38 hh.toNat (tk (D (143 + 50 * use + (k : Int)).toNat))) := hf.tr (Fr.us rfl)
                         have ez : tk (D (143 + 50 * use + (k : Int)).toNat) = (D (143 + 50 * use + (k : Int)).toNat) := by omega
                         exact l_lg35 (l := tk (D (143 + 50 * use + (k : Int)).toNat) :: l) hv0 (k + 1) ((k : Int) + 1) _ (by omega) (by simp only [List.length_cons]; omega) (by rw [evN, hev]; simp only [evT]; rw [if_pos (by omega), if_pos (by omega), ez]) (by rw [us_eq, e1]; exact hst.push) hu hL hC hD hN hf2 (by omega))
                      | (have e1 : hh.toNat = l.length := by omega
                         have hf2 : Fr [38] s0 (us s 38 hh.toNat (n4 a b c e (-1 - tk (D (143 + 50 * use + (k : Int)).toNat)).toNat)) := hf.tr (Fr.us rfl)
                         have ez : -1 - tk (D (143 + 50 * use + (k : Int)).toNat) = (D (143 + 50 * use + (k : Int)).toNat) - 10000 := by omega
                         exact l_lg35 (l := n4 a b c e (-1 - tk (D (143 + 50 * use + (k : Int)).toNat)).toNat :: l) hv0 (k + 1) ((k : Int) + 1) _ (by omega) (by simp only [List.length_cons]; omega) (by rw [evN, hev]; simp only [evT]; rw [if_pos (by omega), if_neg (by omega), ez]) (by rw [us_eq, e1]; exact hst.push) hu hL hC hD hN hf2 (by omega)))
                 · first
                   | (exfalso; omega)
                   | (refine w_push rfl ?_
                      refine w_go rfl ?_
                      refine w_ast rfl rfl rfl (by omega) rfl ?_
                      refine w_go rfl ?_
                      refine w_inc_8_6 rfl rfl ?_
                      refine w_go rfl ?_
                      first
                      | (rcases l with _ | ⟨y, r⟩
                         · exfalso; simp at hhl; omega
                         · have e1 : (hh - 1).toNat = r.length := by simp at hhl; omega
                           have hf2 : Fr [38] s0 (us s 38 (hh - 1).toNat 1) := hf.tr (Fr.us rfl)
                           have hw : w32 y = 0 := by have := hst.1; rw [e1, this] at b31; exact b31
                           exact l_lg35 (l := 1 :: r) hv0 (k + 1) ((k : Int) + 1) _ (by omega) (by simp only [List.length_cons]; omega) (by rw [evN, hev]; simp only [evT]; rw [if_neg (by omega), if_pos (by omega), if_pos hw]) (by rw [us_eq, e1]; exact hst.2.push) hu hL hC hD hN hf2 (by omega))
                      | (rcases l with _ | ⟨y, r⟩
                         · exfalso; simp at hhl; omega
                         · have e1 : (hh - 1).toNat = r.length := by simp at hhl; omega
                           have hf2 : Fr [38] s0 (us s 38 (hh - 1).toNat 0) := hf.tr (Fr.us rfl)
                           have hw : ¬ w32 y = 0 := by have := hst.1; rw [e1, this] at b31; exact b31
                           exact l_lg35 (l := 0 :: r) hv0 (k + 1) ((k : Int) + 1) _ (by omega) (by simp only [List.length_cons]; omega) (by rw [evN, hev]; simp only [evT]; rw [if_neg (by omega), if_pos (by omega), if_neg hw]) (by rw [us_eq, e1]; exact hst.2.push) hu hL hC hD hN hf2 (by omega))
                      | (rcases l with _ | ⟨y, r⟩
                         · exfalso; simp at hhl; omega
                         · rcases r with _ | ⟨x, r⟩
                           · exfalso; simp at hhl; omega
                           · have e1 : (hh + -1 - 1).toNat = r.length := by simp at hhl; omega
                             have e2 : (hh + -1).toNat = r.length + 1 := by simp at hhl; omega
                             have g1 : s 38 (hh + -1).toNat = y := by rw [e2]; exact hst.1
                             have g2 : s 38 (hh + -1 - 1).toNat = x := by rw [e1]; exact hst.2.1
                             rw [g1, g2]
                             have hf2 : Fr [38] s0 (us s 38 (hh + -1 - 1).toNat (doneV (tk (D (143 + 50 * use + (k : Int)).toNat) - 10000) x y)) := hf.tr (Fr.us rfl)
                             have ez : tk (D (143 + 50 * use + (k : Int)).toNat) - 10000 = (D (143 + 50 * use + (k : Int)).toNat) - 20000 := by omega
                             exact l_lg35 (l := doneV (tk (D (143 + 50 * use + (k : Int)).toNat) - 10000) x y :: r) hv0 (k + 1) ((k : Int) + 1) _ (by omega) (by simp only [List.length_cons]; omega) (by rw [evN, hev]; simp only [evT]; rw [if_neg (by omega), if_neg (by omega), ez]) (by rw [us_eq, e1]; exact hst.2.2.push) hu hL hC hD hN hf2 (by omega))
                      | (have e1 : hh.toNat = l.length := by omega
                         have hf2 : Fr [38] s0 (us s 38 hh.toNat (tk (D (143 + 50 * use + (k : Int)).toNat))) := hf.tr (Fr.us rfl)
                         have ez : tk (D (143 + 50 * use + (k : Int)).toNat) = (D (143 + 50 * use + (k : Int)).toNat) := by omega
                         exact l_lg35 (l := tk (D (143 + 50 * use + (k : Int)).toNat) :: l) hv0 (k + 1) ((k : Int) + 1) _ (by omega) (by simp only [List.length_cons]; omega) (by rw [evN, hev]; simp only [evT]; rw [if_pos (by omega), if_pos (by omega), ez]) (by rw [us_eq, e1]; exact hst.push) hu hL hC hD hN hf2 (by omega))
                      | (have e1 : hh.toNat = l.length := by omega
                         have hf2 : Fr [38] s0 (us s 38 hh.toNat (n4 a b c e (-1 - tk (D (143 + 50 * use + (k : Int)).toNat)).toNat)) := hf.tr (Fr.us rfl)
                         have ez : -1 - tk (D (143 + 50 * use + (k : Int)).toNat) = (D (143 + 50 * use + (k : Int)).toNat) - 10000 := by omega
                         exact l_lg35 (l := n4 a b c e (-1 - tk (D (143 + 50 * use + (k : Int)).toNat)).toNat :: l) hv0 (k + 1) ((k : Int) + 1) _ (by omega) (by simp only [List.length_cons]; omega) (by rw [evN, hev]; simp only [evT]; rw [if_pos (by omega), if_neg (by omega), ez]) (by rw [us_eq, e1]; exact hst.push) hu hL hC hD hN hf2 (by omega))))))
termination_by (50 - k)
decreasing_by all_goals omega
theorem k_gives35 {d : Nat} {s : mSt} {D : Nat → Int} {use a b c e : Int} (hu : 0 ≤ use ∧ use ≤ 1) (hL : LwR s 35 D use) (hC : COk D) : CI (d + 1) 49 [.inr (.inr 35), .inl a, .inl b, .inl c, .inl e] (s) (fun v s1 => v = gv D use a b c e ∧ Fr [38] s s1) := by
  refine CI.mk rfl ?_
  show WP (d + 1) 49 0 [some (.inr (.inr 35)), some (.inl a), some (.inl b), some (.inl c), some (.inl e), none, none, none] [] (encA (s)) _
  refine w_push rfl ?_
  refine w_StI_8_5 rfl rfl ?_
  refine w_push rfl ?_
  refine w_StI_8_6 rfl rfl ?_
  have hcc := hC.at hu
  exact l_lg35 (l := []) (fun s1 hf => ⟨rfl, hf⟩) 0 0 0 rfl rfl rfl trivial hu hL hcc trivial trivial Fr.rf (by have := hcc.1; omega)
theorem k_without43 {d : Nat} {s : mSt} {a b use : Int} (hu : s 43 0 = use) (hu1 : 0 ≤ use ∧ use ≤ 1) : Call (d + 0) 50 [.inr (.inr 43), .inl a, .inl b] (encA (s)) (some (.inl (if use = 0 then a + b else a))) (encA (s)) := by
  refine CI.ex (CI.mk rfl ?_)
  show WP (d + 0) 50 0 [some (.inr (.inr 43)), some (.inl a), some (.inl b)] [] (encA (s)) _
  refine w_ldR rfl rfl rfl ?_
  first | refine w_getI rfl rfl rfl rfl rfl ?_ | refine w_getR rfl rfl rfl rfl rfl ?_
  refine w_irNe0 rfl (by omega) (fun b2 => ?_) (fun b2 => ?_)
  · first
    | (exfalso; omega)
    | (refine w_ldI rfl rfl ?_
       refine w_retI rfl ?_
       refine ⟨?_, rfl⟩
       first | rw [if_pos (by omega)] | rw [if_neg (by omega)])
  · first
    | (exfalso; omega)
    | (refine w_ldI rfl rfl ?_
       refine w_ldI rfl rfl ?_
       refine w_add rfl ?_
       refine w_go rfl ?_
       refine w_retI rfl ?_
       refine ⟨?_, rfl⟩
       first | rw [if_pos (by omega)] | rw [if_neg (by omega)])
theorem l_lg43 {d : Nat} {s : mSt} {P : Int → mSt → Prop} {D : Nat → Int} {use a b c e : Int} {l : List Int} {x7 : Option mAV} {s0 : mSt} (hv0 : ∀ s1, Fr [46] s0 s1 → P (gv D use a b c e) s1) (k : Nat) (i hh : Int) (hi : i = (k : Int)) (hhl : hh = (l.length : Int)) (hev : evN (n4 a b c e) D (143 + 50 * use) k = l) (hst : Stk l (s 46)) (hu : 0 ≤ use ∧ use ≤ 1) (hL : LwR s0 43 D use) (hC : CodeOk D (143 + 50 * use) (D (121 + use).toNat)) (hD : True) (hN : True) (hf : Fr [46] s0 s) (hk : (k : Int) ≤ D (121 + use).toNat) : WP (d + 1) 49 4 [some (.inr (.inr 43)), some (.inl a), some (.inl b), some (.inl c), some (.inl e), some (.inl hh), some (.inl i), x7] [] (encA (s)) (QI P) := by
  subst hi
  have hlen := evN_len (nm := n4 a b c e) hC k hk
  rw [hev] at hlen
  have hle := hgt_le D (143 + 50 * use) k
  have hcn := hC.1
  have hc := hC.2 k
  have hsz : s 44 1 = D (121 + use).toNat := (congrFun (hf.at 44 rfl) 1).trans hL.2.1
  have htk : ∀ t : Int, (t < 10000 ∧ tk t = t) ∨ (10000 ≤ t ∧ t < 20000 ∧ tk t = 9999 - t) ∨ (20000 ≤ t ∧ tk t = t - 10000) := fun t => by unfold tk; split; (exact Or.inl ⟨by omega, rfl⟩); split; (exact Or.inr (Or.inl ⟨by omega, by omega, rfl⟩)); (exact Or.inr (Or.inr ⟨by omega, rfl⟩))
  have ht := htk (D (143 + 50 * use + (k : Int)).toNat)
  refine w_ldI rfl rfl ?_
  refine w_ldR rfl rfl rfl ?_
  first | refine w_getI rfl rfl rfl rfl rfl ?_ | refine w_getR rfl rfl rfl rfl rfl ?_
  first | refine w_getI rfl rfl rfl rfl rfl ?_ | refine w_getR rfl rfl rfl rfl rfl ?_
  refine w_crGe rfl (by omega) (by omega) (fun b8 => ?_) (fun b8 => ?_)
  · first
    | (exfalso; omega)
    | (refine w_ldI rfl rfl ?_
       refine w_irLe0 rfl (by omega) (fun b93 => ?_) (fun b93 => ?_)
       · first
         | (exfalso; omega)
         | (refine w_ldR rfl rfl rfl ?_
            refine w_ldI rfl rfl ?_
            refine w_ldI rfl rfl ?_
            refine w_callV rfl rfl rfl rfl rfl rfl rfl (k_without43 (use := use) ((congrFun (hf.at 43 rfl) 0).trans hL.1) hu) ?_
            refine w_StI_8_6 rfl rfl ?_
            refine w_push rfl ?_
            refine w_push rfl ?_
            refine w_ldI rfl rfl ?_
            refine w_m2 rfl rfl ?_
            refine w_m2 rfl rfl ?_
            refine w_retI rfl ?_
            rw [mm_hld]
            have hp := hgt_pos hC k
            have hk2 : (k : Int) = D (121 + use).toNat := by omega
            have e0 : (D (121 + use).toNat).toNat = k := by omega
            have hfin := hv0 s hf
            unfold gv at hfin
            rw [e0, hev] at hfin
            first
            | (rw [if_pos (by omega), hst.bot (by omega)] at hfin; exact hfin)
            | (rw [if_neg (by omega)] at hfin; exact hfin))
       · first
         | (exfalso; omega)
         | (refine w_ldR rfl rfl rfl ?_
            first | refine w_getI rfl rfl rfl rfl rfl ?_ | refine w_getR rfl rfl rfl rfl rfl ?_
            refine w_push rfl ?_
            refine w_aldk 0 rfl rfl rfl rfl rfl rfl ?_
            refine w_go rfl ?_
            refine w_StI_8_6 rfl rfl ?_
            refine w_push rfl ?_
            refine w_push rfl ?_
            refine w_ldI rfl rfl ?_
            refine w_m2 rfl rfl ?_
            refine w_m2 rfl rfl ?_
            refine w_retI rfl ?_
            rw [mm_hld]
            have hp := hgt_pos hC k
            have hk2 : (k : Int) = D (121 + use).toNat := by omega
            have e0 : (D (121 + use).toNat).toNat = k := by omega
            have hfin := hv0 s hf
            unfold gv at hfin
            rw [e0, hev] at hfin
            first
            | (rw [if_pos (by omega), hst.bot (by omega)] at hfin; exact hfin)
            | (rw [if_neg (by omega)] at hfin; exact hfin)))
  · first
    | (exfalso; omega)
    | (have hc := hc (by omega)
       refine w_ldR rfl rfl rfl ?_
       first | refine w_getI rfl rfl rfl rfl rfl ?_ | refine w_getR rfl rfl rfl rfl rfl ?_
       refine w_ldI rfl rfl ?_
       refine w_callV rfl rfl rfl rfl rfl rfl rfl (k_at44 (by omega) (by omega)) ?_
       rw [show rowAt s 44 (k : Int) = tk (D (143 + 50 * use + (k : Int)).toNat) by unfold rowAt; rw [if_pos (by omega)]; exact (congrFun (hf.at 45 rfl) _).trans (hL.2.2 k (by omega) (by omega) (by omega))]
       refine w_StI_8_7 rfl rfl ?_
       refine w_ldI rfl rfl ?_
       refine w_push rfl ?_
       refine w_crNe rfl (by omega) (by omega) (fun b16 => ?_) (fun b16 => ?_)
       · first
         | (exfalso; omega)
         | (refine w_ldI rfl rfl ?_
            refine w_push rfl ?_
            refine w_crLe rfl (by omega) (by omega) (fun b39 => ?_) (fun b39 => ?_)
            · first
              | (exfalso; omega)
              | (refine w_ldI rfl rfl ?_
                 refine w_push rfl ?_
                 refine w_crGe rfl (by omega) (by omega) (fun b67 => ?_) (fun b67 => ?_)
                 · first
                   | (exfalso; omega)
                   | (refine w_inc_8_6 rfl rfl ?_
                      refine w_go rfl ?_
                      first
                      | (rcases l with _ | ⟨y, r⟩
                         · exfalso; simp at hhl; omega
                         · have e1 : (hh - 1).toNat = r.length := by simp at hhl; omega
                           have hf2 : Fr [46] s0 (us s 46 (hh - 1).toNat 1) := hf.tr (Fr.us rfl)
                           have hw : w32 y = 0 := by have := hst.1; rw [e1, this] at b31; exact b31
                           exact l_lg43 (l := 1 :: r) hv0 (k + 1) ((k : Int) + 1) _ (by omega) (by simp only [List.length_cons]; omega) (by rw [evN, hev]; simp only [evT]; rw [if_neg (by omega), if_pos (by omega), if_pos hw]) (by rw [us_eq, e1]; exact hst.2.push) hu hL hC hD hN hf2 (by omega))
                      | (rcases l with _ | ⟨y, r⟩
                         · exfalso; simp at hhl; omega
                         · have e1 : (hh - 1).toNat = r.length := by simp at hhl; omega
                           have hf2 : Fr [46] s0 (us s 46 (hh - 1).toNat 0) := hf.tr (Fr.us rfl)
                           have hw : ¬ w32 y = 0 := by have := hst.1; rw [e1, this] at b31; exact b31
                           exact l_lg43 (l := 0 :: r) hv0 (k + 1) ((k : Int) + 1) _ (by omega) (by simp only [List.length_cons]; omega) (by rw [evN, hev]; simp only [evT]; rw [if_neg (by omega), if_pos (by omega), if_neg hw]) (by rw [us_eq, e1]; exact hst.2.push) hu hL hC hD hN hf2 (by omega))
                      | (rcases l with _ | ⟨y, r⟩
                         · exfalso; simp at hhl; omega
                         · rcases r with _ | ⟨x, r⟩
                           · exfalso; simp at hhl; omega
                           · have e1 : (hh + -1 - 1).toNat = r.length := by simp at hhl; omega
                             have e2 : (hh + -1).toNat = r.length + 1 := by simp at hhl; omega
                             have g1 : s 46 (hh + -1).toNat = y := by rw [e2]; exact hst.1
                             have g2 : s 46 (hh + -1 - 1).toNat = x := by rw [e1]; exact hst.2.1
                             rw [g1, g2]
                             have hf2 : Fr [46] s0 (us s 46 (hh + -1 - 1).toNat (doneV (tk (D (143 + 50 * use + (k : Int)).toNat) - 10000) x y)) := hf.tr (Fr.us rfl)
                             have ez : tk (D (143 + 50 * use + (k : Int)).toNat) - 10000 = (D (143 + 50 * use + (k : Int)).toNat) - 20000 := by omega
                             exact l_lg43 (l := doneV (tk (D (143 + 50 * use + (k : Int)).toNat) - 10000) x y :: r) hv0 (k + 1) ((k : Int) + 1) _ (by omega) (by simp only [List.length_cons]; omega) (by rw [evN, hev]; simp only [evT]; rw [if_neg (by omega), if_neg (by omega), ez]) (by rw [us_eq, e1]; exact hst.2.2.push) hu hL hC hD hN hf2 (by omega))
                      | (have e1 : hh.toNat = l.length := by omega
                         have hf2 : Fr [46] s0 (us s 46 hh.toNat (tk (D (143 + 50 * use + (k : Int)).toNat))) := hf.tr (Fr.us rfl)
                         have ez : tk (D (143 + 50 * use + (k : Int)).toNat) = (D (143 + 50 * use + (k : Int)).toNat) := by omega
                         exact l_lg43 (l := tk (D (143 + 50 * use + (k : Int)).toNat) :: l) hv0 (k + 1) ((k : Int) + 1) _ (by omega) (by simp only [List.length_cons]; omega) (by rw [evN, hev]; simp only [evT]; rw [if_pos (by omega), if_pos (by omega), ez]) (by rw [us_eq, e1]; exact hst.push) hu hL hC hD hN hf2 (by omega))
                      | (have e1 : hh.toNat = l.length := by omega
                         have hf2 : Fr [46] s0 (us s 46 hh.toNat (n4 a b c e (-1 - tk (D (143 + 50 * use + (k : Int)).toNat)).toNat)) := hf.tr (Fr.us rfl)
                         have ez : -1 - tk (D (143 + 50 * use + (k : Int)).toNat) = (D (143 + 50 * use + (k : Int)).toNat) - 10000 := by omega
                         exact l_lg43 (l := n4 a b c e (-1 - tk (D (143 + 50 * use + (k : Int)).toNat)).toNat :: l) hv0 (k + 1) ((k : Int) + 1) _ (by omega) (by simp only [List.length_cons]; omega) (by rw [evN, hev]; simp only [evT]; rw [if_pos (by omega), if_neg (by omega), ez]) (by rw [us_eq, e1]; exact hst.push) hu hL hC hD hN hf2 (by omega)))
                 · first
                   | (exfalso; omega)
                   | (refine w_ldI rfl rfl ?_
                      refine w_ldR rfl rfl rfl ?_
                      first | refine w_getI rfl rfl rfl rfl rfl ?_ | refine w_getR rfl rfl rfl rfl rfl ?_
                      refine w_alen rfl rfl rfl ?_
                      refine w_crGe rfl (by omega) (by omega) (fun b72 => ?_) (fun b72 => ?_)
                      · first
                        | (exfalso; omega)
                        | (refine w_inc_8_6 rfl rfl ?_
                           refine w_go rfl ?_
                           first
                           | (rcases l with _ | ⟨y, r⟩
                              · exfalso; simp at hhl; omega
                              · have e1 : (hh - 1).toNat = r.length := by simp at hhl; omega
                                have hf2 : Fr [46] s0 (us s 46 (hh - 1).toNat 1) := hf.tr (Fr.us rfl)
                                have hw : w32 y = 0 := by have := hst.1; rw [e1, this] at b31; exact b31
                                exact l_lg43 (l := 1 :: r) hv0 (k + 1) ((k : Int) + 1) _ (by omega) (by simp only [List.length_cons]; omega) (by rw [evN, hev]; simp only [evT]; rw [if_neg (by omega), if_pos (by omega), if_pos hw]) (by rw [us_eq, e1]; exact hst.2.push) hu hL hC hD hN hf2 (by omega))
                           | (rcases l with _ | ⟨y, r⟩
                              · exfalso; simp at hhl; omega
                              · have e1 : (hh - 1).toNat = r.length := by simp at hhl; omega
                                have hf2 : Fr [46] s0 (us s 46 (hh - 1).toNat 0) := hf.tr (Fr.us rfl)
                                have hw : ¬ w32 y = 0 := by have := hst.1; rw [e1, this] at b31; exact b31
                                exact l_lg43 (l := 0 :: r) hv0 (k + 1) ((k : Int) + 1) _ (by omega) (by simp only [List.length_cons]; omega) (by rw [evN, hev]; simp only [evT]; rw [if_neg (by omega), if_pos (by omega), if_neg hw]) (by rw [us_eq, e1]; exact hst.2.push) hu hL hC hD hN hf2 (by omega))
                           | (rcases l with _ | ⟨y, r⟩
                              · exfalso; simp at hhl; omega
                              · rcases r with _ | ⟨x, r⟩
                                · exfalso; simp at hhl; omega
                                · have e1 : (hh + -1 - 1).toNat = r.length := by simp at hhl; omega
                                  have e2 : (hh + -1).toNat = r.length + 1 := by simp at hhl; omega
                                  have g1 : s 46 (hh + -1).toNat = y := by rw [e2]; exact hst.1
                                  have g2 : s 46 (hh + -1 - 1).toNat = x := by rw [e1]; exact hst.2.1
                                  rw [g1, g2]
                                  have hf2 : Fr [46] s0 (us s 46 (hh + -1 - 1).toNat (doneV (tk (D (143 + 50 * use + (k : Int)).toNat) - 10000) x y)) := hf.tr (Fr.us rfl)
                                  have ez : tk (D (143 + 50 * use + (k : Int)).toNat) - 10000 = (D (143 + 50 * use + (k : Int)).toNat) - 20000 := by omega
                                  exact l_lg43 (l := doneV (tk (D (143 + 50 * use + (k : Int)).toNat) - 10000) x y :: r) hv0 (k + 1) ((k : Int) + 1) _ (by omega) (by simp only [List.length_cons]; omega) (by rw [evN, hev]; simp only [evT]; rw [if_neg (by omega), if_neg (by omega), ez]) (by rw [us_eq, e1]; exact hst.2.2.push) hu hL hC hD hN hf2 (by omega))
                           | (have e1 : hh.toNat = l.length := by omega
                              have hf2 : Fr [46] s0 (us s 46 hh.toNat (tk (D (143 + 50 * use + (k : Int)).toNat))) := hf.tr (Fr.us rfl)
                              have ez : tk (D (143 + 50 * use + (k : Int)).toNat) = (D (143 + 50 * use + (k : Int)).toNat) := by omega
                              exact l_lg43 (l := tk (D (143 + 50 * use + (k : Int)).toNat) :: l) hv0 (k + 1) ((k : Int) + 1) _ (by omega) (by simp only [List.length_cons]; omega) (by rw [evN, hev]; simp only [evT]; rw [if_pos (by omega), if_pos (by omega), ez]) (by rw [us_eq, e1]; exact hst.push) hu hL hC hD hN hf2 (by omega))
                           | (have e1 : hh.toNat = l.length := by omega
                              have hf2 : Fr [46] s0 (us s 46 hh.toNat (n4 a b c e (-1 - tk (D (143 + 50 * use + (k : Int)).toNat)).toNat)) := hf.tr (Fr.us rfl)
                              have ez : -1 - tk (D (143 + 50 * use + (k : Int)).toNat) = (D (143 + 50 * use + (k : Int)).toNat) - 10000 := by omega
                              exact l_lg43 (l := n4 a b c e (-1 - tk (D (143 + 50 * use + (k : Int)).toNat)).toNat :: l) hv0 (k + 1) ((k : Int) + 1) _ (by omega) (by simp only [List.length_cons]; omega) (by rw [evN, hev]; simp only [evT]; rw [if_pos (by omega), if_neg (by omega), ez]) (by rw [us_eq, e1]; exact hst.push) hu hL hC hD hN hf2 (by omega)))
                      · first
                        | (exfalso; omega)
                        | (refine w_ldR rfl rfl rfl ?_
                           first | refine w_getI rfl rfl rfl rfl rfl ?_ | refine w_getR rfl rfl rfl rfl rfl ?_
                           refine w_ldI rfl rfl ?_
                           refine w_ldI rfl rfl ?_
                           refine w_irGe0 rfl (by omega) (fun b77 => ?_) (fun b77 => ?_)
                           · first
                             | (exfalso; omega)
                             | (refine w_ldI rfl rfl ?_
                                refine w_ast rfl rfl rfl (by omega) rfl ?_
                                refine w_inc_8_5 rfl rfl ?_
                                refine w_inc_8_6 rfl rfl ?_
                                refine w_go rfl ?_
                                first
                                | (rcases l with _ | ⟨y, r⟩
                                   · exfalso; simp at hhl; omega
                                   · have e1 : (hh - 1).toNat = r.length := by simp at hhl; omega
                                     have hf2 : Fr [46] s0 (us s 46 (hh - 1).toNat 1) := hf.tr (Fr.us rfl)
                                     have hw : w32 y = 0 := by have := hst.1; rw [e1, this] at b31; exact b31
                                     exact l_lg43 (l := 1 :: r) hv0 (k + 1) ((k : Int) + 1) _ (by omega) (by simp only [List.length_cons]; omega) (by rw [evN, hev]; simp only [evT]; rw [if_neg (by omega), if_pos (by omega), if_pos hw]) (by rw [us_eq, e1]; exact hst.2.push) hu hL hC hD hN hf2 (by omega))
                                | (rcases l with _ | ⟨y, r⟩
                                   · exfalso; simp at hhl; omega
                                   · have e1 : (hh - 1).toNat = r.length := by simp at hhl; omega
                                     have hf2 : Fr [46] s0 (us s 46 (hh - 1).toNat 0) := hf.tr (Fr.us rfl)
                                     have hw : ¬ w32 y = 0 := by have := hst.1; rw [e1, this] at b31; exact b31
                                     exact l_lg43 (l := 0 :: r) hv0 (k + 1) ((k : Int) + 1) _ (by omega) (by simp only [List.length_cons]; omega) (by rw [evN, hev]; simp only [evT]; rw [if_neg (by omega), if_pos (by omega), if_neg hw]) (by rw [us_eq, e1]; exact hst.2.push) hu hL hC hD hN hf2 (by omega))
                                | (rcases l with _ | ⟨y, r⟩
                                   · exfalso; simp at hhl; omega
                                   · rcases r with _ | ⟨x, r⟩
                                     · exfalso; simp at hhl; omega
                                     · have e1 : (hh + -1 - 1).toNat = r.length := by simp at hhl; omega
                                       have e2 : (hh + -1).toNat = r.length + 1 := by simp at hhl; omega
                                       have g1 : s 46 (hh + -1).toNat = y := by rw [e2]; exact hst.1
                                       have g2 : s 46 (hh + -1 - 1).toNat = x := by rw [e1]; exact hst.2.1
                                       rw [g1, g2]
                                       have hf2 : Fr [46] s0 (us s 46 (hh + -1 - 1).toNat (doneV (tk (D (143 + 50 * use + (k : Int)).toNat) - 10000) x y)) := hf.tr (Fr.us rfl)
                                       have ez : tk (D (143 + 50 * use + (k : Int)).toNat) - 10000 = (D (143 + 50 * use + (k : Int)).toNat) - 20000 := by omega
                                       exact l_lg43 (l := doneV (tk (D (143 + 50 * use + (k : Int)).toNat) - 10000) x y :: r) hv0 (k + 1) ((k : Int) + 1) _ (by omega) (by simp only [List.length_cons]; omega) (by rw [evN, hev]; simp only [evT]; rw [if_neg (by omega), if_neg (by omega), ez]) (by rw [us_eq, e1]; exact hst.2.2.push) hu hL hC hD hN hf2 (by omega))
                                | (have e1 : hh.toNat = l.length := by omega
                                   have hf2 : Fr [46] s0 (us s 46 hh.toNat (tk (D (143 + 50 * use + (k : Int)).toNat))) := hf.tr (Fr.us rfl)
                                   have ez : tk (D (143 + 50 * use + (k : Int)).toNat) = (D (143 + 50 * use + (k : Int)).toNat) := by omega
                                   exact l_lg43 (l := tk (D (143 + 50 * use + (k : Int)).toNat) :: l) hv0 (k + 1) ((k : Int) + 1) _ (by omega) (by simp only [List.length_cons]; omega) (by rw [evN, hev]; simp only [evT]; rw [if_pos (by omega), if_pos (by omega), ez]) (by rw [us_eq, e1]; exact hst.push) hu hL hC hD hN hf2 (by omega))
                                | (have e1 : hh.toNat = l.length := by omega
                                   have hf2 : Fr [46] s0 (us s 46 hh.toNat (n4 a b c e (-1 - tk (D (143 + 50 * use + (k : Int)).toNat)).toNat)) := hf.tr (Fr.us rfl)
                                   have ez : -1 - tk (D (143 + 50 * use + (k : Int)).toNat) = (D (143 + 50 * use + (k : Int)).toNat) - 10000 := by omega
                                   exact l_lg43 (l := n4 a b c e (-1 - tk (D (143 + 50 * use + (k : Int)).toNat)).toNat :: l) hv0 (k + 1) ((k : Int) + 1) _ (by omega) (by simp only [List.length_cons]; omega) (by rw [evN, hev]; simp only [evT]; rw [if_pos (by omega), if_neg (by omega), ez]) (by rw [us_eq, e1]; exact hst.push) hu hL hC hD hN hf2 (by omega)))
                           · first
                             | (exfalso; omega)
                             | (refine w_push rfl ?_
                                refine w_ldI rfl rfl ?_
                                refine w_sub rfl ?_
                                refine w_ldI rfl rfl ?_
                                refine w_ldI rfl rfl ?_
                                refine w_ldI rfl rfl ?_
                                refine w_ldI rfl rfl ?_
                                refine w_call rfl rfl rfl (k_named (by omega)) ?_
                                refine w_go rfl ?_
                                refine w_ast rfl rfl rfl (by omega) rfl ?_
                                refine w_inc_8_5 rfl rfl ?_
                                refine w_inc_8_6 rfl rfl ?_
                                refine w_go rfl ?_
                                first
                                | (rcases l with _ | ⟨y, r⟩
                                   · exfalso; simp at hhl; omega
                                   · have e1 : (hh - 1).toNat = r.length := by simp at hhl; omega
                                     have hf2 : Fr [46] s0 (us s 46 (hh - 1).toNat 1) := hf.tr (Fr.us rfl)
                                     have hw : w32 y = 0 := by have := hst.1; rw [e1, this] at b31; exact b31
                                     exact l_lg43 (l := 1 :: r) hv0 (k + 1) ((k : Int) + 1) _ (by omega) (by simp only [List.length_cons]; omega) (by rw [evN, hev]; simp only [evT]; rw [if_neg (by omega), if_pos (by omega), if_pos hw]) (by rw [us_eq, e1]; exact hst.2.push) hu hL hC hD hN hf2 (by omega))
                                | (rcases l with _ | ⟨y, r⟩
                                   · exfalso; simp at hhl; omega
                                   · have e1 : (hh - 1).toNat = r.length := by simp at hhl; omega
                                     have hf2 : Fr [46] s0 (us s 46 (hh - 1).toNat 0) := hf.tr (Fr.us rfl)
                                     have hw : ¬ w32 y = 0 := by have := hst.1; rw [e1, this] at b31; exact b31
                                     exact l_lg43 (l := 0 :: r) hv0 (k + 1) ((k : Int) + 1) _ (by omega) (by simp only [List.length_cons]; omega) (by rw [evN, hev]; simp only [evT]; rw [if_neg (by omega), if_pos (by omega), if_neg hw]) (by rw [us_eq, e1]; exact hst.2.push) hu hL hC hD hN hf2 (by omega))
                                | (rcases l with _ | ⟨y, r⟩
                                   · exfalso; simp at hhl; omega
                                   · rcases r with _ | ⟨x, r⟩
                                     · exfalso; simp at hhl; omega
                                     · have e1 : (hh + -1 - 1).toNat = r.length := by simp at hhl; omega
                                       have e2 : (hh + -1).toNat = r.length + 1 := by simp at hhl; omega
                                       have g1 : s 46 (hh + -1).toNat = y := by rw [e2]; exact hst.1
                                       have g2 : s 46 (hh + -1 - 1).toNat = x := by rw [e1]; exact hst.2.1
                                       rw [g1, g2]
                                       have hf2 : Fr [46] s0 (us s 46 (hh + -1 - 1).toNat (doneV (tk (D (143 + 50 * use + (k : Int)).toNat) - 10000) x y)) := hf.tr (Fr.us rfl)
                                       have ez : tk (D (143 + 50 * use + (k : Int)).toNat) - 10000 = (D (143 + 50 * use + (k : Int)).toNat) - 20000 := by omega
                                       exact l_lg43 (l := doneV (tk (D (143 + 50 * use + (k : Int)).toNat) - 10000) x y :: r) hv0 (k + 1) ((k : Int) + 1) _ (by omega) (by simp only [List.length_cons]; omega) (by rw [evN, hev]; simp only [evT]; rw [if_neg (by omega), if_neg (by omega), ez]) (by rw [us_eq, e1]; exact hst.2.2.push) hu hL hC hD hN hf2 (by omega))
                                | (have e1 : hh.toNat = l.length := by omega
                                   have hf2 : Fr [46] s0 (us s 46 hh.toNat (tk (D (143 + 50 * use + (k : Int)).toNat))) := hf.tr (Fr.us rfl)
                                   have ez : tk (D (143 + 50 * use + (k : Int)).toNat) = (D (143 + 50 * use + (k : Int)).toNat) := by omega
                                   exact l_lg43 (l := tk (D (143 + 50 * use + (k : Int)).toNat) :: l) hv0 (k + 1) ((k : Int) + 1) _ (by omega) (by simp only [List.length_cons]; omega) (by rw [evN, hev]; simp only [evT]; rw [if_pos (by omega), if_pos (by omega), ez]) (by rw [us_eq, e1]; exact hst.push) hu hL hC hD hN hf2 (by omega))
                                | (have e1 : hh.toNat = l.length := by omega
                                   have hf2 : Fr [46] s0 (us s 46 hh.toNat (n4 a b c e (-1 - tk (D (143 + 50 * use + (k : Int)).toNat)).toNat)) := hf.tr (Fr.us rfl)
                                   have ez : -1 - tk (D (143 + 50 * use + (k : Int)).toNat) = (D (143 + 50 * use + (k : Int)).toNat) - 10000 := by omega
                                   exact l_lg43 (l := n4 a b c e (-1 - tk (D (143 + 50 * use + (k : Int)).toNat)).toNat :: l) hv0 (k + 1) ((k : Int) + 1) _ (by omega) (by simp only [List.length_cons]; omega) (by rw [evN, hev]; simp only [evT]; rw [if_pos (by omega), if_neg (by omega), ez]) (by rw [us_eq, e1]; exact hst.push) hu hL hC hD hN hf2 (by omega))))))
            · first
              | (exfalso; omega)
              | (refine w_ldI rfl rfl ?_
                 refine w_push rfl ?_
                 refine w_crLt rfl (by omega) (by omega) (fun b42 => ?_) (fun b42 => ?_)
                 · first
                   | (exfalso; omega)
                   | (refine w_ldI rfl rfl ?_
                      refine w_push rfl ?_
                      refine w_crGe rfl (by omega) (by omega) (fun b67 => ?_) (fun b67 => ?_)
                      · first
                        | (exfalso; omega)
                        | (refine w_inc_8_6 rfl rfl ?_
                           refine w_go rfl ?_
                           first
                           | (rcases l with _ | ⟨y, r⟩
                              · exfalso; simp at hhl; omega
                              · have e1 : (hh - 1).toNat = r.length := by simp at hhl; omega
                                have hf2 : Fr [46] s0 (us s 46 (hh - 1).toNat 1) := hf.tr (Fr.us rfl)
                                have hw : w32 y = 0 := by have := hst.1; rw [e1, this] at b31; exact b31
                                exact l_lg43 (l := 1 :: r) hv0 (k + 1) ((k : Int) + 1) _ (by omega) (by simp only [List.length_cons]; omega) (by rw [evN, hev]; simp only [evT]; rw [if_neg (by omega), if_pos (by omega), if_pos hw]) (by rw [us_eq, e1]; exact hst.2.push) hu hL hC hD hN hf2 (by omega))
                           | (rcases l with _ | ⟨y, r⟩
                              · exfalso; simp at hhl; omega
                              · have e1 : (hh - 1).toNat = r.length := by simp at hhl; omega
                                have hf2 : Fr [46] s0 (us s 46 (hh - 1).toNat 0) := hf.tr (Fr.us rfl)
                                have hw : ¬ w32 y = 0 := by have := hst.1; rw [e1, this] at b31; exact b31
                                exact l_lg43 (l := 0 :: r) hv0 (k + 1) ((k : Int) + 1) _ (by omega) (by simp only [List.length_cons]; omega) (by rw [evN, hev]; simp only [evT]; rw [if_neg (by omega), if_pos (by omega), if_neg hw]) (by rw [us_eq, e1]; exact hst.2.push) hu hL hC hD hN hf2 (by omega))
                           | (rcases l with _ | ⟨y, r⟩
                              · exfalso; simp at hhl; omega
                              · rcases r with _ | ⟨x, r⟩
                                · exfalso; simp at hhl; omega
                                · have e1 : (hh + -1 - 1).toNat = r.length := by simp at hhl; omega
                                  have e2 : (hh + -1).toNat = r.length + 1 := by simp at hhl; omega
                                  have g1 : s 46 (hh + -1).toNat = y := by rw [e2]; exact hst.1
                                  have g2 : s 46 (hh + -1 - 1).toNat = x := by rw [e1]; exact hst.2.1
                                  rw [g1, g2]
                                  have hf2 : Fr [46] s0 (us s 46 (hh + -1 - 1).toNat (doneV (tk (D (143 + 50 * use + (k : Int)).toNat) - 10000) x y)) := hf.tr (Fr.us rfl)
                                  have ez : tk (D (143 + 50 * use + (k : Int)).toNat) - 10000 = (D (143 + 50 * use + (k : Int)).toNat) - 20000 := by omega
                                  exact l_lg43 (l := doneV (tk (D (143 + 50 * use + (k : Int)).toNat) - 10000) x y :: r) hv0 (k + 1) ((k : Int) + 1) _ (by omega) (by simp only [List.length_cons]; omega) (by rw [evN, hev]; simp only [evT]; rw [if_neg (by omega), if_neg (by omega), ez]) (by rw [us_eq, e1]; exact hst.2.2.push) hu hL hC hD hN hf2 (by omega))
                           | (have e1 : hh.toNat = l.length := by omega
                              have hf2 : Fr [46] s0 (us s 46 hh.toNat (tk (D (143 + 50 * use + (k : Int)).toNat))) := hf.tr (Fr.us rfl)
                              have ez : tk (D (143 + 50 * use + (k : Int)).toNat) = (D (143 + 50 * use + (k : Int)).toNat) := by omega
                              exact l_lg43 (l := tk (D (143 + 50 * use + (k : Int)).toNat) :: l) hv0 (k + 1) ((k : Int) + 1) _ (by omega) (by simp only [List.length_cons]; omega) (by rw [evN, hev]; simp only [evT]; rw [if_pos (by omega), if_pos (by omega), ez]) (by rw [us_eq, e1]; exact hst.push) hu hL hC hD hN hf2 (by omega))
                           | (have e1 : hh.toNat = l.length := by omega
                              have hf2 : Fr [46] s0 (us s 46 hh.toNat (n4 a b c e (-1 - tk (D (143 + 50 * use + (k : Int)).toNat)).toNat)) := hf.tr (Fr.us rfl)
                              have ez : -1 - tk (D (143 + 50 * use + (k : Int)).toNat) = (D (143 + 50 * use + (k : Int)).toNat) - 10000 := by omega
                              exact l_lg43 (l := n4 a b c e (-1 - tk (D (143 + 50 * use + (k : Int)).toNat)).toNat :: l) hv0 (k + 1) ((k : Int) + 1) _ (by omega) (by simp only [List.length_cons]; omega) (by rw [evN, hev]; simp only [evT]; rw [if_pos (by omega), if_neg (by omega), ez]) (by rw [us_eq, e1]; exact hst.push) hu hL hC hD hN hf2 (by omega)))
                      · first
                        | (exfalso; omega)
                        | (refine w_ldI rfl rfl ?_
                           refine w_ldR rfl rfl rfl ?_
                           first | refine w_getI rfl rfl rfl rfl rfl ?_ | refine w_getR rfl rfl rfl rfl rfl ?_
                           refine w_alen rfl rfl rfl ?_
                           refine w_crGe rfl (by omega) (by omega) (fun b72 => ?_) (fun b72 => ?_)
                           · first
                             | (exfalso; omega)
                             | (refine w_inc_8_6 rfl rfl ?_
                                refine w_go rfl ?_
                                first
                                | (rcases l with _ | ⟨y, r⟩
                                   · exfalso; simp at hhl; omega
                                   · have e1 : (hh - 1).toNat = r.length := by simp at hhl; omega
                                     have hf2 : Fr [46] s0 (us s 46 (hh - 1).toNat 1) := hf.tr (Fr.us rfl)
                                     have hw : w32 y = 0 := by have := hst.1; rw [e1, this] at b31; exact b31
                                     exact l_lg43 (l := 1 :: r) hv0 (k + 1) ((k : Int) + 1) _ (by omega) (by simp only [List.length_cons]; omega) (by rw [evN, hev]; simp only [evT]; rw [if_neg (by omega), if_pos (by omega), if_pos hw]) (by rw [us_eq, e1]; exact hst.2.push) hu hL hC hD hN hf2 (by omega))
                                | (rcases l with _ | ⟨y, r⟩
                                   · exfalso; simp at hhl; omega
                                   · have e1 : (hh - 1).toNat = r.length := by simp at hhl; omega
                                     have hf2 : Fr [46] s0 (us s 46 (hh - 1).toNat 0) := hf.tr (Fr.us rfl)
                                     have hw : ¬ w32 y = 0 := by have := hst.1; rw [e1, this] at b31; exact b31
                                     exact l_lg43 (l := 0 :: r) hv0 (k + 1) ((k : Int) + 1) _ (by omega) (by simp only [List.length_cons]; omega) (by rw [evN, hev]; simp only [evT]; rw [if_neg (by omega), if_pos (by omega), if_neg hw]) (by rw [us_eq, e1]; exact hst.2.push) hu hL hC hD hN hf2 (by omega))
                                | (rcases l with _ | ⟨y, r⟩
                                   · exfalso; simp at hhl; omega
                                   · rcases r with _ | ⟨x, r⟩
                                     · exfalso; simp at hhl; omega
                                     · have e1 : (hh + -1 - 1).toNat = r.length := by simp at hhl; omega
                                       have e2 : (hh + -1).toNat = r.length + 1 := by simp at hhl; omega
                                       have g1 : s 46 (hh + -1).toNat = y := by rw [e2]; exact hst.1
                                       have g2 : s 46 (hh + -1 - 1).toNat = x := by rw [e1]; exact hst.2.1
                                       rw [g1, g2]
                                       have hf2 : Fr [46] s0 (us s 46 (hh + -1 - 1).toNat (doneV (tk (D (143 + 50 * use + (k : Int)).toNat) - 10000) x y)) := hf.tr (Fr.us rfl)
                                       have ez : tk (D (143 + 50 * use + (k : Int)).toNat) - 10000 = (D (143 + 50 * use + (k : Int)).toNat) - 20000 := by omega
                                       exact l_lg43 (l := doneV (tk (D (143 + 50 * use + (k : Int)).toNat) - 10000) x y :: r) hv0 (k + 1) ((k : Int) + 1) _ (by omega) (by simp only [List.length_cons]; omega) (by rw [evN, hev]; simp only [evT]; rw [if_neg (by omega), if_neg (by omega), ez]) (by rw [us_eq, e1]; exact hst.2.2.push) hu hL hC hD hN hf2 (by omega))
                                | (have e1 : hh.toNat = l.length := by omega
                                   have hf2 : Fr [46] s0 (us s 46 hh.toNat (tk (D (143 + 50 * use + (k : Int)).toNat))) := hf.tr (Fr.us rfl)
                                   have ez : tk (D (143 + 50 * use + (k : Int)).toNat) = (D (143 + 50 * use + (k : Int)).toNat) := by omega
                                   exact l_lg43 (l := tk (D (143 + 50 * use + (k : Int)).toNat) :: l) hv0 (k + 1) ((k : Int) + 1) _ (by omega) (by simp only [List.length_cons]; omega) (by rw [evN, hev]; simp only [evT]; rw [if_pos (by omega), if_pos (by omega), ez]) (by rw [us_eq, e1]; exact hst.push) hu hL hC hD hN hf2 (by omega))
                                | (have e1 : hh.toNat = l.length := by omega
                                   have hf2 : Fr [46] s0 (us s 46 hh.toNat (n4 a b c e (-1 - tk (D (143 + 50 * use + (k : Int)).toNat)).toNat)) := hf.tr (Fr.us rfl)
                                   have ez : -1 - tk (D (143 + 50 * use + (k : Int)).toNat) = (D (143 + 50 * use + (k : Int)).toNat) - 10000 := by omega
                                   exact l_lg43 (l := n4 a b c e (-1 - tk (D (143 + 50 * use + (k : Int)).toNat)).toNat :: l) hv0 (k + 1) ((k : Int) + 1) _ (by omega) (by simp only [List.length_cons]; omega) (by rw [evN, hev]; simp only [evT]; rw [if_pos (by omega), if_neg (by omega), ez]) (by rw [us_eq, e1]; exact hst.push) hu hL hC hD hN hf2 (by omega)))
                           · first
                             | (exfalso; omega)
                             | (refine w_ldR rfl rfl rfl ?_
                                first | refine w_getI rfl rfl rfl rfl rfl ?_ | refine w_getR rfl rfl rfl rfl rfl ?_
                                refine w_ldI rfl rfl ?_
                                refine w_ldI rfl rfl ?_
                                refine w_irGe0 rfl (by omega) (fun b77 => ?_) (fun b77 => ?_)
                                · first
                                  | (exfalso; omega)
                                  | (refine w_ldI rfl rfl ?_
                                     refine w_ast rfl rfl rfl (by omega) rfl ?_
                                     refine w_inc_8_5 rfl rfl ?_
                                     refine w_inc_8_6 rfl rfl ?_
                                     refine w_go rfl ?_
                                     first
                                     | (rcases l with _ | ⟨y, r⟩
                                        · exfalso; simp at hhl; omega
                                        · have e1 : (hh - 1).toNat = r.length := by simp at hhl; omega
                                          have hf2 : Fr [46] s0 (us s 46 (hh - 1).toNat 1) := hf.tr (Fr.us rfl)
                                          have hw : w32 y = 0 := by have := hst.1; rw [e1, this] at b31; exact b31
                                          exact l_lg43 (l := 1 :: r) hv0 (k + 1) ((k : Int) + 1) _ (by omega) (by simp only [List.length_cons]; omega) (by rw [evN, hev]; simp only [evT]; rw [if_neg (by omega), if_pos (by omega), if_pos hw]) (by rw [us_eq, e1]; exact hst.2.push) hu hL hC hD hN hf2 (by omega))
                                     | (rcases l with _ | ⟨y, r⟩
                                        · exfalso; simp at hhl; omega
                                        · have e1 : (hh - 1).toNat = r.length := by simp at hhl; omega
                                          have hf2 : Fr [46] s0 (us s 46 (hh - 1).toNat 0) := hf.tr (Fr.us rfl)
                                          have hw : ¬ w32 y = 0 := by have := hst.1; rw [e1, this] at b31; exact b31
                                          exact l_lg43 (l := 0 :: r) hv0 (k + 1) ((k : Int) + 1) _ (by omega) (by simp only [List.length_cons]; omega) (by rw [evN, hev]; simp only [evT]; rw [if_neg (by omega), if_pos (by omega), if_neg hw]) (by rw [us_eq, e1]; exact hst.2.push) hu hL hC hD hN hf2 (by omega))
                                     | (rcases l with _ | ⟨y, r⟩
                                        · exfalso; simp at hhl; omega
                                        · rcases r with _ | ⟨x, r⟩
                                          · exfalso; simp at hhl; omega
                                          · have e1 : (hh + -1 - 1).toNat = r.length := by simp at hhl; omega
                                            have e2 : (hh + -1).toNat = r.length + 1 := by simp at hhl; omega
                                            have g1 : s 46 (hh + -1).toNat = y := by rw [e2]; exact hst.1
                                            have g2 : s 46 (hh + -1 - 1).toNat = x := by rw [e1]; exact hst.2.1
                                            rw [g1, g2]
                                            have hf2 : Fr [46] s0 (us s 46 (hh + -1 - 1).toNat (doneV (tk (D (143 + 50 * use + (k : Int)).toNat) - 10000) x y)) := hf.tr (Fr.us rfl)
                                            have ez : tk (D (143 + 50 * use + (k : Int)).toNat) - 10000 = (D (143 + 50 * use + (k : Int)).toNat) - 20000 := by omega
                                            exact l_lg43 (l := doneV (tk (D (143 + 50 * use + (k : Int)).toNat) - 10000) x y :: r) hv0 (k + 1) ((k : Int) + 1) _ (by omega) (by simp only [List.length_cons]; omega) (by rw [evN, hev]; simp only [evT]; rw [if_neg (by omega), if_neg (by omega), ez]) (by rw [us_eq, e1]; exact hst.2.2.push) hu hL hC hD hN hf2 (by omega))
                                     | (have e1 : hh.toNat = l.length := by omega
                                        have hf2 : Fr [46] s0 (us s 46 hh.toNat (tk (D (143 + 50 * use + (k : Int)).toNat))) := hf.tr (Fr.us rfl)
                                        have ez : tk (D (143 + 50 * use + (k : Int)).toNat) = (D (143 + 50 * use + (k : Int)).toNat) := by omega
                                        exact l_lg43 (l := tk (D (143 + 50 * use + (k : Int)).toNat) :: l) hv0 (k + 1) ((k : Int) + 1) _ (by omega) (by simp only [List.length_cons]; omega) (by rw [evN, hev]; simp only [evT]; rw [if_pos (by omega), if_pos (by omega), ez]) (by rw [us_eq, e1]; exact hst.push) hu hL hC hD hN hf2 (by omega))
                                     | (have e1 : hh.toNat = l.length := by omega
                                        have hf2 : Fr [46] s0 (us s 46 hh.toNat (n4 a b c e (-1 - tk (D (143 + 50 * use + (k : Int)).toNat)).toNat)) := hf.tr (Fr.us rfl)
                                        have ez : -1 - tk (D (143 + 50 * use + (k : Int)).toNat) = (D (143 + 50 * use + (k : Int)).toNat) - 10000 := by omega
                                        exact l_lg43 (l := n4 a b c e (-1 - tk (D (143 + 50 * use + (k : Int)).toNat)).toNat :: l) hv0 (k + 1) ((k : Int) + 1) _ (by omega) (by simp only [List.length_cons]; omega) (by rw [evN, hev]; simp only [evT]; rw [if_pos (by omega), if_neg (by omega), ez]) (by rw [us_eq, e1]; exact hst.push) hu hL hC hD hN hf2 (by omega)))
                                · first
                                  | (exfalso; omega)
                                  | (refine w_push rfl ?_
                                     refine w_ldI rfl rfl ?_
                                     refine w_sub rfl ?_
                                     refine w_ldI rfl rfl ?_
                                     refine w_ldI rfl rfl ?_
                                     refine w_ldI rfl rfl ?_
                                     refine w_ldI rfl rfl ?_
                                     refine w_call rfl rfl rfl (k_named (by omega)) ?_
                                     refine w_go rfl ?_
                                     refine w_ast rfl rfl rfl (by omega) rfl ?_
                                     refine w_inc_8_5 rfl rfl ?_
                                     refine w_inc_8_6 rfl rfl ?_
                                     refine w_go rfl ?_
                                     first
                                     | (rcases l with _ | ⟨y, r⟩
                                        · exfalso; simp at hhl; omega
                                        · have e1 : (hh - 1).toNat = r.length := by simp at hhl; omega
                                          have hf2 : Fr [46] s0 (us s 46 (hh - 1).toNat 1) := hf.tr (Fr.us rfl)
                                          have hw : w32 y = 0 := by have := hst.1; rw [e1, this] at b31; exact b31
                                          exact l_lg43 (l := 1 :: r) hv0 (k + 1) ((k : Int) + 1) _ (by omega) (by simp only [List.length_cons]; omega) (by rw [evN, hev]; simp only [evT]; rw [if_neg (by omega), if_pos (by omega), if_pos hw]) (by rw [us_eq, e1]; exact hst.2.push) hu hL hC hD hN hf2 (by omega))
                                     | (rcases l with _ | ⟨y, r⟩
                                        · exfalso; simp at hhl; omega
                                        · have e1 : (hh - 1).toNat = r.length := by simp at hhl; omega
                                          have hf2 : Fr [46] s0 (us s 46 (hh - 1).toNat 0) := hf.tr (Fr.us rfl)
                                          have hw : ¬ w32 y = 0 := by have := hst.1; rw [e1, this] at b31; exact b31
                                          exact l_lg43 (l := 0 :: r) hv0 (k + 1) ((k : Int) + 1) _ (by omega) (by simp only [List.length_cons]; omega) (by rw [evN, hev]; simp only [evT]; rw [if_neg (by omega), if_pos (by omega), if_neg hw]) (by rw [us_eq, e1]; exact hst.2.push) hu hL hC hD hN hf2 (by omega))
                                     | (rcases l with _ | ⟨y, r⟩
                                        · exfalso; simp at hhl; omega
                                        · rcases r with _ | ⟨x, r⟩
                                          · exfalso; simp at hhl; omega
                                          · have e1 : (hh + -1 - 1).toNat = r.length := by simp at hhl; omega
                                            have e2 : (hh + -1).toNat = r.length + 1 := by simp at hhl; omega
                                            have g1 : s 46 (hh + -1).toNat = y := by rw [e2]; exact hst.1
                                            have g2 : s 46 (hh + -1 - 1).toNat = x := by rw [e1]; exact hst.2.1
                                            rw [g1, g2]
                                            have hf2 : Fr [46] s0 (us s 46 (hh + -1 - 1).toNat (doneV (tk (D (143 + 50 * use + (k : Int)).toNat) - 10000) x y)) := hf.tr (Fr.us rfl)
                                            have ez : tk (D (143 + 50 * use + (k : Int)).toNat) - 10000 = (D (143 + 50 * use + (k : Int)).toNat) - 20000 := by omega
                                            exact l_lg43 (l := doneV (tk (D (143 + 50 * use + (k : Int)).toNat) - 10000) x y :: r) hv0 (k + 1) ((k : Int) + 1) _ (by omega) (by simp only [List.length_cons]; omega) (by rw [evN, hev]; simp only [evT]; rw [if_neg (by omega), if_neg (by omega), ez]) (by rw [us_eq, e1]; exact hst.2.2.push) hu hL hC hD hN hf2 (by omega))
                                     | (have e1 : hh.toNat = l.length := by omega
                                        have hf2 : Fr [46] s0 (us s 46 hh.toNat (tk (D (143 + 50 * use + (k : Int)).toNat))) := hf.tr (Fr.us rfl)
                                        have ez : tk (D (143 + 50 * use + (k : Int)).toNat) = (D (143 + 50 * use + (k : Int)).toNat) := by omega
                                        exact l_lg43 (l := tk (D (143 + 50 * use + (k : Int)).toNat) :: l) hv0 (k + 1) ((k : Int) + 1) _ (by omega) (by simp only [List.length_cons]; omega) (by rw [evN, hev]; simp only [evT]; rw [if_pos (by omega), if_pos (by omega), ez]) (by rw [us_eq, e1]; exact hst.push) hu hL hC hD hN hf2 (by omega))
                                     | (have e1 : hh.toNat = l.length := by omega
                                        have hf2 : Fr [46] s0 (us s 46 hh.toNat (n4 a b c e (-1 - tk (D (143 + 50 * use + (k : Int)).toNat)).toNat)) := hf.tr (Fr.us rfl)
                                        have ez : -1 - tk (D (143 + 50 * use + (k : Int)).toNat) = (D (143 + 50 * use + (k : Int)).toNat) - 10000 := by omega
                                        exact l_lg43 (l := n4 a b c e (-1 - tk (D (143 + 50 * use + (k : Int)).toNat)).toNat :: l) hv0 (k + 1) ((k : Int) + 1) _ (by omega) (by simp only [List.length_cons]; omega) (by rw [evN, hev]; simp only [evT]; rw [if_pos (by omega), if_neg (by omega), ez]) (by rw [us_eq, e1]; exact hst.push) hu hL hC hD hN hf2 (by omega))))))
                 · first
                   | (exfalso; omega)
                   | (refine w_inc_8_5 rfl rfl ?_
                      refine w_ldR rfl rfl rfl ?_
                      first | refine w_getI rfl rfl rfl rfl rfl ?_ | refine w_getR rfl rfl rfl rfl rfl ?_
                      refine w_ldI rfl rfl ?_
                      refine w_push rfl ?_
                      refine w_sub rfl ?_
                      refine w_ldI rfl rfl ?_
                      refine w_push rfl ?_
                      refine w_sub rfl ?_
                      refine w_ldR rfl rfl rfl ?_
                      first | refine w_getI rfl rfl rfl rfl rfl ?_ | refine w_getR rfl rfl rfl rfl rfl ?_
                      refine w_ldI rfl rfl ?_
                      refine w_push rfl ?_
                      refine w_sub rfl ?_
                      refine w_ald rfl rfl rfl (by omega) rfl ?_
                      refine w_ldR rfl rfl rfl ?_
                      first | refine w_getI rfl rfl rfl rfl rfl ?_ | refine w_getR rfl rfl rfl rfl rfl ?_
                      refine w_ldI rfl rfl ?_
                      refine w_ald rfl rfl rfl (by omega) rfl ?_
                      refine w_call rfl rfl rfl (k_joined (by omega)) ?_
                      refine w_ast rfl rfl rfl (by omega) rfl ?_
                      refine w_go rfl ?_
                      refine w_inc_8_6 rfl rfl ?_
                      refine w_go rfl ?_
                      first
                      | (rcases l with _ | ⟨y, r⟩
                         · exfalso; simp at hhl; omega
                         · have e1 : (hh - 1).toNat = r.length := by simp at hhl; omega
                           have hf2 : Fr [46] s0 (us s 46 (hh - 1).toNat 1) := hf.tr (Fr.us rfl)
                           have hw : w32 y = 0 := by have := hst.1; rw [e1, this] at b31; exact b31
                           exact l_lg43 (l := 1 :: r) hv0 (k + 1) ((k : Int) + 1) _ (by omega) (by simp only [List.length_cons]; omega) (by rw [evN, hev]; simp only [evT]; rw [if_neg (by omega), if_pos (by omega), if_pos hw]) (by rw [us_eq, e1]; exact hst.2.push) hu hL hC hD hN hf2 (by omega))
                      | (rcases l with _ | ⟨y, r⟩
                         · exfalso; simp at hhl; omega
                         · have e1 : (hh - 1).toNat = r.length := by simp at hhl; omega
                           have hf2 : Fr [46] s0 (us s 46 (hh - 1).toNat 0) := hf.tr (Fr.us rfl)
                           have hw : ¬ w32 y = 0 := by have := hst.1; rw [e1, this] at b31; exact b31
                           exact l_lg43 (l := 0 :: r) hv0 (k + 1) ((k : Int) + 1) _ (by omega) (by simp only [List.length_cons]; omega) (by rw [evN, hev]; simp only [evT]; rw [if_neg (by omega), if_pos (by omega), if_neg hw]) (by rw [us_eq, e1]; exact hst.2.push) hu hL hC hD hN hf2 (by omega))
                      | (rcases l with _ | ⟨y, r⟩
                         · exfalso; simp at hhl; omega
                         · rcases r with _ | ⟨x, r⟩
                           · exfalso; simp at hhl; omega
                           · have e1 : (hh + -1 - 1).toNat = r.length := by simp at hhl; omega
                             have e2 : (hh + -1).toNat = r.length + 1 := by simp at hhl; omega
                             have g1 : s 46 (hh + -1).toNat = y := by rw [e2]; exact hst.1
                             have g2 : s 46 (hh + -1 - 1).toNat = x := by rw [e1]; exact hst.2.1
                             rw [g1, g2]
                             have hf2 : Fr [46] s0 (us s 46 (hh + -1 - 1).toNat (doneV (tk (D (143 + 50 * use + (k : Int)).toNat) - 10000) x y)) := hf.tr (Fr.us rfl)
                             have ez : tk (D (143 + 50 * use + (k : Int)).toNat) - 10000 = (D (143 + 50 * use + (k : Int)).toNat) - 20000 := by omega
                             exact l_lg43 (l := doneV (tk (D (143 + 50 * use + (k : Int)).toNat) - 10000) x y :: r) hv0 (k + 1) ((k : Int) + 1) _ (by omega) (by simp only [List.length_cons]; omega) (by rw [evN, hev]; simp only [evT]; rw [if_neg (by omega), if_neg (by omega), ez]) (by rw [us_eq, e1]; exact hst.2.2.push) hu hL hC hD hN hf2 (by omega))
                      | (have e1 : hh.toNat = l.length := by omega
                         have hf2 : Fr [46] s0 (us s 46 hh.toNat (tk (D (143 + 50 * use + (k : Int)).toNat))) := hf.tr (Fr.us rfl)
                         have ez : tk (D (143 + 50 * use + (k : Int)).toNat) = (D (143 + 50 * use + (k : Int)).toNat) := by omega
                         exact l_lg43 (l := tk (D (143 + 50 * use + (k : Int)).toNat) :: l) hv0 (k + 1) ((k : Int) + 1) _ (by omega) (by simp only [List.length_cons]; omega) (by rw [evN, hev]; simp only [evT]; rw [if_pos (by omega), if_pos (by omega), ez]) (by rw [us_eq, e1]; exact hst.push) hu hL hC hD hN hf2 (by omega))
                      | (have e1 : hh.toNat = l.length := by omega
                         have hf2 : Fr [46] s0 (us s 46 hh.toNat (n4 a b c e (-1 - tk (D (143 + 50 * use + (k : Int)).toNat)).toNat)) := hf.tr (Fr.us rfl)
                         have ez : -1 - tk (D (143 + 50 * use + (k : Int)).toNat) = (D (143 + 50 * use + (k : Int)).toNat) - 10000 := by omega
                         exact l_lg43 (l := n4 a b c e (-1 - tk (D (143 + 50 * use + (k : Int)).toNat)).toNat :: l) hv0 (k + 1) ((k : Int) + 1) _ (by omega) (by simp only [List.length_cons]; omega) (by rw [evN, hev]; simp only [evT]; rw [if_pos (by omega), if_neg (by omega), ez]) (by rw [us_eq, e1]; exact hst.push) hu hL hC hD hN hf2 (by omega)))))
       · first
         | (exfalso; omega)
         | (refine w_ldI rfl rfl ?_
            refine w_push rfl ?_
            refine w_crLt rfl (by omega) (by omega) (fun b19 => ?_) (fun b19 => ?_)
            · first
              | (exfalso; omega)
              | (refine w_ldI rfl rfl ?_
                 refine w_push rfl ?_
                 refine w_crLe rfl (by omega) (by omega) (fun b39 => ?_) (fun b39 => ?_)
                 · first
                   | (exfalso; omega)
                   | (refine w_ldI rfl rfl ?_
                      refine w_push rfl ?_
                      refine w_crGe rfl (by omega) (by omega) (fun b67 => ?_) (fun b67 => ?_)
                      · first
                        | (exfalso; omega)
                        | (refine w_inc_8_6 rfl rfl ?_
                           refine w_go rfl ?_
                           first
                           | (rcases l with _ | ⟨y, r⟩
                              · exfalso; simp at hhl; omega
                              · have e1 : (hh - 1).toNat = r.length := by simp at hhl; omega
                                have hf2 : Fr [46] s0 (us s 46 (hh - 1).toNat 1) := hf.tr (Fr.us rfl)
                                have hw : w32 y = 0 := by have := hst.1; rw [e1, this] at b31; exact b31
                                exact l_lg43 (l := 1 :: r) hv0 (k + 1) ((k : Int) + 1) _ (by omega) (by simp only [List.length_cons]; omega) (by rw [evN, hev]; simp only [evT]; rw [if_neg (by omega), if_pos (by omega), if_pos hw]) (by rw [us_eq, e1]; exact hst.2.push) hu hL hC hD hN hf2 (by omega))
                           | (rcases l with _ | ⟨y, r⟩
                              · exfalso; simp at hhl; omega
                              · have e1 : (hh - 1).toNat = r.length := by simp at hhl; omega
                                have hf2 : Fr [46] s0 (us s 46 (hh - 1).toNat 0) := hf.tr (Fr.us rfl)
                                have hw : ¬ w32 y = 0 := by have := hst.1; rw [e1, this] at b31; exact b31
                                exact l_lg43 (l := 0 :: r) hv0 (k + 1) ((k : Int) + 1) _ (by omega) (by simp only [List.length_cons]; omega) (by rw [evN, hev]; simp only [evT]; rw [if_neg (by omega), if_pos (by omega), if_neg hw]) (by rw [us_eq, e1]; exact hst.2.push) hu hL hC hD hN hf2 (by omega))
                           | (rcases l with _ | ⟨y, r⟩
                              · exfalso; simp at hhl; omega
                              · rcases r with _ | ⟨x, r⟩
                                · exfalso; simp at hhl; omega
                                · have e1 : (hh + -1 - 1).toNat = r.length := by simp at hhl; omega
                                  have e2 : (hh + -1).toNat = r.length + 1 := by simp at hhl; omega
                                  have g1 : s 46 (hh + -1).toNat = y := by rw [e2]; exact hst.1
                                  have g2 : s 46 (hh + -1 - 1).toNat = x := by rw [e1]; exact hst.2.1
                                  rw [g1, g2]
                                  have hf2 : Fr [46] s0 (us s 46 (hh + -1 - 1).toNat (doneV (tk (D (143 + 50 * use + (k : Int)).toNat) - 10000) x y)) := hf.tr (Fr.us rfl)
                                  have ez : tk (D (143 + 50 * use + (k : Int)).toNat) - 10000 = (D (143 + 50 * use + (k : Int)).toNat) - 20000 := by omega
                                  exact l_lg43 (l := doneV (tk (D (143 + 50 * use + (k : Int)).toNat) - 10000) x y :: r) hv0 (k + 1) ((k : Int) + 1) _ (by omega) (by simp only [List.length_cons]; omega) (by rw [evN, hev]; simp only [evT]; rw [if_neg (by omega), if_neg (by omega), ez]) (by rw [us_eq, e1]; exact hst.2.2.push) hu hL hC hD hN hf2 (by omega))
                           | (have e1 : hh.toNat = l.length := by omega
                              have hf2 : Fr [46] s0 (us s 46 hh.toNat (tk (D (143 + 50 * use + (k : Int)).toNat))) := hf.tr (Fr.us rfl)
                              have ez : tk (D (143 + 50 * use + (k : Int)).toNat) = (D (143 + 50 * use + (k : Int)).toNat) := by omega
                              exact l_lg43 (l := tk (D (143 + 50 * use + (k : Int)).toNat) :: l) hv0 (k + 1) ((k : Int) + 1) _ (by omega) (by simp only [List.length_cons]; omega) (by rw [evN, hev]; simp only [evT]; rw [if_pos (by omega), if_pos (by omega), ez]) (by rw [us_eq, e1]; exact hst.push) hu hL hC hD hN hf2 (by omega))
                           | (have e1 : hh.toNat = l.length := by omega
                              have hf2 : Fr [46] s0 (us s 46 hh.toNat (n4 a b c e (-1 - tk (D (143 + 50 * use + (k : Int)).toNat)).toNat)) := hf.tr (Fr.us rfl)
                              have ez : -1 - tk (D (143 + 50 * use + (k : Int)).toNat) = (D (143 + 50 * use + (k : Int)).toNat) - 10000 := by omega
                              exact l_lg43 (l := n4 a b c e (-1 - tk (D (143 + 50 * use + (k : Int)).toNat)).toNat :: l) hv0 (k + 1) ((k : Int) + 1) _ (by omega) (by simp only [List.length_cons]; omega) (by rw [evN, hev]; simp only [evT]; rw [if_pos (by omega), if_neg (by omega), ez]) (by rw [us_eq, e1]; exact hst.push) hu hL hC hD hN hf2 (by omega)))
                      · first
                        | (exfalso; omega)
                        | (refine w_ldI rfl rfl ?_
                           refine w_ldR rfl rfl rfl ?_
                           first | refine w_getI rfl rfl rfl rfl rfl ?_ | refine w_getR rfl rfl rfl rfl rfl ?_
                           refine w_alen rfl rfl rfl ?_
                           refine w_crGe rfl (by omega) (by omega) (fun b72 => ?_) (fun b72 => ?_)
                           · first
                             | (exfalso; omega)
                             | (refine w_inc_8_6 rfl rfl ?_
                                refine w_go rfl ?_
                                first
                                | (rcases l with _ | ⟨y, r⟩
                                   · exfalso; simp at hhl; omega
                                   · have e1 : (hh - 1).toNat = r.length := by simp at hhl; omega
                                     have hf2 : Fr [46] s0 (us s 46 (hh - 1).toNat 1) := hf.tr (Fr.us rfl)
                                     have hw : w32 y = 0 := by have := hst.1; rw [e1, this] at b31; exact b31
                                     exact l_lg43 (l := 1 :: r) hv0 (k + 1) ((k : Int) + 1) _ (by omega) (by simp only [List.length_cons]; omega) (by rw [evN, hev]; simp only [evT]; rw [if_neg (by omega), if_pos (by omega), if_pos hw]) (by rw [us_eq, e1]; exact hst.2.push) hu hL hC hD hN hf2 (by omega))
                                | (rcases l with _ | ⟨y, r⟩
                                   · exfalso; simp at hhl; omega
                                   · have e1 : (hh - 1).toNat = r.length := by simp at hhl; omega
                                     have hf2 : Fr [46] s0 (us s 46 (hh - 1).toNat 0) := hf.tr (Fr.us rfl)
                                     have hw : ¬ w32 y = 0 := by have := hst.1; rw [e1, this] at b31; exact b31
                                     exact l_lg43 (l := 0 :: r) hv0 (k + 1) ((k : Int) + 1) _ (by omega) (by simp only [List.length_cons]; omega) (by rw [evN, hev]; simp only [evT]; rw [if_neg (by omega), if_pos (by omega), if_neg hw]) (by rw [us_eq, e1]; exact hst.2.push) hu hL hC hD hN hf2 (by omega))
                                | (rcases l with _ | ⟨y, r⟩
                                   · exfalso; simp at hhl; omega
                                   · rcases r with _ | ⟨x, r⟩
                                     · exfalso; simp at hhl; omega
                                     · have e1 : (hh + -1 - 1).toNat = r.length := by simp at hhl; omega
                                       have e2 : (hh + -1).toNat = r.length + 1 := by simp at hhl; omega
                                       have g1 : s 46 (hh + -1).toNat = y := by rw [e2]; exact hst.1
                                       have g2 : s 46 (hh + -1 - 1).toNat = x := by rw [e1]; exact hst.2.1
                                       rw [g1, g2]
                                       have hf2 : Fr [46] s0 (us s 46 (hh + -1 - 1).toNat (doneV (tk (D (143 + 50 * use + (k : Int)).toNat) - 10000) x y)) := hf.tr (Fr.us rfl)
                                       have ez : tk (D (143 + 50 * use + (k : Int)).toNat) - 10000 = (D (143 + 50 * use + (k : Int)).toNat) - 20000 := by omega
                                       exact l_lg43 (l := doneV (tk (D (143 + 50 * use + (k : Int)).toNat) - 10000) x y :: r) hv0 (k + 1) ((k : Int) + 1) _ (by omega) (by simp only [List.length_cons]; omega) (by rw [evN, hev]; simp only [evT]; rw [if_neg (by omega), if_neg (by omega), ez]) (by rw [us_eq, e1]; exact hst.2.2.push) hu hL hC hD hN hf2 (by omega))
                                | (have e1 : hh.toNat = l.length := by omega
                                   have hf2 : Fr [46] s0 (us s 46 hh.toNat (tk (D (143 + 50 * use + (k : Int)).toNat))) := hf.tr (Fr.us rfl)
                                   have ez : tk (D (143 + 50 * use + (k : Int)).toNat) = (D (143 + 50 * use + (k : Int)).toNat) := by omega
                                   exact l_lg43 (l := tk (D (143 + 50 * use + (k : Int)).toNat) :: l) hv0 (k + 1) ((k : Int) + 1) _ (by omega) (by simp only [List.length_cons]; omega) (by rw [evN, hev]; simp only [evT]; rw [if_pos (by omega), if_pos (by omega), ez]) (by rw [us_eq, e1]; exact hst.push) hu hL hC hD hN hf2 (by omega))
                                | (have e1 : hh.toNat = l.length := by omega
                                   have hf2 : Fr [46] s0 (us s 46 hh.toNat (n4 a b c e (-1 - tk (D (143 + 50 * use + (k : Int)).toNat)).toNat)) := hf.tr (Fr.us rfl)
                                   have ez : -1 - tk (D (143 + 50 * use + (k : Int)).toNat) = (D (143 + 50 * use + (k : Int)).toNat) - 10000 := by omega
                                   exact l_lg43 (l := n4 a b c e (-1 - tk (D (143 + 50 * use + (k : Int)).toNat)).toNat :: l) hv0 (k + 1) ((k : Int) + 1) _ (by omega) (by simp only [List.length_cons]; omega) (by rw [evN, hev]; simp only [evT]; rw [if_pos (by omega), if_neg (by omega), ez]) (by rw [us_eq, e1]; exact hst.push) hu hL hC hD hN hf2 (by omega)))
                           · first
                             | (exfalso; omega)
                             | (refine w_ldR rfl rfl rfl ?_
                                first | refine w_getI rfl rfl rfl rfl rfl ?_ | refine w_getR rfl rfl rfl rfl rfl ?_
                                refine w_ldI rfl rfl ?_
                                refine w_ldI rfl rfl ?_
                                refine w_irGe0 rfl (by omega) (fun b77 => ?_) (fun b77 => ?_)
                                · first
                                  | (exfalso; omega)
                                  | (refine w_ldI rfl rfl ?_
                                     refine w_ast rfl rfl rfl (by omega) rfl ?_
                                     refine w_inc_8_5 rfl rfl ?_
                                     refine w_inc_8_6 rfl rfl ?_
                                     refine w_go rfl ?_
                                     first
                                     | (rcases l with _ | ⟨y, r⟩
                                        · exfalso; simp at hhl; omega
                                        · have e1 : (hh - 1).toNat = r.length := by simp at hhl; omega
                                          have hf2 : Fr [46] s0 (us s 46 (hh - 1).toNat 1) := hf.tr (Fr.us rfl)
                                          have hw : w32 y = 0 := by have := hst.1; rw [e1, this] at b31; exact b31
                                          exact l_lg43 (l := 1 :: r) hv0 (k + 1) ((k : Int) + 1) _ (by omega) (by simp only [List.length_cons]; omega) (by rw [evN, hev]; simp only [evT]; rw [if_neg (by omega), if_pos (by omega), if_pos hw]) (by rw [us_eq, e1]; exact hst.2.push) hu hL hC hD hN hf2 (by omega))
                                     | (rcases l with _ | ⟨y, r⟩
                                        · exfalso; simp at hhl; omega
                                        · have e1 : (hh - 1).toNat = r.length := by simp at hhl; omega
                                          have hf2 : Fr [46] s0 (us s 46 (hh - 1).toNat 0) := hf.tr (Fr.us rfl)
                                          have hw : ¬ w32 y = 0 := by have := hst.1; rw [e1, this] at b31; exact b31
                                          exact l_lg43 (l := 0 :: r) hv0 (k + 1) ((k : Int) + 1) _ (by omega) (by simp only [List.length_cons]; omega) (by rw [evN, hev]; simp only [evT]; rw [if_neg (by omega), if_pos (by omega), if_neg hw]) (by rw [us_eq, e1]; exact hst.2.push) hu hL hC hD hN hf2 (by omega))
                                     | (rcases l with _ | ⟨y, r⟩
                                        · exfalso; simp at hhl; omega
                                        · rcases r with _ | ⟨x, r⟩
                                          · exfalso; simp at hhl; omega
                                          · have e1 : (hh + -1 - 1).toNat = r.length := by simp at hhl; omega
                                            have e2 : (hh + -1).toNat = r.length + 1 := by simp at hhl; omega
                                            have g1 : s 46 (hh + -1).toNat = y := by rw [e2]; exact hst.1
                                            have g2 : s 46 (hh + -1 - 1).toNat = x := by rw [e1]; exact hst.2.1
                                            rw [g1, g2]
                                            have hf2 : Fr [46] s0 (us s 46 (hh + -1 - 1).toNat (doneV (tk (D (143 + 50 * use + (k : Int)).toNat) - 10000) x y)) := hf.tr (Fr.us rfl)
                                            have ez : tk (D (143 + 50 * use + (k : Int)).toNat) - 10000 = (D (143 + 50 * use + (k : Int)).toNat) - 20000 := by omega
                                            exact l_lg43 (l := doneV (tk (D (143 + 50 * use + (k : Int)).toNat) - 10000) x y :: r) hv0 (k + 1) ((k : Int) + 1) _ (by omega) (by simp only [List.length_cons]; omega) (by rw [evN, hev]; simp only [evT]; rw [if_neg (by omega), if_neg (by omega), ez]) (by rw [us_eq, e1]; exact hst.2.2.push) hu hL hC hD hN hf2 (by omega))
                                     | (have e1 : hh.toNat = l.length := by omega
                                        have hf2 : Fr [46] s0 (us s 46 hh.toNat (tk (D (143 + 50 * use + (k : Int)).toNat))) := hf.tr (Fr.us rfl)
                                        have ez : tk (D (143 + 50 * use + (k : Int)).toNat) = (D (143 + 50 * use + (k : Int)).toNat) := by omega
                                        exact l_lg43 (l := tk (D (143 + 50 * use + (k : Int)).toNat) :: l) hv0 (k + 1) ((k : Int) + 1) _ (by omega) (by simp only [List.length_cons]; omega) (by rw [evN, hev]; simp only [evT]; rw [if_pos (by omega), if_pos (by omega), ez]) (by rw [us_eq, e1]; exact hst.push) hu hL hC hD hN hf2 (by omega))
                                     | (have e1 : hh.toNat = l.length := by omega
                                        have hf2 : Fr [46] s0 (us s 46 hh.toNat (n4 a b c e (-1 - tk (D (143 + 50 * use + (k : Int)).toNat)).toNat)) := hf.tr (Fr.us rfl)
                                        have ez : -1 - tk (D (143 + 50 * use + (k : Int)).toNat) = (D (143 + 50 * use + (k : Int)).toNat) - 10000 := by omega
                                        exact l_lg43 (l := n4 a b c e (-1 - tk (D (143 + 50 * use + (k : Int)).toNat)).toNat :: l) hv0 (k + 1) ((k : Int) + 1) _ (by omega) (by simp only [List.length_cons]; omega) (by rw [evN, hev]; simp only [evT]; rw [if_pos (by omega), if_neg (by omega), ez]) (by rw [us_eq, e1]; exact hst.push) hu hL hC hD hN hf2 (by omega)))
                                · first
                                  | (exfalso; omega)
                                  | (refine w_push rfl ?_
                                     refine w_ldI rfl rfl ?_
                                     refine w_sub rfl ?_
                                     refine w_ldI rfl rfl ?_
                                     refine w_ldI rfl rfl ?_
                                     refine w_ldI rfl rfl ?_
                                     refine w_ldI rfl rfl ?_
                                     refine w_call rfl rfl rfl (k_named (by omega)) ?_
                                     refine w_go rfl ?_
                                     refine w_ast rfl rfl rfl (by omega) rfl ?_
                                     refine w_inc_8_5 rfl rfl ?_
                                     refine w_inc_8_6 rfl rfl ?_
                                     refine w_go rfl ?_
                                     first
                                     | (rcases l with _ | ⟨y, r⟩
                                        · exfalso; simp at hhl; omega
                                        · have e1 : (hh - 1).toNat = r.length := by simp at hhl; omega
                                          have hf2 : Fr [46] s0 (us s 46 (hh - 1).toNat 1) := hf.tr (Fr.us rfl)
                                          have hw : w32 y = 0 := by have := hst.1; rw [e1, this] at b31; exact b31
                                          exact l_lg43 (l := 1 :: r) hv0 (k + 1) ((k : Int) + 1) _ (by omega) (by simp only [List.length_cons]; omega) (by rw [evN, hev]; simp only [evT]; rw [if_neg (by omega), if_pos (by omega), if_pos hw]) (by rw [us_eq, e1]; exact hst.2.push) hu hL hC hD hN hf2 (by omega))
                                     | (rcases l with _ | ⟨y, r⟩
                                        · exfalso; simp at hhl; omega
                                        · have e1 : (hh - 1).toNat = r.length := by simp at hhl; omega
                                          have hf2 : Fr [46] s0 (us s 46 (hh - 1).toNat 0) := hf.tr (Fr.us rfl)
                                          have hw : ¬ w32 y = 0 := by have := hst.1; rw [e1, this] at b31; exact b31
                                          exact l_lg43 (l := 0 :: r) hv0 (k + 1) ((k : Int) + 1) _ (by omega) (by simp only [List.length_cons]; omega) (by rw [evN, hev]; simp only [evT]; rw [if_neg (by omega), if_pos (by omega), if_neg hw]) (by rw [us_eq, e1]; exact hst.2.push) hu hL hC hD hN hf2 (by omega))
                                     | (rcases l with _ | ⟨y, r⟩
                                        · exfalso; simp at hhl; omega
                                        · rcases r with _ | ⟨x, r⟩
                                          · exfalso; simp at hhl; omega
                                          · have e1 : (hh + -1 - 1).toNat = r.length := by simp at hhl; omega
                                            have e2 : (hh + -1).toNat = r.length + 1 := by simp at hhl; omega
                                            have g1 : s 46 (hh + -1).toNat = y := by rw [e2]; exact hst.1
                                            have g2 : s 46 (hh + -1 - 1).toNat = x := by rw [e1]; exact hst.2.1
                                            rw [g1, g2]
                                            have hf2 : Fr [46] s0 (us s 46 (hh + -1 - 1).toNat (doneV (tk (D (143 + 50 * use + (k : Int)).toNat) - 10000) x y)) := hf.tr (Fr.us rfl)
                                            have ez : tk (D (143 + 50 * use + (k : Int)).toNat) - 10000 = (D (143 + 50 * use + (k : Int)).toNat) - 20000 := by omega
                                            exact l_lg43 (l := doneV (tk (D (143 + 50 * use + (k : Int)).toNat) - 10000) x y :: r) hv0 (k + 1) ((k : Int) + 1) _ (by omega) (by simp only [List.length_cons]; omega) (by rw [evN, hev]; simp only [evT]; rw [if_neg (by omega), if_neg (by omega), ez]) (by rw [us_eq, e1]; exact hst.2.2.push) hu hL hC hD hN hf2 (by omega))
                                     | (have e1 : hh.toNat = l.length := by omega
                                        have hf2 : Fr [46] s0 (us s 46 hh.toNat (tk (D (143 + 50 * use + (k : Int)).toNat))) := hf.tr (Fr.us rfl)
                                        have ez : tk (D (143 + 50 * use + (k : Int)).toNat) = (D (143 + 50 * use + (k : Int)).toNat) := by omega
                                        exact l_lg43 (l := tk (D (143 + 50 * use + (k : Int)).toNat) :: l) hv0 (k + 1) ((k : Int) + 1) _ (by omega) (by simp only [List.length_cons]; omega) (by rw [evN, hev]; simp only [evT]; rw [if_pos (by omega), if_pos (by omega), ez]) (by rw [us_eq, e1]; exact hst.push) hu hL hC hD hN hf2 (by omega))
                                     | (have e1 : hh.toNat = l.length := by omega
                                        have hf2 : Fr [46] s0 (us s 46 hh.toNat (n4 a b c e (-1 - tk (D (143 + 50 * use + (k : Int)).toNat)).toNat)) := hf.tr (Fr.us rfl)
                                        have ez : -1 - tk (D (143 + 50 * use + (k : Int)).toNat) = (D (143 + 50 * use + (k : Int)).toNat) - 10000 := by omega
                                        exact l_lg43 (l := n4 a b c e (-1 - tk (D (143 + 50 * use + (k : Int)).toNat)).toNat :: l) hv0 (k + 1) ((k : Int) + 1) _ (by omega) (by simp only [List.length_cons]; omega) (by rw [evN, hev]; simp only [evT]; rw [if_pos (by omega), if_neg (by omega), ez]) (by rw [us_eq, e1]; exact hst.push) hu hL hC hD hN hf2 (by omega))))))
                 · first
                   | (exfalso; omega)
                   | (refine w_ldI rfl rfl ?_
                      refine w_push rfl ?_
                      refine w_crLt rfl (by omega) (by omega) (fun b42 => ?_) (fun b42 => ?_)
                      · first
                        | (exfalso; omega)
                        | (refine w_ldI rfl rfl ?_
                           refine w_push rfl ?_
                           refine w_crGe rfl (by omega) (by omega) (fun b67 => ?_) (fun b67 => ?_)
                           · first
                             | (exfalso; omega)
                             | (refine w_inc_8_6 rfl rfl ?_
                                refine w_go rfl ?_
                                first
                                | (rcases l with _ | ⟨y, r⟩
                                   · exfalso; simp at hhl; omega
                                   · have e1 : (hh - 1).toNat = r.length := by simp at hhl; omega
                                     have hf2 : Fr [46] s0 (us s 46 (hh - 1).toNat 1) := hf.tr (Fr.us rfl)
                                     have hw : w32 y = 0 := by have := hst.1; rw [e1, this] at b31; exact b31
                                     exact l_lg43 (l := 1 :: r) hv0 (k + 1) ((k : Int) + 1) _ (by omega) (by simp only [List.length_cons]; omega) (by rw [evN, hev]; simp only [evT]; rw [if_neg (by omega), if_pos (by omega), if_pos hw]) (by rw [us_eq, e1]; exact hst.2.push) hu hL hC hD hN hf2 (by omega))
                                | (rcases l with _ | ⟨y, r⟩
                                   · exfalso; simp at hhl; omega
                                   · have e1 : (hh - 1).toNat = r.length := by simp at hhl; omega
                                     have hf2 : Fr [46] s0 (us s 46 (hh - 1).toNat 0) := hf.tr (Fr.us rfl)
                                     have hw : ¬ w32 y = 0 := by have := hst.1; rw [e1, this] at b31; exact b31
                                     exact l_lg43 (l := 0 :: r) hv0 (k + 1) ((k : Int) + 1) _ (by omega) (by simp only [List.length_cons]; omega) (by rw [evN, hev]; simp only [evT]; rw [if_neg (by omega), if_pos (by omega), if_neg hw]) (by rw [us_eq, e1]; exact hst.2.push) hu hL hC hD hN hf2 (by omega))
                                | (rcases l with _ | ⟨y, r⟩
                                   · exfalso; simp at hhl; omega
                                   · rcases r with _ | ⟨x, r⟩
                                     · exfalso; simp at hhl; omega
                                     · have e1 : (hh + -1 - 1).toNat = r.length := by simp at hhl; omega
                                       have e2 : (hh + -1).toNat = r.length + 1 := by simp at hhl; omega
                                       have g1 : s 46 (hh + -1).toNat = y := by rw [e2]; exact hst.1
                                       have g2 : s 46 (hh + -1 - 1).toNat = x := by rw [e1]; exact hst.2.1
                                       rw [g1, g2]
                                       have hf2 : Fr [46] s0 (us s 46 (hh + -1 - 1).toNat (doneV (tk (D (143 + 50 * use + (k : Int)).toNat) - 10000) x y)) := hf.tr (Fr.us rfl)
                                       have ez : tk (D (143 + 50 * use + (k : Int)).toNat) - 10000 = (D (143 + 50 * use + (k : Int)).toNat) - 20000 := by omega
                                       exact l_lg43 (l := doneV (tk (D (143 + 50 * use + (k : Int)).toNat) - 10000) x y :: r) hv0 (k + 1) ((k : Int) + 1) _ (by omega) (by simp only [List.length_cons]; omega) (by rw [evN, hev]; simp only [evT]; rw [if_neg (by omega), if_neg (by omega), ez]) (by rw [us_eq, e1]; exact hst.2.2.push) hu hL hC hD hN hf2 (by omega))
                                | (have e1 : hh.toNat = l.length := by omega
                                   have hf2 : Fr [46] s0 (us s 46 hh.toNat (tk (D (143 + 50 * use + (k : Int)).toNat))) := hf.tr (Fr.us rfl)
                                   have ez : tk (D (143 + 50 * use + (k : Int)).toNat) = (D (143 + 50 * use + (k : Int)).toNat) := by omega
                                   exact l_lg43 (l := tk (D (143 + 50 * use + (k : Int)).toNat) :: l) hv0 (k + 1) ((k : Int) + 1) _ (by omega) (by simp only [List.length_cons]; omega) (by rw [evN, hev]; simp only [evT]; rw [if_pos (by omega), if_pos (by omega), ez]) (by rw [us_eq, e1]; exact hst.push) hu hL hC hD hN hf2 (by omega))
                                | (have e1 : hh.toNat = l.length := by omega
                                   have hf2 : Fr [46] s0 (us s 46 hh.toNat (n4 a b c e (-1 - tk (D (143 + 50 * use + (k : Int)).toNat)).toNat)) := hf.tr (Fr.us rfl)
                                   have ez : -1 - tk (D (143 + 50 * use + (k : Int)).toNat) = (D (143 + 50 * use + (k : Int)).toNat) - 10000 := by omega
                                   exact l_lg43 (l := n4 a b c e (-1 - tk (D (143 + 50 * use + (k : Int)).toNat)).toNat :: l) hv0 (k + 1) ((k : Int) + 1) _ (by omega) (by simp only [List.length_cons]; omega) (by rw [evN, hev]; simp only [evT]; rw [if_pos (by omega), if_neg (by omega), ez]) (by rw [us_eq, e1]; exact hst.push) hu hL hC hD hN hf2 (by omega)))
                           · first
                             | (exfalso; omega)
                             | (refine w_ldI rfl rfl ?_
                                refine w_ldR rfl rfl rfl ?_
                                first | refine w_getI rfl rfl rfl rfl rfl ?_ | refine w_getR rfl rfl rfl rfl rfl ?_
                                refine w_alen rfl rfl rfl ?_
                                refine w_crGe rfl (by omega) (by omega) (fun b72 => ?_) (fun b72 => ?_)
                                · first
                                  | (exfalso; omega)
                                  | (refine w_inc_8_6 rfl rfl ?_
                                     refine w_go rfl ?_
                                     first
                                     | (rcases l with _ | ⟨y, r⟩
                                        · exfalso; simp at hhl; omega
                                        · have e1 : (hh - 1).toNat = r.length := by simp at hhl; omega
                                          have hf2 : Fr [46] s0 (us s 46 (hh - 1).toNat 1) := hf.tr (Fr.us rfl)
                                          have hw : w32 y = 0 := by have := hst.1; rw [e1, this] at b31; exact b31
                                          exact l_lg43 (l := 1 :: r) hv0 (k + 1) ((k : Int) + 1) _ (by omega) (by simp only [List.length_cons]; omega) (by rw [evN, hev]; simp only [evT]; rw [if_neg (by omega), if_pos (by omega), if_pos hw]) (by rw [us_eq, e1]; exact hst.2.push) hu hL hC hD hN hf2 (by omega))
                                     | (rcases l with _ | ⟨y, r⟩
                                        · exfalso; simp at hhl; omega
                                        · have e1 : (hh - 1).toNat = r.length := by simp at hhl; omega
                                          have hf2 : Fr [46] s0 (us s 46 (hh - 1).toNat 0) := hf.tr (Fr.us rfl)
                                          have hw : ¬ w32 y = 0 := by have := hst.1; rw [e1, this] at b31; exact b31
                                          exact l_lg43 (l := 0 :: r) hv0 (k + 1) ((k : Int) + 1) _ (by omega) (by simp only [List.length_cons]; omega) (by rw [evN, hev]; simp only [evT]; rw [if_neg (by omega), if_pos (by omega), if_neg hw]) (by rw [us_eq, e1]; exact hst.2.push) hu hL hC hD hN hf2 (by omega))
                                     | (rcases l with _ | ⟨y, r⟩
                                        · exfalso; simp at hhl; omega
                                        · rcases r with _ | ⟨x, r⟩
                                          · exfalso; simp at hhl; omega
                                          · have e1 : (hh + -1 - 1).toNat = r.length := by simp at hhl; omega
                                            have e2 : (hh + -1).toNat = r.length + 1 := by simp at hhl; omega
                                            have g1 : s 46 (hh + -1).toNat = y := by rw [e2]; exact hst.1
                                            have g2 : s 46 (hh + -1 - 1).toNat = x := by rw [e1]; exact hst.2.1
                                            rw [g1, g2]
                                            have hf2 : Fr [46] s0 (us s 46 (hh + -1 - 1).toNat (doneV (tk (D (143 + 50 * use + (k : Int)).toNat) - 10000) x y)) := hf.tr (Fr.us rfl)
                                            have ez : tk (D (143 + 50 * use + (k : Int)).toNat) - 10000 = (D (143 + 50 * use + (k : Int)).toNat) - 20000 := by omega
                                            exact l_lg43 (l := doneV (tk (D (143 + 50 * use + (k : Int)).toNat) - 10000) x y :: r) hv0 (k + 1) ((k : Int) + 1) _ (by omega) (by simp only [List.length_cons]; omega) (by rw [evN, hev]; simp only [evT]; rw [if_neg (by omega), if_neg (by omega), ez]) (by rw [us_eq, e1]; exact hst.2.2.push) hu hL hC hD hN hf2 (by omega))
                                     | (have e1 : hh.toNat = l.length := by omega
                                        have hf2 : Fr [46] s0 (us s 46 hh.toNat (tk (D (143 + 50 * use + (k : Int)).toNat))) := hf.tr (Fr.us rfl)
                                        have ez : tk (D (143 + 50 * use + (k : Int)).toNat) = (D (143 + 50 * use + (k : Int)).toNat) := by omega
                                        exact l_lg43 (l := tk (D (143 + 50 * use + (k : Int)).toNat) :: l) hv0 (k + 1) ((k : Int) + 1) _ (by omega) (by simp only [List.length_cons]; omega) (by rw [evN, hev]; simp only [evT]; rw [if_pos (by omega), if_pos (by omega), ez]) (by rw [us_eq, e1]; exact hst.push) hu hL hC hD hN hf2 (by omega))
                                     | (have e1 : hh.toNat = l.length := by omega
                                        have hf2 : Fr [46] s0 (us s 46 hh.toNat (n4 a b c e (-1 - tk (D (143 + 50 * use + (k : Int)).toNat)).toNat)) := hf.tr (Fr.us rfl)
                                        have ez : -1 - tk (D (143 + 50 * use + (k : Int)).toNat) = (D (143 + 50 * use + (k : Int)).toNat) - 10000 := by omega
                                        exact l_lg43 (l := n4 a b c e (-1 - tk (D (143 + 50 * use + (k : Int)).toNat)).toNat :: l) hv0 (k + 1) ((k : Int) + 1) _ (by omega) (by simp only [List.length_cons]; omega) (by rw [evN, hev]; simp only [evT]; rw [if_pos (by omega), if_neg (by omega), ez]) (by rw [us_eq, e1]; exact hst.push) hu hL hC hD hN hf2 (by omega)))
                                · first
                                  | (exfalso; omega)
                                  | (refine w_ldR rfl rfl rfl ?_
                                     first | refine w_getI rfl rfl rfl rfl rfl ?_ | refine w_getR rfl rfl rfl rfl rfl ?_
                                     refine w_ldI rfl rfl ?_
                                     refine w_ldI rfl rfl ?_
                                     refine w_irGe0 rfl (by omega) (fun b77 => ?_) (fun b77 => ?_)
                                     · first
                                       | (exfalso; omega)
                                       | (refine w_ldI rfl rfl ?_
                                          refine w_ast rfl rfl rfl (by omega) rfl ?_
                                          refine w_inc_8_5 rfl rfl ?_
                                          refine w_inc_8_6 rfl rfl ?_
                                          refine w_go rfl ?_
                                          first
                                          | (rcases l with _ | ⟨y, r⟩
                                             · exfalso; simp at hhl; omega
                                             · have e1 : (hh - 1).toNat = r.length := by simp at hhl; omega
                                               have hf2 : Fr [46] s0 (us s 46 (hh - 1).toNat 1) := hf.tr (Fr.us rfl)
                                               have hw : w32 y = 0 := by have := hst.1; rw [e1, this] at b31; exact b31
                                               exact l_lg43 (l := 1 :: r) hv0 (k + 1) ((k : Int) + 1) _ (by omega) (by simp only [List.length_cons]; omega) (by rw [evN, hev]; simp only [evT]; rw [if_neg (by omega), if_pos (by omega), if_pos hw]) (by rw [us_eq, e1]; exact hst.2.push) hu hL hC hD hN hf2 (by omega))
                                          | (rcases l with _ | ⟨y, r⟩
                                             · exfalso; simp at hhl; omega
                                             · have e1 : (hh - 1).toNat = r.length := by simp at hhl; omega
                                               have hf2 : Fr [46] s0 (us s 46 (hh - 1).toNat 0) := hf.tr (Fr.us rfl)
                                               have hw : ¬ w32 y = 0 := by have := hst.1; rw [e1, this] at b31; exact b31
                                               exact l_lg43 (l := 0 :: r) hv0 (k + 1) ((k : Int) + 1) _ (by omega) (by simp only [List.length_cons]; omega) (by rw [evN, hev]; simp only [evT]; rw [if_neg (by omega), if_pos (by omega), if_neg hw]) (by rw [us_eq, e1]; exact hst.2.push) hu hL hC hD hN hf2 (by omega))
                                          | (rcases l with _ | ⟨y, r⟩
                                             · exfalso; simp at hhl; omega
                                             · rcases r with _ | ⟨x, r⟩
                                               · exfalso; simp at hhl; omega
                                               · have e1 : (hh + -1 - 1).toNat = r.length := by simp at hhl; omega
                                                 have e2 : (hh + -1).toNat = r.length + 1 := by simp at hhl; omega
                                                 have g1 : s 46 (hh + -1).toNat = y := by rw [e2]; exact hst.1
                                                 have g2 : s 46 (hh + -1 - 1).toNat = x := by rw [e1]; exact hst.2.1
                                                 rw [g1, g2]
                                                 have hf2 : Fr [46] s0 (us s 46 (hh + -1 - 1).toNat (doneV (tk (D (143 + 50 * use + (k : Int)).toNat) - 10000) x y)) := hf.tr (Fr.us rfl)
                                                 have ez : tk (D (143 + 50 * use + (k : Int)).toNat) - 10000 = (D (143 + 50 * use + (k : Int)).toNat) - 20000 := by omega
                                                 exact l_lg43 (l := doneV (tk (D (143 + 50 * use + (k : Int)).toNat) - 10000) x y :: r) hv0 (k + 1) ((k : Int) + 1) _ (by omega) (by simp only [List.length_cons]; omega) (by rw [evN, hev]; simp only [evT]; rw [if_neg (by omega), if_neg (by omega), ez]) (by rw [us_eq, e1]; exact hst.2.2.push) hu hL hC hD hN hf2 (by omega))
                                          | (have e1 : hh.toNat = l.length := by omega
                                             have hf2 : Fr [46] s0 (us s 46 hh.toNat (tk (D (143 + 50 * use + (k : Int)).toNat))) := hf.tr (Fr.us rfl)
                                             have ez : tk (D (143 + 50 * use + (k : Int)).toNat) = (D (143 + 50 * use + (k : Int)).toNat) := by omega
                                             exact l_lg43 (l := tk (D (143 + 50 * use + (k : Int)).toNat) :: l) hv0 (k + 1) ((k : Int) + 1) _ (by omega) (by simp only [List.length_cons]; omega) (by rw [evN, hev]; simp only [evT]; rw [if_pos (by omega), if_pos (by omega), ez]) (by rw [us_eq, e1]; exact hst.push) hu hL hC hD hN hf2 (by omega))
                                          | (have e1 : hh.toNat = l.length := by omega
                                             have hf2 : Fr [46] s0 (us s 46 hh.toNat (n4 a b c e (-1 - tk (D (143 + 50 * use + (k : Int)).toNat)).toNat)) := hf.tr (Fr.us rfl)
                                             have ez : -1 - tk (D (143 + 50 * use + (k : Int)).toNat) = (D (143 + 50 * use + (k : Int)).toNat) - 10000 := by omega
                                             exact l_lg43 (l := n4 a b c e (-1 - tk (D (143 + 50 * use + (k : Int)).toNat)).toNat :: l) hv0 (k + 1) ((k : Int) + 1) _ (by omega) (by simp only [List.length_cons]; omega) (by rw [evN, hev]; simp only [evT]; rw [if_pos (by omega), if_neg (by omega), ez]) (by rw [us_eq, e1]; exact hst.push) hu hL hC hD hN hf2 (by omega)))
                                     · first
                                       | (exfalso; omega)
                                       | (refine w_push rfl ?_
                                          refine w_ldI rfl rfl ?_
                                          refine w_sub rfl ?_
                                          refine w_ldI rfl rfl ?_
                                          refine w_ldI rfl rfl ?_
                                          refine w_ldI rfl rfl ?_
                                          refine w_ldI rfl rfl ?_
                                          refine w_call rfl rfl rfl (k_named (by omega)) ?_
                                          refine w_go rfl ?_
                                          refine w_ast rfl rfl rfl (by omega) rfl ?_
                                          refine w_inc_8_5 rfl rfl ?_
                                          refine w_inc_8_6 rfl rfl ?_
                                          refine w_go rfl ?_
                                          first
                                          | (rcases l with _ | ⟨y, r⟩
                                             · exfalso; simp at hhl; omega
                                             · have e1 : (hh - 1).toNat = r.length := by simp at hhl; omega
                                               have hf2 : Fr [46] s0 (us s 46 (hh - 1).toNat 1) := hf.tr (Fr.us rfl)
                                               have hw : w32 y = 0 := by have := hst.1; rw [e1, this] at b31; exact b31
                                               exact l_lg43 (l := 1 :: r) hv0 (k + 1) ((k : Int) + 1) _ (by omega) (by simp only [List.length_cons]; omega) (by rw [evN, hev]; simp only [evT]; rw [if_neg (by omega), if_pos (by omega), if_pos hw]) (by rw [us_eq, e1]; exact hst.2.push) hu hL hC hD hN hf2 (by omega))
                                          | (rcases l with _ | ⟨y, r⟩
                                             · exfalso; simp at hhl; omega
                                             · have e1 : (hh - 1).toNat = r.length := by simp at hhl; omega
                                               have hf2 : Fr [46] s0 (us s 46 (hh - 1).toNat 0) := hf.tr (Fr.us rfl)
                                               have hw : ¬ w32 y = 0 := by have := hst.1; rw [e1, this] at b31; exact b31
                                               exact l_lg43 (l := 0 :: r) hv0 (k + 1) ((k : Int) + 1) _ (by omega) (by simp only [List.length_cons]; omega) (by rw [evN, hev]; simp only [evT]; rw [if_neg (by omega), if_pos (by omega), if_neg hw]) (by rw [us_eq, e1]; exact hst.2.push) hu hL hC hD hN hf2 (by omega))
                                          | (rcases l with _ | ⟨y, r⟩
                                             · exfalso; simp at hhl; omega
                                             · rcases r with _ | ⟨x, r⟩
                                               · exfalso; simp at hhl; omega
                                               · have e1 : (hh + -1 - 1).toNat = r.length := by simp at hhl; omega
                                                 have e2 : (hh + -1).toNat = r.length + 1 := by simp at hhl; omega
                                                 have g1 : s 46 (hh + -1).toNat = y := by rw [e2]; exact hst.1
                                                 have g2 : s 46 (hh + -1 - 1).toNat = x := by rw [e1]; exact hst.2.1
                                                 rw [g1, g2]
                                                 have hf2 : Fr [46] s0 (us s 46 (hh + -1 - 1).toNat (doneV (tk (D (143 + 50 * use + (k : Int)).toNat) - 10000) x y)) := hf.tr (Fr.us rfl)
                                                 have ez : tk (D (143 + 50 * use + (k : Int)).toNat) - 10000 = (D (143 + 50 * use + (k : Int)).toNat) - 20000 := by omega
                                                 exact l_lg43 (l := doneV (tk (D (143 + 50 * use + (k : Int)).toNat) - 10000) x y :: r) hv0 (k + 1) ((k : Int) + 1) _ (by omega) (by simp only [List.length_cons]; omega) (by rw [evN, hev]; simp only [evT]; rw [if_neg (by omega), if_neg (by omega), ez]) (by rw [us_eq, e1]; exact hst.2.2.push) hu hL hC hD hN hf2 (by omega))
                                          | (have e1 : hh.toNat = l.length := by omega
                                             have hf2 : Fr [46] s0 (us s 46 hh.toNat (tk (D (143 + 50 * use + (k : Int)).toNat))) := hf.tr (Fr.us rfl)
                                             have ez : tk (D (143 + 50 * use + (k : Int)).toNat) = (D (143 + 50 * use + (k : Int)).toNat) := by omega
                                             exact l_lg43 (l := tk (D (143 + 50 * use + (k : Int)).toNat) :: l) hv0 (k + 1) ((k : Int) + 1) _ (by omega) (by simp only [List.length_cons]; omega) (by rw [evN, hev]; simp only [evT]; rw [if_pos (by omega), if_pos (by omega), ez]) (by rw [us_eq, e1]; exact hst.push) hu hL hC hD hN hf2 (by omega))
                                          | (have e1 : hh.toNat = l.length := by omega
                                             have hf2 : Fr [46] s0 (us s 46 hh.toNat (n4 a b c e (-1 - tk (D (143 + 50 * use + (k : Int)).toNat)).toNat)) := hf.tr (Fr.us rfl)
                                             have ez : -1 - tk (D (143 + 50 * use + (k : Int)).toNat) = (D (143 + 50 * use + (k : Int)).toNat) - 10000 := by omega
                                             exact l_lg43 (l := n4 a b c e (-1 - tk (D (143 + 50 * use + (k : Int)).toNat)).toNat :: l) hv0 (k + 1) ((k : Int) + 1) _ (by omega) (by simp only [List.length_cons]; omega) (by rw [evN, hev]; simp only [evT]; rw [if_pos (by omega), if_neg (by omega), ez]) (by rw [us_eq, e1]; exact hst.push) hu hL hC hD hN hf2 (by omega))))))
                      · first
                        | (exfalso; omega)
                        | (refine w_inc_8_5 rfl rfl ?_
                           refine w_ldR rfl rfl rfl ?_
                           first | refine w_getI rfl rfl rfl rfl rfl ?_ | refine w_getR rfl rfl rfl rfl rfl ?_
                           refine w_ldI rfl rfl ?_
                           refine w_push rfl ?_
                           refine w_sub rfl ?_
                           refine w_ldI rfl rfl ?_
                           refine w_push rfl ?_
                           refine w_sub rfl ?_
                           refine w_ldR rfl rfl rfl ?_
                           first | refine w_getI rfl rfl rfl rfl rfl ?_ | refine w_getR rfl rfl rfl rfl rfl ?_
                           refine w_ldI rfl rfl ?_
                           refine w_push rfl ?_
                           refine w_sub rfl ?_
                           refine w_ald rfl rfl rfl (by omega) rfl ?_
                           refine w_ldR rfl rfl rfl ?_
                           first | refine w_getI rfl rfl rfl rfl rfl ?_ | refine w_getR rfl rfl rfl rfl rfl ?_
                           refine w_ldI rfl rfl ?_
                           refine w_ald rfl rfl rfl (by omega) rfl ?_
                           refine w_call rfl rfl rfl (k_joined (by omega)) ?_
                           refine w_ast rfl rfl rfl (by omega) rfl ?_
                           refine w_go rfl ?_
                           refine w_inc_8_6 rfl rfl ?_
                           refine w_go rfl ?_
                           first
                           | (rcases l with _ | ⟨y, r⟩
                              · exfalso; simp at hhl; omega
                              · have e1 : (hh - 1).toNat = r.length := by simp at hhl; omega
                                have hf2 : Fr [46] s0 (us s 46 (hh - 1).toNat 1) := hf.tr (Fr.us rfl)
                                have hw : w32 y = 0 := by have := hst.1; rw [e1, this] at b31; exact b31
                                exact l_lg43 (l := 1 :: r) hv0 (k + 1) ((k : Int) + 1) _ (by omega) (by simp only [List.length_cons]; omega) (by rw [evN, hev]; simp only [evT]; rw [if_neg (by omega), if_pos (by omega), if_pos hw]) (by rw [us_eq, e1]; exact hst.2.push) hu hL hC hD hN hf2 (by omega))
                           | (rcases l with _ | ⟨y, r⟩
                              · exfalso; simp at hhl; omega
                              · have e1 : (hh - 1).toNat = r.length := by simp at hhl; omega
                                have hf2 : Fr [46] s0 (us s 46 (hh - 1).toNat 0) := hf.tr (Fr.us rfl)
                                have hw : ¬ w32 y = 0 := by have := hst.1; rw [e1, this] at b31; exact b31
                                exact l_lg43 (l := 0 :: r) hv0 (k + 1) ((k : Int) + 1) _ (by omega) (by simp only [List.length_cons]; omega) (by rw [evN, hev]; simp only [evT]; rw [if_neg (by omega), if_pos (by omega), if_neg hw]) (by rw [us_eq, e1]; exact hst.2.push) hu hL hC hD hN hf2 (by omega))
                           | (rcases l with _ | ⟨y, r⟩
                              · exfalso; simp at hhl; omega
                              · rcases r with _ | ⟨x, r⟩
                                · exfalso; simp at hhl; omega
                                · have e1 : (hh + -1 - 1).toNat = r.length := by simp at hhl; omega
                                  have e2 : (hh + -1).toNat = r.length + 1 := by simp at hhl; omega
                                  have g1 : s 46 (hh + -1).toNat = y := by rw [e2]; exact hst.1
                                  have g2 : s 46 (hh + -1 - 1).toNat = x := by rw [e1]; exact hst.2.1
                                  rw [g1, g2]
                                  have hf2 : Fr [46] s0 (us s 46 (hh + -1 - 1).toNat (doneV (tk (D (143 + 50 * use + (k : Int)).toNat) - 10000) x y)) := hf.tr (Fr.us rfl)
                                  have ez : tk (D (143 + 50 * use + (k : Int)).toNat) - 10000 = (D (143 + 50 * use + (k : Int)).toNat) - 20000 := by omega
                                  exact l_lg43 (l := doneV (tk (D (143 + 50 * use + (k : Int)).toNat) - 10000) x y :: r) hv0 (k + 1) ((k : Int) + 1) _ (by omega) (by simp only [List.length_cons]; omega) (by rw [evN, hev]; simp only [evT]; rw [if_neg (by omega), if_neg (by omega), ez]) (by rw [us_eq, e1]; exact hst.2.2.push) hu hL hC hD hN hf2 (by omega))
                           | (have e1 : hh.toNat = l.length := by omega
                              have hf2 : Fr [46] s0 (us s 46 hh.toNat (tk (D (143 + 50 * use + (k : Int)).toNat))) := hf.tr (Fr.us rfl)
                              have ez : tk (D (143 + 50 * use + (k : Int)).toNat) = (D (143 + 50 * use + (k : Int)).toNat) := by omega
                              exact l_lg43 (l := tk (D (143 + 50 * use + (k : Int)).toNat) :: l) hv0 (k + 1) ((k : Int) + 1) _ (by omega) (by simp only [List.length_cons]; omega) (by rw [evN, hev]; simp only [evT]; rw [if_pos (by omega), if_pos (by omega), ez]) (by rw [us_eq, e1]; exact hst.push) hu hL hC hD hN hf2 (by omega))
                           | (have e1 : hh.toNat = l.length := by omega
                              have hf2 : Fr [46] s0 (us s 46 hh.toNat (n4 a b c e (-1 - tk (D (143 + 50 * use + (k : Int)).toNat)).toNat)) := hf.tr (Fr.us rfl)
                              have ez : -1 - tk (D (143 + 50 * use + (k : Int)).toNat) = (D (143 + 50 * use + (k : Int)).toNat) - 10000 := by omega
                              exact l_lg43 (l := n4 a b c e (-1 - tk (D (143 + 50 * use + (k : Int)).toNat)).toNat :: l) hv0 (k + 1) ((k : Int) + 1) _ (by omega) (by simp only [List.length_cons]; omega) (by rw [evN, hev]; simp only [evT]; rw [if_pos (by omega), if_neg (by omega), ez]) (by rw [us_eq, e1]; exact hst.push) hu hL hC hD hN hf2 (by omega)))))
            · first
              | (exfalso; omega)
              | (refine w_ldR rfl rfl rfl ?_
                 first | refine w_getI rfl rfl rfl rfl rfl ?_ | refine w_getR rfl rfl rfl rfl rfl ?_
                 refine w_ldI rfl rfl ?_
                 refine w_push rfl ?_
                 refine w_sub rfl ?_
                 refine w_ldR rfl rfl rfl ?_
                 first | refine w_getI rfl rfl rfl rfl rfl ?_ | refine w_getR rfl rfl rfl rfl rfl ?_
                 refine w_ldI rfl rfl ?_
                 refine w_push rfl ?_
                 refine w_sub rfl ?_
                 refine w_ald rfl rfl rfl (by omega) rfl ?_
                 refine w_ifNe0 rfl (fun b31 => ?_) (fun b31 => ?_)
                 · first
                   | (exfalso; omega)
                   | (refine w_push rfl ?_
                      refine w_ast rfl rfl rfl (by omega) rfl ?_
                      refine w_go rfl ?_
                      refine w_inc_8_6 rfl rfl ?_
                      refine w_go rfl ?_
                      first
                      | (rcases l with _ | ⟨y, r⟩
                         · exfalso; simp at hhl; omega
                         · have e1 : (hh - 1).toNat = r.length := by simp at hhl; omega
                           have hf2 : Fr [46] s0 (us s 46 (hh - 1).toNat 1) := hf.tr (Fr.us rfl)
                           have hw : w32 y = 0 := by have := hst.1; rw [e1, this] at b31; exact b31
                           exact l_lg43 (l := 1 :: r) hv0 (k + 1) ((k : Int) + 1) _ (by omega) (by simp only [List.length_cons]; omega) (by rw [evN, hev]; simp only [evT]; rw [if_neg (by omega), if_pos (by omega), if_pos hw]) (by rw [us_eq, e1]; exact hst.2.push) hu hL hC hD hN hf2 (by omega))
                      | (rcases l with _ | ⟨y, r⟩
                         · exfalso; simp at hhl; omega
                         · have e1 : (hh - 1).toNat = r.length := by simp at hhl; omega
                           have hf2 : Fr [46] s0 (us s 46 (hh - 1).toNat 0) := hf.tr (Fr.us rfl)
                           have hw : ¬ w32 y = 0 := by have := hst.1; rw [e1, this] at b31; exact b31
                           exact l_lg43 (l := 0 :: r) hv0 (k + 1) ((k : Int) + 1) _ (by omega) (by simp only [List.length_cons]; omega) (by rw [evN, hev]; simp only [evT]; rw [if_neg (by omega), if_pos (by omega), if_neg hw]) (by rw [us_eq, e1]; exact hst.2.push) hu hL hC hD hN hf2 (by omega))
                      | (rcases l with _ | ⟨y, r⟩
                         · exfalso; simp at hhl; omega
                         · rcases r with _ | ⟨x, r⟩
                           · exfalso; simp at hhl; omega
                           · have e1 : (hh + -1 - 1).toNat = r.length := by simp at hhl; omega
                             have e2 : (hh + -1).toNat = r.length + 1 := by simp at hhl; omega
                             have g1 : s 46 (hh + -1).toNat = y := by rw [e2]; exact hst.1
                             have g2 : s 46 (hh + -1 - 1).toNat = x := by rw [e1]; exact hst.2.1
                             rw [g1, g2]
                             have hf2 : Fr [46] s0 (us s 46 (hh + -1 - 1).toNat (doneV (tk (D (143 + 50 * use + (k : Int)).toNat) - 10000) x y)) := hf.tr (Fr.us rfl)
                             have ez : tk (D (143 + 50 * use + (k : Int)).toNat) - 10000 = (D (143 + 50 * use + (k : Int)).toNat) - 20000 := by omega
                             exact l_lg43 (l := doneV (tk (D (143 + 50 * use + (k : Int)).toNat) - 10000) x y :: r) hv0 (k + 1) ((k : Int) + 1) _ (by omega) (by simp only [List.length_cons]; omega) (by rw [evN, hev]; simp only [evT]; rw [if_neg (by omega), if_neg (by omega), ez]) (by rw [us_eq, e1]; exact hst.2.2.push) hu hL hC hD hN hf2 (by omega))
                      | (have e1 : hh.toNat = l.length := by omega
                         have hf2 : Fr [46] s0 (us s 46 hh.toNat (tk (D (143 + 50 * use + (k : Int)).toNat))) := hf.tr (Fr.us rfl)
                         have ez : tk (D (143 + 50 * use + (k : Int)).toNat) = (D (143 + 50 * use + (k : Int)).toNat) := by omega
                         exact l_lg43 (l := tk (D (143 + 50 * use + (k : Int)).toNat) :: l) hv0 (k + 1) ((k : Int) + 1) _ (by omega) (by simp only [List.length_cons]; omega) (by rw [evN, hev]; simp only [evT]; rw [if_pos (by omega), if_pos (by omega), ez]) (by rw [us_eq, e1]; exact hst.push) hu hL hC hD hN hf2 (by omega))
                      | (have e1 : hh.toNat = l.length := by omega
                         have hf2 : Fr [46] s0 (us s 46 hh.toNat (n4 a b c e (-1 - tk (D (143 + 50 * use + (k : Int)).toNat)).toNat)) := hf.tr (Fr.us rfl)
                         have ez : -1 - tk (D (143 + 50 * use + (k : Int)).toNat) = (D (143 + 50 * use + (k : Int)).toNat) - 10000 := by omega
                         exact l_lg43 (l := n4 a b c e (-1 - tk (D (143 + 50 * use + (k : Int)).toNat)).toNat :: l) hv0 (k + 1) ((k : Int) + 1) _ (by omega) (by simp only [List.length_cons]; omega) (by rw [evN, hev]; simp only [evT]; rw [if_pos (by omega), if_neg (by omega), ez]) (by rw [us_eq, e1]; exact hst.push) hu hL hC hD hN hf2 (by omega)))
                 · first
                   | (exfalso; omega)
                   | (refine w_push rfl ?_
                      refine w_go rfl ?_
                      refine w_ast rfl rfl rfl (by omega) rfl ?_
                      refine w_go rfl ?_
                      refine w_inc_8_6 rfl rfl ?_
                      refine w_go rfl ?_
                      first
                      | (rcases l with _ | ⟨y, r⟩
                         · exfalso; simp at hhl; omega
                         · have e1 : (hh - 1).toNat = r.length := by simp at hhl; omega
                           have hf2 : Fr [46] s0 (us s 46 (hh - 1).toNat 1) := hf.tr (Fr.us rfl)
                           have hw : w32 y = 0 := by have := hst.1; rw [e1, this] at b31; exact b31
                           exact l_lg43 (l := 1 :: r) hv0 (k + 1) ((k : Int) + 1) _ (by omega) (by simp only [List.length_cons]; omega) (by rw [evN, hev]; simp only [evT]; rw [if_neg (by omega), if_pos (by omega), if_pos hw]) (by rw [us_eq, e1]; exact hst.2.push) hu hL hC hD hN hf2 (by omega))
                      | (rcases l with _ | ⟨y, r⟩
                         · exfalso; simp at hhl; omega
                         · have e1 : (hh - 1).toNat = r.length := by simp at hhl; omega
                           have hf2 : Fr [46] s0 (us s 46 (hh - 1).toNat 0) := hf.tr (Fr.us rfl)
                           have hw : ¬ w32 y = 0 := by have := hst.1; rw [e1, this] at b31; exact b31
                           exact l_lg43 (l := 0 :: r) hv0 (k + 1) ((k : Int) + 1) _ (by omega) (by simp only [List.length_cons]; omega) (by rw [evN, hev]; simp only [evT]; rw [if_neg (by omega), if_pos (by omega), if_neg hw]) (by rw [us_eq, e1]; exact hst.2.push) hu hL hC hD hN hf2 (by omega))
                      | (rcases l with _ | ⟨y, r⟩
                         · exfalso; simp at hhl; omega
                         · rcases r with _ | ⟨x, r⟩
                           · exfalso; simp at hhl; omega
                           · have e1 : (hh + -1 - 1).toNat = r.length := by simp at hhl; omega
                             have e2 : (hh + -1).toNat = r.length + 1 := by simp at hhl; omega
                             have g1 : s 46 (hh + -1).toNat = y := by rw [e2]; exact hst.1
                             have g2 : s 46 (hh + -1 - 1).toNat = x := by rw [e1]; exact hst.2.1
                             rw [g1, g2]
                             have hf2 : Fr [46] s0 (us s 46 (hh + -1 - 1).toNat (doneV (tk (D (143 + 50 * use + (k : Int)).toNat) - 10000) x y)) := hf.tr (Fr.us rfl)
                             have ez : tk (D (143 + 50 * use + (k : Int)).toNat) - 10000 = (D (143 + 50 * use + (k : Int)).toNat) - 20000 := by omega
                             exact l_lg43 (l := doneV (tk (D (143 + 50 * use + (k : Int)).toNat) - 10000) x y :: r) hv0 (k + 1) ((k : Int) + 1) _ (by omega) (by simp only [List.length_cons]; omega) (by rw [evN, hev]; simp only [evT]; rw [if_neg (by omega), if_neg (by omega), ez]) (by rw [us_eq, e1]; exact hst.2.2.push) hu hL hC hD hN hf2 (by omega))
                      | (have e1 : hh.toNat = l.length := by omega
                         have hf2 : Fr [46] s0 (us s 46 hh.toNat (tk (D (143 + 50 * use + (k : Int)).toNat))) := hf.tr (Fr.us rfl)
                         have ez : tk (D (143 + 50 * use + (k : Int)).toNat) = (D (143 + 50 * use + (k : Int)).toNat) := by omega
                         exact l_lg43 (l := tk (D (143 + 50 * use + (k : Int)).toNat) :: l) hv0 (k + 1) ((k : Int) + 1) _ (by omega) (by simp only [List.length_cons]; omega) (by rw [evN, hev]; simp only [evT]; rw [if_pos (by omega), if_pos (by omega), ez]) (by rw [us_eq, e1]; exact hst.push) hu hL hC hD hN hf2 (by omega))
                      | (have e1 : hh.toNat = l.length := by omega
                         have hf2 : Fr [46] s0 (us s 46 hh.toNat (n4 a b c e (-1 - tk (D (143 + 50 * use + (k : Int)).toNat)).toNat)) := hf.tr (Fr.us rfl)
                         have ez : -1 - tk (D (143 + 50 * use + (k : Int)).toNat) = (D (143 + 50 * use + (k : Int)).toNat) - 10000 := by omega
                         exact l_lg43 (l := n4 a b c e (-1 - tk (D (143 + 50 * use + (k : Int)).toNat)).toNat :: l) hv0 (k + 1) ((k : Int) + 1) _ (by omega) (by simp only [List.length_cons]; omega) (by rw [evN, hev]; simp only [evT]; rw [if_pos (by omega), if_neg (by omega), ez]) (by rw [us_eq, e1]; exact hst.push) hu hL hC hD hN hf2 (by omega))))))
termination_by (50 - k)
decreasing_by all_goals omega
theorem k_gives43 {d : Nat} {s : mSt} {D : Nat → Int} {use a b c e : Int} (hu : 0 ≤ use ∧ use ≤ 1) (hL : LwR s 43 D use) (hC : COk D) : CI (d + 1) 49 [.inr (.inr 43), .inl a, .inl b, .inl c, .inl e] (s) (fun v s1 => v = gv D use a b c e ∧ Fr [46] s s1) := by
  refine CI.mk rfl ?_
  show WP (d + 1) 49 0 [some (.inr (.inr 43)), some (.inl a), some (.inl b), some (.inl c), some (.inl e), none, none, none] [] (encA (s)) _
  refine w_push rfl ?_
  refine w_StI_8_5 rfl rfl ?_
  refine w_push rfl ?_
  refine w_StI_8_6 rfl rfl ?_
  have hcc := hC.at hu
  exact l_lg43 (l := []) (fun s1 hf => ⟨rfl, hf⟩) 0 0 0 rfl rfl rfl trivial hu hL hcc trivial trivial Fr.rf (by have := hcc.1; omega)
theorem k_without111 {d : Nat} {s : mSt} {a b use : Int} (hu : s 111 0 = use) (hu1 : 0 ≤ use ∧ use ≤ 1) : Call (d + 0) 50 [.inr (.inr 111), .inl a, .inl b] (encA (s)) (some (.inl (if use = 0 then a + b else a))) (encA (s)) := by
  refine CI.ex (CI.mk rfl ?_)
  show WP (d + 0) 50 0 [some (.inr (.inr 111)), some (.inl a), some (.inl b)] [] (encA (s)) _
  refine w_ldR rfl rfl rfl ?_
  first | refine w_getI rfl rfl rfl rfl rfl ?_ | refine w_getR rfl rfl rfl rfl rfl ?_
  refine w_irNe0 rfl (by omega) (fun b2 => ?_) (fun b2 => ?_)
  · first
    | (exfalso; omega)
    | (refine w_ldI rfl rfl ?_
       refine w_retI rfl ?_
       refine ⟨?_, rfl⟩
       first | rw [if_pos (by omega)] | rw [if_neg (by omega)])
  · first
    | (exfalso; omega)
    | (refine w_ldI rfl rfl ?_
       refine w_ldI rfl rfl ?_
       refine w_add rfl ?_
       refine w_go rfl ?_
       refine w_retI rfl ?_
       refine ⟨?_, rfl⟩
       first | rw [if_pos (by omega)] | rw [if_neg (by omega)])
theorem l_lg111 {d : Nat} {s : mSt} {P : Int → mSt → Prop} {D : Nat → Int} {use a b c e : Int} {l : List Int} {x7 : Option mAV} {s0 : mSt} (hv0 : ∀ s1, Fr [114] s0 s1 → P (gv D use a b c e) s1) (k : Nat) (i hh : Int) (hi : i = (k : Int)) (hhl : hh = (l.length : Int)) (hev : evN (n4 a b c e) D (143 + 50 * use) k = l) (hst : Stk l (s 114)) (hu : 0 ≤ use ∧ use ≤ 1) (hL : LwR s0 111 D use) (hC : CodeOk D (143 + 50 * use) (D (121 + use).toNat)) (hD : True) (hN : True) (hf : Fr [114] s0 s) (hk : (k : Int) ≤ D (121 + use).toNat) : WP (d + 1) 49 4 [some (.inr (.inr 111)), some (.inl a), some (.inl b), some (.inl c), some (.inl e), some (.inl hh), some (.inl i), x7] [] (encA (s)) (QI P) := by
  subst hi
  have hlen := evN_len (nm := n4 a b c e) hC k hk
  rw [hev] at hlen
  have hle := hgt_le D (143 + 50 * use) k
  have hcn := hC.1
  have hc := hC.2 k
  have hsz : s 112 1 = D (121 + use).toNat := (congrFun (hf.at 112 rfl) 1).trans hL.2.1
  have htk : ∀ t : Int, (t < 10000 ∧ tk t = t) ∨ (10000 ≤ t ∧ t < 20000 ∧ tk t = 9999 - t) ∨ (20000 ≤ t ∧ tk t = t - 10000) := fun t => by unfold tk; split; (exact Or.inl ⟨by omega, rfl⟩); split; (exact Or.inr (Or.inl ⟨by omega, by omega, rfl⟩)); (exact Or.inr (Or.inr ⟨by omega, rfl⟩))
  have ht := htk (D (143 + 50 * use + (k : Int)).toNat)
  refine w_ldI rfl rfl ?_
  refine w_ldR rfl rfl rfl ?_
  first | refine w_getI rfl rfl rfl rfl rfl ?_ | refine w_getR rfl rfl rfl rfl rfl ?_
  first | refine w_getI rfl rfl rfl rfl rfl ?_ | refine w_getR rfl rfl rfl rfl rfl ?_
  refine w_crGe rfl (by omega) (by omega) (fun b8 => ?_) (fun b8 => ?_)
  · first
    | (exfalso; omega)
    | (refine w_ldI rfl rfl ?_
       refine w_irLe0 rfl (by omega) (fun b93 => ?_) (fun b93 => ?_)
       · first
         | (exfalso; omega)
         | (refine w_ldR rfl rfl rfl ?_
            refine w_ldI rfl rfl ?_
            refine w_ldI rfl rfl ?_
            refine w_callV rfl rfl rfl rfl rfl rfl rfl (k_without111 (use := use) ((congrFun (hf.at 111 rfl) 0).trans hL.1) hu) ?_
            refine w_StI_8_6 rfl rfl ?_
            refine w_push rfl ?_
            refine w_push rfl ?_
            refine w_ldI rfl rfl ?_
            refine w_m2 rfl rfl ?_
            refine w_m2 rfl rfl ?_
            refine w_retI rfl ?_
            rw [mm_hld]
            have hp := hgt_pos hC k
            have hk2 : (k : Int) = D (121 + use).toNat := by omega
            have e0 : (D (121 + use).toNat).toNat = k := by omega
            have hfin := hv0 s hf
            unfold gv at hfin
            rw [e0, hev] at hfin
            first
            | (rw [if_pos (by omega), hst.bot (by omega)] at hfin; exact hfin)
            | (rw [if_neg (by omega)] at hfin; exact hfin))
       · first
         | (exfalso; omega)
         | (refine w_ldR rfl rfl rfl ?_
            first | refine w_getI rfl rfl rfl rfl rfl ?_ | refine w_getR rfl rfl rfl rfl rfl ?_
            refine w_push rfl ?_
            refine w_aldk 0 rfl rfl rfl rfl rfl rfl ?_
            refine w_go rfl ?_
            refine w_StI_8_6 rfl rfl ?_
            refine w_push rfl ?_
            refine w_push rfl ?_
            refine w_ldI rfl rfl ?_
            refine w_m2 rfl rfl ?_
            refine w_m2 rfl rfl ?_
            refine w_retI rfl ?_
            rw [mm_hld]
            have hp := hgt_pos hC k
            have hk2 : (k : Int) = D (121 + use).toNat := by omega
            have e0 : (D (121 + use).toNat).toNat = k := by omega
            have hfin := hv0 s hf
            unfold gv at hfin
            rw [e0, hev] at hfin
            first
            | (rw [if_pos (by omega), hst.bot (by omega)] at hfin; exact hfin)
            | (rw [if_neg (by omega)] at hfin; exact hfin)))
  · first
    | (exfalso; omega)
    | (have hc := hc (by omega)
       refine w_ldR rfl rfl rfl ?_
       first | refine w_getI rfl rfl rfl rfl rfl ?_ | refine w_getR rfl rfl rfl rfl rfl ?_
       refine w_ldI rfl rfl ?_
       refine w_callV rfl rfl rfl rfl rfl rfl rfl (k_at112 (by omega) (by omega)) ?_
       rw [show rowAt s 112 (k : Int) = tk (D (143 + 50 * use + (k : Int)).toNat) by unfold rowAt; rw [if_pos (by omega)]; exact (congrFun (hf.at 113 rfl) _).trans (hL.2.2 k (by omega) (by omega) (by omega))]
       refine w_StI_8_7 rfl rfl ?_
       refine w_ldI rfl rfl ?_
       refine w_push rfl ?_
       refine w_crNe rfl (by omega) (by omega) (fun b16 => ?_) (fun b16 => ?_)
       · first
         | (exfalso; omega)
         | (refine w_ldI rfl rfl ?_
            refine w_push rfl ?_
            refine w_crLe rfl (by omega) (by omega) (fun b39 => ?_) (fun b39 => ?_)
            · first
              | (exfalso; omega)
              | (refine w_ldI rfl rfl ?_
                 refine w_push rfl ?_
                 refine w_crGe rfl (by omega) (by omega) (fun b67 => ?_) (fun b67 => ?_)
                 · first
                   | (exfalso; omega)
                   | (refine w_inc_8_6 rfl rfl ?_
                      refine w_go rfl ?_
                      first
                      | (rcases l with _ | ⟨y, r⟩
                         · exfalso; simp at hhl; omega
                         · have e1 : (hh - 1).toNat = r.length := by simp at hhl; omega
                           have hf2 : Fr [114] s0 (us s 114 (hh - 1).toNat 1) := hf.tr (Fr.us rfl)
                           have hw : w32 y = 0 := by have := hst.1; rw [e1, this] at b31; exact b31
                           exact l_lg111 (l := 1 :: r) hv0 (k + 1) ((k : Int) + 1) _ (by omega) (by simp only [List.length_cons]; omega) (by rw [evN, hev]; simp only [evT]; rw [if_neg (by omega), if_pos (by omega), if_pos hw]) (by rw [us_eq, e1]; exact hst.2.push) hu hL hC hD hN hf2 (by omega))
                      | (rcases l with _ | ⟨y, r⟩
                         · exfalso; simp at hhl; omega
                         · have e1 : (hh - 1).toNat = r.length := by simp at hhl; omega
                           have hf2 : Fr [114] s0 (us s 114 (hh - 1).toNat 0) := hf.tr (Fr.us rfl)
                           have hw : ¬ w32 y = 0 := by have := hst.1; rw [e1, this] at b31; exact b31
                           exact l_lg111 (l := 0 :: r) hv0 (k + 1) ((k : Int) + 1) _ (by omega) (by simp only [List.length_cons]; omega) (by rw [evN, hev]; simp only [evT]; rw [if_neg (by omega), if_pos (by omega), if_neg hw]) (by rw [us_eq, e1]; exact hst.2.push) hu hL hC hD hN hf2 (by omega))
                      | (rcases l with _ | ⟨y, r⟩
                         · exfalso; simp at hhl; omega
                         · rcases r with _ | ⟨x, r⟩
                           · exfalso; simp at hhl; omega
                           · have e1 : (hh + -1 - 1).toNat = r.length := by simp at hhl; omega
                             have e2 : (hh + -1).toNat = r.length + 1 := by simp at hhl; omega
                             have g1 : s 114 (hh + -1).toNat = y := by rw [e2]; exact hst.1
                             have g2 : s 114 (hh + -1 - 1).toNat = x := by rw [e1]; exact hst.2.1
                             rw [g1, g2]
                             have hf2 : Fr [114] s0 (us s 114 (hh + -1 - 1).toNat (doneV (tk (D (143 + 50 * use + (k : Int)).toNat) - 10000) x y)) := hf.tr (Fr.us rfl)
                             have ez : tk (D (143 + 50 * use + (k : Int)).toNat) - 10000 = (D (143 + 50 * use + (k : Int)).toNat) - 20000 := by omega
                             exact l_lg111 (l := doneV (tk (D (143 + 50 * use + (k : Int)).toNat) - 10000) x y :: r) hv0 (k + 1) ((k : Int) + 1) _ (by omega) (by simp only [List.length_cons]; omega) (by rw [evN, hev]; simp only [evT]; rw [if_neg (by omega), if_neg (by omega), ez]) (by rw [us_eq, e1]; exact hst.2.2.push) hu hL hC hD hN hf2 (by omega))
                      | (have e1 : hh.toNat = l.length := by omega
                         have hf2 : Fr [114] s0 (us s 114 hh.toNat (tk (D (143 + 50 * use + (k : Int)).toNat))) := hf.tr (Fr.us rfl)
                         have ez : tk (D (143 + 50 * use + (k : Int)).toNat) = (D (143 + 50 * use + (k : Int)).toNat) := by omega
                         exact l_lg111 (l := tk (D (143 + 50 * use + (k : Int)).toNat) :: l) hv0 (k + 1) ((k : Int) + 1) _ (by omega) (by simp only [List.length_cons]; omega) (by rw [evN, hev]; simp only [evT]; rw [if_pos (by omega), if_pos (by omega), ez]) (by rw [us_eq, e1]; exact hst.push) hu hL hC hD hN hf2 (by omega))
                      | (have e1 : hh.toNat = l.length := by omega
                         have hf2 : Fr [114] s0 (us s 114 hh.toNat (n4 a b c e (-1 - tk (D (143 + 50 * use + (k : Int)).toNat)).toNat)) := hf.tr (Fr.us rfl)
                         have ez : -1 - tk (D (143 + 50 * use + (k : Int)).toNat) = (D (143 + 50 * use + (k : Int)).toNat) - 10000 := by omega
                         exact l_lg111 (l := n4 a b c e (-1 - tk (D (143 + 50 * use + (k : Int)).toNat)).toNat :: l) hv0 (k + 1) ((k : Int) + 1) _ (by omega) (by simp only [List.length_cons]; omega) (by rw [evN, hev]; simp only [evT]; rw [if_pos (by omega), if_neg (by omega), ez]) (by rw [us_eq, e1]; exact hst.push) hu hL hC hD hN hf2 (by omega)))
                 · first
                   | (exfalso; omega)
                   | (refine w_ldI rfl rfl ?_
                      refine w_ldR rfl rfl rfl ?_
                      first | refine w_getI rfl rfl rfl rfl rfl ?_ | refine w_getR rfl rfl rfl rfl rfl ?_
                      refine w_alen rfl rfl rfl ?_
                      refine w_crGe rfl (by omega) (by omega) (fun b72 => ?_) (fun b72 => ?_)
                      · first
                        | (exfalso; omega)
                        | (refine w_inc_8_6 rfl rfl ?_
                           refine w_go rfl ?_
                           first
                           | (rcases l with _ | ⟨y, r⟩
                              · exfalso; simp at hhl; omega
                              · have e1 : (hh - 1).toNat = r.length := by simp at hhl; omega
                                have hf2 : Fr [114] s0 (us s 114 (hh - 1).toNat 1) := hf.tr (Fr.us rfl)
                                have hw : w32 y = 0 := by have := hst.1; rw [e1, this] at b31; exact b31
                                exact l_lg111 (l := 1 :: r) hv0 (k + 1) ((k : Int) + 1) _ (by omega) (by simp only [List.length_cons]; omega) (by rw [evN, hev]; simp only [evT]; rw [if_neg (by omega), if_pos (by omega), if_pos hw]) (by rw [us_eq, e1]; exact hst.2.push) hu hL hC hD hN hf2 (by omega))
                           | (rcases l with _ | ⟨y, r⟩
                              · exfalso; simp at hhl; omega
                              · have e1 : (hh - 1).toNat = r.length := by simp at hhl; omega
                                have hf2 : Fr [114] s0 (us s 114 (hh - 1).toNat 0) := hf.tr (Fr.us rfl)
                                have hw : ¬ w32 y = 0 := by have := hst.1; rw [e1, this] at b31; exact b31
                                exact l_lg111 (l := 0 :: r) hv0 (k + 1) ((k : Int) + 1) _ (by omega) (by simp only [List.length_cons]; omega) (by rw [evN, hev]; simp only [evT]; rw [if_neg (by omega), if_pos (by omega), if_neg hw]) (by rw [us_eq, e1]; exact hst.2.push) hu hL hC hD hN hf2 (by omega))
                           | (rcases l with _ | ⟨y, r⟩
                              · exfalso; simp at hhl; omega
                              · rcases r with _ | ⟨x, r⟩
                                · exfalso; simp at hhl; omega
                                · have e1 : (hh + -1 - 1).toNat = r.length := by simp at hhl; omega
                                  have e2 : (hh + -1).toNat = r.length + 1 := by simp at hhl; omega
                                  have g1 : s 114 (hh + -1).toNat = y := by rw [e2]; exact hst.1
                                  have g2 : s 114 (hh + -1 - 1).toNat = x := by rw [e1]; exact hst.2.1
                                  rw [g1, g2]
                                  have hf2 : Fr [114] s0 (us s 114 (hh + -1 - 1).toNat (doneV (tk (D (143 + 50 * use + (k : Int)).toNat) - 10000) x y)) := hf.tr (Fr.us rfl)
                                  have ez : tk (D (143 + 50 * use + (k : Int)).toNat) - 10000 = (D (143 + 50 * use + (k : Int)).toNat) - 20000 := by omega
                                  exact l_lg111 (l := doneV (tk (D (143 + 50 * use + (k : Int)).toNat) - 10000) x y :: r) hv0 (k + 1) ((k : Int) + 1) _ (by omega) (by simp only [List.length_cons]; omega) (by rw [evN, hev]; simp only [evT]; rw [if_neg (by omega), if_neg (by omega), ez]) (by rw [us_eq, e1]; exact hst.2.2.push) hu hL hC hD hN hf2 (by omega))
                           | (have e1 : hh.toNat = l.length := by omega
                              have hf2 : Fr [114] s0 (us s 114 hh.toNat (tk (D (143 + 50 * use + (k : Int)).toNat))) := hf.tr (Fr.us rfl)
                              have ez : tk (D (143 + 50 * use + (k : Int)).toNat) = (D (143 + 50 * use + (k : Int)).toNat) := by omega
                              exact l_lg111 (l := tk (D (143 + 50 * use + (k : Int)).toNat) :: l) hv0 (k + 1) ((k : Int) + 1) _ (by omega) (by simp only [List.length_cons]; omega) (by rw [evN, hev]; simp only [evT]; rw [if_pos (by omega), if_pos (by omega), ez]) (by rw [us_eq, e1]; exact hst.push) hu hL hC hD hN hf2 (by omega))
                           | (have e1 : hh.toNat = l.length := by omega
                              have hf2 : Fr [114] s0 (us s 114 hh.toNat (n4 a b c e (-1 - tk (D (143 + 50 * use + (k : Int)).toNat)).toNat)) := hf.tr (Fr.us rfl)
                              have ez : -1 - tk (D (143 + 50 * use + (k : Int)).toNat) = (D (143 + 50 * use + (k : Int)).toNat) - 10000 := by omega
                              exact l_lg111 (l := n4 a b c e (-1 - tk (D (143 + 50 * use + (k : Int)).toNat)).toNat :: l) hv0 (k + 1) ((k : Int) + 1) _ (by omega) (by simp only [List.length_cons]; omega) (by rw [evN, hev]; simp only [evT]; rw [if_pos (by omega), if_neg (by omega), ez]) (by rw [us_eq, e1]; exact hst.push) hu hL hC hD hN hf2 (by omega)))
                      · first
                        | (exfalso; omega)
                        | (refine w_ldR rfl rfl rfl ?_
                           first | refine w_getI rfl rfl rfl rfl rfl ?_ | refine w_getR rfl rfl rfl rfl rfl ?_
                           refine w_ldI rfl rfl ?_
                           refine w_ldI rfl rfl ?_
                           refine w_irGe0 rfl (by omega) (fun b77 => ?_) (fun b77 => ?_)
                           · first
                             | (exfalso; omega)
                             | (refine w_ldI rfl rfl ?_
                                refine w_ast rfl rfl rfl (by omega) rfl ?_
                                refine w_inc_8_5 rfl rfl ?_
                                refine w_inc_8_6 rfl rfl ?_
                                refine w_go rfl ?_
                                first
                                | (rcases l with _ | ⟨y, r⟩
                                   · exfalso; simp at hhl; omega
                                   · have e1 : (hh - 1).toNat = r.length := by simp at hhl; omega
                                     have hf2 : Fr [114] s0 (us s 114 (hh - 1).toNat 1) := hf.tr (Fr.us rfl)
                                     have hw : w32 y = 0 := by have := hst.1; rw [e1, this] at b31; exact b31
                                     exact l_lg111 (l := 1 :: r) hv0 (k + 1) ((k : Int) + 1) _ (by omega) (by simp only [List.length_cons]; omega) (by rw [evN, hev]; simp only [evT]; rw [if_neg (by omega), if_pos (by omega), if_pos hw]) (by rw [us_eq, e1]; exact hst.2.push) hu hL hC hD hN hf2 (by omega))
                                | (rcases l with _ | ⟨y, r⟩
                                   · exfalso; simp at hhl; omega
                                   · have e1 : (hh - 1).toNat = r.length := by simp at hhl; omega
                                     have hf2 : Fr [114] s0 (us s 114 (hh - 1).toNat 0) := hf.tr (Fr.us rfl)
                                     have hw : ¬ w32 y = 0 := by have := hst.1; rw [e1, this] at b31; exact b31
                                     exact l_lg111 (l := 0 :: r) hv0 (k + 1) ((k : Int) + 1) _ (by omega) (by simp only [List.length_cons]; omega) (by rw [evN, hev]; simp only [evT]; rw [if_neg (by omega), if_pos (by omega), if_neg hw]) (by rw [us_eq, e1]; exact hst.2.push) hu hL hC hD hN hf2 (by omega))
                                | (rcases l with _ | ⟨y, r⟩
                                   · exfalso; simp at hhl; omega
                                   · rcases r with _ | ⟨x, r⟩
                                     · exfalso; simp at hhl; omega
                                     · have e1 : (hh + -1 - 1).toNat = r.length := by simp at hhl; omega
                                       have e2 : (hh + -1).toNat = r.length + 1 := by simp at hhl; omega
                                       have g1 : s 114 (hh + -1).toNat = y := by rw [e2]; exact hst.1
                                       have g2 : s 114 (hh + -1 - 1).toNat = x := by rw [e1]; exact hst.2.1
                                       rw [g1, g2]
                                       have hf2 : Fr [114] s0 (us s 114 (hh + -1 - 1).toNat (doneV (tk (D (143 + 50 * use + (k : Int)).toNat) - 10000) x y)) := hf.tr (Fr.us rfl)
                                       have ez : tk (D (143 + 50 * use + (k : Int)).toNat) - 10000 = (D (143 + 50 * use + (k : Int)).toNat) - 20000 := by omega
                                       exact l_lg111 (l := doneV (tk (D (143 + 50 * use + (k : Int)).toNat) - 10000) x y :: r) hv0 (k + 1) ((k : Int) + 1) _ (by omega) (by simp only [List.length_cons]; omega) (by rw [evN, hev]; simp only [evT]; rw [if_neg (by omega), if_neg (by omega), ez]) (by rw [us_eq, e1]; exact hst.2.2.push) hu hL hC hD hN hf2 (by omega))
                                | (have e1 : hh.toNat = l.length := by omega
                                   have hf2 : Fr [114] s0 (us s 114 hh.toNat (tk (D (143 + 50 * use + (k : Int)).toNat))) := hf.tr (Fr.us rfl)
                                   have ez : tk (D (143 + 50 * use + (k : Int)).toNat) = (D (143 + 50 * use + (k : Int)).toNat) := by omega
                                   exact l_lg111 (l := tk (D (143 + 50 * use + (k : Int)).toNat) :: l) hv0 (k + 1) ((k : Int) + 1) _ (by omega) (by simp only [List.length_cons]; omega) (by rw [evN, hev]; simp only [evT]; rw [if_pos (by omega), if_pos (by omega), ez]) (by rw [us_eq, e1]; exact hst.push) hu hL hC hD hN hf2 (by omega))
                                | (have e1 : hh.toNat = l.length := by omega
                                   have hf2 : Fr [114] s0 (us s 114 hh.toNat (n4 a b c e (-1 - tk (D (143 + 50 * use + (k : Int)).toNat)).toNat)) := hf.tr (Fr.us rfl)
                                   have ez : -1 - tk (D (143 + 50 * use + (k : Int)).toNat) = (D (143 + 50 * use + (k : Int)).toNat) - 10000 := by omega
                                   exact l_lg111 (l := n4 a b c e (-1 - tk (D (143 + 50 * use + (k : Int)).toNat)).toNat :: l) hv0 (k + 1) ((k : Int) + 1) _ (by omega) (by simp only [List.length_cons]; omega) (by rw [evN, hev]; simp only [evT]; rw [if_pos (by omega), if_neg (by omega), ez]) (by rw [us_eq, e1]; exact hst.push) hu hL hC hD hN hf2 (by omega)))
                           · first
                             | (exfalso; omega)
                             | (refine w_push rfl ?_
                                refine w_ldI rfl rfl ?_
                                refine w_sub rfl ?_
                                refine w_ldI rfl rfl ?_
                                refine w_ldI rfl rfl ?_
                                refine w_ldI rfl rfl ?_
                                refine w_ldI rfl rfl ?_
                                refine w_call rfl rfl rfl (k_named (by omega)) ?_
                                refine w_go rfl ?_
                                refine w_ast rfl rfl rfl (by omega) rfl ?_
                                refine w_inc_8_5 rfl rfl ?_
                                refine w_inc_8_6 rfl rfl ?_
                                refine w_go rfl ?_
                                first
                                | (rcases l with _ | ⟨y, r⟩
                                   · exfalso; simp at hhl; omega
                                   · have e1 : (hh - 1).toNat = r.length := by simp at hhl; omega
                                     have hf2 : Fr [114] s0 (us s 114 (hh - 1).toNat 1) := hf.tr (Fr.us rfl)
                                     have hw : w32 y = 0 := by have := hst.1; rw [e1, this] at b31; exact b31
                                     exact l_lg111 (l := 1 :: r) hv0 (k + 1) ((k : Int) + 1) _ (by omega) (by simp only [List.length_cons]; omega) (by rw [evN, hev]; simp only [evT]; rw [if_neg (by omega), if_pos (by omega), if_pos hw]) (by rw [us_eq, e1]; exact hst.2.push) hu hL hC hD hN hf2 (by omega))
                                | (rcases l with _ | ⟨y, r⟩
                                   · exfalso; simp at hhl; omega
                                   · have e1 : (hh - 1).toNat = r.length := by simp at hhl; omega
                                     have hf2 : Fr [114] s0 (us s 114 (hh - 1).toNat 0) := hf.tr (Fr.us rfl)
                                     have hw : ¬ w32 y = 0 := by have := hst.1; rw [e1, this] at b31; exact b31
                                     exact l_lg111 (l := 0 :: r) hv0 (k + 1) ((k : Int) + 1) _ (by omega) (by simp only [List.length_cons]; omega) (by rw [evN, hev]; simp only [evT]; rw [if_neg (by omega), if_pos (by omega), if_neg hw]) (by rw [us_eq, e1]; exact hst.2.push) hu hL hC hD hN hf2 (by omega))
                                | (rcases l with _ | ⟨y, r⟩
                                   · exfalso; simp at hhl; omega
                                   · rcases r with _ | ⟨x, r⟩
                                     · exfalso; simp at hhl; omega
                                     · have e1 : (hh + -1 - 1).toNat = r.length := by simp at hhl; omega
                                       have e2 : (hh + -1).toNat = r.length + 1 := by simp at hhl; omega
                                       have g1 : s 114 (hh + -1).toNat = y := by rw [e2]; exact hst.1
                                       have g2 : s 114 (hh + -1 - 1).toNat = x := by rw [e1]; exact hst.2.1
                                       rw [g1, g2]
                                       have hf2 : Fr [114] s0 (us s 114 (hh + -1 - 1).toNat (doneV (tk (D (143 + 50 * use + (k : Int)).toNat) - 10000) x y)) := hf.tr (Fr.us rfl)
                                       have ez : tk (D (143 + 50 * use + (k : Int)).toNat) - 10000 = (D (143 + 50 * use + (k : Int)).toNat) - 20000 := by omega
                                       exact l_lg111 (l := doneV (tk (D (143 + 50 * use + (k : Int)).toNat) - 10000) x y :: r) hv0 (k + 1) ((k : Int) + 1) _ (by omega) (by simp only [List.length_cons]; omega) (by rw [evN, hev]; simp only [evT]; rw [if_neg (by omega), if_neg (by omega), ez]) (by rw [us_eq, e1]; exact hst.2.2.push) hu hL hC hD hN hf2 (by omega))
                                | (have e1 : hh.toNat = l.length := by omega
                                   have hf2 : Fr [114] s0 (us s 114 hh.toNat (tk (D (143 + 50 * use + (k : Int)).toNat))) := hf.tr (Fr.us rfl)
                                   have ez : tk (D (143 + 50 * use + (k : Int)).toNat) = (D (143 + 50 * use + (k : Int)).toNat) := by omega
                                   exact l_lg111 (l := tk (D (143 + 50 * use + (k : Int)).toNat) :: l) hv0 (k + 1) ((k : Int) + 1) _ (by omega) (by simp only [List.length_cons]; omega) (by rw [evN, hev]; simp only [evT]; rw [if_pos (by omega), if_pos (by omega), ez]) (by rw [us_eq, e1]; exact hst.push) hu hL hC hD hN hf2 (by omega))
                                | (have e1 : hh.toNat = l.length := by omega
                                   have hf2 : Fr [114] s0 (us s 114 hh.toNat (n4 a b c e (-1 - tk (D (143 + 50 * use + (k : Int)).toNat)).toNat)) := hf.tr (Fr.us rfl)
                                   have ez : -1 - tk (D (143 + 50 * use + (k : Int)).toNat) = (D (143 + 50 * use + (k : Int)).toNat) - 10000 := by omega
                                   exact l_lg111 (l := n4 a b c e (-1 - tk (D (143 + 50 * use + (k : Int)).toNat)).toNat :: l) hv0 (k + 1) ((k : Int) + 1) _ (by omega) (by simp only [List.length_cons]; omega) (by rw [evN, hev]; simp only [evT]; rw [if_pos (by omega), if_neg (by omega), ez]) (by rw [us_eq, e1]; exact hst.push) hu hL hC hD hN hf2 (by omega))))))
            · first
              | (exfalso; omega)
              | (refine w_ldI rfl rfl ?_
                 refine w_push rfl ?_
                 refine w_crLt rfl (by omega) (by omega) (fun b42 => ?_) (fun b42 => ?_)
                 · first
                   | (exfalso; omega)
                   | (refine w_ldI rfl rfl ?_
                      refine w_push rfl ?_
                      refine w_crGe rfl (by omega) (by omega) (fun b67 => ?_) (fun b67 => ?_)
                      · first
                        | (exfalso; omega)
                        | (refine w_inc_8_6 rfl rfl ?_
                           refine w_go rfl ?_
                           first
                           | (rcases l with _ | ⟨y, r⟩
                              · exfalso; simp at hhl; omega
                              · have e1 : (hh - 1).toNat = r.length := by simp at hhl; omega
                                have hf2 : Fr [114] s0 (us s 114 (hh - 1).toNat 1) := hf.tr (Fr.us rfl)
                                have hw : w32 y = 0 := by have := hst.1; rw [e1, this] at b31; exact b31
                                exact l_lg111 (l := 1 :: r) hv0 (k + 1) ((k : Int) + 1) _ (by omega) (by simp only [List.length_cons]; omega) (by rw [evN, hev]; simp only [evT]; rw [if_neg (by omega), if_pos (by omega), if_pos hw]) (by rw [us_eq, e1]; exact hst.2.push) hu hL hC hD hN hf2 (by omega))
                           | (rcases l with _ | ⟨y, r⟩
                              · exfalso; simp at hhl; omega
                              · have e1 : (hh - 1).toNat = r.length := by simp at hhl; omega
                                have hf2 : Fr [114] s0 (us s 114 (hh - 1).toNat 0) := hf.tr (Fr.us rfl)
                                have hw : ¬ w32 y = 0 := by have := hst.1; rw [e1, this] at b31; exact b31
                                exact l_lg111 (l := 0 :: r) hv0 (k + 1) ((k : Int) + 1) _ (by omega) (by simp only [List.length_cons]; omega) (by rw [evN, hev]; simp only [evT]; rw [if_neg (by omega), if_pos (by omega), if_neg hw]) (by rw [us_eq, e1]; exact hst.2.push) hu hL hC hD hN hf2 (by omega))
                           | (rcases l with _ | ⟨y, r⟩
                              · exfalso; simp at hhl; omega
                              · rcases r with _ | ⟨x, r⟩
                                · exfalso; simp at hhl; omega
                                · have e1 : (hh + -1 - 1).toNat = r.length := by simp at hhl; omega
                                  have e2 : (hh + -1).toNat = r.length + 1 := by simp at hhl; omega
                                  have g1 : s 114 (hh + -1).toNat = y := by rw [e2]; exact hst.1
                                  have g2 : s 114 (hh + -1 - 1).toNat = x := by rw [e1]; exact hst.2.1
                                  rw [g1, g2]
                                  have hf2 : Fr [114] s0 (us s 114 (hh + -1 - 1).toNat (doneV (tk (D (143 + 50 * use + (k : Int)).toNat) - 10000) x y)) := hf.tr (Fr.us rfl)
                                  have ez : tk (D (143 + 50 * use + (k : Int)).toNat) - 10000 = (D (143 + 50 * use + (k : Int)).toNat) - 20000 := by omega
                                  exact l_lg111 (l := doneV (tk (D (143 + 50 * use + (k : Int)).toNat) - 10000) x y :: r) hv0 (k + 1) ((k : Int) + 1) _ (by omega) (by simp only [List.length_cons]; omega) (by rw [evN, hev]; simp only [evT]; rw [if_neg (by omega), if_neg (by omega), ez]) (by rw [us_eq, e1]; exact hst.2.2.push) hu hL hC hD hN hf2 (by omega))
                           | (have e1 : hh.toNat = l.length := by omega
                              have hf2 : Fr [114] s0 (us s 114 hh.toNat (tk (D (143 + 50 * use + (k : Int)).toNat))) := hf.tr (Fr.us rfl)
                              have ez : tk (D (143 + 50 * use + (k : Int)).toNat) = (D (143 + 50 * use + (k : Int)).toNat) := by omega
                              exact l_lg111 (l := tk (D (143 + 50 * use + (k : Int)).toNat) :: l) hv0 (k + 1) ((k : Int) + 1) _ (by omega) (by simp only [List.length_cons]; omega) (by rw [evN, hev]; simp only [evT]; rw [if_pos (by omega), if_pos (by omega), ez]) (by rw [us_eq, e1]; exact hst.push) hu hL hC hD hN hf2 (by omega))
                           | (have e1 : hh.toNat = l.length := by omega
                              have hf2 : Fr [114] s0 (us s 114 hh.toNat (n4 a b c e (-1 - tk (D (143 + 50 * use + (k : Int)).toNat)).toNat)) := hf.tr (Fr.us rfl)
                              have ez : -1 - tk (D (143 + 50 * use + (k : Int)).toNat) = (D (143 + 50 * use + (k : Int)).toNat) - 10000 := by omega
                              exact l_lg111 (l := n4 a b c e (-1 - tk (D (143 + 50 * use + (k : Int)).toNat)).toNat :: l) hv0 (k + 1) ((k : Int) + 1) _ (by omega) (by simp only [List.length_cons]; omega) (by rw [evN, hev]; simp only [evT]; rw [if_pos (by omega), if_neg (by omega), ez]) (by rw [us_eq, e1]; exact hst.push) hu hL hC hD hN hf2 (by omega)))
                      · first
                        | (exfalso; omega)
                        | (refine w_ldI rfl rfl ?_
                           refine w_ldR rfl rfl rfl ?_
                           first | refine w_getI rfl rfl rfl rfl rfl ?_ | refine w_getR rfl rfl rfl rfl rfl ?_
                           refine w_alen rfl rfl rfl ?_
                           refine w_crGe rfl (by omega) (by omega) (fun b72 => ?_) (fun b72 => ?_)
                           · first
                             | (exfalso; omega)
                             | (refine w_inc_8_6 rfl rfl ?_
                                refine w_go rfl ?_
                                first
                                | (rcases l with _ | ⟨y, r⟩
                                   · exfalso; simp at hhl; omega
                                   · have e1 : (hh - 1).toNat = r.length := by simp at hhl; omega
                                     have hf2 : Fr [114] s0 (us s 114 (hh - 1).toNat 1) := hf.tr (Fr.us rfl)
                                     have hw : w32 y = 0 := by have := hst.1; rw [e1, this] at b31; exact b31
                                     exact l_lg111 (l := 1 :: r) hv0 (k + 1) ((k : Int) + 1) _ (by omega) (by simp only [List.length_cons]; omega) (by rw [evN, hev]; simp only [evT]; rw [if_neg (by omega), if_pos (by omega), if_pos hw]) (by rw [us_eq, e1]; exact hst.2.push) hu hL hC hD hN hf2 (by omega))
                                | (rcases l with _ | ⟨y, r⟩
                                   · exfalso; simp at hhl; omega
                                   · have e1 : (hh - 1).toNat = r.length := by simp at hhl; omega
                                     have hf2 : Fr [114] s0 (us s 114 (hh - 1).toNat 0) := hf.tr (Fr.us rfl)
                                     have hw : ¬ w32 y = 0 := by have := hst.1; rw [e1, this] at b31; exact b31
                                     exact l_lg111 (l := 0 :: r) hv0 (k + 1) ((k : Int) + 1) _ (by omega) (by simp only [List.length_cons]; omega) (by rw [evN, hev]; simp only [evT]; rw [if_neg (by omega), if_pos (by omega), if_neg hw]) (by rw [us_eq, e1]; exact hst.2.push) hu hL hC hD hN hf2 (by omega))
                                | (rcases l with _ | ⟨y, r⟩
                                   · exfalso; simp at hhl; omega
                                   · rcases r with _ | ⟨x, r⟩
                                     · exfalso; simp at hhl; omega
                                     · have e1 : (hh + -1 - 1).toNat = r.length := by simp at hhl; omega
                                       have e2 : (hh + -1).toNat = r.length + 1 := by simp at hhl; omega
                                       have g1 : s 114 (hh + -1).toNat = y := by rw [e2]; exact hst.1
                                       have g2 : s 114 (hh + -1 - 1).toNat = x := by rw [e1]; exact hst.2.1
                                       rw [g1, g2]
                                       have hf2 : Fr [114] s0 (us s 114 (hh + -1 - 1).toNat (doneV (tk (D (143 + 50 * use + (k : Int)).toNat) - 10000) x y)) := hf.tr (Fr.us rfl)
                                       have ez : tk (D (143 + 50 * use + (k : Int)).toNat) - 10000 = (D (143 + 50 * use + (k : Int)).toNat) - 20000 := by omega
                                       exact l_lg111 (l := doneV (tk (D (143 + 50 * use + (k : Int)).toNat) - 10000) x y :: r) hv0 (k + 1) ((k : Int) + 1) _ (by omega) (by simp only [List.length_cons]; omega) (by rw [evN, hev]; simp only [evT]; rw [if_neg (by omega), if_neg (by omega), ez]) (by rw [us_eq, e1]; exact hst.2.2.push) hu hL hC hD hN hf2 (by omega))
                                | (have e1 : hh.toNat = l.length := by omega
                                   have hf2 : Fr [114] s0 (us s 114 hh.toNat (tk (D (143 + 50 * use + (k : Int)).toNat))) := hf.tr (Fr.us rfl)
                                   have ez : tk (D (143 + 50 * use + (k : Int)).toNat) = (D (143 + 50 * use + (k : Int)).toNat) := by omega
                                   exact l_lg111 (l := tk (D (143 + 50 * use + (k : Int)).toNat) :: l) hv0 (k + 1) ((k : Int) + 1) _ (by omega) (by simp only [List.length_cons]; omega) (by rw [evN, hev]; simp only [evT]; rw [if_pos (by omega), if_pos (by omega), ez]) (by rw [us_eq, e1]; exact hst.push) hu hL hC hD hN hf2 (by omega))
                                | (have e1 : hh.toNat = l.length := by omega
                                   have hf2 : Fr [114] s0 (us s 114 hh.toNat (n4 a b c e (-1 - tk (D (143 + 50 * use + (k : Int)).toNat)).toNat)) := hf.tr (Fr.us rfl)
                                   have ez : -1 - tk (D (143 + 50 * use + (k : Int)).toNat) = (D (143 + 50 * use + (k : Int)).toNat) - 10000 := by omega
                                   exact l_lg111 (l := n4 a b c e (-1 - tk (D (143 + 50 * use + (k : Int)).toNat)).toNat :: l) hv0 (k + 1) ((k : Int) + 1) _ (by omega) (by simp only [List.length_cons]; omega) (by rw [evN, hev]; simp only [evT]; rw [if_pos (by omega), if_neg (by omega), ez]) (by rw [us_eq, e1]; exact hst.push) hu hL hC hD hN hf2 (by omega)))
                           · first
                             | (exfalso; omega)
                             | (refine w_ldR rfl rfl rfl ?_
                                first | refine w_getI rfl rfl rfl rfl rfl ?_ | refine w_getR rfl rfl rfl rfl rfl ?_
                                refine w_ldI rfl rfl ?_
                                refine w_ldI rfl rfl ?_
                                refine w_irGe0 rfl (by omega) (fun b77 => ?_) (fun b77 => ?_)
                                · first
                                  | (exfalso; omega)
                                  | (refine w_ldI rfl rfl ?_
                                     refine w_ast rfl rfl rfl (by omega) rfl ?_
                                     refine w_inc_8_5 rfl rfl ?_
                                     refine w_inc_8_6 rfl rfl ?_
                                     refine w_go rfl ?_
                                     first
                                     | (rcases l with _ | ⟨y, r⟩
                                        · exfalso; simp at hhl; omega
                                        · have e1 : (hh - 1).toNat = r.length := by simp at hhl; omega
                                          have hf2 : Fr [114] s0 (us s 114 (hh - 1).toNat 1) := hf.tr (Fr.us rfl)
                                          have hw : w32 y = 0 := by have := hst.1; rw [e1, this] at b31; exact b31
                                          exact l_lg111 (l := 1 :: r) hv0 (k + 1) ((k : Int) + 1) _ (by omega) (by simp only [List.length_cons]; omega) (by rw [evN, hev]; simp only [evT]; rw [if_neg (by omega), if_pos (by omega), if_pos hw]) (by rw [us_eq, e1]; exact hst.2.push) hu hL hC hD hN hf2 (by omega))
                                     | (rcases l with _ | ⟨y, r⟩
                                        · exfalso; simp at hhl; omega
                                        · have e1 : (hh - 1).toNat = r.length := by simp at hhl; omega
                                          have hf2 : Fr [114] s0 (us s 114 (hh - 1).toNat 0) := hf.tr (Fr.us rfl)
                                          have hw : ¬ w32 y = 0 := by have := hst.1; rw [e1, this] at b31; exact b31
                                          exact l_lg111 (l := 0 :: r) hv0 (k + 1) ((k : Int) + 1) _ (by omega) (by simp only [List.length_cons]; omega) (by rw [evN, hev]; simp only [evT]; rw [if_neg (by omega), if_pos (by omega), if_neg hw]) (by rw [us_eq, e1]; exact hst.2.push) hu hL hC hD hN hf2 (by omega))
                                     | (rcases l with _ | ⟨y, r⟩
                                        · exfalso; simp at hhl; omega
                                        · rcases r with _ | ⟨x, r⟩
                                          · exfalso; simp at hhl; omega
                                          · have e1 : (hh + -1 - 1).toNat = r.length := by simp at hhl; omega
                                            have e2 : (hh + -1).toNat = r.length + 1 := by simp at hhl; omega
                                            have g1 : s 114 (hh + -1).toNat = y := by rw [e2]; exact hst.1
                                            have g2 : s 114 (hh + -1 - 1).toNat = x := by rw [e1]; exact hst.2.1
                                            rw [g1, g2]
                                            have hf2 : Fr [114] s0 (us s 114 (hh + -1 - 1).toNat (doneV (tk (D (143 + 50 * use + (k : Int)).toNat) - 10000) x y)) := hf.tr (Fr.us rfl)
                                            have ez : tk (D (143 + 50 * use + (k : Int)).toNat) - 10000 = (D (143 + 50 * use + (k : Int)).toNat) - 20000 := by omega
                                            exact l_lg111 (l := doneV (tk (D (143 + 50 * use + (k : Int)).toNat) - 10000) x y :: r) hv0 (k + 1) ((k : Int) + 1) _ (by omega) (by simp only [List.length_cons]; omega) (by rw [evN, hev]; simp only [evT]; rw [if_neg (by omega), if_neg (by omega), ez]) (by rw [us_eq, e1]; exact hst.2.2.push) hu hL hC hD hN hf2 (by omega))
                                     | (have e1 : hh.toNat = l.length := by omega
                                        have hf2 : Fr [114] s0 (us s 114 hh.toNat (tk (D (143 + 50 * use + (k : Int)).toNat))) := hf.tr (Fr.us rfl)
                                        have ez : tk (D (143 + 50 * use + (k : Int)).toNat) = (D (143 + 50 * use + (k : Int)).toNat) := by omega
                                        exact l_lg111 (l := tk (D (143 + 50 * use + (k : Int)).toNat) :: l) hv0 (k + 1) ((k : Int) + 1) _ (by omega) (by simp only [List.length_cons]; omega) (by rw [evN, hev]; simp only [evT]; rw [if_pos (by omega), if_pos (by omega), ez]) (by rw [us_eq, e1]; exact hst.push) hu hL hC hD hN hf2 (by omega))
                                     | (have e1 : hh.toNat = l.length := by omega
                                        have hf2 : Fr [114] s0 (us s 114 hh.toNat (n4 a b c e (-1 - tk (D (143 + 50 * use + (k : Int)).toNat)).toNat)) := hf.tr (Fr.us rfl)
                                        have ez : -1 - tk (D (143 + 50 * use + (k : Int)).toNat) = (D (143 + 50 * use + (k : Int)).toNat) - 10000 := by omega
                                        exact l_lg111 (l := n4 a b c e (-1 - tk (D (143 + 50 * use + (k : Int)).toNat)).toNat :: l) hv0 (k + 1) ((k : Int) + 1) _ (by omega) (by simp only [List.length_cons]; omega) (by rw [evN, hev]; simp only [evT]; rw [if_pos (by omega), if_neg (by omega), ez]) (by rw [us_eq, e1]; exact hst.push) hu hL hC hD hN hf2 (by omega)))
                                · first
                                  | (exfalso; omega)
                                  | (refine w_push rfl ?_
                                     refine w_ldI rfl rfl ?_
                                     refine w_sub rfl ?_
                                     refine w_ldI rfl rfl ?_
                                     refine w_ldI rfl rfl ?_
                                     refine w_ldI rfl rfl ?_
                                     refine w_ldI rfl rfl ?_
                                     refine w_call rfl rfl rfl (k_named (by omega)) ?_
                                     refine w_go rfl ?_
                                     refine w_ast rfl rfl rfl (by omega) rfl ?_
                                     refine w_inc_8_5 rfl rfl ?_
                                     refine w_inc_8_6 rfl rfl ?_
                                     refine w_go rfl ?_
                                     first
                                     | (rcases l with _ | ⟨y, r⟩
                                        · exfalso; simp at hhl; omega
                                        · have e1 : (hh - 1).toNat = r.length := by simp at hhl; omega
                                          have hf2 : Fr [114] s0 (us s 114 (hh - 1).toNat 1) := hf.tr (Fr.us rfl)
                                          have hw : w32 y = 0 := by have := hst.1; rw [e1, this] at b31; exact b31
                                          exact l_lg111 (l := 1 :: r) hv0 (k + 1) ((k : Int) + 1) _ (by omega) (by simp only [List.length_cons]; omega) (by rw [evN, hev]; simp only [evT]; rw [if_neg (by omega), if_pos (by omega), if_pos hw]) (by rw [us_eq, e1]; exact hst.2.push) hu hL hC hD hN hf2 (by omega))
                                     | (rcases l with _ | ⟨y, r⟩
                                        · exfalso; simp at hhl; omega
                                        · have e1 : (hh - 1).toNat = r.length := by simp at hhl; omega
                                          have hf2 : Fr [114] s0 (us s 114 (hh - 1).toNat 0) := hf.tr (Fr.us rfl)
                                          have hw : ¬ w32 y = 0 := by have := hst.1; rw [e1, this] at b31; exact b31
                                          exact l_lg111 (l := 0 :: r) hv0 (k + 1) ((k : Int) + 1) _ (by omega) (by simp only [List.length_cons]; omega) (by rw [evN, hev]; simp only [evT]; rw [if_neg (by omega), if_pos (by omega), if_neg hw]) (by rw [us_eq, e1]; exact hst.2.push) hu hL hC hD hN hf2 (by omega))
                                     | (rcases l with _ | ⟨y, r⟩
                                        · exfalso; simp at hhl; omega
                                        · rcases r with _ | ⟨x, r⟩
                                          · exfalso; simp at hhl; omega
                                          · have e1 : (hh + -1 - 1).toNat = r.length := by simp at hhl; omega
                                            have e2 : (hh + -1).toNat = r.length + 1 := by simp at hhl; omega
                                            have g1 : s 114 (hh + -1).toNat = y := by rw [e2]; exact hst.1
                                            have g2 : s 114 (hh + -1 - 1).toNat = x := by rw [e1]; exact hst.2.1
                                            rw [g1, g2]
                                            have hf2 : Fr [114] s0 (us s 114 (hh + -1 - 1).toNat (doneV (tk (D (143 + 50 * use + (k : Int)).toNat) - 10000) x y)) := hf.tr (Fr.us rfl)
                                            have ez : tk (D (143 + 50 * use + (k : Int)).toNat) - 10000 = (D (143 + 50 * use + (k : Int)).toNat) - 20000 := by omega
                                            exact l_lg111 (l := doneV (tk (D (143 + 50 * use + (k : Int)).toNat) - 10000) x y :: r) hv0 (k + 1) ((k : Int) + 1) _ (by omega) (by simp only [List.length_cons]; omega) (by rw [evN, hev]; simp only [evT]; rw [if_neg (by omega), if_neg (by omega), ez]) (by rw [us_eq, e1]; exact hst.2.2.push) hu hL hC hD hN hf2 (by omega))
                                     | (have e1 : hh.toNat = l.length := by omega
                                        have hf2 : Fr [114] s0 (us s 114 hh.toNat (tk (D (143 + 50 * use + (k : Int)).toNat))) := hf.tr (Fr.us rfl)
                                        have ez : tk (D (143 + 50 * use + (k : Int)).toNat) = (D (143 + 50 * use + (k : Int)).toNat) := by omega
                                        exact l_lg111 (l := tk (D (143 + 50 * use + (k : Int)).toNat) :: l) hv0 (k + 1) ((k : Int) + 1) _ (by omega) (by simp only [List.length_cons]; omega) (by rw [evN, hev]; simp only [evT]; rw [if_pos (by omega), if_pos (by omega), ez]) (by rw [us_eq, e1]; exact hst.push) hu hL hC hD hN hf2 (by omega))
                                     | (have e1 : hh.toNat = l.length := by omega
                                        have hf2 : Fr [114] s0 (us s 114 hh.toNat (n4 a b c e (-1 - tk (D (143 + 50 * use + (k : Int)).toNat)).toNat)) := hf.tr (Fr.us rfl)
                                        have ez : -1 - tk (D (143 + 50 * use + (k : Int)).toNat) = (D (143 + 50 * use + (k : Int)).toNat) - 10000 := by omega
                                        exact l_lg111 (l := n4 a b c e (-1 - tk (D (143 + 50 * use + (k : Int)).toNat)).toNat :: l) hv0 (k + 1) ((k : Int) + 1) _ (by omega) (by simp only [List.length_cons]; omega) (by rw [evN, hev]; simp only [evT]; rw [if_pos (by omega), if_neg (by omega), ez]) (by rw [us_eq, e1]; exact hst.push) hu hL hC hD hN hf2 (by omega))))))
                 · first
                   | (exfalso; omega)
                   | (refine w_inc_8_5 rfl rfl ?_
                      refine w_ldR rfl rfl rfl ?_
                      first | refine w_getI rfl rfl rfl rfl rfl ?_ | refine w_getR rfl rfl rfl rfl rfl ?_
                      refine w_ldI rfl rfl ?_
                      refine w_push rfl ?_
                      refine w_sub rfl ?_
                      refine w_ldI rfl rfl ?_
                      refine w_push rfl ?_
                      refine w_sub rfl ?_
                      refine w_ldR rfl rfl rfl ?_
                      first | refine w_getI rfl rfl rfl rfl rfl ?_ | refine w_getR rfl rfl rfl rfl rfl ?_
                      refine w_ldI rfl rfl ?_
                      refine w_push rfl ?_
                      refine w_sub rfl ?_
                      refine w_ald rfl rfl rfl (by omega) rfl ?_
                      refine w_ldR rfl rfl rfl ?_
                      first | refine w_getI rfl rfl rfl rfl rfl ?_ | refine w_getR rfl rfl rfl rfl rfl ?_
                      refine w_ldI rfl rfl ?_
                      refine w_ald rfl rfl rfl (by omega) rfl ?_
                      refine w_call rfl rfl rfl (k_joined (by omega)) ?_
                      refine w_ast rfl rfl rfl (by omega) rfl ?_
                      refine w_go rfl ?_
                      refine w_inc_8_6 rfl rfl ?_
                      refine w_go rfl ?_
                      first
                      | (rcases l with _ | ⟨y, r⟩
                         · exfalso; simp at hhl; omega
                         · have e1 : (hh - 1).toNat = r.length := by simp at hhl; omega
                           have hf2 : Fr [114] s0 (us s 114 (hh - 1).toNat 1) := hf.tr (Fr.us rfl)
                           have hw : w32 y = 0 := by have := hst.1; rw [e1, this] at b31; exact b31
                           exact l_lg111 (l := 1 :: r) hv0 (k + 1) ((k : Int) + 1) _ (by omega) (by simp only [List.length_cons]; omega) (by rw [evN, hev]; simp only [evT]; rw [if_neg (by omega), if_pos (by omega), if_pos hw]) (by rw [us_eq, e1]; exact hst.2.push) hu hL hC hD hN hf2 (by omega))
                      | (rcases l with _ | ⟨y, r⟩
                         · exfalso; simp at hhl; omega
                         · have e1 : (hh - 1).toNat = r.length := by simp at hhl; omega
                           have hf2 : Fr [114] s0 (us s 114 (hh - 1).toNat 0) := hf.tr (Fr.us rfl)
                           have hw : ¬ w32 y = 0 := by have := hst.1; rw [e1, this] at b31; exact b31
                           exact l_lg111 (l := 0 :: r) hv0 (k + 1) ((k : Int) + 1) _ (by omega) (by simp only [List.length_cons]; omega) (by rw [evN, hev]; simp only [evT]; rw [if_neg (by omega), if_pos (by omega), if_neg hw]) (by rw [us_eq, e1]; exact hst.2.push) hu hL hC hD hN hf2 (by omega))
                      | (rcases l with _ | ⟨y, r⟩
                         · exfalso; simp at hhl; omega
                         · rcases r with _ | ⟨x, r⟩
                           · exfalso; simp at hhl; omega
                           · have e1 : (hh + -1 - 1).toNat = r.length := by simp at hhl; omega
                             have e2 : (hh + -1).toNat = r.length + 1 := by simp at hhl; omega
                             have g1 : s 114 (hh + -1).toNat = y := by rw [e2]; exact hst.1
                             have g2 : s 114 (hh + -1 - 1).toNat = x := by rw [e1]; exact hst.2.1
                             rw [g1, g2]
                             have hf2 : Fr [114] s0 (us s 114 (hh + -1 - 1).toNat (doneV (tk (D (143 + 50 * use + (k : Int)).toNat) - 10000) x y)) := hf.tr (Fr.us rfl)
                             have ez : tk (D (143 + 50 * use + (k : Int)).toNat) - 10000 = (D (143 + 50 * use + (k : Int)).toNat) - 20000 := by omega
                             exact l_lg111 (l := doneV (tk (D (143 + 50 * use + (k : Int)).toNat) - 10000) x y :: r) hv0 (k + 1) ((k : Int) + 1) _ (by omega) (by simp only [List.length_cons]; omega) (by rw [evN, hev]; simp only [evT]; rw [if_neg (by omega), if_neg (by omega), ez]) (by rw [us_eq, e1]; exact hst.2.2.push) hu hL hC hD hN hf2 (by omega))
                      | (have e1 : hh.toNat = l.length := by omega
                         have hf2 : Fr [114] s0 (us s 114 hh.toNat (tk (D (143 + 50 * use + (k : Int)).toNat))) := hf.tr (Fr.us rfl)
                         have ez : tk (D (143 + 50 * use + (k : Int)).toNat) = (D (143 + 50 * use + (k : Int)).toNat) := by omega
                         exact l_lg111 (l := tk (D (143 + 50 * use + (k : Int)).toNat) :: l) hv0 (k + 1) ((k : Int) + 1) _ (by omega) (by simp only [List.length_cons]; omega) (by rw [evN, hev]; simp only [evT]; rw [if_pos (by omega), if_pos (by omega), ez]) (by rw [us_eq, e1]; exact hst.push) hu hL hC hD hN hf2 (by omega))
                      | (have e1 : hh.toNat = l.length := by omega
                         have hf2 : Fr [114] s0 (us s 114 hh.toNat (n4 a b c e (-1 - tk (D (143 + 50 * use + (k : Int)).toNat)).toNat)) := hf.tr (Fr.us rfl)
                         have ez : -1 - tk (D (143 + 50 * use + (k : Int)).toNat) = (D (143 + 50 * use + (k : Int)).toNat) - 10000 := by omega
                         exact l_lg111 (l := n4 a b c e (-1 - tk (D (143 + 50 * use + (k : Int)).toNat)).toNat :: l) hv0 (k + 1) ((k : Int) + 1) _ (by omega) (by simp only [List.length_cons]; omega) (by rw [evN, hev]; simp only [evT]; rw [if_pos (by omega), if_neg (by omega), ez]) (by rw [us_eq, e1]; exact hst.push) hu hL hC hD hN hf2 (by omega)))))
       · first
         | (exfalso; omega)
         | (refine w_ldI rfl rfl ?_
            refine w_push rfl ?_
            refine w_crLt rfl (by omega) (by omega) (fun b19 => ?_) (fun b19 => ?_)
            · first
              | (exfalso; omega)
              | (refine w_ldI rfl rfl ?_
                 refine w_push rfl ?_
                 refine w_crLe rfl (by omega) (by omega) (fun b39 => ?_) (fun b39 => ?_)
                 · first
                   | (exfalso; omega)
                   | (refine w_ldI rfl rfl ?_
                      refine w_push rfl ?_
                      refine w_crGe rfl (by omega) (by omega) (fun b67 => ?_) (fun b67 => ?_)
                      · first
                        | (exfalso; omega)
                        | (refine w_inc_8_6 rfl rfl ?_
                           refine w_go rfl ?_
                           first
                           | (rcases l with _ | ⟨y, r⟩
                              · exfalso; simp at hhl; omega
                              · have e1 : (hh - 1).toNat = r.length := by simp at hhl; omega
                                have hf2 : Fr [114] s0 (us s 114 (hh - 1).toNat 1) := hf.tr (Fr.us rfl)
                                have hw : w32 y = 0 := by have := hst.1; rw [e1, this] at b31; exact b31
                                exact l_lg111 (l := 1 :: r) hv0 (k + 1) ((k : Int) + 1) _ (by omega) (by simp only [List.length_cons]; omega) (by rw [evN, hev]; simp only [evT]; rw [if_neg (by omega), if_pos (by omega), if_pos hw]) (by rw [us_eq, e1]; exact hst.2.push) hu hL hC hD hN hf2 (by omega))
                           | (rcases l with _ | ⟨y, r⟩
                              · exfalso; simp at hhl; omega
                              · have e1 : (hh - 1).toNat = r.length := by simp at hhl; omega
                                have hf2 : Fr [114] s0 (us s 114 (hh - 1).toNat 0) := hf.tr (Fr.us rfl)
                                have hw : ¬ w32 y = 0 := by have := hst.1; rw [e1, this] at b31; exact b31
                                exact l_lg111 (l := 0 :: r) hv0 (k + 1) ((k : Int) + 1) _ (by omega) (by simp only [List.length_cons]; omega) (by rw [evN, hev]; simp only [evT]; rw [if_neg (by omega), if_pos (by omega), if_neg hw]) (by rw [us_eq, e1]; exact hst.2.push) hu hL hC hD hN hf2 (by omega))
                           | (rcases l with _ | ⟨y, r⟩
                              · exfalso; simp at hhl; omega
                              · rcases r with _ | ⟨x, r⟩
                                · exfalso; simp at hhl; omega
                                · have e1 : (hh + -1 - 1).toNat = r.length := by simp at hhl; omega
                                  have e2 : (hh + -1).toNat = r.length + 1 := by simp at hhl; omega
                                  have g1 : s 114 (hh + -1).toNat = y := by rw [e2]; exact hst.1
                                  have g2 : s 114 (hh + -1 - 1).toNat = x := by rw [e1]; exact hst.2.1
                                  rw [g1, g2]
                                  have hf2 : Fr [114] s0 (us s 114 (hh + -1 - 1).toNat (doneV (tk (D (143 + 50 * use + (k : Int)).toNat) - 10000) x y)) := hf.tr (Fr.us rfl)
                                  have ez : tk (D (143 + 50 * use + (k : Int)).toNat) - 10000 = (D (143 + 50 * use + (k : Int)).toNat) - 20000 := by omega
                                  exact l_lg111 (l := doneV (tk (D (143 + 50 * use + (k : Int)).toNat) - 10000) x y :: r) hv0 (k + 1) ((k : Int) + 1) _ (by omega) (by simp only [List.length_cons]; omega) (by rw [evN, hev]; simp only [evT]; rw [if_neg (by omega), if_neg (by omega), ez]) (by rw [us_eq, e1]; exact hst.2.2.push) hu hL hC hD hN hf2 (by omega))
                           | (have e1 : hh.toNat = l.length := by omega
                              have hf2 : Fr [114] s0 (us s 114 hh.toNat (tk (D (143 + 50 * use + (k : Int)).toNat))) := hf.tr (Fr.us rfl)
                              have ez : tk (D (143 + 50 * use + (k : Int)).toNat) = (D (143 + 50 * use + (k : Int)).toNat) := by omega
                              exact l_lg111 (l := tk (D (143 + 50 * use + (k : Int)).toNat) :: l) hv0 (k + 1) ((k : Int) + 1) _ (by omega) (by simp only [List.length_cons]; omega) (by rw [evN, hev]; simp only [evT]; rw [if_pos (by omega), if_pos (by omega), ez]) (by rw [us_eq, e1]; exact hst.push) hu hL hC hD hN hf2 (by omega))
                           | (have e1 : hh.toNat = l.length := by omega
                              have hf2 : Fr [114] s0 (us s 114 hh.toNat (n4 a b c e (-1 - tk (D (143 + 50 * use + (k : Int)).toNat)).toNat)) := hf.tr (Fr.us rfl)
                              have ez : -1 - tk (D (143 + 50 * use + (k : Int)).toNat) = (D (143 + 50 * use + (k : Int)).toNat) - 10000 := by omega
                              exact l_lg111 (l := n4 a b c e (-1 - tk (D (143 + 50 * use + (k : Int)).toNat)).toNat :: l) hv0 (k + 1) ((k : Int) + 1) _ (by omega) (by simp only [List.length_cons]; omega) (by rw [evN, hev]; simp only [evT]; rw [if_pos (by omega), if_neg (by omega), ez]) (by rw [us_eq, e1]; exact hst.push) hu hL hC hD hN hf2 (by omega)))
                      · first
                        | (exfalso; omega)
                        | (refine w_ldI rfl rfl ?_
                           refine w_ldR rfl rfl rfl ?_
                           first | refine w_getI rfl rfl rfl rfl rfl ?_ | refine w_getR rfl rfl rfl rfl rfl ?_
                           refine w_alen rfl rfl rfl ?_
                           refine w_crGe rfl (by omega) (by omega) (fun b72 => ?_) (fun b72 => ?_)
                           · first
                             | (exfalso; omega)
                             | (refine w_inc_8_6 rfl rfl ?_
                                refine w_go rfl ?_
                                first
                                | (rcases l with _ | ⟨y, r⟩
                                   · exfalso; simp at hhl; omega
                                   · have e1 : (hh - 1).toNat = r.length := by simp at hhl; omega
                                     have hf2 : Fr [114] s0 (us s 114 (hh - 1).toNat 1) := hf.tr (Fr.us rfl)
                                     have hw : w32 y = 0 := by have := hst.1; rw [e1, this] at b31; exact b31
                                     exact l_lg111 (l := 1 :: r) hv0 (k + 1) ((k : Int) + 1) _ (by omega) (by simp only [List.length_cons]; omega) (by rw [evN, hev]; simp only [evT]; rw [if_neg (by omega), if_pos (by omega), if_pos hw]) (by rw [us_eq, e1]; exact hst.2.push) hu hL hC hD hN hf2 (by omega))
                                | (rcases l with _ | ⟨y, r⟩
                                   · exfalso; simp at hhl; omega
                                   · have e1 : (hh - 1).toNat = r.length := by simp at hhl; omega
                                     have hf2 : Fr [114] s0 (us s 114 (hh - 1).toNat 0) := hf.tr (Fr.us rfl)
                                     have hw : ¬ w32 y = 0 := by have := hst.1; rw [e1, this] at b31; exact b31
                                     exact l_lg111 (l := 0 :: r) hv0 (k + 1) ((k : Int) + 1) _ (by omega) (by simp only [List.length_cons]; omega) (by rw [evN, hev]; simp only [evT]; rw [if_neg (by omega), if_pos (by omega), if_neg hw]) (by rw [us_eq, e1]; exact hst.2.push) hu hL hC hD hN hf2 (by omega))
                                | (rcases l with _ | ⟨y, r⟩
                                   · exfalso; simp at hhl; omega
                                   · rcases r with _ | ⟨x, r⟩
                                     · exfalso; simp at hhl; omega
                                     · have e1 : (hh + -1 - 1).toNat = r.length := by simp at hhl; omega
                                       have e2 : (hh + -1).toNat = r.length + 1 := by simp at hhl; omega
                                       have g1 : s 114 (hh + -1).toNat = y := by rw [e2]; exact hst.1
                                       have g2 : s 114 (hh + -1 - 1).toNat = x := by rw [e1]; exact hst.2.1
                                       rw [g1, g2]
                                       have hf2 : Fr [114] s0 (us s 114 (hh + -1 - 1).toNat (doneV (tk (D (143 + 50 * use + (k : Int)).toNat) - 10000) x y)) := hf.tr (Fr.us rfl)
                                       have ez : tk (D (143 + 50 * use + (k : Int)).toNat) - 10000 = (D (143 + 50 * use + (k : Int)).toNat) - 20000 := by omega
                                       exact l_lg111 (l := doneV (tk (D (143 + 50 * use + (k : Int)).toNat) - 10000) x y :: r) hv0 (k + 1) ((k : Int) + 1) _ (by omega) (by simp only [List.length_cons]; omega) (by rw [evN, hev]; simp only [evT]; rw [if_neg (by omega), if_neg (by omega), ez]) (by rw [us_eq, e1]; exact hst.2.2.push) hu hL hC hD hN hf2 (by omega))
                                | (have e1 : hh.toNat = l.length := by omega
                                   have hf2 : Fr [114] s0 (us s 114 hh.toNat (tk (D (143 + 50 * use + (k : Int)).toNat))) := hf.tr (Fr.us rfl)
                                   have ez : tk (D (143 + 50 * use + (k : Int)).toNat) = (D (143 + 50 * use + (k : Int)).toNat) := by omega
                                   exact l_lg111 (l := tk (D (143 + 50 * use + (k : Int)).toNat) :: l) hv0 (k + 1) ((k : Int) + 1) _ (by omega) (by simp only [List.length_cons]; omega) (by rw [evN, hev]; simp only [evT]; rw [if_pos (by omega), if_pos (by omega), ez]) (by rw [us_eq, e1]; exact hst.push) hu hL hC hD hN hf2 (by omega))
                                | (have e1 : hh.toNat = l.length := by omega
                                   have hf2 : Fr [114] s0 (us s 114 hh.toNat (n4 a b c e (-1 - tk (D (143 + 50 * use + (k : Int)).toNat)).toNat)) := hf.tr (Fr.us rfl)
                                   have ez : -1 - tk (D (143 + 50 * use + (k : Int)).toNat) = (D (143 + 50 * use + (k : Int)).toNat) - 10000 := by omega
                                   exact l_lg111 (l := n4 a b c e (-1 - tk (D (143 + 50 * use + (k : Int)).toNat)).toNat :: l) hv0 (k + 1) ((k : Int) + 1) _ (by omega) (by simp only [List.length_cons]; omega) (by rw [evN, hev]; simp only [evT]; rw [if_pos (by omega), if_neg (by omega), ez]) (by rw [us_eq, e1]; exact hst.push) hu hL hC hD hN hf2 (by omega)))
                           · first
                             | (exfalso; omega)
                             | (refine w_ldR rfl rfl rfl ?_
                                first | refine w_getI rfl rfl rfl rfl rfl ?_ | refine w_getR rfl rfl rfl rfl rfl ?_
                                refine w_ldI rfl rfl ?_
                                refine w_ldI rfl rfl ?_
                                refine w_irGe0 rfl (by omega) (fun b77 => ?_) (fun b77 => ?_)
                                · first
                                  | (exfalso; omega)
                                  | (refine w_ldI rfl rfl ?_
                                     refine w_ast rfl rfl rfl (by omega) rfl ?_
                                     refine w_inc_8_5 rfl rfl ?_
                                     refine w_inc_8_6 rfl rfl ?_
                                     refine w_go rfl ?_
                                     first
                                     | (rcases l with _ | ⟨y, r⟩
                                        · exfalso; simp at hhl; omega
                                        · have e1 : (hh - 1).toNat = r.length := by simp at hhl; omega
                                          have hf2 : Fr [114] s0 (us s 114 (hh - 1).toNat 1) := hf.tr (Fr.us rfl)
                                          have hw : w32 y = 0 := by have := hst.1; rw [e1, this] at b31; exact b31
                                          exact l_lg111 (l := 1 :: r) hv0 (k + 1) ((k : Int) + 1) _ (by omega) (by simp only [List.length_cons]; omega) (by rw [evN, hev]; simp only [evT]; rw [if_neg (by omega), if_pos (by omega), if_pos hw]) (by rw [us_eq, e1]; exact hst.2.push) hu hL hC hD hN hf2 (by omega))
                                     | (rcases l with _ | ⟨y, r⟩
                                        · exfalso; simp at hhl; omega
                                        · have e1 : (hh - 1).toNat = r.length := by simp at hhl; omega
                                          have hf2 : Fr [114] s0 (us s 114 (hh - 1).toNat 0) := hf.tr (Fr.us rfl)
                                          have hw : ¬ w32 y = 0 := by have := hst.1; rw [e1, this] at b31; exact b31
                                          exact l_lg111 (l := 0 :: r) hv0 (k + 1) ((k : Int) + 1) _ (by omega) (by simp only [List.length_cons]; omega) (by rw [evN, hev]; simp only [evT]; rw [if_neg (by omega), if_pos (by omega), if_neg hw]) (by rw [us_eq, e1]; exact hst.2.push) hu hL hC hD hN hf2 (by omega))
                                     | (rcases l with _ | ⟨y, r⟩
                                        · exfalso; simp at hhl; omega
                                        · rcases r with _ | ⟨x, r⟩
                                          · exfalso; simp at hhl; omega
                                          · have e1 : (hh + -1 - 1).toNat = r.length := by simp at hhl; omega
                                            have e2 : (hh + -1).toNat = r.length + 1 := by simp at hhl; omega
                                            have g1 : s 114 (hh + -1).toNat = y := by rw [e2]; exact hst.1
                                            have g2 : s 114 (hh + -1 - 1).toNat = x := by rw [e1]; exact hst.2.1
                                            rw [g1, g2]
                                            have hf2 : Fr [114] s0 (us s 114 (hh + -1 - 1).toNat (doneV (tk (D (143 + 50 * use + (k : Int)).toNat) - 10000) x y)) := hf.tr (Fr.us rfl)
                                            have ez : tk (D (143 + 50 * use + (k : Int)).toNat) - 10000 = (D (143 + 50 * use + (k : Int)).toNat) - 20000 := by omega
                                            exact l_lg111 (l := doneV (tk (D (143 + 50 * use + (k : Int)).toNat) - 10000) x y :: r) hv0 (k + 1) ((k : Int) + 1) _ (by omega) (by simp only [List.length_cons]; omega) (by rw [evN, hev]; simp only [evT]; rw [if_neg (by omega), if_neg (by omega), ez]) (by rw [us_eq, e1]; exact hst.2.2.push) hu hL hC hD hN hf2 (by omega))
                                     | (have e1 : hh.toNat = l.length := by omega
                                        have hf2 : Fr [114] s0 (us s 114 hh.toNat (tk (D (143 + 50 * use + (k : Int)).toNat))) := hf.tr (Fr.us rfl)
                                        have ez : tk (D (143 + 50 * use + (k : Int)).toNat) = (D (143 + 50 * use + (k : Int)).toNat) := by omega
                                        exact l_lg111 (l := tk (D (143 + 50 * use + (k : Int)).toNat) :: l) hv0 (k + 1) ((k : Int) + 1) _ (by omega) (by simp only [List.length_cons]; omega) (by rw [evN, hev]; simp only [evT]; rw [if_pos (by omega), if_pos (by omega), ez]) (by rw [us_eq, e1]; exact hst.push) hu hL hC hD hN hf2 (by omega))
                                     | (have e1 : hh.toNat = l.length := by omega
                                        have hf2 : Fr [114] s0 (us s 114 hh.toNat (n4 a b c e (-1 - tk (D (143 + 50 * use + (k : Int)).toNat)).toNat)) := hf.tr (Fr.us rfl)
                                        have ez : -1 - tk (D (143 + 50 * use + (k : Int)).toNat) = (D (143 + 50 * use + (k : Int)).toNat) - 10000 := by omega
                                        exact l_lg111 (l := n4 a b c e (-1 - tk (D (143 + 50 * use + (k : Int)).toNat)).toNat :: l) hv0 (k + 1) ((k : Int) + 1) _ (by omega) (by simp only [List.length_cons]; omega) (by rw [evN, hev]; simp only [evT]; rw [if_pos (by omega), if_neg (by omega), ez]) (by rw [us_eq, e1]; exact hst.push) hu hL hC hD hN hf2 (by omega)))
                                · first
                                  | (exfalso; omega)
                                  | (refine w_push rfl ?_
                                     refine w_ldI rfl rfl ?_
                                     refine w_sub rfl ?_
                                     refine w_ldI rfl rfl ?_
                                     refine w_ldI rfl rfl ?_
                                     refine w_ldI rfl rfl ?_
                                     refine w_ldI rfl rfl ?_
                                     refine w_call rfl rfl rfl (k_named (by omega)) ?_
                                     refine w_go rfl ?_
                                     refine w_ast rfl rfl rfl (by omega) rfl ?_
                                     refine w_inc_8_5 rfl rfl ?_
                                     refine w_inc_8_6 rfl rfl ?_
                                     refine w_go rfl ?_
                                     first
                                     | (rcases l with _ | ⟨y, r⟩
                                        · exfalso; simp at hhl; omega
                                        · have e1 : (hh - 1).toNat = r.length := by simp at hhl; omega
                                          have hf2 : Fr [114] s0 (us s 114 (hh - 1).toNat 1) := hf.tr (Fr.us rfl)
                                          have hw : w32 y = 0 := by have := hst.1; rw [e1, this] at b31; exact b31
                                          exact l_lg111 (l := 1 :: r) hv0 (k + 1) ((k : Int) + 1) _ (by omega) (by simp only [List.length_cons]; omega) (by rw [evN, hev]; simp only [evT]; rw [if_neg (by omega), if_pos (by omega), if_pos hw]) (by rw [us_eq, e1]; exact hst.2.push) hu hL hC hD hN hf2 (by omega))
                                     | (rcases l with _ | ⟨y, r⟩
                                        · exfalso; simp at hhl; omega
                                        · have e1 : (hh - 1).toNat = r.length := by simp at hhl; omega
                                          have hf2 : Fr [114] s0 (us s 114 (hh - 1).toNat 0) := hf.tr (Fr.us rfl)
                                          have hw : ¬ w32 y = 0 := by have := hst.1; rw [e1, this] at b31; exact b31
                                          exact l_lg111 (l := 0 :: r) hv0 (k + 1) ((k : Int) + 1) _ (by omega) (by simp only [List.length_cons]; omega) (by rw [evN, hev]; simp only [evT]; rw [if_neg (by omega), if_pos (by omega), if_neg hw]) (by rw [us_eq, e1]; exact hst.2.push) hu hL hC hD hN hf2 (by omega))
                                     | (rcases l with _ | ⟨y, r⟩
                                        · exfalso; simp at hhl; omega
                                        · rcases r with _ | ⟨x, r⟩
                                          · exfalso; simp at hhl; omega
                                          · have e1 : (hh + -1 - 1).toNat = r.length := by simp at hhl; omega
                                            have e2 : (hh + -1).toNat = r.length + 1 := by simp at hhl; omega
                                            have g1 : s 114 (hh + -1).toNat = y := by rw [e2]; exact hst.1
                                            have g2 : s 114 (hh + -1 - 1).toNat = x := by rw [e1]; exact hst.2.1
                                            rw [g1, g2]
                                            have hf2 : Fr [114] s0 (us s 114 (hh + -1 - 1).toNat (doneV (tk (D (143 + 50 * use + (k : Int)).toNat) - 10000) x y)) := hf.tr (Fr.us rfl)
                                            have ez : tk (D (143 + 50 * use + (k : Int)).toNat) - 10000 = (D (143 + 50 * use + (k : Int)).toNat) - 20000 := by omega
                                            exact l_lg111 (l := doneV (tk (D (143 + 50 * use + (k : Int)).toNat) - 10000) x y :: r) hv0 (k + 1) ((k : Int) + 1) _ (by omega) (by simp only [List.length_cons]; omega) (by rw [evN, hev]; simp only [evT]; rw [if_neg (by omega), if_neg (by omega), ez]) (by rw [us_eq, e1]; exact hst.2.2.push) hu hL hC hD hN hf2 (by omega))
                                     | (have e1 : hh.toNat = l.length := by omega
                                        have hf2 : Fr [114] s0 (us s 114 hh.toNat (tk (D (143 + 50 * use + (k : Int)).toNat))) := hf.tr (Fr.us rfl)
                                        have ez : tk (D (143 + 50 * use + (k : Int)).toNat) = (D (143 + 50 * use + (k : Int)).toNat) := by omega
                                        exact l_lg111 (l := tk (D (143 + 50 * use + (k : Int)).toNat) :: l) hv0 (k + 1) ((k : Int) + 1) _ (by omega) (by simp only [List.length_cons]; omega) (by rw [evN, hev]; simp only [evT]; rw [if_pos (by omega), if_pos (by omega), ez]) (by rw [us_eq, e1]; exact hst.push) hu hL hC hD hN hf2 (by omega))
                                     | (have e1 : hh.toNat = l.length := by omega
                                        have hf2 : Fr [114] s0 (us s 114 hh.toNat (n4 a b c e (-1 - tk (D (143 + 50 * use + (k : Int)).toNat)).toNat)) := hf.tr (Fr.us rfl)
                                        have ez : -1 - tk (D (143 + 50 * use + (k : Int)).toNat) = (D (143 + 50 * use + (k : Int)).toNat) - 10000 := by omega
                                        exact l_lg111 (l := n4 a b c e (-1 - tk (D (143 + 50 * use + (k : Int)).toNat)).toNat :: l) hv0 (k + 1) ((k : Int) + 1) _ (by omega) (by simp only [List.length_cons]; omega) (by rw [evN, hev]; simp only [evT]; rw [if_pos (by omega), if_neg (by omega), ez]) (by rw [us_eq, e1]; exact hst.push) hu hL hC hD hN hf2 (by omega))))))
                 · first
                   | (exfalso; omega)
                   | (refine w_ldI rfl rfl ?_
                      refine w_push rfl ?_
                      refine w_crLt rfl (by omega) (by omega) (fun b42 => ?_) (fun b42 => ?_)
                      · first
                        | (exfalso; omega)
                        | (refine w_ldI rfl rfl ?_
                           refine w_push rfl ?_
                           refine w_crGe rfl (by omega) (by omega) (fun b67 => ?_) (fun b67 => ?_)
                           · first
                             | (exfalso; omega)
                             | (refine w_inc_8_6 rfl rfl ?_
                                refine w_go rfl ?_
                                first
                                | (rcases l with _ | ⟨y, r⟩
                                   · exfalso; simp at hhl; omega
                                   · have e1 : (hh - 1).toNat = r.length := by simp at hhl; omega
                                     have hf2 : Fr [114] s0 (us s 114 (hh - 1).toNat 1) := hf.tr (Fr.us rfl)
                                     have hw : w32 y = 0 := by have := hst.1; rw [e1, this] at b31; exact b31
                                     exact l_lg111 (l := 1 :: r) hv0 (k + 1) ((k : Int) + 1) _ (by omega) (by simp only [List.length_cons]; omega) (by rw [evN, hev]; simp only [evT]; rw [if_neg (by omega), if_pos (by omega), if_pos hw]) (by rw [us_eq, e1]; exact hst.2.push) hu hL hC hD hN hf2 (by omega))
                                | (rcases l with _ | ⟨y, r⟩
                                   · exfalso; simp at hhl; omega
                                   · have e1 : (hh - 1).toNat = r.length := by simp at hhl; omega
                                     have hf2 : Fr [114] s0 (us s 114 (hh - 1).toNat 0) := hf.tr (Fr.us rfl)
                                     have hw : ¬ w32 y = 0 := by have := hst.1; rw [e1, this] at b31; exact b31
                                     exact l_lg111 (l := 0 :: r) hv0 (k + 1) ((k : Int) + 1) _ (by omega) (by simp only [List.length_cons]; omega) (by rw [evN, hev]; simp only [evT]; rw [if_neg (by omega), if_pos (by omega), if_neg hw]) (by rw [us_eq, e1]; exact hst.2.push) hu hL hC hD hN hf2 (by omega))
                                | (rcases l with _ | ⟨y, r⟩
                                   · exfalso; simp at hhl; omega
                                   · rcases r with _ | ⟨x, r⟩
                                     · exfalso; simp at hhl; omega
                                     · have e1 : (hh + -1 - 1).toNat = r.length := by simp at hhl; omega
                                       have e2 : (hh + -1).toNat = r.length + 1 := by simp at hhl; omega
                                       have g1 : s 114 (hh + -1).toNat = y := by rw [e2]; exact hst.1
                                       have g2 : s 114 (hh + -1 - 1).toNat = x := by rw [e1]; exact hst.2.1
                                       rw [g1, g2]
                                       have hf2 : Fr [114] s0 (us s 114 (hh + -1 - 1).toNat (doneV (tk (D (143 + 50 * use + (k : Int)).toNat) - 10000) x y)) := hf.tr (Fr.us rfl)
                                       have ez : tk (D (143 + 50 * use + (k : Int)).toNat) - 10000 = (D (143 + 50 * use + (k : Int)).toNat) - 20000 := by omega
                                       exact l_lg111 (l := doneV (tk (D (143 + 50 * use + (k : Int)).toNat) - 10000) x y :: r) hv0 (k + 1) ((k : Int) + 1) _ (by omega) (by simp only [List.length_cons]; omega) (by rw [evN, hev]; simp only [evT]; rw [if_neg (by omega), if_neg (by omega), ez]) (by rw [us_eq, e1]; exact hst.2.2.push) hu hL hC hD hN hf2 (by omega))
                                | (have e1 : hh.toNat = l.length := by omega
                                   have hf2 : Fr [114] s0 (us s 114 hh.toNat (tk (D (143 + 50 * use + (k : Int)).toNat))) := hf.tr (Fr.us rfl)
                                   have ez : tk (D (143 + 50 * use + (k : Int)).toNat) = (D (143 + 50 * use + (k : Int)).toNat) := by omega
                                   exact l_lg111 (l := tk (D (143 + 50 * use + (k : Int)).toNat) :: l) hv0 (k + 1) ((k : Int) + 1) _ (by omega) (by simp only [List.length_cons]; omega) (by rw [evN, hev]; simp only [evT]; rw [if_pos (by omega), if_pos (by omega), ez]) (by rw [us_eq, e1]; exact hst.push) hu hL hC hD hN hf2 (by omega))
                                | (have e1 : hh.toNat = l.length := by omega
                                   have hf2 : Fr [114] s0 (us s 114 hh.toNat (n4 a b c e (-1 - tk (D (143 + 50 * use + (k : Int)).toNat)).toNat)) := hf.tr (Fr.us rfl)
                                   have ez : -1 - tk (D (143 + 50 * use + (k : Int)).toNat) = (D (143 + 50 * use + (k : Int)).toNat) - 10000 := by omega
                                   exact l_lg111 (l := n4 a b c e (-1 - tk (D (143 + 50 * use + (k : Int)).toNat)).toNat :: l) hv0 (k + 1) ((k : Int) + 1) _ (by omega) (by simp only [List.length_cons]; omega) (by rw [evN, hev]; simp only [evT]; rw [if_pos (by omega), if_neg (by omega), ez]) (by rw [us_eq, e1]; exact hst.push) hu hL hC hD hN hf2 (by omega)))
                           · first
                             | (exfalso; omega)
                             | (refine w_ldI rfl rfl ?_
                                refine w_ldR rfl rfl rfl ?_
                                first | refine w_getI rfl rfl rfl rfl rfl ?_ | refine w_getR rfl rfl rfl rfl rfl ?_
                                refine w_alen rfl rfl rfl ?_
                                refine w_crGe rfl (by omega) (by omega) (fun b72 => ?_) (fun b72 => ?_)
                                · first
                                  | (exfalso; omega)
                                  | (refine w_inc_8_6 rfl rfl ?_
                                     refine w_go rfl ?_
                                     first
                                     | (rcases l with _ | ⟨y, r⟩
                                        · exfalso; simp at hhl; omega
                                        · have e1 : (hh - 1).toNat = r.length := by simp at hhl; omega
                                          have hf2 : Fr [114] s0 (us s 114 (hh - 1).toNat 1) := hf.tr (Fr.us rfl)
                                          have hw : w32 y = 0 := by have := hst.1; rw [e1, this] at b31; exact b31
                                          exact l_lg111 (l := 1 :: r) hv0 (k + 1) ((k : Int) + 1) _ (by omega) (by simp only [List.length_cons]; omega) (by rw [evN, hev]; simp only [evT]; rw [if_neg (by omega), if_pos (by omega), if_pos hw]) (by rw [us_eq, e1]; exact hst.2.push) hu hL hC hD hN hf2 (by omega))
                                     | (rcases l with _ | ⟨y, r⟩
                                        · exfalso; simp at hhl; omega
                                        · have e1 : (hh - 1).toNat = r.length := by simp at hhl; omega
                                          have hf2 : Fr [114] s0 (us s 114 (hh - 1).toNat 0) := hf.tr (Fr.us rfl)
                                          have hw : ¬ w32 y = 0 := by have := hst.1; rw [e1, this] at b31; exact b31
                                          exact l_lg111 (l := 0 :: r) hv0 (k + 1) ((k : Int) + 1) _ (by omega) (by simp only [List.length_cons]; omega) (by rw [evN, hev]; simp only [evT]; rw [if_neg (by omega), if_pos (by omega), if_neg hw]) (by rw [us_eq, e1]; exact hst.2.push) hu hL hC hD hN hf2 (by omega))
                                     | (rcases l with _ | ⟨y, r⟩
                                        · exfalso; simp at hhl; omega
                                        · rcases r with _ | ⟨x, r⟩
                                          · exfalso; simp at hhl; omega
                                          · have e1 : (hh + -1 - 1).toNat = r.length := by simp at hhl; omega
                                            have e2 : (hh + -1).toNat = r.length + 1 := by simp at hhl; omega
                                            have g1 : s 114 (hh + -1).toNat = y := by rw [e2]; exact hst.1
                                            have g2 : s 114 (hh + -1 - 1).toNat = x := by rw [e1]; exact hst.2.1
                                            rw [g1, g2]
                                            have hf2 : Fr [114] s0 (us s 114 (hh + -1 - 1).toNat (doneV (tk (D (143 + 50 * use + (k : Int)).toNat) - 10000) x y)) := hf.tr (Fr.us rfl)
                                            have ez : tk (D (143 + 50 * use + (k : Int)).toNat) - 10000 = (D (143 + 50 * use + (k : Int)).toNat) - 20000 := by omega
                                            exact l_lg111 (l := doneV (tk (D (143 + 50 * use + (k : Int)).toNat) - 10000) x y :: r) hv0 (k + 1) ((k : Int) + 1) _ (by omega) (by simp only [List.length_cons]; omega) (by rw [evN, hev]; simp only [evT]; rw [if_neg (by omega), if_neg (by omega), ez]) (by rw [us_eq, e1]; exact hst.2.2.push) hu hL hC hD hN hf2 (by omega))
                                     | (have e1 : hh.toNat = l.length := by omega
                                        have hf2 : Fr [114] s0 (us s 114 hh.toNat (tk (D (143 + 50 * use + (k : Int)).toNat))) := hf.tr (Fr.us rfl)
                                        have ez : tk (D (143 + 50 * use + (k : Int)).toNat) = (D (143 + 50 * use + (k : Int)).toNat) := by omega
                                        exact l_lg111 (l := tk (D (143 + 50 * use + (k : Int)).toNat) :: l) hv0 (k + 1) ((k : Int) + 1) _ (by omega) (by simp only [List.length_cons]; omega) (by rw [evN, hev]; simp only [evT]; rw [if_pos (by omega), if_pos (by omega), ez]) (by rw [us_eq, e1]; exact hst.push) hu hL hC hD hN hf2 (by omega))
                                     | (have e1 : hh.toNat = l.length := by omega
                                        have hf2 : Fr [114] s0 (us s 114 hh.toNat (n4 a b c e (-1 - tk (D (143 + 50 * use + (k : Int)).toNat)).toNat)) := hf.tr (Fr.us rfl)
                                        have ez : -1 - tk (D (143 + 50 * use + (k : Int)).toNat) = (D (143 + 50 * use + (k : Int)).toNat) - 10000 := by omega
                                        exact l_lg111 (l := n4 a b c e (-1 - tk (D (143 + 50 * use + (k : Int)).toNat)).toNat :: l) hv0 (k + 1) ((k : Int) + 1) _ (by omega) (by simp only [List.length_cons]; omega) (by rw [evN, hev]; simp only [evT]; rw [if_pos (by omega), if_neg (by omega), ez]) (by rw [us_eq, e1]; exact hst.push) hu hL hC hD hN hf2 (by omega)))
                                · first
                                  | (exfalso; omega)
                                  | (refine w_ldR rfl rfl rfl ?_
                                     first | refine w_getI rfl rfl rfl rfl rfl ?_ | refine w_getR rfl rfl rfl rfl rfl ?_
                                     refine w_ldI rfl rfl ?_
                                     refine w_ldI rfl rfl ?_
                                     refine w_irGe0 rfl (by omega) (fun b77 => ?_) (fun b77 => ?_)
                                     · first
                                       | (exfalso; omega)
                                       | (refine w_ldI rfl rfl ?_
                                          refine w_ast rfl rfl rfl (by omega) rfl ?_
                                          refine w_inc_8_5 rfl rfl ?_
                                          refine w_inc_8_6 rfl rfl ?_
                                          refine w_go rfl ?_
                                          first
                                          | (rcases l with _ | ⟨y, r⟩
                                             · exfalso; simp at hhl; omega
                                             · have e1 : (hh - 1).toNat = r.length := by simp at hhl; omega
                                               have hf2 : Fr [114] s0 (us s 114 (hh - 1).toNat 1) := hf.tr (Fr.us rfl)
                                               have hw : w32 y = 0 := by have := hst.1; rw [e1, this] at b31; exact b31
                                               exact l_lg111 (l := 1 :: r) hv0 (k + 1) ((k : Int) + 1) _ (by omega) (by simp only [List.length_cons]; omega) (by rw [evN, hev]; simp only [evT]; rw [if_neg (by omega), if_pos (by omega), if_pos hw]) (by rw [us_eq, e1]; exact hst.2.push) hu hL hC hD hN hf2 (by omega))
                                          | (rcases l with _ | ⟨y, r⟩
                                             · exfalso; simp at hhl; omega
                                             · have e1 : (hh - 1).toNat = r.length := by simp at hhl; omega
                                               have hf2 : Fr [114] s0 (us s 114 (hh - 1).toNat 0) := hf.tr (Fr.us rfl)
                                               have hw : ¬ w32 y = 0 := by have := hst.1; rw [e1, this] at b31; exact b31
                                               exact l_lg111 (l := 0 :: r) hv0 (k + 1) ((k : Int) + 1) _ (by omega) (by simp only [List.length_cons]; omega) (by rw [evN, hev]; simp only [evT]; rw [if_neg (by omega), if_pos (by omega), if_neg hw]) (by rw [us_eq, e1]; exact hst.2.push) hu hL hC hD hN hf2 (by omega))
                                          | (rcases l with _ | ⟨y, r⟩
                                             · exfalso; simp at hhl; omega
                                             · rcases r with _ | ⟨x, r⟩
                                               · exfalso; simp at hhl; omega
                                               · have e1 : (hh + -1 - 1).toNat = r.length := by simp at hhl; omega
                                                 have e2 : (hh + -1).toNat = r.length + 1 := by simp at hhl; omega
                                                 have g1 : s 114 (hh + -1).toNat = y := by rw [e2]; exact hst.1
                                                 have g2 : s 114 (hh + -1 - 1).toNat = x := by rw [e1]; exact hst.2.1
                                                 rw [g1, g2]
                                                 have hf2 : Fr [114] s0 (us s 114 (hh + -1 - 1).toNat (doneV (tk (D (143 + 50 * use + (k : Int)).toNat) - 10000) x y)) := hf.tr (Fr.us rfl)
                                                 have ez : tk (D (143 + 50 * use + (k : Int)).toNat) - 10000 = (D (143 + 50 * use + (k : Int)).toNat) - 20000 := by omega
                                                 exact l_lg111 (l := doneV (tk (D (143 + 50 * use + (k : Int)).toNat) - 10000) x y :: r) hv0 (k + 1) ((k : Int) + 1) _ (by omega) (by simp only [List.length_cons]; omega) (by rw [evN, hev]; simp only [evT]; rw [if_neg (by omega), if_neg (by omega), ez]) (by rw [us_eq, e1]; exact hst.2.2.push) hu hL hC hD hN hf2 (by omega))
                                          | (have e1 : hh.toNat = l.length := by omega
                                             have hf2 : Fr [114] s0 (us s 114 hh.toNat (tk (D (143 + 50 * use + (k : Int)).toNat))) := hf.tr (Fr.us rfl)
                                             have ez : tk (D (143 + 50 * use + (k : Int)).toNat) = (D (143 + 50 * use + (k : Int)).toNat) := by omega
                                             exact l_lg111 (l := tk (D (143 + 50 * use + (k : Int)).toNat) :: l) hv0 (k + 1) ((k : Int) + 1) _ (by omega) (by simp only [List.length_cons]; omega) (by rw [evN, hev]; simp only [evT]; rw [if_pos (by omega), if_pos (by omega), ez]) (by rw [us_eq, e1]; exact hst.push) hu hL hC hD hN hf2 (by omega))
                                          | (have e1 : hh.toNat = l.length := by omega
                                             have hf2 : Fr [114] s0 (us s 114 hh.toNat (n4 a b c e (-1 - tk (D (143 + 50 * use + (k : Int)).toNat)).toNat)) := hf.tr (Fr.us rfl)
                                             have ez : -1 - tk (D (143 + 50 * use + (k : Int)).toNat) = (D (143 + 50 * use + (k : Int)).toNat) - 10000 := by omega
                                             exact l_lg111 (l := n4 a b c e (-1 - tk (D (143 + 50 * use + (k : Int)).toNat)).toNat :: l) hv0 (k + 1) ((k : Int) + 1) _ (by omega) (by simp only [List.length_cons]; omega) (by rw [evN, hev]; simp only [evT]; rw [if_pos (by omega), if_neg (by omega), ez]) (by rw [us_eq, e1]; exact hst.push) hu hL hC hD hN hf2 (by omega)))
                                     · first
                                       | (exfalso; omega)
                                       | (refine w_push rfl ?_
                                          refine w_ldI rfl rfl ?_
                                          refine w_sub rfl ?_
                                          refine w_ldI rfl rfl ?_
                                          refine w_ldI rfl rfl ?_
                                          refine w_ldI rfl rfl ?_
                                          refine w_ldI rfl rfl ?_
                                          refine w_call rfl rfl rfl (k_named (by omega)) ?_
                                          refine w_go rfl ?_
                                          refine w_ast rfl rfl rfl (by omega) rfl ?_
                                          refine w_inc_8_5 rfl rfl ?_
                                          refine w_inc_8_6 rfl rfl ?_
                                          refine w_go rfl ?_
                                          first
                                          | (rcases l with _ | ⟨y, r⟩
                                             · exfalso; simp at hhl; omega
                                             · have e1 : (hh - 1).toNat = r.length := by simp at hhl; omega
                                               have hf2 : Fr [114] s0 (us s 114 (hh - 1).toNat 1) := hf.tr (Fr.us rfl)
                                               have hw : w32 y = 0 := by have := hst.1; rw [e1, this] at b31; exact b31
                                               exact l_lg111 (l := 1 :: r) hv0 (k + 1) ((k : Int) + 1) _ (by omega) (by simp only [List.length_cons]; omega) (by rw [evN, hev]; simp only [evT]; rw [if_neg (by omega), if_pos (by omega), if_pos hw]) (by rw [us_eq, e1]; exact hst.2.push) hu hL hC hD hN hf2 (by omega))
                                          | (rcases l with _ | ⟨y, r⟩
                                             · exfalso; simp at hhl; omega
                                             · have e1 : (hh - 1).toNat = r.length := by simp at hhl; omega
                                               have hf2 : Fr [114] s0 (us s 114 (hh - 1).toNat 0) := hf.tr (Fr.us rfl)
                                               have hw : ¬ w32 y = 0 := by have := hst.1; rw [e1, this] at b31; exact b31
                                               exact l_lg111 (l := 0 :: r) hv0 (k + 1) ((k : Int) + 1) _ (by omega) (by simp only [List.length_cons]; omega) (by rw [evN, hev]; simp only [evT]; rw [if_neg (by omega), if_pos (by omega), if_neg hw]) (by rw [us_eq, e1]; exact hst.2.push) hu hL hC hD hN hf2 (by omega))
                                          | (rcases l with _ | ⟨y, r⟩
                                             · exfalso; simp at hhl; omega
                                             · rcases r with _ | ⟨x, r⟩
                                               · exfalso; simp at hhl; omega
                                               · have e1 : (hh + -1 - 1).toNat = r.length := by simp at hhl; omega
                                                 have e2 : (hh + -1).toNat = r.length + 1 := by simp at hhl; omega
                                                 have g1 : s 114 (hh + -1).toNat = y := by rw [e2]; exact hst.1
                                                 have g2 : s 114 (hh + -1 - 1).toNat = x := by rw [e1]; exact hst.2.1
                                                 rw [g1, g2]
                                                 have hf2 : Fr [114] s0 (us s 114 (hh + -1 - 1).toNat (doneV (tk (D (143 + 50 * use + (k : Int)).toNat) - 10000) x y)) := hf.tr (Fr.us rfl)
                                                 have ez : tk (D (143 + 50 * use + (k : Int)).toNat) - 10000 = (D (143 + 50 * use + (k : Int)).toNat) - 20000 := by omega
                                                 exact l_lg111 (l := doneV (tk (D (143 + 50 * use + (k : Int)).toNat) - 10000) x y :: r) hv0 (k + 1) ((k : Int) + 1) _ (by omega) (by simp only [List.length_cons]; omega) (by rw [evN, hev]; simp only [evT]; rw [if_neg (by omega), if_neg (by omega), ez]) (by rw [us_eq, e1]; exact hst.2.2.push) hu hL hC hD hN hf2 (by omega))
                                          | (have e1 : hh.toNat = l.length := by omega
                                             have hf2 : Fr [114] s0 (us s 114 hh.toNat (tk (D (143 + 50 * use + (k : Int)).toNat))) := hf.tr (Fr.us rfl)
                                             have ez : tk (D (143 + 50 * use + (k : Int)).toNat) = (D (143 + 50 * use + (k : Int)).toNat) := by omega
                                             exact l_lg111 (l := tk (D (143 + 50 * use + (k : Int)).toNat) :: l) hv0 (k + 1) ((k : Int) + 1) _ (by omega) (by simp only [List.length_cons]; omega) (by rw [evN, hev]; simp only [evT]; rw [if_pos (by omega), if_pos (by omega), ez]) (by rw [us_eq, e1]; exact hst.push) hu hL hC hD hN hf2 (by omega))
                                          | (have e1 : hh.toNat = l.length := by omega
                                             have hf2 : Fr [114] s0 (us s 114 hh.toNat (n4 a b c e (-1 - tk (D (143 + 50 * use + (k : Int)).toNat)).toNat)) := hf.tr (Fr.us rfl)
                                             have ez : -1 - tk (D (143 + 50 * use + (k : Int)).toNat) = (D (143 + 50 * use + (k : Int)).toNat) - 10000 := by omega
                                             exact l_lg111 (l := n4 a b c e (-1 - tk (D (143 + 50 * use + (k : Int)).toNat)).toNat :: l) hv0 (k + 1) ((k : Int) + 1) _ (by omega) (by simp only [List.length_cons]; omega) (by rw [evN, hev]; simp only [evT]; rw [if_pos (by omega), if_neg (by omega), ez]) (by rw [us_eq, e1]; exact hst.push) hu hL hC hD hN hf2 (by omega))))))
                      · first
                        | (exfalso; omega)
                        | (refine w_inc_8_5 rfl rfl ?_
                           refine w_ldR rfl rfl rfl ?_
                           first | refine w_getI rfl rfl rfl rfl rfl ?_ | refine w_getR rfl rfl rfl rfl rfl ?_
                           refine w_ldI rfl rfl ?_
                           refine w_push rfl ?_
                           refine w_sub rfl ?_
                           refine w_ldI rfl rfl ?_
                           refine w_push rfl ?_
                           refine w_sub rfl ?_
                           refine w_ldR rfl rfl rfl ?_
                           first | refine w_getI rfl rfl rfl rfl rfl ?_ | refine w_getR rfl rfl rfl rfl rfl ?_
                           refine w_ldI rfl rfl ?_
                           refine w_push rfl ?_
                           refine w_sub rfl ?_
                           refine w_ald rfl rfl rfl (by omega) rfl ?_
                           refine w_ldR rfl rfl rfl ?_
                           first | refine w_getI rfl rfl rfl rfl rfl ?_ | refine w_getR rfl rfl rfl rfl rfl ?_
                           refine w_ldI rfl rfl ?_
                           refine w_ald rfl rfl rfl (by omega) rfl ?_
                           refine w_call rfl rfl rfl (k_joined (by omega)) ?_
                           refine w_ast rfl rfl rfl (by omega) rfl ?_
                           refine w_go rfl ?_
                           refine w_inc_8_6 rfl rfl ?_
                           refine w_go rfl ?_
                           first
                           | (rcases l with _ | ⟨y, r⟩
                              · exfalso; simp at hhl; omega
                              · have e1 : (hh - 1).toNat = r.length := by simp at hhl; omega
                                have hf2 : Fr [114] s0 (us s 114 (hh - 1).toNat 1) := hf.tr (Fr.us rfl)
                                have hw : w32 y = 0 := by have := hst.1; rw [e1, this] at b31; exact b31
                                exact l_lg111 (l := 1 :: r) hv0 (k + 1) ((k : Int) + 1) _ (by omega) (by simp only [List.length_cons]; omega) (by rw [evN, hev]; simp only [evT]; rw [if_neg (by omega), if_pos (by omega), if_pos hw]) (by rw [us_eq, e1]; exact hst.2.push) hu hL hC hD hN hf2 (by omega))
                           | (rcases l with _ | ⟨y, r⟩
                              · exfalso; simp at hhl; omega
                              · have e1 : (hh - 1).toNat = r.length := by simp at hhl; omega
                                have hf2 : Fr [114] s0 (us s 114 (hh - 1).toNat 0) := hf.tr (Fr.us rfl)
                                have hw : ¬ w32 y = 0 := by have := hst.1; rw [e1, this] at b31; exact b31
                                exact l_lg111 (l := 0 :: r) hv0 (k + 1) ((k : Int) + 1) _ (by omega) (by simp only [List.length_cons]; omega) (by rw [evN, hev]; simp only [evT]; rw [if_neg (by omega), if_pos (by omega), if_neg hw]) (by rw [us_eq, e1]; exact hst.2.push) hu hL hC hD hN hf2 (by omega))
                           | (rcases l with _ | ⟨y, r⟩
                              · exfalso; simp at hhl; omega
                              · rcases r with _ | ⟨x, r⟩
                                · exfalso; simp at hhl; omega
                                · have e1 : (hh + -1 - 1).toNat = r.length := by simp at hhl; omega
                                  have e2 : (hh + -1).toNat = r.length + 1 := by simp at hhl; omega
                                  have g1 : s 114 (hh + -1).toNat = y := by rw [e2]; exact hst.1
                                  have g2 : s 114 (hh + -1 - 1).toNat = x := by rw [e1]; exact hst.2.1
                                  rw [g1, g2]
                                  have hf2 : Fr [114] s0 (us s 114 (hh + -1 - 1).toNat (doneV (tk (D (143 + 50 * use + (k : Int)).toNat) - 10000) x y)) := hf.tr (Fr.us rfl)
                                  have ez : tk (D (143 + 50 * use + (k : Int)).toNat) - 10000 = (D (143 + 50 * use + (k : Int)).toNat) - 20000 := by omega
                                  exact l_lg111 (l := doneV (tk (D (143 + 50 * use + (k : Int)).toNat) - 10000) x y :: r) hv0 (k + 1) ((k : Int) + 1) _ (by omega) (by simp only [List.length_cons]; omega) (by rw [evN, hev]; simp only [evT]; rw [if_neg (by omega), if_neg (by omega), ez]) (by rw [us_eq, e1]; exact hst.2.2.push) hu hL hC hD hN hf2 (by omega))
                           | (have e1 : hh.toNat = l.length := by omega
                              have hf2 : Fr [114] s0 (us s 114 hh.toNat (tk (D (143 + 50 * use + (k : Int)).toNat))) := hf.tr (Fr.us rfl)
                              have ez : tk (D (143 + 50 * use + (k : Int)).toNat) = (D (143 + 50 * use + (k : Int)).toNat) := by omega
                              exact l_lg111 (l := tk (D (143 + 50 * use + (k : Int)).toNat) :: l) hv0 (k + 1) ((k : Int) + 1) _ (by omega) (by simp only [List.length_cons]; omega) (by rw [evN, hev]; simp only [evT]; rw [if_pos (by omega), if_pos (by omega), ez]) (by rw [us_eq, e1]; exact hst.push) hu hL hC hD hN hf2 (by omega))
                           | (have e1 : hh.toNat = l.length := by omega
                              have hf2 : Fr [114] s0 (us s 114 hh.toNat (n4 a b c e (-1 - tk (D (143 + 50 * use + (k : Int)).toNat)).toNat)) := hf.tr (Fr.us rfl)
                              have ez : -1 - tk (D (143 + 50 * use + (k : Int)).toNat) = (D (143 + 50 * use + (k : Int)).toNat) - 10000 := by omega
                              exact l_lg111 (l := n4 a b c e (-1 - tk (D (143 + 50 * use + (k : Int)).toNat)).toNat :: l) hv0 (k + 1) ((k : Int) + 1) _ (by omega) (by simp only [List.length_cons]; omega) (by rw [evN, hev]; simp only [evT]; rw [if_pos (by omega), if_neg (by omega), ez]) (by rw [us_eq, e1]; exact hst.push) hu hL hC hD hN hf2 (by omega)))))
            · first
              | (exfalso; omega)
              | (refine w_ldR rfl rfl rfl ?_
                 first | refine w_getI rfl rfl rfl rfl rfl ?_ | refine w_getR rfl rfl rfl rfl rfl ?_
                 refine w_ldI rfl rfl ?_
                 refine w_push rfl ?_
                 refine w_sub rfl ?_
                 refine w_ldR rfl rfl rfl ?_
                 first | refine w_getI rfl rfl rfl rfl rfl ?_ | refine w_getR rfl rfl rfl rfl rfl ?_
                 refine w_ldI rfl rfl ?_
                 refine w_push rfl ?_
                 refine w_sub rfl ?_
                 refine w_ald rfl rfl rfl (by omega) rfl ?_
                 refine w_ifNe0 rfl (fun b31 => ?_) (fun b31 => ?_)
                 · first
                   | (exfalso; omega)
                   | (refine w_push rfl ?_
                      refine w_ast rfl rfl rfl (by omega) rfl ?_
                      refine w_go rfl ?_
                      refine w_inc_8_6 rfl rfl ?_
                      refine w_go rfl ?_
                      first
                      | (rcases l with _ | ⟨y, r⟩
                         · exfalso; simp at hhl; omega
                         · have e1 : (hh - 1).toNat = r.length := by simp at hhl; omega
                           have hf2 : Fr [114] s0 (us s 114 (hh - 1).toNat 1) := hf.tr (Fr.us rfl)
                           have hw : w32 y = 0 := by have := hst.1; rw [e1, this] at b31; exact b31
                           exact l_lg111 (l := 1 :: r) hv0 (k + 1) ((k : Int) + 1) _ (by omega) (by simp only [List.length_cons]; omega) (by rw [evN, hev]; simp only [evT]; rw [if_neg (by omega), if_pos (by omega), if_pos hw]) (by rw [us_eq, e1]; exact hst.2.push) hu hL hC hD hN hf2 (by omega))
                      | (rcases l with _ | ⟨y, r⟩
                         · exfalso; simp at hhl; omega
                         · have e1 : (hh - 1).toNat = r.length := by simp at hhl; omega
                           have hf2 : Fr [114] s0 (us s 114 (hh - 1).toNat 0) := hf.tr (Fr.us rfl)
                           have hw : ¬ w32 y = 0 := by have := hst.1; rw [e1, this] at b31; exact b31
                           exact l_lg111 (l := 0 :: r) hv0 (k + 1) ((k : Int) + 1) _ (by omega) (by simp only [List.length_cons]; omega) (by rw [evN, hev]; simp only [evT]; rw [if_neg (by omega), if_pos (by omega), if_neg hw]) (by rw [us_eq, e1]; exact hst.2.push) hu hL hC hD hN hf2 (by omega))
                      | (rcases l with _ | ⟨y, r⟩
                         · exfalso; simp at hhl; omega
                         · rcases r with _ | ⟨x, r⟩
                           · exfalso; simp at hhl; omega
                           · have e1 : (hh + -1 - 1).toNat = r.length := by simp at hhl; omega
                             have e2 : (hh + -1).toNat = r.length + 1 := by simp at hhl; omega
                             have g1 : s 114 (hh + -1).toNat = y := by rw [e2]; exact hst.1
                             have g2 : s 114 (hh + -1 - 1).toNat = x := by rw [e1]; exact hst.2.1
                             rw [g1, g2]
                             have hf2 : Fr [114] s0 (us s 114 (hh + -1 - 1).toNat (doneV (tk (D (143 + 50 * use + (k : Int)).toNat) - 10000) x y)) := hf.tr (Fr.us rfl)
                             have ez : tk (D (143 + 50 * use + (k : Int)).toNat) - 10000 = (D (143 + 50 * use + (k : Int)).toNat) - 20000 := by omega
                             exact l_lg111 (l := doneV (tk (D (143 + 50 * use + (k : Int)).toNat) - 10000) x y :: r) hv0 (k + 1) ((k : Int) + 1) _ (by omega) (by simp only [List.length_cons]; omega) (by rw [evN, hev]; simp only [evT]; rw [if_neg (by omega), if_neg (by omega), ez]) (by rw [us_eq, e1]; exact hst.2.2.push) hu hL hC hD hN hf2 (by omega))
                      | (have e1 : hh.toNat = l.length := by omega
                         have hf2 : Fr [114] s0 (us s 114 hh.toNat (tk (D (143 + 50 * use + (k : Int)).toNat))) := hf.tr (Fr.us rfl)
                         have ez : tk (D (143 + 50 * use + (k : Int)).toNat) = (D (143 + 50 * use + (k : Int)).toNat) := by omega
                         exact l_lg111 (l := tk (D (143 + 50 * use + (k : Int)).toNat) :: l) hv0 (k + 1) ((k : Int) + 1) _ (by omega) (by simp only [List.length_cons]; omega) (by rw [evN, hev]; simp only [evT]; rw [if_pos (by omega), if_pos (by omega), ez]) (by rw [us_eq, e1]; exact hst.push) hu hL hC hD hN hf2 (by omega))
                      | (have e1 : hh.toNat = l.length := by omega
                         have hf2 : Fr [114] s0 (us s 114 hh.toNat (n4 a b c e (-1 - tk (D (143 + 50 * use + (k : Int)).toNat)).toNat)) := hf.tr (Fr.us rfl)
                         have ez : -1 - tk (D (143 + 50 * use + (k : Int)).toNat) = (D (143 + 50 * use + (k : Int)).toNat) - 10000 := by omega
                         exact l_lg111 (l := n4 a b c e (-1 - tk (D (143 + 50 * use + (k : Int)).toNat)).toNat :: l) hv0 (k + 1) ((k : Int) + 1) _ (by omega) (by simp only [List.length_cons]; omega) (by rw [evN, hev]; simp only [evT]; rw [if_pos (by omega), if_neg (by omega), ez]) (by rw [us_eq, e1]; exact hst.push) hu hL hC hD hN hf2 (by omega)))
                 · first
                   | (exfalso; omega)
                   | (refine w_push rfl ?_
                      refine w_go rfl ?_
                      refine w_ast rfl rfl rfl (by omega) rfl ?_
                      refine w_go rfl ?_
                      refine w_inc_8_6 rfl rfl ?_
                      refine w_go rfl ?_
                      first
                      | (rcases l with _ | ⟨y, r⟩
                         · exfalso; simp at hhl; omega
                         · have e1 : (hh - 1).toNat = r.length := by simp at hhl; omega
                           have hf2 : Fr [114] s0 (us s 114 (hh - 1).toNat 1) := hf.tr (Fr.us rfl)
                           have hw : w32 y = 0 := by have := hst.1; rw [e1, this] at b31; exact b31
                           exact l_lg111 (l := 1 :: r) hv0 (k + 1) ((k : Int) + 1) _ (by omega) (by simp only [List.length_cons]; omega) (by rw [evN, hev]; simp only [evT]; rw [if_neg (by omega), if_pos (by omega), if_pos hw]) (by rw [us_eq, e1]; exact hst.2.push) hu hL hC hD hN hf2 (by omega))
                      | (rcases l with _ | ⟨y, r⟩
                         · exfalso; simp at hhl; omega
                         · have e1 : (hh - 1).toNat = r.length := by simp at hhl; omega
                           have hf2 : Fr [114] s0 (us s 114 (hh - 1).toNat 0) := hf.tr (Fr.us rfl)
                           have hw : ¬ w32 y = 0 := by have := hst.1; rw [e1, this] at b31; exact b31
                           exact l_lg111 (l := 0 :: r) hv0 (k + 1) ((k : Int) + 1) _ (by omega) (by simp only [List.length_cons]; omega) (by rw [evN, hev]; simp only [evT]; rw [if_neg (by omega), if_pos (by omega), if_neg hw]) (by rw [us_eq, e1]; exact hst.2.push) hu hL hC hD hN hf2 (by omega))
                      | (rcases l with _ | ⟨y, r⟩
                         · exfalso; simp at hhl; omega
                         · rcases r with _ | ⟨x, r⟩
                           · exfalso; simp at hhl; omega
                           · have e1 : (hh + -1 - 1).toNat = r.length := by simp at hhl; omega
                             have e2 : (hh + -1).toNat = r.length + 1 := by simp at hhl; omega
                             have g1 : s 114 (hh + -1).toNat = y := by rw [e2]; exact hst.1
                             have g2 : s 114 (hh + -1 - 1).toNat = x := by rw [e1]; exact hst.2.1
                             rw [g1, g2]
                             have hf2 : Fr [114] s0 (us s 114 (hh + -1 - 1).toNat (doneV (tk (D (143 + 50 * use + (k : Int)).toNat) - 10000) x y)) := hf.tr (Fr.us rfl)
                             have ez : tk (D (143 + 50 * use + (k : Int)).toNat) - 10000 = (D (143 + 50 * use + (k : Int)).toNat) - 20000 := by omega
                             exact l_lg111 (l := doneV (tk (D (143 + 50 * use + (k : Int)).toNat) - 10000) x y :: r) hv0 (k + 1) ((k : Int) + 1) _ (by omega) (by simp only [List.length_cons]; omega) (by rw [evN, hev]; simp only [evT]; rw [if_neg (by omega), if_neg (by omega), ez]) (by rw [us_eq, e1]; exact hst.2.2.push) hu hL hC hD hN hf2 (by omega))
                      | (have e1 : hh.toNat = l.length := by omega
                         have hf2 : Fr [114] s0 (us s 114 hh.toNat (tk (D (143 + 50 * use + (k : Int)).toNat))) := hf.tr (Fr.us rfl)
                         have ez : tk (D (143 + 50 * use + (k : Int)).toNat) = (D (143 + 50 * use + (k : Int)).toNat) := by omega
                         exact l_lg111 (l := tk (D (143 + 50 * use + (k : Int)).toNat) :: l) hv0 (k + 1) ((k : Int) + 1) _ (by omega) (by simp only [List.length_cons]; omega) (by rw [evN, hev]; simp only [evT]; rw [if_pos (by omega), if_pos (by omega), ez]) (by rw [us_eq, e1]; exact hst.push) hu hL hC hD hN hf2 (by omega))
                      | (have e1 : hh.toNat = l.length := by omega
                         have hf2 : Fr [114] s0 (us s 114 hh.toNat (n4 a b c e (-1 - tk (D (143 + 50 * use + (k : Int)).toNat)).toNat)) := hf.tr (Fr.us rfl)
                         have ez : -1 - tk (D (143 + 50 * use + (k : Int)).toNat) = (D (143 + 50 * use + (k : Int)).toNat) - 10000 := by omega
                         exact l_lg111 (l := n4 a b c e (-1 - tk (D (143 + 50 * use + (k : Int)).toNat)).toNat :: l) hv0 (k + 1) ((k : Int) + 1) _ (by omega) (by simp only [List.length_cons]; omega) (by rw [evN, hev]; simp only [evT]; rw [if_pos (by omega), if_neg (by omega), ez]) (by rw [us_eq, e1]; exact hst.push) hu hL hC hD hN hf2 (by omega))))))
termination_by (50 - k)
decreasing_by all_goals omega
theorem k_gives111 {d : Nat} {s : mSt} {D : Nat → Int} {use a b c e : Int} (hu : 0 ≤ use ∧ use ≤ 1) (hL : LwR s 111 D use) (hC : COk D) : CI (d + 1) 49 [.inr (.inr 111), .inl a, .inl b, .inl c, .inl e] (s) (fun v s1 => v = gv D use a b c e ∧ Fr [114] s s1) := by
  refine CI.mk rfl ?_
  show WP (d + 1) 49 0 [some (.inr (.inr 111)), some (.inl a), some (.inl b), some (.inl c), some (.inl e), none, none, none] [] (encA (s)) _
  refine w_push rfl ?_
  refine w_StI_8_5 rfl rfl ?_
  refine w_push rfl ?_
  refine w_StI_8_6 rfl rfl ?_
  have hcc := hC.at hu
  exact l_lg111 (l := []) (fun s1 hf => ⟨rfl, hf⟩) 0 0 0 rfl rfl rfl trivial hu hL hcc trivial trivial Fr.rf (by have := hcc.1; omega)
theorem k_without119 {d : Nat} {s : mSt} {a b use : Int} (hu : s 119 0 = use) (hu1 : 0 ≤ use ∧ use ≤ 1) : Call (d + 0) 50 [.inr (.inr 119), .inl a, .inl b] (encA (s)) (some (.inl (if use = 0 then a + b else a))) (encA (s)) := by
  refine CI.ex (CI.mk rfl ?_)
  show WP (d + 0) 50 0 [some (.inr (.inr 119)), some (.inl a), some (.inl b)] [] (encA (s)) _
  refine w_ldR rfl rfl rfl ?_
  first | refine w_getI rfl rfl rfl rfl rfl ?_ | refine w_getR rfl rfl rfl rfl rfl ?_
  refine w_irNe0 rfl (by omega) (fun b2 => ?_) (fun b2 => ?_)
  · first
    | (exfalso; omega)
    | (refine w_ldI rfl rfl ?_
       refine w_retI rfl ?_
       refine ⟨?_, rfl⟩
       first | rw [if_pos (by omega)] | rw [if_neg (by omega)])
  · first
    | (exfalso; omega)
    | (refine w_ldI rfl rfl ?_
       refine w_ldI rfl rfl ?_
       refine w_add rfl ?_
       refine w_go rfl ?_
       refine w_retI rfl ?_
       refine ⟨?_, rfl⟩
       first | rw [if_pos (by omega)] | rw [if_neg (by omega)])
theorem l_lg119 {d : Nat} {s : mSt} {P : Int → mSt → Prop} {D : Nat → Int} {use a b c e : Int} {l : List Int} {x7 : Option mAV} {s0 : mSt} (hv0 : ∀ s1, Fr [122] s0 s1 → P (gv D use a b c e) s1) (k : Nat) (i hh : Int) (hi : i = (k : Int)) (hhl : hh = (l.length : Int)) (hev : evN (n4 a b c e) D (143 + 50 * use) k = l) (hst : Stk l (s 122)) (hu : 0 ≤ use ∧ use ≤ 1) (hL : LwR s0 119 D use) (hC : CodeOk D (143 + 50 * use) (D (121 + use).toNat)) (hD : True) (hN : True) (hf : Fr [122] s0 s) (hk : (k : Int) ≤ D (121 + use).toNat) : WP (d + 1) 49 4 [some (.inr (.inr 119)), some (.inl a), some (.inl b), some (.inl c), some (.inl e), some (.inl hh), some (.inl i), x7] [] (encA (s)) (QI P) := by
  subst hi
  have hlen := evN_len (nm := n4 a b c e) hC k hk
  rw [hev] at hlen
  have hle := hgt_le D (143 + 50 * use) k
  have hcn := hC.1
  have hc := hC.2 k
  have hsz : s 120 1 = D (121 + use).toNat := (congrFun (hf.at 120 rfl) 1).trans hL.2.1
  have htk : ∀ t : Int, (t < 10000 ∧ tk t = t) ∨ (10000 ≤ t ∧ t < 20000 ∧ tk t = 9999 - t) ∨ (20000 ≤ t ∧ tk t = t - 10000) := fun t => by unfold tk; split; (exact Or.inl ⟨by omega, rfl⟩); split; (exact Or.inr (Or.inl ⟨by omega, by omega, rfl⟩)); (exact Or.inr (Or.inr ⟨by omega, rfl⟩))
  have ht := htk (D (143 + 50 * use + (k : Int)).toNat)
  refine w_ldI rfl rfl ?_
  refine w_ldR rfl rfl rfl ?_
  first | refine w_getI rfl rfl rfl rfl rfl ?_ | refine w_getR rfl rfl rfl rfl rfl ?_
  first | refine w_getI rfl rfl rfl rfl rfl ?_ | refine w_getR rfl rfl rfl rfl rfl ?_
  refine w_crGe rfl (by omega) (by omega) (fun b8 => ?_) (fun b8 => ?_)
  · first
    | (exfalso; omega)
    | (refine w_ldI rfl rfl ?_
       refine w_irLe0 rfl (by omega) (fun b93 => ?_) (fun b93 => ?_)
       · first
         | (exfalso; omega)
         | (refine w_ldR rfl rfl rfl ?_
            refine w_ldI rfl rfl ?_
            refine w_ldI rfl rfl ?_
            refine w_callV rfl rfl rfl rfl rfl rfl rfl (k_without119 (use := use) ((congrFun (hf.at 119 rfl) 0).trans hL.1) hu) ?_
            refine w_StI_8_6 rfl rfl ?_
            refine w_push rfl ?_
            refine w_push rfl ?_
            refine w_ldI rfl rfl ?_
            refine w_m2 rfl rfl ?_
            refine w_m2 rfl rfl ?_
            refine w_retI rfl ?_
            rw [mm_hld]
            have hp := hgt_pos hC k
            have hk2 : (k : Int) = D (121 + use).toNat := by omega
            have e0 : (D (121 + use).toNat).toNat = k := by omega
            have hfin := hv0 s hf
            unfold gv at hfin
            rw [e0, hev] at hfin
            first
            | (rw [if_pos (by omega), hst.bot (by omega)] at hfin; exact hfin)
            | (rw [if_neg (by omega)] at hfin; exact hfin))
       · first
         | (exfalso; omega)
         | (refine w_ldR rfl rfl rfl ?_
            first | refine w_getI rfl rfl rfl rfl rfl ?_ | refine w_getR rfl rfl rfl rfl rfl ?_
            refine w_push rfl ?_
            refine w_aldk 0 rfl rfl rfl rfl rfl rfl ?_
            refine w_go rfl ?_
            refine w_StI_8_6 rfl rfl ?_
            refine w_push rfl ?_
            refine w_push rfl ?_
            refine w_ldI rfl rfl ?_
            refine w_m2 rfl rfl ?_
            refine w_m2 rfl rfl ?_
            refine w_retI rfl ?_
            rw [mm_hld]
            have hp := hgt_pos hC k
            have hk2 : (k : Int) = D (121 + use).toNat := by omega
            have e0 : (D (121 + use).toNat).toNat = k := by omega
            have hfin := hv0 s hf
            unfold gv at hfin
            rw [e0, hev] at hfin
            first
            | (rw [if_pos (by omega), hst.bot (by omega)] at hfin; exact hfin)
            | (rw [if_neg (by omega)] at hfin; exact hfin)))
  · first
    | (exfalso; omega)
    | (have hc := hc (by omega)
       refine w_ldR rfl rfl rfl ?_
       first | refine w_getI rfl rfl rfl rfl rfl ?_ | refine w_getR rfl rfl rfl rfl rfl ?_
       refine w_ldI rfl rfl ?_
       refine w_callV rfl rfl rfl rfl rfl rfl rfl (k_at120 (by omega) (by omega)) ?_
       rw [show rowAt s 120 (k : Int) = tk (D (143 + 50 * use + (k : Int)).toNat) by unfold rowAt; rw [if_pos (by omega)]; exact (congrFun (hf.at 121 rfl) _).trans (hL.2.2 k (by omega) (by omega) (by omega))]
       refine w_StI_8_7 rfl rfl ?_
       refine w_ldI rfl rfl ?_
       refine w_push rfl ?_
       refine w_crNe rfl (by omega) (by omega) (fun b16 => ?_) (fun b16 => ?_)
       · first
         | (exfalso; omega)
         | (refine w_ldI rfl rfl ?_
            refine w_push rfl ?_
            refine w_crLe rfl (by omega) (by omega) (fun b39 => ?_) (fun b39 => ?_)
            · first
              | (exfalso; omega)
              | (refine w_ldI rfl rfl ?_
                 refine w_push rfl ?_
                 refine w_crGe rfl (by omega) (by omega) (fun b67 => ?_) (fun b67 => ?_)
                 · first
                   | (exfalso; omega)
                   | (refine w_inc_8_6 rfl rfl ?_
                      refine w_go rfl ?_
                      first
                      | (rcases l with _ | ⟨y, r⟩
                         · exfalso; simp at hhl; omega
                         · have e1 : (hh - 1).toNat = r.length := by simp at hhl; omega
                           have hf2 : Fr [122] s0 (us s 122 (hh - 1).toNat 1) := hf.tr (Fr.us rfl)
                           have hw : w32 y = 0 := by have := hst.1; rw [e1, this] at b31; exact b31
                           exact l_lg119 (l := 1 :: r) hv0 (k + 1) ((k : Int) + 1) _ (by omega) (by simp only [List.length_cons]; omega) (by rw [evN, hev]; simp only [evT]; rw [if_neg (by omega), if_pos (by omega), if_pos hw]) (by rw [us_eq, e1]; exact hst.2.push) hu hL hC hD hN hf2 (by omega))
                      | (rcases l with _ | ⟨y, r⟩
                         · exfalso; simp at hhl; omega
                         · have e1 : (hh - 1).toNat = r.length := by simp at hhl; omega
                           have hf2 : Fr [122] s0 (us s 122 (hh - 1).toNat 0) := hf.tr (Fr.us rfl)
                           have hw : ¬ w32 y = 0 := by have := hst.1; rw [e1, this] at b31; exact b31
                           exact l_lg119 (l := 0 :: r) hv0 (k + 1) ((k : Int) + 1) _ (by omega) (by simp only [List.length_cons]; omega) (by rw [evN, hev]; simp only [evT]; rw [if_neg (by omega), if_pos (by omega), if_neg hw]) (by rw [us_eq, e1]; exact hst.2.push) hu hL hC hD hN hf2 (by omega))
                      | (rcases l with _ | ⟨y, r⟩
                         · exfalso; simp at hhl; omega
                         · rcases r with _ | ⟨x, r⟩
                           · exfalso; simp at hhl; omega
                           · have e1 : (hh + -1 - 1).toNat = r.length := by simp at hhl; omega
                             have e2 : (hh + -1).toNat = r.length + 1 := by simp at hhl; omega
                             have g1 : s 122 (hh + -1).toNat = y := by rw [e2]; exact hst.1
                             have g2 : s 122 (hh + -1 - 1).toNat = x := by rw [e1]; exact hst.2.1
                             rw [g1, g2]
                             have hf2 : Fr [122] s0 (us s 122 (hh + -1 - 1).toNat (doneV (tk (D (143 + 50 * use + (k : Int)).toNat) - 10000) x y)) := hf.tr (Fr.us rfl)
                             have ez : tk (D (143 + 50 * use + (k : Int)).toNat) - 10000 = (D (143 + 50 * use + (k : Int)).toNat) - 20000 := by omega
                             exact l_lg119 (l := doneV (tk (D (143 + 50 * use + (k : Int)).toNat) - 10000) x y :: r) hv0 (k + 1) ((k : Int) + 1) _ (by omega) (by simp only [List.length_cons]; omega) (by rw [evN, hev]; simp only [evT]; rw [if_neg (by omega), if_neg (by omega), ez]) (by rw [us_eq, e1]; exact hst.2.2.push) hu hL hC hD hN hf2 (by omega))
                      | (have e1 : hh.toNat = l.length := by omega
                         have hf2 : Fr [122] s0 (us s 122 hh.toNat (tk (D (143 + 50 * use + (k : Int)).toNat))) := hf.tr (Fr.us rfl)
                         have ez : tk (D (143 + 50 * use + (k : Int)).toNat) = (D (143 + 50 * use + (k : Int)).toNat) := by omega
                         exact l_lg119 (l := tk (D (143 + 50 * use + (k : Int)).toNat) :: l) hv0 (k + 1) ((k : Int) + 1) _ (by omega) (by simp only [List.length_cons]; omega) (by rw [evN, hev]; simp only [evT]; rw [if_pos (by omega), if_pos (by omega), ez]) (by rw [us_eq, e1]; exact hst.push) hu hL hC hD hN hf2 (by omega))
                      | (have e1 : hh.toNat = l.length := by omega
                         have hf2 : Fr [122] s0 (us s 122 hh.toNat (n4 a b c e (-1 - tk (D (143 + 50 * use + (k : Int)).toNat)).toNat)) := hf.tr (Fr.us rfl)
                         have ez : -1 - tk (D (143 + 50 * use + (k : Int)).toNat) = (D (143 + 50 * use + (k : Int)).toNat) - 10000 := by omega
                         exact l_lg119 (l := n4 a b c e (-1 - tk (D (143 + 50 * use + (k : Int)).toNat)).toNat :: l) hv0 (k + 1) ((k : Int) + 1) _ (by omega) (by simp only [List.length_cons]; omega) (by rw [evN, hev]; simp only [evT]; rw [if_pos (by omega), if_neg (by omega), ez]) (by rw [us_eq, e1]; exact hst.push) hu hL hC hD hN hf2 (by omega)))
                 · first
                   | (exfalso; omega)
                   | (refine w_ldI rfl rfl ?_
                      refine w_ldR rfl rfl rfl ?_
                      first | refine w_getI rfl rfl rfl rfl rfl ?_ | refine w_getR rfl rfl rfl rfl rfl ?_
                      refine w_alen rfl rfl rfl ?_
                      refine w_crGe rfl (by omega) (by omega) (fun b72 => ?_) (fun b72 => ?_)
                      · first
                        | (exfalso; omega)
                        | (refine w_inc_8_6 rfl rfl ?_
                           refine w_go rfl ?_
                           first
                           | (rcases l with _ | ⟨y, r⟩
                              · exfalso; simp at hhl; omega
                              · have e1 : (hh - 1).toNat = r.length := by simp at hhl; omega
                                have hf2 : Fr [122] s0 (us s 122 (hh - 1).toNat 1) := hf.tr (Fr.us rfl)
                                have hw : w32 y = 0 := by have := hst.1; rw [e1, this] at b31; exact b31
                                exact l_lg119 (l := 1 :: r) hv0 (k + 1) ((k : Int) + 1) _ (by omega) (by simp only [List.length_cons]; omega) (by rw [evN, hev]; simp only [evT]; rw [if_neg (by omega), if_pos (by omega), if_pos hw]) (by rw [us_eq, e1]; exact hst.2.push) hu hL hC hD hN hf2 (by omega))
                           | (rcases l with _ | ⟨y, r⟩
                              · exfalso; simp at hhl; omega
                              · have e1 : (hh - 1).toNat = r.length := by simp at hhl; omega
                                have hf2 : Fr [122] s0 (us s 122 (hh - 1).toNat 0) := hf.tr (Fr.us rfl)
                                have hw : ¬ w32 y = 0 := by have := hst.1; rw [e1, this] at b31; exact b31
                                exact l_lg119 (l := 0 :: r) hv0 (k + 1) ((k : Int) + 1) _ (by omega) (by simp only [List.length_cons]; omega) (by rw [evN, hev]; simp only [evT]; rw [if_neg (by omega), if_pos (by omega), if_neg hw]) (by rw [us_eq, e1]; exact hst.2.push) hu hL hC hD hN hf2 (by omega))
                           | (rcases l with _ | ⟨y, r⟩
                              · exfalso; simp at hhl; omega
                              · rcases r with _ | ⟨x, r⟩
                                · exfalso; simp at hhl; omega
                                · have e1 : (hh + -1 - 1).toNat = r.length := by simp at hhl; omega
                                  have e2 : (hh + -1).toNat = r.length + 1 := by simp at hhl; omega
                                  have g1 : s 122 (hh + -1).toNat = y := by rw [e2]; exact hst.1
                                  have g2 : s 122 (hh + -1 - 1).toNat = x := by rw [e1]; exact hst.2.1
                                  rw [g1, g2]
                                  have hf2 : Fr [122] s0 (us s 122 (hh + -1 - 1).toNat (doneV (tk (D (143 + 50 * use + (k : Int)).toNat) - 10000) x y)) := hf.tr (Fr.us rfl)
                                  have ez : tk (D (143 + 50 * use + (k : Int)).toNat) - 10000 = (D (143 + 50 * use + (k : Int)).toNat) - 20000 := by omega
                                  exact l_lg119 (l := doneV (tk (D (143 + 50 * use + (k : Int)).toNat) - 10000) x y :: r) hv0 (k + 1) ((k : Int) + 1) _ (by omega) (by simp only [List.length_cons]; omega) (by rw [evN, hev]; simp only [evT]; rw [if_neg (by omega), if_neg (by omega), ez]) (by rw [us_eq, e1]; exact hst.2.2.push) hu hL hC hD hN hf2 (by omega))
                           | (have e1 : hh.toNat = l.length := by omega
                              have hf2 : Fr [122] s0 (us s 122 hh.toNat (tk (D (143 + 50 * use + (k : Int)).toNat))) := hf.tr (Fr.us rfl)
                              have ez : tk (D (143 + 50 * use + (k : Int)).toNat) = (D (143 + 50 * use + (k : Int)).toNat) := by omega
                              exact l_lg119 (l := tk (D (143 + 50 * use + (k : Int)).toNat) :: l) hv0 (k + 1) ((k : Int) + 1) _ (by omega) (by simp only [List.length_cons]; omega) (by rw [evN, hev]; simp only [evT]; rw [if_pos (by omega), if_pos (by omega), ez]) (by rw [us_eq, e1]; exact hst.push) hu hL hC hD hN hf2 (by omega))
                           | (have e1 : hh.toNat = l.length := by omega
                              have hf2 : Fr [122] s0 (us s 122 hh.toNat (n4 a b c e (-1 - tk (D (143 + 50 * use + (k : Int)).toNat)).toNat)) := hf.tr (Fr.us rfl)
                              have ez : -1 - tk (D (143 + 50 * use + (k : Int)).toNat) = (D (143 + 50 * use + (k : Int)).toNat) - 10000 := by omega
                              exact l_lg119 (l := n4 a b c e (-1 - tk (D (143 + 50 * use + (k : Int)).toNat)).toNat :: l) hv0 (k + 1) ((k : Int) + 1) _ (by omega) (by simp only [List.length_cons]; omega) (by rw [evN, hev]; simp only [evT]; rw [if_pos (by omega), if_neg (by omega), ez]) (by rw [us_eq, e1]; exact hst.push) hu hL hC hD hN hf2 (by omega)))
                      · first
                        | (exfalso; omega)
                        | (refine w_ldR rfl rfl rfl ?_
                           first | refine w_getI rfl rfl rfl rfl rfl ?_ | refine w_getR rfl rfl rfl rfl rfl ?_
                           refine w_ldI rfl rfl ?_
                           refine w_ldI rfl rfl ?_
                           refine w_irGe0 rfl (by omega) (fun b77 => ?_) (fun b77 => ?_)
                           · first
                             | (exfalso; omega)
                             | (refine w_ldI rfl rfl ?_
                                refine w_ast rfl rfl rfl (by omega) rfl ?_
                                refine w_inc_8_5 rfl rfl ?_
                                refine w_inc_8_6 rfl rfl ?_
                                refine w_go rfl ?_
                                first
                                | (rcases l with _ | ⟨y, r⟩
                                   · exfalso; simp at hhl; omega
                                   · have e1 : (hh - 1).toNat = r.length := by simp at hhl; omega
                                     have hf2 : Fr [122] s0 (us s 122 (hh - 1).toNat 1) := hf.tr (Fr.us rfl)
                                     have hw : w32 y = 0 := by have := hst.1; rw [e1, this] at b31; exact b31
                                     exact l_lg119 (l := 1 :: r) hv0 (k + 1) ((k : Int) + 1) _ (by omega) (by simp only [List.length_cons]; omega) (by rw [evN, hev]; simp only [evT]; rw [if_neg (by omega), if_pos (by omega), if_pos hw]) (by rw [us_eq, e1]; exact hst.2.push) hu hL hC hD hN hf2 (by omega))
                                | (rcases l with _ | ⟨y, r⟩
                                   · exfalso; simp at hhl; omega
                                   · have e1 : (hh - 1).toNat = r.length := by simp at hhl; omega
                                     have hf2 : Fr [122] s0 (us s 122 (hh - 1).toNat 0) := hf.tr (Fr.us rfl)
                                     have hw : ¬ w32 y = 0 := by have := hst.1; rw [e1, this] at b31; exact b31
                                     exact l_lg119 (l := 0 :: r) hv0 (k + 1) ((k : Int) + 1) _ (by omega) (by simp only [List.length_cons]; omega) (by rw [evN, hev]; simp only [evT]; rw [if_neg (by omega), if_pos (by omega), if_neg hw]) (by rw [us_eq, e1]; exact hst.2.push) hu hL hC hD hN hf2 (by omega))
                                | (rcases l with _ | ⟨y, r⟩
                                   · exfalso; simp at hhl; omega
                                   · rcases r with _ | ⟨x, r⟩
                                     · exfalso; simp at hhl; omega
                                     · have e1 : (hh + -1 - 1).toNat = r.length := by simp at hhl; omega
                                       have e2 : (hh + -1).toNat = r.length + 1 := by simp at hhl; omega
                                       have g1 : s 122 (hh + -1).toNat = y := by rw [e2]; exact hst.1
                                       have g2 : s 122 (hh + -1 - 1).toNat = x := by rw [e1]; exact hst.2.1
                                       rw [g1, g2]
                                       have hf2 : Fr [122] s0 (us s 122 (hh + -1 - 1).toNat (doneV (tk (D (143 + 50 * use + (k : Int)).toNat) - 10000) x y)) := hf.tr (Fr.us rfl)
                                       have ez : tk (D (143 + 50 * use + (k : Int)).toNat) - 10000 = (D (143 + 50 * use + (k : Int)).toNat) - 20000 := by omega
                                       exact l_lg119 (l := doneV (tk (D (143 + 50 * use + (k : Int)).toNat) - 10000) x y :: r) hv0 (k + 1) ((k : Int) + 1) _ (by omega) (by simp only [List.length_cons]; omega) (by rw [evN, hev]; simp only [evT]; rw [if_neg (by omega), if_neg (by omega), ez]) (by rw [us_eq, e1]; exact hst.2.2.push) hu hL hC hD hN hf2 (by omega))
                                | (have e1 : hh.toNat = l.length := by omega
                                   have hf2 : Fr [122] s0 (us s 122 hh.toNat (tk (D (143 + 50 * use + (k : Int)).toNat))) := hf.tr (Fr.us rfl)
                                   have ez : tk (D (143 + 50 * use + (k : Int)).toNat) = (D (143 + 50 * use + (k : Int)).toNat) := by omega
                                   exact l_lg119 (l := tk (D (143 + 50 * use + (k : Int)).toNat) :: l) hv0 (k + 1) ((k : Int) + 1) _ (by omega) (by simp only [List.length_cons]; omega) (by rw [evN, hev]; simp only [evT]; rw [if_pos (by omega), if_pos (by omega), ez]) (by rw [us_eq, e1]; exact hst.push) hu hL hC hD hN hf2 (by omega))
                                | (have e1 : hh.toNat = l.length := by omega
                                   have hf2 : Fr [122] s0 (us s 122 hh.toNat (n4 a b c e (-1 - tk (D (143 + 50 * use + (k : Int)).toNat)).toNat)) := hf.tr (Fr.us rfl)
                                   have ez : -1 - tk (D (143 + 50 * use + (k : Int)).toNat) = (D (143 + 50 * use + (k : Int)).toNat) - 10000 := by omega
                                   exact l_lg119 (l := n4 a b c e (-1 - tk (D (143 + 50 * use + (k : Int)).toNat)).toNat :: l) hv0 (k + 1) ((k : Int) + 1) _ (by omega) (by simp only [List.length_cons]; omega) (by rw [evN, hev]; simp only [evT]; rw [if_pos (by omega), if_neg (by omega), ez]) (by rw [us_eq, e1]; exact hst.push) hu hL hC hD hN hf2 (by omega)))
                           · first
                             | (exfalso; omega)
                             | (refine w_push rfl ?_
                                refine w_ldI rfl rfl ?_
                                refine w_sub rfl ?_
                                refine w_ldI rfl rfl ?_
                                refine w_ldI rfl rfl ?_
                                refine w_ldI rfl rfl ?_
                                refine w_ldI rfl rfl ?_
                                refine w_call rfl rfl rfl (k_named (by omega)) ?_
                                refine w_go rfl ?_
                                refine w_ast rfl rfl rfl (by omega) rfl ?_
                                refine w_inc_8_5 rfl rfl ?_
                                refine w_inc_8_6 rfl rfl ?_
                                refine w_go rfl ?_
                                first
                                | (rcases l with _ | ⟨y, r⟩
                                   · exfalso; simp at hhl; omega
                                   · have e1 : (hh - 1).toNat = r.length := by simp at hhl; omega
                                     have hf2 : Fr [122] s0 (us s 122 (hh - 1).toNat 1) := hf.tr (Fr.us rfl)
                                     have hw : w32 y = 0 := by have := hst.1; rw [e1, this] at b31; exact b31
                                     exact l_lg119 (l := 1 :: r) hv0 (k + 1) ((k : Int) + 1) _ (by omega) (by simp only [List.length_cons]; omega) (by rw [evN, hev]; simp only [evT]; rw [if_neg (by omega), if_pos (by omega), if_pos hw]) (by rw [us_eq, e1]; exact hst.2.push) hu hL hC hD hN hf2 (by omega))
                                | (rcases l with _ | ⟨y, r⟩
                                   · exfalso; simp at hhl; omega
                                   · have e1 : (hh - 1).toNat = r.length := by simp at hhl; omega
                                     have hf2 : Fr [122] s0 (us s 122 (hh - 1).toNat 0) := hf.tr (Fr.us rfl)
                                     have hw : ¬ w32 y = 0 := by have := hst.1; rw [e1, this] at b31; exact b31
                                     exact l_lg119 (l := 0 :: r) hv0 (k + 1) ((k : Int) + 1) _ (by omega) (by simp only [List.length_cons]; omega) (by rw [evN, hev]; simp only [evT]; rw [if_neg (by omega), if_pos (by omega), if_neg hw]) (by rw [us_eq, e1]; exact hst.2.push) hu hL hC hD hN hf2 (by omega))
                                | (rcases l with _ | ⟨y, r⟩
                                   · exfalso; simp at hhl; omega
                                   · rcases r with _ | ⟨x, r⟩
                                     · exfalso; simp at hhl; omega
                                     · have e1 : (hh + -1 - 1).toNat = r.length := by simp at hhl; omega
                                       have e2 : (hh + -1).toNat = r.length + 1 := by simp at hhl; omega
                                       have g1 : s 122 (hh + -1).toNat = y := by rw [e2]; exact hst.1
                                       have g2 : s 122 (hh + -1 - 1).toNat = x := by rw [e1]; exact hst.2.1
                                       rw [g1, g2]
                                       have hf2 : Fr [122] s0 (us s 122 (hh + -1 - 1).toNat (doneV (tk (D (143 + 50 * use + (k : Int)).toNat) - 10000) x y)) := hf.tr (Fr.us rfl)
                                       have ez : tk (D (143 + 50 * use + (k : Int)).toNat) - 10000 = (D (143 + 50 * use + (k : Int)).toNat) - 20000 := by omega
                                       exact l_lg119 (l := doneV (tk (D (143 + 50 * use + (k : Int)).toNat) - 10000) x y :: r) hv0 (k + 1) ((k : Int) + 1) _ (by omega) (by simp only [List.length_cons]; omega) (by rw [evN, hev]; simp only [evT]; rw [if_neg (by omega), if_neg (by omega), ez]) (by rw [us_eq, e1]; exact hst.2.2.push) hu hL hC hD hN hf2 (by omega))
                                | (have e1 : hh.toNat = l.length := by omega
                                   have hf2 : Fr [122] s0 (us s 122 hh.toNat (tk (D (143 + 50 * use + (k : Int)).toNat))) := hf.tr (Fr.us rfl)
                                   have ez : tk (D (143 + 50 * use + (k : Int)).toNat) = (D (143 + 50 * use + (k : Int)).toNat) := by omega
                                   exact l_lg119 (l := tk (D (143 + 50 * use + (k : Int)).toNat) :: l) hv0 (k + 1) ((k : Int) + 1) _ (by omega) (by simp only [List.length_cons]; omega) (by rw [evN, hev]; simp only [evT]; rw [if_pos (by omega), if_pos (by omega), ez]) (by rw [us_eq, e1]; exact hst.push) hu hL hC hD hN hf2 (by omega))
                                | (have e1 : hh.toNat = l.length := by omega
                                   have hf2 : Fr [122] s0 (us s 122 hh.toNat (n4 a b c e (-1 - tk (D (143 + 50 * use + (k : Int)).toNat)).toNat)) := hf.tr (Fr.us rfl)
                                   have ez : -1 - tk (D (143 + 50 * use + (k : Int)).toNat) = (D (143 + 50 * use + (k : Int)).toNat) - 10000 := by omega
                                   exact l_lg119 (l := n4 a b c e (-1 - tk (D (143 + 50 * use + (k : Int)).toNat)).toNat :: l) hv0 (k + 1) ((k : Int) + 1) _ (by omega) (by simp only [List.length_cons]; omega) (by rw [evN, hev]; simp only [evT]; rw [if_pos (by omega), if_neg (by omega), ez]) (by rw [us_eq, e1]; exact hst.push) hu hL hC hD hN hf2 (by omega))))))
            · first
              | (exfalso; omega)
              | (refine w_ldI rfl rfl ?_
                 refine w_push rfl ?_
                 refine w_crLt rfl (by omega) (by omega) (fun b42 => ?_) (fun b42 => ?_)
                 · first
                   | (exfalso; omega)
                   | (refine w_ldI rfl rfl ?_
                      refine w_push rfl ?_
                      refine w_crGe rfl (by omega) (by omega) (fun b67 => ?_) (fun b67 => ?_)
                      · first
                        | (exfalso; omega)
                        | (refine w_inc_8_6 rfl rfl ?_
                           refine w_go rfl ?_
                           first
                           | (rcases l with _ | ⟨y, r⟩
                              · exfalso; simp at hhl; omega
                              · have e1 : (hh - 1).toNat = r.length := by simp at hhl; omega
                                have hf2 : Fr [122] s0 (us s 122 (hh - 1).toNat 1) := hf.tr (Fr.us rfl)
                                have hw : w32 y = 0 := by have := hst.1; rw [e1, this] at b31; exact b31
                                exact l_lg119 (l := 1 :: r) hv0 (k + 1) ((k : Int) + 1) _ (by omega) (by simp only [List.length_cons]; omega) (by rw [evN, hev]; simp only [evT]; rw [if_neg (by omega), if_pos (by omega), if_pos hw]) (by rw [us_eq, e1]; exact hst.2.push) hu hL hC hD hN hf2 (by omega))
                           | (rcases l with _ | ⟨y, r⟩
                              · exfalso; simp at hhl; omega
                              · have e1 : (hh - 1).toNat = r.length := by simp at hhl; omega
                                have hf2 : Fr [122] s0 (us s 122 (hh - 1).toNat 0) := hf.tr (Fr.us rfl)
                                have hw : ¬ w32 y = 0 := by have := hst.1; rw [e1, this] at b31; exact b31
                                exact l_lg119 (l := 0 :: r) hv0 (k + 1) ((k : Int) + 1) _ (by omega) (by simp only [List.length_cons]; omega) (by rw [evN, hev]; simp only [evT]; rw [if_neg (by omega), if_pos (by omega), if_neg hw]) (by rw [us_eq, e1]; exact hst.2.push) hu hL hC hD hN hf2 (by omega))
                           | (rcases l with _ | ⟨y, r⟩
                              · exfalso; simp at hhl; omega
                              · rcases r with _ | ⟨x, r⟩
                                · exfalso; simp at hhl; omega
                                · have e1 : (hh + -1 - 1).toNat = r.length := by simp at hhl; omega
                                  have e2 : (hh + -1).toNat = r.length + 1 := by simp at hhl; omega
                                  have g1 : s 122 (hh + -1).toNat = y := by rw [e2]; exact hst.1
                                  have g2 : s 122 (hh + -1 - 1).toNat = x := by rw [e1]; exact hst.2.1
                                  rw [g1, g2]
                                  have hf2 : Fr [122] s0 (us s 122 (hh + -1 - 1).toNat (doneV (tk (D (143 + 50 * use + (k : Int)).toNat) - 10000) x y)) := hf.tr (Fr.us rfl)
                                  have ez : tk (D (143 + 50 * use + (k : Int)).toNat) - 10000 = (D (143 + 50 * use + (k : Int)).toNat) - 20000 := by omega
                                  exact l_lg119 (l := doneV (tk (D (143 + 50 * use + (k : Int)).toNat) - 10000) x y :: r) hv0 (k + 1) ((k : Int) + 1) _ (by omega) (by simp only [List.length_cons]; omega) (by rw [evN, hev]; simp only [evT]; rw [if_neg (by omega), if_neg (by omega), ez]) (by rw [us_eq, e1]; exact hst.2.2.push) hu hL hC hD hN hf2 (by omega))
                           | (have e1 : hh.toNat = l.length := by omega
                              have hf2 : Fr [122] s0 (us s 122 hh.toNat (tk (D (143 + 50 * use + (k : Int)).toNat))) := hf.tr (Fr.us rfl)
                              have ez : tk (D (143 + 50 * use + (k : Int)).toNat) = (D (143 + 50 * use + (k : Int)).toNat) := by omega
                              exact l_lg119 (l := tk (D (143 + 50 * use + (k : Int)).toNat) :: l) hv0 (k + 1) ((k : Int) + 1) _ (by omega) (by simp only [List.length_cons]; omega) (by rw [evN, hev]; simp only [evT]; rw [if_pos (by omega), if_pos (by omega), ez]) (by rw [us_eq, e1]; exact hst.push) hu hL hC hD hN hf2 (by omega))
                           | (have e1 : hh.toNat = l.length := by omega
                              have hf2 : Fr [122] s0 (us s 122 hh.toNat (n4 a b c e (-1 - tk (D (143 + 50 * use + (k : Int)).toNat)).toNat)) := hf.tr (Fr.us rfl)
                              have ez : -1 - tk (D (143 + 50 * use + (k : Int)).toNat) = (D (143 + 50 * use + (k : Int)).toNat) - 10000 := by omega
                              exact l_lg119 (l := n4 a b c e (-1 - tk (D (143 + 50 * use + (k : Int)).toNat)).toNat :: l) hv0 (k + 1) ((k : Int) + 1) _ (by omega) (by simp only [List.length_cons]; omega) (by rw [evN, hev]; simp only [evT]; rw [if_pos (by omega), if_neg (by omega), ez]) (by rw [us_eq, e1]; exact hst.push) hu hL hC hD hN hf2 (by omega)))
                      · first
                        | (exfalso; omega)
                        | (refine w_ldI rfl rfl ?_
                           refine w_ldR rfl rfl rfl ?_
                           first | refine w_getI rfl rfl rfl rfl rfl ?_ | refine w_getR rfl rfl rfl rfl rfl ?_
                           refine w_alen rfl rfl rfl ?_
                           refine w_crGe rfl (by omega) (by omega) (fun b72 => ?_) (fun b72 => ?_)
                           · first
                             | (exfalso; omega)
                             | (refine w_inc_8_6 rfl rfl ?_
                                refine w_go rfl ?_
                                first
                                | (rcases l with _ | ⟨y, r⟩
                                   · exfalso; simp at hhl; omega
                                   · have e1 : (hh - 1).toNat = r.length := by simp at hhl; omega
                                     have hf2 : Fr [122] s0 (us s 122 (hh - 1).toNat 1) := hf.tr (Fr.us rfl)
                                     have hw : w32 y = 0 := by have := hst.1; rw [e1, this] at b31; exact b31
                                     exact l_lg119 (l := 1 :: r) hv0 (k + 1) ((k : Int) + 1) _ (by omega) (by simp only [List.length_cons]; omega) (by rw [evN, hev]; simp only [evT]; rw [if_neg (by omega), if_pos (by omega), if_pos hw]) (by rw [us_eq, e1]; exact hst.2.push) hu hL hC hD hN hf2 (by omega))
                                | (rcases l with _ | ⟨y, r⟩
                                   · exfalso; simp at hhl; omega
                                   · have e1 : (hh - 1).toNat = r.length := by simp at hhl; omega
                                     have hf2 : Fr [122] s0 (us s 122 (hh - 1).toNat 0) := hf.tr (Fr.us rfl)
                                     have hw : ¬ w32 y = 0 := by have := hst.1; rw [e1, this] at b31; exact b31
                                     exact l_lg119 (l := 0 :: r) hv0 (k + 1) ((k : Int) + 1) _ (by omega) (by simp only [List.length_cons]; omega) (by rw [evN, hev]; simp only [evT]; rw [if_neg (by omega), if_pos (by omega), if_neg hw]) (by rw [us_eq, e1]; exact hst.2.push) hu hL hC hD hN hf2 (by omega))
                                | (rcases l with _ | ⟨y, r⟩
                                   · exfalso; simp at hhl; omega
                                   · rcases r with _ | ⟨x, r⟩
                                     · exfalso; simp at hhl; omega
                                     · have e1 : (hh + -1 - 1).toNat = r.length := by simp at hhl; omega
                                       have e2 : (hh + -1).toNat = r.length + 1 := by simp at hhl; omega
                                       have g1 : s 122 (hh + -1).toNat = y := by rw [e2]; exact hst.1
                                       have g2 : s 122 (hh + -1 - 1).toNat = x := by rw [e1]; exact hst.2.1
                                       rw [g1, g2]
                                       have hf2 : Fr [122] s0 (us s 122 (hh + -1 - 1).toNat (doneV (tk (D (143 + 50 * use + (k : Int)).toNat) - 10000) x y)) := hf.tr (Fr.us rfl)
                                       have ez : tk (D (143 + 50 * use + (k : Int)).toNat) - 10000 = (D (143 + 50 * use + (k : Int)).toNat) - 20000 := by omega
                                       exact l_lg119 (l := doneV (tk (D (143 + 50 * use + (k : Int)).toNat) - 10000) x y :: r) hv0 (k + 1) ((k : Int) + 1) _ (by omega) (by simp only [List.length_cons]; omega) (by rw [evN, hev]; simp only [evT]; rw [if_neg (by omega), if_neg (by omega), ez]) (by rw [us_eq, e1]; exact hst.2.2.push) hu hL hC hD hN hf2 (by omega))
                                | (have e1 : hh.toNat = l.length := by omega
                                   have hf2 : Fr [122] s0 (us s 122 hh.toNat (tk (D (143 + 50 * use + (k : Int)).toNat))) := hf.tr (Fr.us rfl)
                                   have ez : tk (D (143 + 50 * use + (k : Int)).toNat) = (D (143 + 50 * use + (k : Int)).toNat) := by omega
                                   exact l_lg119 (l := tk (D (143 + 50 * use + (k : Int)).toNat) :: l) hv0 (k + 1) ((k : Int) + 1) _ (by omega) (by simp only [List.length_cons]; omega) (by rw [evN, hev]; simp only [evT]; rw [if_pos (by omega), if_pos (by omega), ez]) (by rw [us_eq, e1]; exact hst.push) hu hL hC hD hN hf2 (by omega))
                                | (have e1 : hh.toNat = l.length := by omega
                                   have hf2 : Fr [122] s0 (us s 122 hh.toNat (n4 a b c e (-1 - tk (D (143 + 50 * use + (k : Int)).toNat)).toNat)) := hf.tr (Fr.us rfl)
                                   have ez : -1 - tk (D (143 + 50 * use + (k : Int)).toNat) = (D (143 + 50 * use + (k : Int)).toNat) - 10000 := by omega
                                   exact l_lg119 (l := n4 a b c e (-1 - tk (D (143 + 50 * use + (k : Int)).toNat)).toNat :: l) hv0 (k + 1) ((k : Int) + 1) _ (by omega) (by simp only [List.length_cons]; omega) (by rw [evN, hev]; simp only [evT]; rw [if_pos (by omega), if_neg (by omega), ez]) (by rw [us_eq, e1]; exact hst.push) hu hL hC hD hN hf2 (by omega)))
                           · first
                             | (exfalso; omega)
                             | (refine w_ldR rfl rfl rfl ?_
                                first | refine w_getI rfl rfl rfl rfl rfl ?_ | refine w_getR rfl rfl rfl rfl rfl ?_
                                refine w_ldI rfl rfl ?_
                                refine w_ldI rfl rfl ?_
                                refine w_irGe0 rfl (by omega) (fun b77 => ?_) (fun b77 => ?_)
                                · first
                                  | (exfalso; omega)
                                  | (refine w_ldI rfl rfl ?_
                                     refine w_ast rfl rfl rfl (by omega) rfl ?_
                                     refine w_inc_8_5 rfl rfl ?_
                                     refine w_inc_8_6 rfl rfl ?_
                                     refine w_go rfl ?_
                                     first
                                     | (rcases l with _ | ⟨y, r⟩
                                        · exfalso; simp at hhl; omega
                                        · have e1 : (hh - 1).toNat = r.length := by simp at hhl; omega
                                          have hf2 : Fr [122] s0 (us s 122 (hh - 1).toNat 1) := hf.tr (Fr.us rfl)
                                          have hw : w32 y = 0 := by have := hst.1; rw [e1, this] at b31; exact b31
                                          exact l_lg119 (l := 1 :: r) hv0 (k + 1) ((k : Int) + 1) _ (by omega) (by simp only [List.length_cons]; omega) (by rw [evN, hev]; simp only [evT]; rw [if_neg (by omega), if_pos (by omega), if_pos hw]) (by rw [us_eq, e1]; exact hst.2.push) hu hL hC hD hN hf2 (by omega))
                                     | (rcases l with _ | ⟨y, r⟩
                                        · exfalso; simp at hhl; omega
                                        · have e1 : (hh - 1).toNat = r.length := by simp at hhl; omega
                                          have hf2 : Fr [122] s0 (us s 122 (hh - 1).toNat 0) := hf.tr (Fr.us rfl)
                                          have hw : ¬ w32 y = 0 := by have := hst.1; rw [e1, this] at b31; exact b31
                                          exact l_lg119 (l := 0 :: r) hv0 (k + 1) ((k : Int) + 1) _ (by omega) (by simp only [List.length_cons]; omega) (by rw [evN, hev]; simp only [evT]; rw [if_neg (by omega), if_pos (by omega), if_neg hw]) (by rw [us_eq, e1]; exact hst.2.push) hu hL hC hD hN hf2 (by omega))
                                     | (rcases l with _ | ⟨y, r⟩
                                        · exfalso; simp at hhl; omega
                                        · rcases r with _ | ⟨x, r⟩
                                          · exfalso; simp at hhl; omega
                                          · have e1 : (hh + -1 - 1).toNat = r.length := by simp at hhl; omega
                                            have e2 : (hh + -1).toNat = r.length + 1 := by simp at hhl; omega
                                            have g1 : s 122 (hh + -1).toNat = y := by rw [e2]; exact hst.1
                                            have g2 : s 122 (hh + -1 - 1).toNat = x := by rw [e1]; exact hst.2.1
                                            rw [g1, g2]
                                            have hf2 : Fr [122] s0 (us s 122 (hh + -1 - 1).toNat (doneV (tk (D (143 + 50 * use + (k : Int)).toNat) - 10000) x y)) := hf.tr (Fr.us rfl)
                                            have ez : tk (D (143 + 50 * use + (k : Int)).toNat) - 10000 = (D (143 + 50 * use + (k : Int)).toNat) - 20000 := by omega
                                            exact l_lg119 (l := doneV (tk (D (143 + 50 * use + (k : Int)).toNat) - 10000) x y :: r) hv0 (k + 1) ((k : Int) + 1) _ (by omega) (by simp only [List.length_cons]; omega) (by rw [evN, hev]; simp only [evT]; rw [if_neg (by omega), if_neg (by omega), ez]) (by rw [us_eq, e1]; exact hst.2.2.push) hu hL hC hD hN hf2 (by omega))
                                     | (have e1 : hh.toNat = l.length := by omega
                                        have hf2 : Fr [122] s0 (us s 122 hh.toNat (tk (D (143 + 50 * use + (k : Int)).toNat))) := hf.tr (Fr.us rfl)
                                        have ez : tk (D (143 + 50 * use + (k : Int)).toNat) = (D (143 + 50 * use + (k : Int)).toNat) := by omega
                                        exact l_lg119 (l := tk (D (143 + 50 * use + (k : Int)).toNat) :: l) hv0 (k + 1) ((k : Int) + 1) _ (by omega) (by simp only [List.length_cons]; omega) (by rw [evN, hev]; simp only [evT]; rw [if_pos (by omega), if_pos (by omega), ez]) (by rw [us_eq, e1]; exact hst.push) hu hL hC hD hN hf2 (by omega))
                                     | (have e1 : hh.toNat = l.length := by omega
                                        have hf2 : Fr [122] s0 (us s 122 hh.toNat (n4 a b c e (-1 - tk (D (143 + 50 * use + (k : Int)).toNat)).toNat)) := hf.tr (Fr.us rfl)
                                        have ez : -1 - tk (D (143 + 50 * use + (k : Int)).toNat) = (D (143 + 50 * use + (k : Int)).toNat) - 10000 := by omega
                                        exact l_lg119 (l := n4 a b c e (-1 - tk (D (143 + 50 * use + (k : Int)).toNat)).toNat :: l) hv0 (k + 1) ((k : Int) + 1) _ (by omega) (by simp only [List.length_cons]; omega) (by rw [evN, hev]; simp only [evT]; rw [if_pos (by omega), if_neg (by omega), ez]) (by rw [us_eq, e1]; exact hst.push) hu hL hC hD hN hf2 (by omega)))
                                · first
                                  | (exfalso; omega)
                                  | (refine w_push rfl ?_
                                     refine w_ldI rfl rfl ?_
                                     refine w_sub rfl ?_
                                     refine w_ldI rfl rfl ?_
                                     refine w_ldI rfl rfl ?_
                                     refine w_ldI rfl rfl ?_
                                     refine w_ldI rfl rfl ?_
                                     refine w_call rfl rfl rfl (k_named (by omega)) ?_
                                     refine w_go rfl ?_
                                     refine w_ast rfl rfl rfl (by omega) rfl ?_
                                     refine w_inc_8_5 rfl rfl ?_
                                     refine w_inc_8_6 rfl rfl ?_
                                     refine w_go rfl ?_
                                     first
                                     | (rcases l with _ | ⟨y, r⟩
                                        · exfalso; simp at hhl; omega
                                        · have e1 : (hh - 1).toNat = r.length := by simp at hhl; omega
                                          have hf2 : Fr [122] s0 (us s 122 (hh - 1).toNat 1) := hf.tr (Fr.us rfl)
                                          have hw : w32 y = 0 := by have := hst.1; rw [e1, this] at b31; exact b31
                                          exact l_lg119 (l := 1 :: r) hv0 (k + 1) ((k : Int) + 1) _ (by omega) (by simp only [List.length_cons]; omega) (by rw [evN, hev]; simp only [evT]; rw [if_neg (by omega), if_pos (by omega), if_pos hw]) (by rw [us_eq, e1]; exact hst.2.push) hu hL hC hD hN hf2 (by omega))
                                     | (rcases l with _ | ⟨y, r⟩
                                        · exfalso; simp at hhl; omega
                                        · have e1 : (hh - 1).toNat = r.length := by simp at hhl; omega
                                          have hf2 : Fr [122] s0 (us s 122 (hh - 1).toNat 0) := hf.tr (Fr.us rfl)
                                          have hw : ¬ w32 y = 0 := by have := hst.1; rw [e1, this] at b31; exact b31
                                          exact l_lg119 (l := 0 :: r) hv0 (k + 1) ((k : Int) + 1) _ (by omega) (by simp only [List.length_cons]; omega) (by rw [evN, hev]; simp only [evT]; rw [if_neg (by omega), if_pos (by omega), if_neg hw]) (by rw [us_eq, e1]; exact hst.2.push) hu hL hC hD hN hf2 (by omega))
                                     | (rcases l with _ | ⟨y, r⟩
                                        · exfalso; simp at hhl; omega
                                        · rcases r with _ | ⟨x, r⟩
                                          · exfalso; simp at hhl; omega
                                          · have e1 : (hh + -1 - 1).toNat = r.length := by simp at hhl; omega
                                            have e2 : (hh + -1).toNat = r.length + 1 := by simp at hhl; omega
                                            have g1 : s 122 (hh + -1).toNat = y := by rw [e2]; exact hst.1
                                            have g2 : s 122 (hh + -1 - 1).toNat = x := by rw [e1]; exact hst.2.1
                                            rw [g1, g2]
                                            have hf2 : Fr [122] s0 (us s 122 (hh + -1 - 1).toNat (doneV (tk (D (143 + 50 * use + (k : Int)).toNat) - 10000) x y)) := hf.tr (Fr.us rfl)
                                            have ez : tk (D (143 + 50 * use + (k : Int)).toNat) - 10000 = (D (143 + 50 * use + (k : Int)).toNat) - 20000 := by omega
                                            exact l_lg119 (l := doneV (tk (D (143 + 50 * use + (k : Int)).toNat) - 10000) x y :: r) hv0 (k + 1) ((k : Int) + 1) _ (by omega) (by simp only [List.length_cons]; omega) (by rw [evN, hev]; simp only [evT]; rw [if_neg (by omega), if_neg (by omega), ez]) (by rw [us_eq, e1]; exact hst.2.2.push) hu hL hC hD hN hf2 (by omega))
                                     | (have e1 : hh.toNat = l.length := by omega
                                        have hf2 : Fr [122] s0 (us s 122 hh.toNat (tk (D (143 + 50 * use + (k : Int)).toNat))) := hf.tr (Fr.us rfl)
                                        have ez : tk (D (143 + 50 * use + (k : Int)).toNat) = (D (143 + 50 * use + (k : Int)).toNat) := by omega
                                        exact l_lg119 (l := tk (D (143 + 50 * use + (k : Int)).toNat) :: l) hv0 (k + 1) ((k : Int) + 1) _ (by omega) (by simp only [List.length_cons]; omega) (by rw [evN, hev]; simp only [evT]; rw [if_pos (by omega), if_pos (by omega), ez]) (by rw [us_eq, e1]; exact hst.push) hu hL hC hD hN hf2 (by omega))
                                     | (have e1 : hh.toNat = l.length := by omega
                                        have hf2 : Fr [122] s0 (us s 122 hh.toNat (n4 a b c e (-1 - tk (D (143 + 50 * use + (k : Int)).toNat)).toNat)) := hf.tr (Fr.us rfl)
                                        have ez : -1 - tk (D (143 + 50 * use + (k : Int)).toNat) = (D (143 + 50 * use + (k : Int)).toNat) - 10000 := by omega
                                        exact l_lg119 (l := n4 a b c e (-1 - tk (D (143 + 50 * use + (k : Int)).toNat)).toNat :: l) hv0 (k + 1) ((k : Int) + 1) _ (by omega) (by simp only [List.length_cons]; omega) (by rw [evN, hev]; simp only [evT]; rw [if_pos (by omega), if_neg (by omega), ez]) (by rw [us_eq, e1]; exact hst.push) hu hL hC hD hN hf2 (by omega))))))
                 · first
                   | (exfalso; omega)
                   | (refine w_inc_8_5 rfl rfl ?_
                      refine w_ldR rfl rfl rfl ?_
                      first | refine w_getI rfl rfl rfl rfl rfl ?_ | refine w_getR rfl rfl rfl rfl rfl ?_
                      refine w_ldI rfl rfl ?_
                      refine w_push rfl ?_
                      refine w_sub rfl ?_
                      refine w_ldI rfl rfl ?_
                      refine w_push rfl ?_
                      refine w_sub rfl ?_
                      refine w_ldR rfl rfl rfl ?_
                      first | refine w_getI rfl rfl rfl rfl rfl ?_ | refine w_getR rfl rfl rfl rfl rfl ?_
                      refine w_ldI rfl rfl ?_
                      refine w_push rfl ?_
                      refine w_sub rfl ?_
                      refine w_ald rfl rfl rfl (by omega) rfl ?_
                      refine w_ldR rfl rfl rfl ?_
                      first | refine w_getI rfl rfl rfl rfl rfl ?_ | refine w_getR rfl rfl rfl rfl rfl ?_
                      refine w_ldI rfl rfl ?_
                      refine w_ald rfl rfl rfl (by omega) rfl ?_
                      refine w_call rfl rfl rfl (k_joined (by omega)) ?_
                      refine w_ast rfl rfl rfl (by omega) rfl ?_
                      refine w_go rfl ?_
                      refine w_inc_8_6 rfl rfl ?_
                      refine w_go rfl ?_
                      first
                      | (rcases l with _ | ⟨y, r⟩
                         · exfalso; simp at hhl; omega
                         · have e1 : (hh - 1).toNat = r.length := by simp at hhl; omega
                           have hf2 : Fr [122] s0 (us s 122 (hh - 1).toNat 1) := hf.tr (Fr.us rfl)
                           have hw : w32 y = 0 := by have := hst.1; rw [e1, this] at b31; exact b31
                           exact l_lg119 (l := 1 :: r) hv0 (k + 1) ((k : Int) + 1) _ (by omega) (by simp only [List.length_cons]; omega) (by rw [evN, hev]; simp only [evT]; rw [if_neg (by omega), if_pos (by omega), if_pos hw]) (by rw [us_eq, e1]; exact hst.2.push) hu hL hC hD hN hf2 (by omega))
                      | (rcases l with _ | ⟨y, r⟩
                         · exfalso; simp at hhl; omega
                         · have e1 : (hh - 1).toNat = r.length := by simp at hhl; omega
                           have hf2 : Fr [122] s0 (us s 122 (hh - 1).toNat 0) := hf.tr (Fr.us rfl)
                           have hw : ¬ w32 y = 0 := by have := hst.1; rw [e1, this] at b31; exact b31
                           exact l_lg119 (l := 0 :: r) hv0 (k + 1) ((k : Int) + 1) _ (by omega) (by simp only [List.length_cons]; omega) (by rw [evN, hev]; simp only [evT]; rw [if_neg (by omega), if_pos (by omega), if_neg hw]) (by rw [us_eq, e1]; exact hst.2.push) hu hL hC hD hN hf2 (by omega))
                      | (rcases l with _ | ⟨y, r⟩
                         · exfalso; simp at hhl; omega
                         · rcases r with _ | ⟨x, r⟩
                           · exfalso; simp at hhl; omega
                           · have e1 : (hh + -1 - 1).toNat = r.length := by simp at hhl; omega
                             have e2 : (hh + -1).toNat = r.length + 1 := by simp at hhl; omega
                             have g1 : s 122 (hh + -1).toNat = y := by rw [e2]; exact hst.1
                             have g2 : s 122 (hh + -1 - 1).toNat = x := by rw [e1]; exact hst.2.1
                             rw [g1, g2]
                             have hf2 : Fr [122] s0 (us s 122 (hh + -1 - 1).toNat (doneV (tk (D (143 + 50 * use + (k : Int)).toNat) - 10000) x y)) := hf.tr (Fr.us rfl)
                             have ez : tk (D (143 + 50 * use + (k : Int)).toNat) - 10000 = (D (143 + 50 * use + (k : Int)).toNat) - 20000 := by omega
                             exact l_lg119 (l := doneV (tk (D (143 + 50 * use + (k : Int)).toNat) - 10000) x y :: r) hv0 (k + 1) ((k : Int) + 1) _ (by omega) (by simp only [List.length_cons]; omega) (by rw [evN, hev]; simp only [evT]; rw [if_neg (by omega), if_neg (by omega), ez]) (by rw [us_eq, e1]; exact hst.2.2.push) hu hL hC hD hN hf2 (by omega))
                      | (have e1 : hh.toNat = l.length := by omega
                         have hf2 : Fr [122] s0 (us s 122 hh.toNat (tk (D (143 + 50 * use + (k : Int)).toNat))) := hf.tr (Fr.us rfl)
                         have ez : tk (D (143 + 50 * use + (k : Int)).toNat) = (D (143 + 50 * use + (k : Int)).toNat) := by omega
                         exact l_lg119 (l := tk (D (143 + 50 * use + (k : Int)).toNat) :: l) hv0 (k + 1) ((k : Int) + 1) _ (by omega) (by simp only [List.length_cons]; omega) (by rw [evN, hev]; simp only [evT]; rw [if_pos (by omega), if_pos (by omega), ez]) (by rw [us_eq, e1]; exact hst.push) hu hL hC hD hN hf2 (by omega))
                      | (have e1 : hh.toNat = l.length := by omega
                         have hf2 : Fr [122] s0 (us s 122 hh.toNat (n4 a b c e (-1 - tk (D (143 + 50 * use + (k : Int)).toNat)).toNat)) := hf.tr (Fr.us rfl)
                         have ez : -1 - tk (D (143 + 50 * use + (k : Int)).toNat) = (D (143 + 50 * use + (k : Int)).toNat) - 10000 := by omega
                         exact l_lg119 (l := n4 a b c e (-1 - tk (D (143 + 50 * use + (k : Int)).toNat)).toNat :: l) hv0 (k + 1) ((k : Int) + 1) _ (by omega) (by simp only [List.length_cons]; omega) (by rw [evN, hev]; simp only [evT]; rw [if_pos (by omega), if_neg (by omega), ez]) (by rw [us_eq, e1]; exact hst.push) hu hL hC hD hN hf2 (by omega)))))
       · first
         | (exfalso; omega)
         | (refine w_ldI rfl rfl ?_
            refine w_push rfl ?_
            refine w_crLt rfl (by omega) (by omega) (fun b19 => ?_) (fun b19 => ?_)
            · first
              | (exfalso; omega)
              | (refine w_ldI rfl rfl ?_
                 refine w_push rfl ?_
                 refine w_crLe rfl (by omega) (by omega) (fun b39 => ?_) (fun b39 => ?_)
                 · first
                   | (exfalso; omega)
                   | (refine w_ldI rfl rfl ?_
                      refine w_push rfl ?_
                      refine w_crGe rfl (by omega) (by omega) (fun b67 => ?_) (fun b67 => ?_)
                      · first
                        | (exfalso; omega)
                        | (refine w_inc_8_6 rfl rfl ?_
                           refine w_go rfl ?_
                           first
                           | (rcases l with _ | ⟨y, r⟩
                              · exfalso; simp at hhl; omega
                              · have e1 : (hh - 1).toNat = r.length := by simp at hhl; omega
                                have hf2 : Fr [122] s0 (us s 122 (hh - 1).toNat 1) := hf.tr (Fr.us rfl)
                                have hw : w32 y = 0 := by have := hst.1; rw [e1, this] at b31; exact b31
                                exact l_lg119 (l := 1 :: r) hv0 (k + 1) ((k : Int) + 1) _ (by omega) (by simp only [List.length_cons]; omega) (by rw [evN, hev]; simp only [evT]; rw [if_neg (by omega), if_pos (by omega), if_pos hw]) (by rw [us_eq, e1]; exact hst.2.push) hu hL hC hD hN hf2 (by omega))
                           | (rcases l with _ | ⟨y, r⟩
                              · exfalso; simp at hhl; omega
                              · have e1 : (hh - 1).toNat = r.length := by simp at hhl; omega
                                have hf2 : Fr [122] s0 (us s 122 (hh - 1).toNat 0) := hf.tr (Fr.us rfl)
                                have hw : ¬ w32 y = 0 := by have := hst.1; rw [e1, this] at b31; exact b31
                                exact l_lg119 (l := 0 :: r) hv0 (k + 1) ((k : Int) + 1) _ (by omega) (by simp only [List.length_cons]; omega) (by rw [evN, hev]; simp only [evT]; rw [if_neg (by omega), if_pos (by omega), if_neg hw]) (by rw [us_eq, e1]; exact hst.2.push) hu hL hC hD hN hf2 (by omega))
                           | (rcases l with _ | ⟨y, r⟩
                              · exfalso; simp at hhl; omega
                              · rcases r with _ | ⟨x, r⟩
                                · exfalso; simp at hhl; omega
                                · have e1 : (hh + -1 - 1).toNat = r.length := by simp at hhl; omega
                                  have e2 : (hh + -1).toNat = r.length + 1 := by simp at hhl; omega
                                  have g1 : s 122 (hh + -1).toNat = y := by rw [e2]; exact hst.1
                                  have g2 : s 122 (hh + -1 - 1).toNat = x := by rw [e1]; exact hst.2.1
                                  rw [g1, g2]
                                  have hf2 : Fr [122] s0 (us s 122 (hh + -1 - 1).toNat (doneV (tk (D (143 + 50 * use + (k : Int)).toNat) - 10000) x y)) := hf.tr (Fr.us rfl)
                                  have ez : tk (D (143 + 50 * use + (k : Int)).toNat) - 10000 = (D (143 + 50 * use + (k : Int)).toNat) - 20000 := by omega
                                  exact l_lg119 (l := doneV (tk (D (143 + 50 * use + (k : Int)).toNat) - 10000) x y :: r) hv0 (k + 1) ((k : Int) + 1) _ (by omega) (by simp only [List.length_cons]; omega) (by rw [evN, hev]; simp only [evT]; rw [if_neg (by omega), if_neg (by omega), ez]) (by rw [us_eq, e1]; exact hst.2.2.push) hu hL hC hD hN hf2 (by omega))
                           | (have e1 : hh.toNat = l.length := by omega
                              have hf2 : Fr [122] s0 (us s 122 hh.toNat (tk (D (143 + 50 * use + (k : Int)).toNat))) := hf.tr (Fr.us rfl)
                              have ez : tk (D (143 + 50 * use + (k : Int)).toNat) = (D (143 + 50 * use + (k : Int)).toNat) := by omega
                              exact l_lg119 (l := tk (D (143 + 50 * use + (k : Int)).toNat) :: l) hv0 (k + 1) ((k : Int) + 1) _ (by omega) (by simp only [List.length_cons]; omega) (by rw [evN, hev]; simp only [evT]; rw [if_pos (by omega), if_pos (by omega), ez]) (by rw [us_eq, e1]; exact hst.push) hu hL hC hD hN hf2 (by omega))
                           | (have e1 : hh.toNat = l.length := by omega
                              have hf2 : Fr [122] s0 (us s 122 hh.toNat (n4 a b c e (-1 - tk (D (143 + 50 * use + (k : Int)).toNat)).toNat)) := hf.tr (Fr.us rfl)
                              have ez : -1 - tk (D (143 + 50 * use + (k : Int)).toNat) = (D (143 + 50 * use + (k : Int)).toNat) - 10000 := by omega
                              exact l_lg119 (l := n4 a b c e (-1 - tk (D (143 + 50 * use + (k : Int)).toNat)).toNat :: l) hv0 (k + 1) ((k : Int) + 1) _ (by omega) (by simp only [List.length_cons]; omega) (by rw [evN, hev]; simp only [evT]; rw [if_pos (by omega), if_neg (by omega), ez]) (by rw [us_eq, e1]; exact hst.push) hu hL hC hD hN hf2 (by omega)))
                      · first
                        | (exfalso; omega)
                        | (refine w_ldI rfl rfl ?_
                           refine w_ldR rfl rfl rfl ?_
                           first | refine w_getI rfl rfl rfl rfl rfl ?_ | refine w_getR rfl rfl rfl rfl rfl ?_
                           refine w_alen rfl rfl rfl ?_
                           refine w_crGe rfl (by omega) (by omega) (fun b72 => ?_) (fun b72 => ?_)
                           · first
                             | (exfalso; omega)
                             | (refine w_inc_8_6 rfl rfl ?_
                                refine w_go rfl ?_
                                first
                                | (rcases l with _ | ⟨y, r⟩
                                   · exfalso; simp at hhl; omega
                                   · have e1 : (hh - 1).toNat = r.length := by simp at hhl; omega
                                     have hf2 : Fr [122] s0 (us s 122 (hh - 1).toNat 1) := hf.tr (Fr.us rfl)
                                     have hw : w32 y = 0 := by have := hst.1; rw [e1, this] at b31; exact b31
                                     exact l_lg119 (l := 1 :: r) hv0 (k + 1) ((k : Int) + 1) _ (by omega) (by simp only [List.length_cons]; omega) (by rw [evN, hev]; simp only [evT]; rw [if_neg (by omega), if_pos (by omega), if_pos hw]) (by rw [us_eq, e1]; exact hst.2.push) hu hL hC hD hN hf2 (by omega))
                                | (rcases l with _ | ⟨y, r⟩
                                   · exfalso; simp at hhl; omega
                                   · have e1 : (hh - 1).toNat = r.length := by simp at hhl; omega
                                     have hf2 : Fr [122] s0 (us s 122 (hh - 1).toNat 0) := hf.tr (Fr.us rfl)
                                     have hw : ¬ w32 y = 0 := by have := hst.1; rw [e1, this] at b31; exact b31
                                     exact l_lg119 (l := 0 :: r) hv0 (k + 1) ((k : Int) + 1) _ (by omega) (by simp only [List.length_cons]; omega) (by rw [evN, hev]; simp only [evT]; rw [if_neg (by omega), if_pos (by omega), if_neg hw]) (by rw [us_eq, e1]; exact hst.2.push) hu hL hC hD hN hf2 (by omega))
                                | (rcases l with _ | ⟨y, r⟩
                                   · exfalso; simp at hhl; omega
                                   · rcases r with _ | ⟨x, r⟩
                                     · exfalso; simp at hhl; omega
                                     · have e1 : (hh + -1 - 1).toNat = r.length := by simp at hhl; omega
                                       have e2 : (hh + -1).toNat = r.length + 1 := by simp at hhl; omega
                                       have g1 : s 122 (hh + -1).toNat = y := by rw [e2]; exact hst.1
                                       have g2 : s 122 (hh + -1 - 1).toNat = x := by rw [e1]; exact hst.2.1
                                       rw [g1, g2]
                                       have hf2 : Fr [122] s0 (us s 122 (hh + -1 - 1).toNat (doneV (tk (D (143 + 50 * use + (k : Int)).toNat) - 10000) x y)) := hf.tr (Fr.us rfl)
                                       have ez : tk (D (143 + 50 * use + (k : Int)).toNat) - 10000 = (D (143 + 50 * use + (k : Int)).toNat) - 20000 := by omega
                                       exact l_lg119 (l := doneV (tk (D (143 + 50 * use + (k : Int)).toNat) - 10000) x y :: r) hv0 (k + 1) ((k : Int) + 1) _ (by omega) (by simp only [List.length_cons]; omega) (by rw [evN, hev]; simp only [evT]; rw [if_neg (by omega), if_neg (by omega), ez]) (by rw [us_eq, e1]; exact hst.2.2.push) hu hL hC hD hN hf2 (by omega))
                                | (have e1 : hh.toNat = l.length := by omega
                                   have hf2 : Fr [122] s0 (us s 122 hh.toNat (tk (D (143 + 50 * use + (k : Int)).toNat))) := hf.tr (Fr.us rfl)
                                   have ez : tk (D (143 + 50 * use + (k : Int)).toNat) = (D (143 + 50 * use + (k : Int)).toNat) := by omega
                                   exact l_lg119 (l := tk (D (143 + 50 * use + (k : Int)).toNat) :: l) hv0 (k + 1) ((k : Int) + 1) _ (by omega) (by simp only [List.length_cons]; omega) (by rw [evN, hev]; simp only [evT]; rw [if_pos (by omega), if_pos (by omega), ez]) (by rw [us_eq, e1]; exact hst.push) hu hL hC hD hN hf2 (by omega))
                                | (have e1 : hh.toNat = l.length := by omega
                                   have hf2 : Fr [122] s0 (us s 122 hh.toNat (n4 a b c e (-1 - tk (D (143 + 50 * use + (k : Int)).toNat)).toNat)) := hf.tr (Fr.us rfl)
                                   have ez : -1 - tk (D (143 + 50 * use + (k : Int)).toNat) = (D (143 + 50 * use + (k : Int)).toNat) - 10000 := by omega
                                   exact l_lg119 (l := n4 a b c e (-1 - tk (D (143 + 50 * use + (k : Int)).toNat)).toNat :: l) hv0 (k + 1) ((k : Int) + 1) _ (by omega) (by simp only [List.length_cons]; omega) (by rw [evN, hev]; simp only [evT]; rw [if_pos (by omega), if_neg (by omega), ez]) (by rw [us_eq, e1]; exact hst.push) hu hL hC hD hN hf2 (by omega)))
                           · first
                             | (exfalso; omega)
                             | (refine w_ldR rfl rfl rfl ?_
                                first | refine w_getI rfl rfl rfl rfl rfl ?_ | refine w_getR rfl rfl rfl rfl rfl ?_
                                refine w_ldI rfl rfl ?_
                                refine w_ldI rfl rfl ?_
                                refine w_irGe0 rfl (by omega) (fun b77 => ?_) (fun b77 => ?_)
                                · first
                                  | (exfalso; omega)
                                  | (refine w_ldI rfl rfl ?_
                                     refine w_ast rfl rfl rfl (by omega) rfl ?_
                                     refine w_inc_8_5 rfl rfl ?_
                                     refine w_inc_8_6 rfl rfl ?_
                                     refine w_go rfl ?_
                                     first
                                     | (rcases l with _ | ⟨y, r⟩
                                        · exfalso; simp at hhl; omega
                                        · have e1 : (hh - 1).toNat = r.length := by simp at hhl; omega
                                          have hf2 : Fr [122] s0 (us s 122 (hh - 1).toNat 1) := hf.tr (Fr.us rfl)
                                          have hw : w32 y = 0 := by have := hst.1; rw [e1, this] at b31; exact b31
                                          exact l_lg119 (l := 1 :: r) hv0 (k + 1) ((k : Int) + 1) _ (by omega) (by simp only [List.length_cons]; omega) (by rw [evN, hev]; simp only [evT]; rw [if_neg (by omega), if_pos (by omega), if_pos hw]) (by rw [us_eq, e1]; exact hst.2.push) hu hL hC hD hN hf2 (by omega))
                                     | (rcases l with _ | ⟨y, r⟩
                                        · exfalso; simp at hhl; omega
                                        · have e1 : (hh - 1).toNat = r.length := by simp at hhl; omega
                                          have hf2 : Fr [122] s0 (us s 122 (hh - 1).toNat 0) := hf.tr (Fr.us rfl)
                                          have hw : ¬ w32 y = 0 := by have := hst.1; rw [e1, this] at b31; exact b31
                                          exact l_lg119 (l := 0 :: r) hv0 (k + 1) ((k : Int) + 1) _ (by omega) (by simp only [List.length_cons]; omega) (by rw [evN, hev]; simp only [evT]; rw [if_neg (by omega), if_pos (by omega), if_neg hw]) (by rw [us_eq, e1]; exact hst.2.push) hu hL hC hD hN hf2 (by omega))
                                     | (rcases l with _ | ⟨y, r⟩
                                        · exfalso; simp at hhl; omega
                                        · rcases r with _ | ⟨x, r⟩
                                          · exfalso; simp at hhl; omega
                                          · have e1 : (hh + -1 - 1).toNat = r.length := by simp at hhl; omega
                                            have e2 : (hh + -1).toNat = r.length + 1 := by simp at hhl; omega
                                            have g1 : s 122 (hh + -1).toNat = y := by rw [e2]; exact hst.1
                                            have g2 : s 122 (hh + -1 - 1).toNat = x := by rw [e1]; exact hst.2.1
                                            rw [g1, g2]
                                            have hf2 : Fr [122] s0 (us s 122 (hh + -1 - 1).toNat (doneV (tk (D (143 + 50 * use + (k : Int)).toNat) - 10000) x y)) := hf.tr (Fr.us rfl)
                                            have ez : tk (D (143 + 50 * use + (k : Int)).toNat) - 10000 = (D (143 + 50 * use + (k : Int)).toNat) - 20000 := by omega
                                            exact l_lg119 (l := doneV (tk (D (143 + 50 * use + (k : Int)).toNat) - 10000) x y :: r) hv0 (k + 1) ((k : Int) + 1) _ (by omega) (by simp only [List.length_cons]; omega) (by rw [evN, hev]; simp only [evT]; rw [if_neg (by omega), if_neg (by omega), ez]) (by rw [us_eq, e1]; exact hst.2.2.push) hu hL hC hD hN hf2 (by omega))
                                     | (have e1 : hh.toNat = l.length := by omega
                                        have hf2 : Fr [122] s0 (us s 122 hh.toNat (tk (D (143 + 50 * use + (k : Int)).toNat))) := hf.tr (Fr.us rfl)
                                        have ez : tk (D (143 + 50 * use + (k : Int)).toNat) = (D (143 + 50 * use + (k : Int)).toNat) := by omega
                                        exact l_lg119 (l := tk (D (143 + 50 * use + (k : Int)).toNat) :: l) hv0 (k + 1) ((k : Int) + 1) _ (by omega) (by simp only [List.length_cons]; omega) (by rw [evN, hev]; simp only [evT]; rw [if_pos (by omega), if_pos (by omega), ez]) (by rw [us_eq, e1]; exact hst.push) hu hL hC hD hN hf2 (by omega))
                                     | (have e1 : hh.toNat = l.length := by omega
                                        have hf2 : Fr [122] s0 (us s 122 hh.toNat (n4 a b c e (-1 - tk (D (143 + 50 * use + (k : Int)).toNat)).toNat)) := hf.tr (Fr.us rfl)
                                        have ez : -1 - tk (D (143 + 50 * use + (k : Int)).toNat) = (D (143 + 50 * use + (k : Int)).toNat) - 10000 := by omega
                                        exact l_lg119 (l := n4 a b c e (-1 - tk (D (143 + 50 * use + (k : Int)).toNat)).toNat :: l) hv0 (k + 1) ((k : Int) + 1) _ (by omega) (by simp only [List.length_cons]; omega) (by rw [evN, hev]; simp only [evT]; rw [if_pos (by omega), if_neg (by omega), ez]) (by rw [us_eq, e1]; exact hst.push) hu hL hC hD hN hf2 (by omega)))
                                · first
                                  | (exfalso; omega)
                                  | (refine w_push rfl ?_
                                     refine w_ldI rfl rfl ?_
                                     refine w_sub rfl ?_
                                     refine w_ldI rfl rfl ?_
                                     refine w_ldI rfl rfl ?_
                                     refine w_ldI rfl rfl ?_
                                     refine w_ldI rfl rfl ?_
                                     refine w_call rfl rfl rfl (k_named (by omega)) ?_
                                     refine w_go rfl ?_
                                     refine w_ast rfl rfl rfl (by omega) rfl ?_
                                     refine w_inc_8_5 rfl rfl ?_
                                     refine w_inc_8_6 rfl rfl ?_
                                     refine w_go rfl ?_
                                     first
                                     | (rcases l with _ | ⟨y, r⟩
                                        · exfalso; simp at hhl; omega
                                        · have e1 : (hh - 1).toNat = r.length := by simp at hhl; omega
                                          have hf2 : Fr [122] s0 (us s 122 (hh - 1).toNat 1) := hf.tr (Fr.us rfl)
                                          have hw : w32 y = 0 := by have := hst.1; rw [e1, this] at b31; exact b31
                                          exact l_lg119 (l := 1 :: r) hv0 (k + 1) ((k : Int) + 1) _ (by omega) (by simp only [List.length_cons]; omega) (by rw [evN, hev]; simp only [evT]; rw [if_neg (by omega), if_pos (by omega), if_pos hw]) (by rw [us_eq, e1]; exact hst.2.push) hu hL hC hD hN hf2 (by omega))
                                     | (rcases l with _ | ⟨y, r⟩
                                        · exfalso; simp at hhl; omega
                                        · have e1 : (hh - 1).toNat = r.length := by simp at hhl; omega
                                          have hf2 : Fr [122] s0 (us s 122 (hh - 1).toNat 0) := hf.tr (Fr.us rfl)
                                          have hw : ¬ w32 y = 0 := by have := hst.1; rw [e1, this] at b31; exact b31
                                          exact l_lg119 (l := 0 :: r) hv0 (k + 1) ((k : Int) + 1) _ (by omega) (by simp only [List.length_cons]; omega) (by rw [evN, hev]; simp only [evT]; rw [if_neg (by omega), if_pos (by omega), if_neg hw]) (by rw [us_eq, e1]; exact hst.2.push) hu hL hC hD hN hf2 (by omega))
                                     | (rcases l with _ | ⟨y, r⟩
                                        · exfalso; simp at hhl; omega
                                        · rcases r with _ | ⟨x, r⟩
                                          · exfalso; simp at hhl; omega
                                          · have e1 : (hh + -1 - 1).toNat = r.length := by simp at hhl; omega
                                            have e2 : (hh + -1).toNat = r.length + 1 := by simp at hhl; omega
                                            have g1 : s 122 (hh + -1).toNat = y := by rw [e2]; exact hst.1
                                            have g2 : s 122 (hh + -1 - 1).toNat = x := by rw [e1]; exact hst.2.1
                                            rw [g1, g2]
                                            have hf2 : Fr [122] s0 (us s 122 (hh + -1 - 1).toNat (doneV (tk (D (143 + 50 * use + (k : Int)).toNat) - 10000) x y)) := hf.tr (Fr.us rfl)
                                            have ez : tk (D (143 + 50 * use + (k : Int)).toNat) - 10000 = (D (143 + 50 * use + (k : Int)).toNat) - 20000 := by omega
                                            exact l_lg119 (l := doneV (tk (D (143 + 50 * use + (k : Int)).toNat) - 10000) x y :: r) hv0 (k + 1) ((k : Int) + 1) _ (by omega) (by simp only [List.length_cons]; omega) (by rw [evN, hev]; simp only [evT]; rw [if_neg (by omega), if_neg (by omega), ez]) (by rw [us_eq, e1]; exact hst.2.2.push) hu hL hC hD hN hf2 (by omega))
                                     | (have e1 : hh.toNat = l.length := by omega
                                        have hf2 : Fr [122] s0 (us s 122 hh.toNat (tk (D (143 + 50 * use + (k : Int)).toNat))) := hf.tr (Fr.us rfl)
                                        have ez : tk (D (143 + 50 * use + (k : Int)).toNat) = (D (143 + 50 * use + (k : Int)).toNat) := by omega
                                        exact l_lg119 (l := tk (D (143 + 50 * use + (k : Int)).toNat) :: l) hv0 (k + 1) ((k : Int) + 1) _ (by omega) (by simp only [List.length_cons]; omega) (by rw [evN, hev]; simp only [evT]; rw [if_pos (by omega), if_pos (by omega), ez]) (by rw [us_eq, e1]; exact hst.push) hu hL hC hD hN hf2 (by omega))
                                     | (have e1 : hh.toNat = l.length := by omega
                                        have hf2 : Fr [122] s0 (us s 122 hh.toNat (n4 a b c e (-1 - tk (D (143 + 50 * use + (k : Int)).toNat)).toNat)) := hf.tr (Fr.us rfl)
                                        have ez : -1 - tk (D (143 + 50 * use + (k : Int)).toNat) = (D (143 + 50 * use + (k : Int)).toNat) - 10000 := by omega
                                        exact l_lg119 (l := n4 a b c e (-1 - tk (D (143 + 50 * use + (k : Int)).toNat)).toNat :: l) hv0 (k + 1) ((k : Int) + 1) _ (by omega) (by simp only [List.length_cons]; omega) (by rw [evN, hev]; simp only [evT]; rw [if_pos (by omega), if_neg (by omega), ez]) (by rw [us_eq, e1]; exact hst.push) hu hL hC hD hN hf2 (by omega))))))
                 · first
                   | (exfalso; omega)
                   | (refine w_ldI rfl rfl ?_
                      refine w_push rfl ?_
                      refine w_crLt rfl (by omega) (by omega) (fun b42 => ?_) (fun b42 => ?_)
                      · first
                        | (exfalso; omega)
                        | (refine w_ldI rfl rfl ?_
                           refine w_push rfl ?_
                           refine w_crGe rfl (by omega) (by omega) (fun b67 => ?_) (fun b67 => ?_)
                           · first
                             | (exfalso; omega)
                             | (refine w_inc_8_6 rfl rfl ?_
                                refine w_go rfl ?_
                                first
                                | (rcases l with _ | ⟨y, r⟩
                                   · exfalso; simp at hhl; omega
                                   · have e1 : (hh - 1).toNat = r.length := by simp at hhl; omega
                                     have hf2 : Fr [122] s0 (us s 122 (hh - 1).toNat 1) := hf.tr (Fr.us rfl)
                                     have hw : w32 y = 0 := by have := hst.1; rw [e1, this] at b31; exact b31
                                     exact l_lg119 (l := 1 :: r) hv0 (k + 1) ((k : Int) + 1) _ (by omega) (by simp only [List.length_cons]; omega) (by rw [evN, hev]; simp only [evT]; rw [if_neg (by omega), if_pos (by omega), if_pos hw]) (by rw [us_eq, e1]; exact hst.2.push) hu hL hC hD hN hf2 (by omega))
                                | (rcases l with _ | ⟨y, r⟩
                                   · exfalso; simp at hhl; omega
                                   · have e1 : (hh - 1).toNat = r.length := by simp at hhl; omega
                                     have hf2 : Fr [122] s0 (us s 122 (hh - 1).toNat 0) := hf.tr (Fr.us rfl)
                                     have hw : ¬ w32 y = 0 := by have := hst.1; rw [e1, this] at b31; exact b31
                                     exact l_lg119 (l := 0 :: r) hv0 (k + 1) ((k : Int) + 1) _ (by omega) (by simp only [List.length_cons]; omega) (by rw [evN, hev]; simp only [evT]; rw [if_neg (by omega), if_pos (by omega), if_neg hw]) (by rw [us_eq, e1]; exact hst.2.push) hu hL hC hD hN hf2 (by omega))
                                | (rcases l with _ | ⟨y, r⟩
                                   · exfalso; simp at hhl; omega
                                   · rcases r with _ | ⟨x, r⟩
                                     · exfalso; simp at hhl; omega
                                     · have e1 : (hh + -1 - 1).toNat = r.length := by simp at hhl; omega
                                       have e2 : (hh + -1).toNat = r.length + 1 := by simp at hhl; omega
                                       have g1 : s 122 (hh + -1).toNat = y := by rw [e2]; exact hst.1
                                       have g2 : s 122 (hh + -1 - 1).toNat = x := by rw [e1]; exact hst.2.1
                                       rw [g1, g2]
                                       have hf2 : Fr [122] s0 (us s 122 (hh + -1 - 1).toNat (doneV (tk (D (143 + 50 * use + (k : Int)).toNat) - 10000) x y)) := hf.tr (Fr.us rfl)
                                       have ez : tk (D (143 + 50 * use + (k : Int)).toNat) - 10000 = (D (143 + 50 * use + (k : Int)).toNat) - 20000 := by omega
                                       exact l_lg119 (l := doneV (tk (D (143 + 50 * use + (k : Int)).toNat) - 10000) x y :: r) hv0 (k + 1) ((k : Int) + 1) _ (by omega) (by simp only [List.length_cons]; omega) (by rw [evN, hev]; simp only [evT]; rw [if_neg (by omega), if_neg (by omega), ez]) (by rw [us_eq, e1]; exact hst.2.2.push) hu hL hC hD hN hf2 (by omega))
                                | (have e1 : hh.toNat = l.length := by omega
                                   have hf2 : Fr [122] s0 (us s 122 hh.toNat (tk (D (143 + 50 * use + (k : Int)).toNat))) := hf.tr (Fr.us rfl)
                                   have ez : tk (D (143 + 50 * use + (k : Int)).toNat) = (D (143 + 50 * use + (k : Int)).toNat) := by omega
                                   exact l_lg119 (l := tk (D (143 + 50 * use + (k : Int)).toNat) :: l) hv0 (k + 1) ((k : Int) + 1) _ (by omega) (by simp only [List.length_cons]; omega) (by rw [evN, hev]; simp only [evT]; rw [if_pos (by omega), if_pos (by omega), ez]) (by rw [us_eq, e1]; exact hst.push) hu hL hC hD hN hf2 (by omega))
                                | (have e1 : hh.toNat = l.length := by omega
                                   have hf2 : Fr [122] s0 (us s 122 hh.toNat (n4 a b c e (-1 - tk (D (143 + 50 * use + (k : Int)).toNat)).toNat)) := hf.tr (Fr.us rfl)
                                   have ez : -1 - tk (D (143 + 50 * use + (k : Int)).toNat) = (D (143 + 50 * use + (k : Int)).toNat) - 10000 := by omega
                                   exact l_lg119 (l := n4 a b c e (-1 - tk (D (143 + 50 * use + (k : Int)).toNat)).toNat :: l) hv0 (k + 1) ((k : Int) + 1) _ (by omega) (by simp only [List.length_cons]; omega) (by rw [evN, hev]; simp only [evT]; rw [if_pos (by omega), if_neg (by omega), ez]) (by rw [us_eq, e1]; exact hst.push) hu hL hC hD hN hf2 (by omega)))
                           · first
                             | (exfalso; omega)
                             | (refine w_ldI rfl rfl ?_
                                refine w_ldR rfl rfl rfl ?_
                                first | refine w_getI rfl rfl rfl rfl rfl ?_ | refine w_getR rfl rfl rfl rfl rfl ?_
                                refine w_alen rfl rfl rfl ?_
                                refine w_crGe rfl (by omega) (by omega) (fun b72 => ?_) (fun b72 => ?_)
                                · first
                                  | (exfalso; omega)
                                  | (refine w_inc_8_6 rfl rfl ?_
                                     refine w_go rfl ?_
                                     first
                                     | (rcases l with _ | ⟨y, r⟩
                                        · exfalso; simp at hhl; omega
                                        · have e1 : (hh - 1).toNat = r.length := by simp at hhl; omega
                                          have hf2 : Fr [122] s0 (us s 122 (hh - 1).toNat 1) := hf.tr (Fr.us rfl)
                                          have hw : w32 y = 0 := by have := hst.1; rw [e1, this] at b31; exact b31
                                          exact l_lg119 (l := 1 :: r) hv0 (k + 1) ((k : Int) + 1) _ (by omega) (by simp only [List.length_cons]; omega) (by rw [evN, hev]; simp only [evT]; rw [if_neg (by omega), if_pos (by omega), if_pos hw]) (by rw [us_eq, e1]; exact hst.2.push) hu hL hC hD hN hf2 (by omega))
                                     | (rcases l with _ | ⟨y, r⟩
                                        · exfalso; simp at hhl; omega
                                        · have e1 : (hh - 1).toNat = r.length := by simp at hhl; omega
                                          have hf2 : Fr [122] s0 (us s 122 (hh - 1).toNat 0) := hf.tr (Fr.us rfl)
                                          have hw : ¬ w32 y = 0 := by have := hst.1; rw [e1, this] at b31; exact b31
                                          exact l_lg119 (l := 0 :: r) hv0 (k + 1) ((k : Int) + 1) _ (by omega) (by simp only [List.length_cons]; omega) (by rw [evN, hev]; simp only [evT]; rw [if_neg (by omega), if_pos (by omega), if_neg hw]) (by rw [us_eq, e1]; exact hst.2.push) hu hL hC hD hN hf2 (by omega))
                                     | (rcases l with _ | ⟨y, r⟩
                                        · exfalso; simp at hhl; omega
                                        · rcases r with _ | ⟨x, r⟩
                                          · exfalso; simp at hhl; omega
                                          · have e1 : (hh + -1 - 1).toNat = r.length := by simp at hhl; omega
                                            have e2 : (hh + -1).toNat = r.length + 1 := by simp at hhl; omega
                                            have g1 : s 122 (hh + -1).toNat = y := by rw [e2]; exact hst.1
                                            have g2 : s 122 (hh + -1 - 1).toNat = x := by rw [e1]; exact hst.2.1
                                            rw [g1, g2]
                                            have hf2 : Fr [122] s0 (us s 122 (hh + -1 - 1).toNat (doneV (tk (D (143 + 50 * use + (k : Int)).toNat) - 10000) x y)) := hf.tr (Fr.us rfl)
                                            have ez : tk (D (143 + 50 * use + (k : Int)).toNat) - 10000 = (D (143 + 50 * use + (k : Int)).toNat) - 20000 := by omega
                                            exact l_lg119 (l := doneV (tk (D (143 + 50 * use + (k : Int)).toNat) - 10000) x y :: r) hv0 (k + 1) ((k : Int) + 1) _ (by omega) (by simp only [List.length_cons]; omega) (by rw [evN, hev]; simp only [evT]; rw [if_neg (by omega), if_neg (by omega), ez]) (by rw [us_eq, e1]; exact hst.2.2.push) hu hL hC hD hN hf2 (by omega))
                                     | (have e1 : hh.toNat = l.length := by omega
                                        have hf2 : Fr [122] s0 (us s 122 hh.toNat (tk (D (143 + 50 * use + (k : Int)).toNat))) := hf.tr (Fr.us rfl)
                                        have ez : tk (D (143 + 50 * use + (k : Int)).toNat) = (D (143 + 50 * use + (k : Int)).toNat) := by omega
                                        exact l_lg119 (l := tk (D (143 + 50 * use + (k : Int)).toNat) :: l) hv0 (k + 1) ((k : Int) + 1) _ (by omega) (by simp only [List.length_cons]; omega) (by rw [evN, hev]; simp only [evT]; rw [if_pos (by omega), if_pos (by omega), ez]) (by rw [us_eq, e1]; exact hst.push) hu hL hC hD hN hf2 (by omega))
                                     | (have e1 : hh.toNat = l.length := by omega
                                        have hf2 : Fr [122] s0 (us s 122 hh.toNat (n4 a b c e (-1 - tk (D (143 + 50 * use + (k : Int)).toNat)).toNat)) := hf.tr (Fr.us rfl)
                                        have ez : -1 - tk (D (143 + 50 * use + (k : Int)).toNat) = (D (143 + 50 * use + (k : Int)).toNat) - 10000 := by omega
                                        exact l_lg119 (l := n4 a b c e (-1 - tk (D (143 + 50 * use + (k : Int)).toNat)).toNat :: l) hv0 (k + 1) ((k : Int) + 1) _ (by omega) (by simp only [List.length_cons]; omega) (by rw [evN, hev]; simp only [evT]; rw [if_pos (by omega), if_neg (by omega), ez]) (by rw [us_eq, e1]; exact hst.push) hu hL hC hD hN hf2 (by omega)))
                                · first
                                  | (exfalso; omega)
                                  | (refine w_ldR rfl rfl rfl ?_
                                     first | refine w_getI rfl rfl rfl rfl rfl ?_ | refine w_getR rfl rfl rfl rfl rfl ?_
                                     refine w_ldI rfl rfl ?_
                                     refine w_ldI rfl rfl ?_
                                     refine w_irGe0 rfl (by omega) (fun b77 => ?_) (fun b77 => ?_)
                                     · first
                                       | (exfalso; omega)
                                       | (refine w_ldI rfl rfl ?_
                                          refine w_ast rfl rfl rfl (by omega) rfl ?_
                                          refine w_inc_8_5 rfl rfl ?_
                                          refine w_inc_8_6 rfl rfl ?_
                                          refine w_go rfl ?_
                                          first
                                          | (rcases l with _ | ⟨y, r⟩
                                             · exfalso; simp at hhl; omega
                                             · have e1 : (hh - 1).toNat = r.length := by simp at hhl; omega
                                               have hf2 : Fr [122] s0 (us s 122 (hh - 1).toNat 1) := hf.tr (Fr.us rfl)
                                               have hw : w32 y = 0 := by have := hst.1; rw [e1, this] at b31; exact b31
                                               exact l_lg119 (l := 1 :: r) hv0 (k + 1) ((k : Int) + 1) _ (by omega) (by simp only [List.length_cons]; omega) (by rw [evN, hev]; simp only [evT]; rw [if_neg (by omega), if_pos (by omega), if_pos hw]) (by rw [us_eq, e1]; exact hst.2.push) hu hL hC hD hN hf2 (by omega))
                                          | (rcases l with _ | ⟨y, r⟩
                                             · exfalso; simp at hhl; omega
                                             · have e1 : (hh - 1).toNat = r.length := by simp at hhl; omega
                                               have hf2 : Fr [122] s0 (us s 122 (hh - 1).toNat 0) := hf.tr (Fr.us rfl)
                                               have hw : ¬ w32 y = 0 := by have := hst.1; rw [e1, this] at b31; exact b31
                                               exact l_lg119 (l := 0 :: r) hv0 (k + 1) ((k : Int) + 1) _ (by omega) (by simp only [List.length_cons]; omega) (by rw [evN, hev]; simp only [evT]; rw [if_neg (by omega), if_pos (by omega), if_neg hw]) (by rw [us_eq, e1]; exact hst.2.push) hu hL hC hD hN hf2 (by omega))
                                          | (rcases l with _ | ⟨y, r⟩
                                             · exfalso; simp at hhl; omega
                                             · rcases r with _ | ⟨x, r⟩
                                               · exfalso; simp at hhl; omega
                                               · have e1 : (hh + -1 - 1).toNat = r.length := by simp at hhl; omega
                                                 have e2 : (hh + -1).toNat = r.length + 1 := by simp at hhl; omega
                                                 have g1 : s 122 (hh + -1).toNat = y := by rw [e2]; exact hst.1
                                                 have g2 : s 122 (hh + -1 - 1).toNat = x := by rw [e1]; exact hst.2.1
                                                 rw [g1, g2]
                                                 have hf2 : Fr [122] s0 (us s 122 (hh + -1 - 1).toNat (doneV (tk (D (143 + 50 * use + (k : Int)).toNat) - 10000) x y)) := hf.tr (Fr.us rfl)
                                                 have ez : tk (D (143 + 50 * use + (k : Int)).toNat) - 10000 = (D (143 + 50 * use + (k : Int)).toNat) - 20000 := by omega
                                                 exact l_lg119 (l := doneV (tk (D (143 + 50 * use + (k : Int)).toNat) - 10000) x y :: r) hv0 (k + 1) ((k : Int) + 1) _ (by omega) (by simp only [List.length_cons]; omega) (by rw [evN, hev]; simp only [evT]; rw [if_neg (by omega), if_neg (by omega), ez]) (by rw [us_eq, e1]; exact hst.2.2.push) hu hL hC hD hN hf2 (by omega))
                                          | (have e1 : hh.toNat = l.length := by omega
                                             have hf2 : Fr [122] s0 (us s 122 hh.toNat (tk (D (143 + 50 * use + (k : Int)).toNat))) := hf.tr (Fr.us rfl)
                                             have ez : tk (D (143 + 50 * use + (k : Int)).toNat) = (D (143 + 50 * use + (k : Int)).toNat) := by omega
                                             exact l_lg119 (l := tk (D (143 + 50 * use + (k : Int)).toNat) :: l) hv0 (k + 1) ((k : Int) + 1) _ (by omega) (by simp only [List.length_cons]; omega) (by rw [evN, hev]; simp only [evT]; rw [if_pos (by omega), if_pos (by omega), ez]) (by rw [us_eq, e1]; exact hst.push) hu hL hC hD hN hf2 (by omega))
                                          | (have e1 : hh.toNat = l.length := by omega
                                             have hf2 : Fr [122] s0 (us s 122 hh.toNat (n4 a b c e (-1 - tk (D (143 + 50 * use + (k : Int)).toNat)).toNat)) := hf.tr (Fr.us rfl)
                                             have ez : -1 - tk (D (143 + 50 * use + (k : Int)).toNat) = (D (143 + 50 * use + (k : Int)).toNat) - 10000 := by omega
                                             exact l_lg119 (l := n4 a b c e (-1 - tk (D (143 + 50 * use + (k : Int)).toNat)).toNat :: l) hv0 (k + 1) ((k : Int) + 1) _ (by omega) (by simp only [List.length_cons]; omega) (by rw [evN, hev]; simp only [evT]; rw [if_pos (by omega), if_neg (by omega), ez]) (by rw [us_eq, e1]; exact hst.push) hu hL hC hD hN hf2 (by omega)))
                                     · first
                                       | (exfalso; omega)
                                       | (refine w_push rfl ?_
                                          refine w_ldI rfl rfl ?_
                                          refine w_sub rfl ?_
                                          refine w_ldI rfl rfl ?_
                                          refine w_ldI rfl rfl ?_
                                          refine w_ldI rfl rfl ?_
                                          refine w_ldI rfl rfl ?_
                                          refine w_call rfl rfl rfl (k_named (by omega)) ?_
                                          refine w_go rfl ?_
                                          refine w_ast rfl rfl rfl (by omega) rfl ?_
                                          refine w_inc_8_5 rfl rfl ?_
                                          refine w_inc_8_6 rfl rfl ?_
                                          refine w_go rfl ?_
                                          first
                                          | (rcases l with _ | ⟨y, r⟩
                                             · exfalso; simp at hhl; omega
                                             · have e1 : (hh - 1).toNat = r.length := by simp at hhl; omega
                                               have hf2 : Fr [122] s0 (us s 122 (hh - 1).toNat 1) := hf.tr (Fr.us rfl)
                                               have hw : w32 y = 0 := by have := hst.1; rw [e1, this] at b31; exact b31
                                               exact l_lg119 (l := 1 :: r) hv0 (k + 1) ((k : Int) + 1) _ (by omega) (by simp only [List.length_cons]; omega) (by rw [evN, hev]; simp only [evT]; rw [if_neg (by omega), if_pos (by omega), if_pos hw]) (by rw [us_eq, e1]; exact hst.2.push) hu hL hC hD hN hf2 (by omega))
                                          | (rcases l with _ | ⟨y, r⟩
                                             · exfalso; simp at hhl; omega
                                             · have e1 : (hh - 1).toNat = r.length := by simp at hhl; omega
                                               have hf2 : Fr [122] s0 (us s 122 (hh - 1).toNat 0) := hf.tr (Fr.us rfl)
                                               have hw : ¬ w32 y = 0 := by have := hst.1; rw [e1, this] at b31; exact b31
                                               exact l_lg119 (l := 0 :: r) hv0 (k + 1) ((k : Int) + 1) _ (by omega) (by simp only [List.length_cons]; omega) (by rw [evN, hev]; simp only [evT]; rw [if_neg (by omega), if_pos (by omega), if_neg hw]) (by rw [us_eq, e1]; exact hst.2.push) hu hL hC hD hN hf2 (by omega))
                                          | (rcases l with _ | ⟨y, r⟩
                                             · exfalso; simp at hhl; omega
                                             · rcases r with _ | ⟨x, r⟩
                                               · exfalso; simp at hhl; omega
                                               · have e1 : (hh + -1 - 1).toNat = r.length := by simp at hhl; omega
                                                 have e2 : (hh + -1).toNat = r.length + 1 := by simp at hhl; omega
                                                 have g1 : s 122 (hh + -1).toNat = y := by rw [e2]; exact hst.1
                                                 have g2 : s 122 (hh + -1 - 1).toNat = x := by rw [e1]; exact hst.2.1
                                                 rw [g1, g2]
                                                 have hf2 : Fr [122] s0 (us s 122 (hh + -1 - 1).toNat (doneV (tk (D (143 + 50 * use + (k : Int)).toNat) - 10000) x y)) := hf.tr (Fr.us rfl)
                                                 have ez : tk (D (143 + 50 * use + (k : Int)).toNat) - 10000 = (D (143 + 50 * use + (k : Int)).toNat) - 20000 := by omega
                                                 exact l_lg119 (l := doneV (tk (D (143 + 50 * use + (k : Int)).toNat) - 10000) x y :: r) hv0 (k + 1) ((k : Int) + 1) _ (by omega) (by simp only [List.length_cons]; omega) (by rw [evN, hev]; simp only [evT]; rw [if_neg (by omega), if_neg (by omega), ez]) (by rw [us_eq, e1]; exact hst.2.2.push) hu hL hC hD hN hf2 (by omega))
                                          | (have e1 : hh.toNat = l.length := by omega
                                             have hf2 : Fr [122] s0 (us s 122 hh.toNat (tk (D (143 + 50 * use + (k : Int)).toNat))) := hf.tr (Fr.us rfl)
                                             have ez : tk (D (143 + 50 * use + (k : Int)).toNat) = (D (143 + 50 * use + (k : Int)).toNat) := by omega
                                             exact l_lg119 (l := tk (D (143 + 50 * use + (k : Int)).toNat) :: l) hv0 (k + 1) ((k : Int) + 1) _ (by omega) (by simp only [List.length_cons]; omega) (by rw [evN, hev]; simp only [evT]; rw [if_pos (by omega), if_pos (by omega), ez]) (by rw [us_eq, e1]; exact hst.push) hu hL hC hD hN hf2 (by omega))
                                          | (have e1 : hh.toNat = l.length := by omega
                                             have hf2 : Fr [122] s0 (us s 122 hh.toNat (n4 a b c e (-1 - tk (D (143 + 50 * use + (k : Int)).toNat)).toNat)) := hf.tr (Fr.us rfl)
                                             have ez : -1 - tk (D (143 + 50 * use + (k : Int)).toNat) = (D (143 + 50 * use + (k : Int)).toNat) - 10000 := by omega
                                             exact l_lg119 (l := n4 a b c e (-1 - tk (D (143 + 50 * use + (k : Int)).toNat)).toNat :: l) hv0 (k + 1) ((k : Int) + 1) _ (by omega) (by simp only [List.length_cons]; omega) (by rw [evN, hev]; simp only [evT]; rw [if_pos (by omega), if_neg (by omega), ez]) (by rw [us_eq, e1]; exact hst.push) hu hL hC hD hN hf2 (by omega))))))
                      · first
                        | (exfalso; omega)
                        | (refine w_inc_8_5 rfl rfl ?_
                           refine w_ldR rfl rfl rfl ?_
                           first | refine w_getI rfl rfl rfl rfl rfl ?_ | refine w_getR rfl rfl rfl rfl rfl ?_
                           refine w_ldI rfl rfl ?_
                           refine w_push rfl ?_
                           refine w_sub rfl ?_
                           refine w_ldI rfl rfl ?_
                           refine w_push rfl ?_
                           refine w_sub rfl ?_
                           refine w_ldR rfl rfl rfl ?_
                           first | refine w_getI rfl rfl rfl rfl rfl ?_ | refine w_getR rfl rfl rfl rfl rfl ?_
                           refine w_ldI rfl rfl ?_
                           refine w_push rfl ?_
                           refine w_sub rfl ?_
                           refine w_ald rfl rfl rfl (by omega) rfl ?_
                           refine w_ldR rfl rfl rfl ?_
                           first | refine w_getI rfl rfl rfl rfl rfl ?_ | refine w_getR rfl rfl rfl rfl rfl ?_
                           refine w_ldI rfl rfl ?_
                           refine w_ald rfl rfl rfl (by omega) rfl ?_
                           refine w_call rfl rfl rfl (k_joined (by omega)) ?_
                           refine w_ast rfl rfl rfl (by omega) rfl ?_
                           refine w_go rfl ?_
                           refine w_inc_8_6 rfl rfl ?_
                           refine w_go rfl ?_
                           first
                           | (rcases l with _ | ⟨y, r⟩
                              · exfalso; simp at hhl; omega
                              · have e1 : (hh - 1).toNat = r.length := by simp at hhl; omega
                                have hf2 : Fr [122] s0 (us s 122 (hh - 1).toNat 1) := hf.tr (Fr.us rfl)
                                have hw : w32 y = 0 := by have := hst.1; rw [e1, this] at b31; exact b31
                                exact l_lg119 (l := 1 :: r) hv0 (k + 1) ((k : Int) + 1) _ (by omega) (by simp only [List.length_cons]; omega) (by rw [evN, hev]; simp only [evT]; rw [if_neg (by omega), if_pos (by omega), if_pos hw]) (by rw [us_eq, e1]; exact hst.2.push) hu hL hC hD hN hf2 (by omega))
                           | (rcases l with _ | ⟨y, r⟩
                              · exfalso; simp at hhl; omega
                              · have e1 : (hh - 1).toNat = r.length := by simp at hhl; omega
                                have hf2 : Fr [122] s0 (us s 122 (hh - 1).toNat 0) := hf.tr (Fr.us rfl)
                                have hw : ¬ w32 y = 0 := by have := hst.1; rw [e1, this] at b31; exact b31
                                exact l_lg119 (l := 0 :: r) hv0 (k + 1) ((k : Int) + 1) _ (by omega) (by simp only [List.length_cons]; omega) (by rw [evN, hev]; simp only [evT]; rw [if_neg (by omega), if_pos (by omega), if_neg hw]) (by rw [us_eq, e1]; exact hst.2.push) hu hL hC hD hN hf2 (by omega))
                           | (rcases l with _ | ⟨y, r⟩
                              · exfalso; simp at hhl; omega
                              · rcases r with _ | ⟨x, r⟩
                                · exfalso; simp at hhl; omega
                                · have e1 : (hh + -1 - 1).toNat = r.length := by simp at hhl; omega
                                  have e2 : (hh + -1).toNat = r.length + 1 := by simp at hhl; omega
                                  have g1 : s 122 (hh + -1).toNat = y := by rw [e2]; exact hst.1
                                  have g2 : s 122 (hh + -1 - 1).toNat = x := by rw [e1]; exact hst.2.1
                                  rw [g1, g2]
                                  have hf2 : Fr [122] s0 (us s 122 (hh + -1 - 1).toNat (doneV (tk (D (143 + 50 * use + (k : Int)).toNat) - 10000) x y)) := hf.tr (Fr.us rfl)
                                  have ez : tk (D (143 + 50 * use + (k : Int)).toNat) - 10000 = (D (143 + 50 * use + (k : Int)).toNat) - 20000 := by omega
                                  exact l_lg119 (l := doneV (tk (D (143 + 50 * use + (k : Int)).toNat) - 10000) x y :: r) hv0 (k + 1) ((k : Int) + 1) _ (by omega) (by simp only [List.length_cons]; omega) (by rw [evN, hev]; simp only [evT]; rw [if_neg (by omega), if_neg (by omega), ez]) (by rw [us_eq, e1]; exact hst.2.2.push) hu hL hC hD hN hf2 (by omega))
                           | (have e1 : hh.toNat = l.length := by omega
                              have hf2 : Fr [122] s0 (us s 122 hh.toNat (tk (D (143 + 50 * use + (k : Int)).toNat))) := hf.tr (Fr.us rfl)
                              have ez : tk (D (143 + 50 * use + (k : Int)).toNat) = (D (143 + 50 * use + (k : Int)).toNat) := by omega
                              exact l_lg119 (l := tk (D (143 + 50 * use + (k : Int)).toNat) :: l) hv0 (k + 1) ((k : Int) + 1) _ (by omega) (by simp only [List.length_cons]; omega) (by rw [evN, hev]; simp only [evT]; rw [if_pos (by omega), if_pos (by omega), ez]) (by rw [us_eq, e1]; exact hst.push) hu hL hC hD hN hf2 (by omega))
                           | (have e1 : hh.toNat = l.length := by omega
                              have hf2 : Fr [122] s0 (us s 122 hh.toNat (n4 a b c e (-1 - tk (D (143 + 50 * use + (k : Int)).toNat)).toNat)) := hf.tr (Fr.us rfl)
                              have ez : -1 - tk (D (143 + 50 * use + (k : Int)).toNat) = (D (143 + 50 * use + (k : Int)).toNat) - 10000 := by omega
                              exact l_lg119 (l := n4 a b c e (-1 - tk (D (143 + 50 * use + (k : Int)).toNat)).toNat :: l) hv0 (k + 1) ((k : Int) + 1) _ (by omega) (by simp only [List.length_cons]; omega) (by rw [evN, hev]; simp only [evT]; rw [if_pos (by omega), if_neg (by omega), ez]) (by rw [us_eq, e1]; exact hst.push) hu hL hC hD hN hf2 (by omega)))))
            · first
              | (exfalso; omega)
              | (refine w_ldR rfl rfl rfl ?_
                 first | refine w_getI rfl rfl rfl rfl rfl ?_ | refine w_getR rfl rfl rfl rfl rfl ?_
                 refine w_ldI rfl rfl ?_
                 refine w_push rfl ?_
                 refine w_sub rfl ?_
                 refine w_ldR rfl rfl rfl ?_
                 first | refine w_getI rfl rfl rfl rfl rfl ?_ | refine w_getR rfl rfl rfl rfl rfl ?_
                 refine w_ldI rfl rfl ?_
                 refine w_push rfl ?_
                 refine w_sub rfl ?_
                 refine w_ald rfl rfl rfl (by omega) rfl ?_
                 refine w_ifNe0 rfl (fun b31 => ?_) (fun b31 => ?_)
                 · first
                   | (exfalso; omega)
                   | (refine w_push rfl ?_
                      refine w_ast rfl rfl rfl (by omega) rfl ?_
                      refine w_go rfl ?_
                      refine w_inc_8_6 rfl rfl ?_
                      refine w_go rfl ?_
                      first
                      | (rcases l with _ | ⟨y, r⟩
                         · exfalso; simp at hhl; omega
                         · have e1 : (hh - 1).toNat = r.length := by simp at hhl; omega
                           have hf2 : Fr [122] s0 (us s 122 (hh - 1).toNat 1) := hf.tr (Fr.us rfl)
                           have hw : w32 y = 0 := by have := hst.1; rw [e1, this] at b31; exact b31
                           exact l_lg119 (l := 1 :: r) hv0 (k + 1) ((k : Int) + 1) _ (by omega) (by simp only [List.length_cons]; omega) (by rw [evN, hev]; simp only [evT]; rw [if_neg (by omega), if_pos (by omega), if_pos hw]) (by rw [us_eq, e1]; exact hst.2.push) hu hL hC hD hN hf2 (by omega))
                      | (rcases l with _ | ⟨y, r⟩
                         · exfalso; simp at hhl; omega
                         · have e1 : (hh - 1).toNat = r.length := by simp at hhl; omega
                           have hf2 : Fr [122] s0 (us s 122 (hh - 1).toNat 0) := hf.tr (Fr.us rfl)
                           have hw : ¬ w32 y = 0 := by have := hst.1; rw [e1, this] at b31; exact b31
                           exact l_lg119 (l := 0 :: r) hv0 (k + 1) ((k : Int) + 1) _ (by omega) (by simp only [List.length_cons]; omega) (by rw [evN, hev]; simp only [evT]; rw [if_neg (by omega), if_pos (by omega), if_neg hw]) (by rw [us_eq, e1]; exact hst.2.push) hu hL hC hD hN hf2 (by omega))
                      | (rcases l with _ | ⟨y, r⟩
                         · exfalso; simp at hhl; omega
                         · rcases r with _ | ⟨x, r⟩
                           · exfalso; simp at hhl; omega
                           · have e1 : (hh + -1 - 1).toNat = r.length := by simp at hhl; omega
                             have e2 : (hh + -1).toNat = r.length + 1 := by simp at hhl; omega
                             have g1 : s 122 (hh + -1).toNat = y := by rw [e2]; exact hst.1
                             have g2 : s 122 (hh + -1 - 1).toNat = x := by rw [e1]; exact hst.2.1
                             rw [g1, g2]
                             have hf2 : Fr [122] s0 (us s 122 (hh + -1 - 1).toNat (doneV (tk (D (143 + 50 * use + (k : Int)).toNat) - 10000) x y)) := hf.tr (Fr.us rfl)
                             have ez : tk (D (143 + 50 * use + (k : Int)).toNat) - 10000 = (D (143 + 50 * use + (k : Int)).toNat) - 20000 := by omega
                             exact l_lg119 (l := doneV (tk (D (143 + 50 * use + (k : Int)).toNat) - 10000) x y :: r) hv0 (k + 1) ((k : Int) + 1) _ (by omega) (by simp only [List.length_cons]; omega) (by rw [evN, hev]; simp only [evT]; rw [if_neg (by omega), if_neg (by omega), ez]) (by rw [us_eq, e1]; exact hst.2.2.push) hu hL hC hD hN hf2 (by omega))
                      | (have e1 : hh.toNat = l.length := by omega
                         have hf2 : Fr [122] s0 (us s 122 hh.toNat (tk (D (143 + 50 * use + (k : Int)).toNat))) := hf.tr (Fr.us rfl)
                         have ez : tk (D (143 + 50 * use + (k : Int)).toNat) = (D (143 + 50 * use + (k : Int)).toNat) := by omega
                         exact l_lg119 (l := tk (D (143 + 50 * use + (k : Int)).toNat) :: l) hv0 (k + 1) ((k : Int) + 1) _ (by omega) (by simp only [List.length_cons]; omega) (by rw [evN, hev]; simp only [evT]; rw [if_pos (by omega), if_pos (by omega), ez]) (by rw [us_eq, e1]; exact hst.push) hu hL hC hD hN hf2 (by omega))
                      | (have e1 : hh.toNat = l.length := by omega
                         have hf2 : Fr [122] s0 (us s 122 hh.toNat (n4 a b c e (-1 - tk (D (143 + 50 * use + (k : Int)).toNat)).toNat)) := hf.tr (Fr.us rfl)
                         have ez : -1 - tk (D (143 + 50 * use + (k : Int)).toNat) = (D (143 + 50 * use + (k : Int)).toNat) - 10000 := by omega
                         exact l_lg119 (l := n4 a b c e (-1 - tk (D (143 + 50 * use + (k : Int)).toNat)).toNat :: l) hv0 (k + 1) ((k : Int) + 1) _ (by omega) (by simp only [List.length_cons]; omega) (by rw [evN, hev]; simp only [evT]; rw [if_pos (by omega), if_neg (by omega), ez]) (by rw [us_eq, e1]; exact hst.push) hu hL hC hD hN hf2 (by omega)))
                 · first
                   | (exfalso; omega)
                   | (refine w_push rfl ?_
                      refine w_go rfl ?_
                      refine w_ast rfl rfl rfl (by omega) rfl ?_
                      refine w_go rfl ?_
                      refine w_inc_8_6 rfl rfl ?_
                      refine w_go rfl ?_
                      first
                      | (rcases l with _ | ⟨y, r⟩
                         · exfalso; simp at hhl; omega
                         · have e1 : (hh - 1).toNat = r.length := by simp at hhl; omega
                           have hf2 : Fr [122] s0 (us s 122 (hh - 1).toNat 1) := hf.tr (Fr.us rfl)
                           have hw : w32 y = 0 := by have := hst.1; rw [e1, this] at b31; exact b31
                           exact l_lg119 (l := 1 :: r) hv0 (k + 1) ((k : Int) + 1) _ (by omega) (by simp only [List.length_cons]; omega) (by rw [evN, hev]; simp only [evT]; rw [if_neg (by omega), if_pos (by omega), if_pos hw]) (by rw [us_eq, e1]; exact hst.2.push) hu hL hC hD hN hf2 (by omega))
                      | (rcases l with _ | ⟨y, r⟩
                         · exfalso; simp at hhl; omega
                         · have e1 : (hh - 1).toNat = r.length := by simp at hhl; omega
                           have hf2 : Fr [122] s0 (us s 122 (hh - 1).toNat 0) := hf.tr (Fr.us rfl)
                           have hw : ¬ w32 y = 0 := by have := hst.1; rw [e1, this] at b31; exact b31
                           exact l_lg119 (l := 0 :: r) hv0 (k + 1) ((k : Int) + 1) _ (by omega) (by simp only [List.length_cons]; omega) (by rw [evN, hev]; simp only [evT]; rw [if_neg (by omega), if_pos (by omega), if_neg hw]) (by rw [us_eq, e1]; exact hst.2.push) hu hL hC hD hN hf2 (by omega))
                      | (rcases l with _ | ⟨y, r⟩
                         · exfalso; simp at hhl; omega
                         · rcases r with _ | ⟨x, r⟩
                           · exfalso; simp at hhl; omega
                           · have e1 : (hh + -1 - 1).toNat = r.length := by simp at hhl; omega
                             have e2 : (hh + -1).toNat = r.length + 1 := by simp at hhl; omega
                             have g1 : s 122 (hh + -1).toNat = y := by rw [e2]; exact hst.1
                             have g2 : s 122 (hh + -1 - 1).toNat = x := by rw [e1]; exact hst.2.1
                             rw [g1, g2]
                             have hf2 : Fr [122] s0 (us s 122 (hh + -1 - 1).toNat (doneV (tk (D (143 + 50 * use + (k : Int)).toNat) - 10000) x y)) := hf.tr (Fr.us rfl)
                             have ez : tk (D (143 + 50 * use + (k : Int)).toNat) - 10000 = (D (143 + 50 * use + (k : Int)).toNat) - 20000 := by omega
                             exact l_lg119 (l := doneV (tk (D (143 + 50 * use + (k : Int)).toNat) - 10000) x y :: r) hv0 (k + 1) ((k : Int) + 1) _ (by omega) (by simp only [List.length_cons]; omega) (by rw [evN, hev]; simp only [evT]; rw [if_neg (by omega), if_neg (by omega), ez]) (by rw [us_eq, e1]; exact hst.2.2.push) hu hL hC hD hN hf2 (by omega))
                      | (have e1 : hh.toNat = l.length := by omega
                         have hf2 : Fr [122] s0 (us s 122 hh.toNat (tk (D (143 + 50 * use + (k : Int)).toNat))) := hf.tr (Fr.us rfl)
                         have ez : tk (D (143 + 50 * use + (k : Int)).toNat) = (D (143 + 50 * use + (k : Int)).toNat) := by omega
                         exact l_lg119 (l := tk (D (143 + 50 * use + (k : Int)).toNat) :: l) hv0 (k + 1) ((k : Int) + 1) _ (by omega) (by simp only [List.length_cons]; omega) (by rw [evN, hev]; simp only [evT]; rw [if_pos (by omega), if_pos (by omega), ez]) (by rw [us_eq, e1]; exact hst.push) hu hL hC hD hN hf2 (by omega))
                      | (have e1 : hh.toNat = l.length := by omega
                         have hf2 : Fr [122] s0 (us s 122 hh.toNat (n4 a b c e (-1 - tk (D (143 + 50 * use + (k : Int)).toNat)).toNat)) := hf.tr (Fr.us rfl)
                         have ez : -1 - tk (D (143 + 50 * use + (k : Int)).toNat) = (D (143 + 50 * use + (k : Int)).toNat) - 10000 := by omega
                         exact l_lg119 (l := n4 a b c e (-1 - tk (D (143 + 50 * use + (k : Int)).toNat)).toNat :: l) hv0 (k + 1) ((k : Int) + 1) _ (by omega) (by simp only [List.length_cons]; omega) (by rw [evN, hev]; simp only [evT]; rw [if_pos (by omega), if_neg (by omega), ez]) (by rw [us_eq, e1]; exact hst.push) hu hL hC hD hN hf2 (by omega))))))
termination_by (50 - k)
decreasing_by all_goals omega
theorem k_gives119 {d : Nat} {s : mSt} {D : Nat → Int} {use a b c e : Int} (hu : 0 ≤ use ∧ use ≤ 1) (hL : LwR s 119 D use) (hC : COk D) : CI (d + 1) 49 [.inr (.inr 119), .inl a, .inl b, .inl c, .inl e] (s) (fun v s1 => v = gv D use a b c e ∧ Fr [122] s s1) := by
  refine CI.mk rfl ?_
  show WP (d + 1) 49 0 [some (.inr (.inr 119)), some (.inl a), some (.inl b), some (.inl c), some (.inl e), none, none, none] [] (encA (s)) _
  refine w_push rfl ?_
  refine w_StI_8_5 rfl rfl ?_
  refine w_push rfl ?_
  refine w_StI_8_6 rfl rfl ?_
  have hcc := hC.at hu
  exact l_lg119 (l := []) (fun s1 hf => ⟨rfl, hf⟩) 0 0 0 rfl rfl rfl trivial hu hL hcc trivial trivial Fr.rf (by have := hcc.1; omega)
