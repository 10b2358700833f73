/-! ===== mirrors: the reference's runs ===== -/
def Gnd (E D : Nat → Int) : Prop := ∀ j, 36 ≤ j → E j = D j
theorem evN_gd {E D nm : Nat → Int} {b : Int} (h : Gnd E D) (hb : 143 ≤ b) : ∀ k, evN nm E b k = evN nm D b k
  | 0 => rfl
  | k + 1 => by
    unfold evN
    rw [evN_gd h hb k, h (b + (k : Int)).toNat (by omega)]
theorem gv_gd {E D : Nat → Int} (h : Gnd E D) {use a b c e : Int} (hu : 0 ≤ use ∧ use ≤ 1) : gv E use a b c e = gv D use a b c e := by
  unfold gv
  rw [h (121 + use).toNat (by omega), evN_gd h (by omega)]
theorem lfN_gd {E D : Nat → Int} (h : Gnd E D) (dm h0 : Int) : ∀ k, lfN E dm h0 k = lfN D dm h0 k
  | 0 => rfl
  | k + 1 => by
    unfold lfN
    rw [lfN_gd h dm h0 k, gv_gd h (by omega), h 36 (by omega)]
theorem liW_gd {E D : Nat → Int} (h : Gnd E D) {w : Int} (hw : 0 ≤ w ∧ w < 6) : liW E w = liF E (lfW D w) (cwF D w) := by
  have e1 : shn E w = shn D w := by
    unfold shn
    rw [h (45 + 4 * w + 0).toNat (by omega), h (45 + 4 * w + 1).toNat (by omega), h 38 (by omega)]
  have e2 : dms E w = dms D w := by
    unfold dms
    rw [h (45 + 4 * w + 0).toNat (by omega)]
  have e3 : cwF E w = cwF D w := h (45 + 4 * w + 2).toNat (by omega)
  have e4 : lfW E w = lfW D w := by
    funext k
    unfold lfW
    rw [e1, e2]
    exact lfN_gd h _ _ k
  unfold liW
  rw [e3, e4]
theorem Gnd.rf {D : Nat → Int} : Gnd D D := fun _ _ => rfl
theorem Gnd.up {E D : Nat → Int} (h : Gnd E D) {a : Nat} {v : Int} (ha : a < 36) : Gnd (mup E a v) D := fun j hj => by rw [mup_ne (by omega)]; exact h j hj
theorem mk_ok {D : Nat → Int} (hM : MOk D) (hC : COk D) {a : Nat} {v : Int} (ha : a < 36) (hv : 0 ≤ v ∧ v ≤ 3) : MOk (mup D a v) ∧ COk (mup D a v) := ⟨MOk_set hM ⟨by omega, by omega, by omega, by omega, by omega, by omega, by omega, by omega, by omega, fun w hw => ⟨by omega, by omega, by omega, by omega⟩, fun p hp => ⟨by omega, by omega, by omega, by omega⟩, fun j hj => by omega, fun j hj => by omega⟩, COk_set (by omega) hC⟩
theorem fr_row {A : List Nat} {s s1 : mSt} {a : Nat} {v : Int} (h0 : s 147 a = 0) (hA : A.contains 147 = false) (hf : Fr A (us s 147 a v) s1) : Fr A s (us s1 147 a 0) := by
  intro x hx
  by_cases e : x = 147
  · subst e
    rw [us_eq, hf.at 147 hA, us_eq, mup_back h0]
  · rw [us_ne e, hf x hx, us_ne e]
theorem c_may {d : Nat} {s : mSt} {D : Nat → Int} (hD : s 147 = D) (hM : MOk D) {w z : Int} {a : Nat} (ha : a < 36) (hw : 0 ≤ w ∧ w < 6) (hz : 0 ≤ z ∧ z < 36) : Call (d + 1) 236 [.inr (.inr 146), .inl w, .inl z, .inl (a : Int)] (encA (s)) (some (.inl (bI (okM D w z a)))) (encA (s)) := by
  refine CI.ex (CI.mk rfl ?_)
  show WP (d + 1) 236 0 [some (.inr (.inr 146)), some (.inl w), some (.inl z), some (.inl (a : Int))] [] (encA (s)) _
  have hca := MOk_cell hM a ha
  have hcw := cwF_rng hM hw
  refine w_ldR rfl rfl rfl ?_
  first | refine w_getI rfl rfl rfl rfl rfl ?_ | refine w_getR rfl rfl rfl rfl rfl ?_
  try simp only [hD]
  refine w_push rfl ?_
  refine w_ldI rfl rfl ?_
  refine w_add rfl ?_
  refine w_ald rfl rfl rfl (by omega) rfl ?_
  try simp only [hD]
  rw [show (0 + (a : Int)).toNat = a by omega]
  refine w_irNe0 rfl (by omega) (fun b6 => ?_) (fun b6 => ?_)
  · first
    | (exfalso; omega)
    | (refine w_push rfl ?_
       refine w_retB rfl (by first | exact bI_01 _ | decide | omega) ?_
       refine ⟨?_, rfl⟩
       unfold bI okM
       first | rw [if_pos ⟨by omega, by omega, by omega⟩] | rw [if_neg (fun h => by omega)])
  · first
    | (exfalso; omega)
    | (refine w_ldI rfl rfl ?_
       refine w_ldI rfl rfl ?_
       refine w_crEq rfl (by omega) (by omega) (fun b9 => ?_) (fun b9 => ?_)
       · first
         | (exfalso; omega)
         | (refine w_push rfl ?_
            refine w_retB rfl (by first | exact bI_01 _ | decide | omega) ?_
            refine ⟨?_, rfl⟩
            unfold bI okM
            first | rw [if_pos ⟨by omega, by omega, by omega⟩] | rw [if_neg (fun h => by omega)])
       · first
         | (exfalso; omega)
         | (refine w_ldI rfl rfl ?_
            refine w_ldR rfl rfl rfl ?_
            refine w_ldI rfl rfl ?_
            refine w_push rfl ?_
            refine w_callV rfl rfl rfl rfl rfl rfl rfl (r_ofIt (by omega) (by omega)) ?_
            try simp only [hD]
            rw [show D (45 + 4 * w + 2).toNat = cwF D w from rfl]
            refine w_crEq rfl (by omega) (by omega) (fun b15 => ?_) (fun b15 => ?_)
            · first
              | (exfalso; omega)
              | (refine w_push rfl ?_
                 refine w_retB rfl (by first | exact bI_01 _ | decide | omega) ?_
                 refine ⟨?_, rfl⟩
                 unfold bI okM
                 first | rw [if_pos ⟨by omega, by omega, by omega⟩] | rw [if_neg (fun h => by omega)])
            · first
              | (exfalso; omega)
              | (refine w_push rfl ?_
                 refine w_go rfl ?_
                 refine w_retB rfl (by first | exact bI_01 _ | decide | omega) ?_
                 refine ⟨?_, rfl⟩
                 unfold bI okM
                 first | rw [if_pos ⟨by omega, by omega, by omega⟩] | rw [if_neg (fun h => by omega)])))
theorem c_isLit {d : Nat} {s : mSt} {D : Nat → Int} (hD : s 147 = D) (hM : MOk D) (hC : COk D) {w z x : Int} (hw : 0 ≤ w ∧ w < 6) (hz : 0 ≤ z ∧ z < 36) (hx : 1 ≤ x ∧ x ≤ 99) : CI (d + 5) 237 [.inr (.inr 146), .inl w, .inl z, .inl x] (s) (fun r s1 => r = bI (x ≤ liW D w z.toNat) ∧ Fr [151, 153, 154] s s1) := by
  refine CI.mk rfl ?_
  show WP (d + 5) 237 0 [some (.inr (.inr 146)), some (.inl w), some (.inl z), some (.inl x)] [] (encA (s)) _
  have hl := liW_L hM hw z.toNat (by omega)
  refine w_ldR rfl rfl rfl ?_
  refine w_ldI rfl rfl ?_
  refine w_callWN rfl rfl rfl rfl rfl rfl rfl (c_shine hD hM hC hw) (fun s2 p2 => ?_)
  refine w_ldR rfl rfl rfl ?_
  first | refine w_getI rfl rfl rfl rfl rfl ?_ | refine w_getR rfl rfl rfl rfl rfl ?_
  refine w_ldI rfl rfl ?_
  refine w_ald rfl rfl rfl (by omega) rfl ?_
  rw [p2.2 z.toNat (by omega)]
  refine w_ldI rfl rfl ?_
  refine w_crLt rfl (by omega) (by omega) (fun b8 => ?_) (fun b8 => ?_)
  · first
    | (exfalso; omega)
    | (refine w_push rfl ?_
       refine w_retB rfl (by first | exact bI_01 _ | decide | omega) ?_
       refine ⟨?_, p2.1⟩
       unfold bI
       first | rw [if_pos (by omega)] | rw [if_neg (by omega)])
  · first
    | (exfalso; omega)
    | (refine w_push rfl ?_
       refine w_go rfl ?_
       refine w_retB rfl (by first | exact bI_01 _ | decide | omega) ?_
       refine ⟨?_, p2.1⟩
       unfold bI
       first | rw [if_pos (by omega)] | rw [if_neg (by omega)])
theorem c_litWith {d : Nat} {s : mSt} {E : Nat → Int} {a : Nat} {k : Int} (hE : s 147 = E) (h0 : E a = 0) (hM : MOk (mup E a k)) (hC : COk (mup E a k)) (ha : a < 36) {w z x : Int} (hw : 0 ≤ w ∧ w < 6) (hz : 0 ≤ z ∧ z < 36) (hx : 1 ≤ x ∧ x ≤ 99) : CI (d + 6) 238 [.inr (.inr 146), .inl w, .inl z, .inl x, .inl (a : Int), .inl k] (s) (fun r s1 => r = bI (x ≤ liW (mup E a k) w z.toNat) ∧ Fr [151, 153, 154] s s1) := by
  refine CI.mk rfl ?_
  show WP (d + 6) 238 0 [some (.inr (.inr 146)), some (.inl w), some (.inl z), some (.inl x), some (.inl (a : Int)), some (.inl k), none] [] (encA (s)) _
  refine w_ldR rfl rfl rfl ?_
  first | refine w_getI rfl rfl rfl rfl rfl ?_ | refine w_getR rfl rfl rfl rfl rfl ?_
  refine w_push rfl ?_
  refine w_ldI rfl rfl ?_
  refine w_add rfl ?_
  refine w_ldI rfl rfl ?_
  refine w_ast rfl rfl rfl (by omega) rfl ?_
  rw [show (0 + (a : Int)).toNat = a by omega]
  have hD1 : us s 147 a k 147 = mup E a k := by rw [us_eq, hE]
  refine w_ldR rfl rfl rfl ?_
  refine w_ldI rfl rfl ?_
  refine w_ldI rfl rfl ?_
  refine w_ldI rfl rfl ?_
  refine w_callWI rfl rfl rfl rfl rfl rfl rfl (c_isLit (D := mup E a k) hD1 hM hC hw hz hx) (fun v11 s11 p11 => ?_)
  obtain ⟨rfl, f11⟩ := p11
  refine w_StI_7_6 rfl rfl ?_
  refine w_ldR rfl rfl rfl ?_
  first | refine w_getI rfl rfl rfl rfl rfl ?_ | refine w_getR rfl rfl rfl rfl rfl ?_
  refine w_push rfl ?_
  refine w_ldI rfl rfl ?_
  refine w_add rfl ?_
  refine w_push rfl ?_
  refine w_ast rfl rfl rfl (by omega) rfl ?_
  rw [show (0 + (a : Int)).toNat = a by omega]
  refine w_ldI rfl rfl ?_
  refine w_retB rfl (by first | exact bI_01 _ | decide | omega) ?_
  exact ⟨rfl, fr_row (by rw [hE]; exact h0) rfl f11⟩
def OneM (D : Nat → Int) (w z x : Int) (s0 s : mSt) (n : Nat) : Prop := Fr [151, 153, 154] s0 s ∧ ∀ j, j < n → ¬ P1 D w z x j
def TwoM (D : Nat → Int) (w z x : Int) (s0 s : mSt) (n : Nat) : Prop := Fr [151, 153, 154] s0 s ∧ ∀ j, j < n → ¬ P2 D w z x j
theorem no_1 {D : Nat → Int} {w z x : Int} {a k : Nat} (h : ∀ j, j < 2 * a + k → ¬ P1 D w z x j) (n : ¬ okM D w z a) : ∀ j, j < 2 * (a + 1) → ¬ P1 D w z x j := by
  intro j hj
  by_cases e : j < 2 * a + k
  · exact h j e
  · intro p
    have := p.1
    rw [show j / 2 = a by omega] at this
    exact n this
theorem no_12 {D : Nat → Int} {w z x : Int} {a k : Nat} (h : ∀ j, j < 2 * a + k → ¬ P1 D w z x j) (n : 2 ≤ k) : ∀ j, j < 2 * (a + 1) → ¬ P1 D w z x j := fun j hj => h j (by omega)
theorem no_s {D : Nat → Int} {w z x : Int} {n : Nat} (h : ∀ j, j < n → ¬ P1 D w z x j) (k : ¬ P1 D w z x n) : ∀ j, j < n + 1 → ¬ P1 D w z x j := fun j hj => by
  by_cases e : j = n
  · rw [e]; exact k
  · exact h j (by omega)
theorem no_s2 {D : Nat → Int} {w z x : Int} {n : Nat} (h : ∀ j, j < n → ¬ P2 D w z x j) (k : ¬ P2 D w z x n) : ∀ j, j < n + 1 → ¬ P2 D w z x j := fun j hj => by
  by_cases e : j = n
  · rw [e]; exact k
  · exact h j (by omega)
theorem no_ab {D : Nat → Int} {w z x : Int} {a b : Nat} (k : ¬ okM D w z a) (h : ∀ j, j < 144 * a + 4 * b → ¬ P2 D w z x j) : ∀ j, j < 144 * (a + 1) → ¬ P2 D w z x j := by
  intro j hj
  by_cases e : j < 144 * a + 4 * b
  · exact h j e
  · intro p
    have := p.2.1
    rw [show j / 144 = a by omega] at this
    exact k this
theorem no_36 {D : Nat → Int} {w z x : Int} {a b : Nat} (k : 36 ≤ b) (h : ∀ j, j < 144 * a + 4 * b → ¬ P2 D w z x j) : ∀ j, j < 144 * (a + 1) → ¬ P2 D w z x j := fun j hj => h j (by omega)
theorem l_fO {d : Nat} {s : mSt} {s0 : mSt} {P : Int → mSt → Prop} {D : Nat → Int} {w z x : Int} (hD : s0 147 = D) (hM : MOk D) (hC : COk D) (hw : 0 ≤ w ∧ w < 6) (hz : 0 ≤ z ∧ z < 36) (hx : 1 ≤ x ∧ x ≤ 99) (a : Nat) (ha : a < 36) (k : Nat) (kk : Int) (hkk : kk = 2 + (k : Int)) (hk : k ≤ 2) (hT : OneM D w z x s0 s (2 * a + k)) (hP1 : ∀ s1 i, Fst (P1 D w z x) 72 i → Fr [151, 153, 154, 158] s0 s1 → s1 158 0 = ((i / 2 : Nat) : Int) → s1 158 1 = 2 + ((i % 2 : Nat) : Int) → P 1 s1) (hK : ∀ s1 (l5 : Option mAV), OneM D w z x s0 s1 (2 * (a + 1)) → WP (d + 7) 239 38 [some (.inr (.inr 146)), some (.inl w), some (.inl z), some (.inl x), some (.inl (a : Int)), l5] [] (encA (s1)) (QI P)) : WP (d + 7) 239 7 [some (.inr (.inr 146)), some (.inl w), some (.inl z), some (.inl x), some (.inl (a : Int)), some (.inl kk)] [] (encA (s)) (QI P) := by
  subst hkk
  have hDs : s 147 = D := by rw [hT.1.at 147 rfl]; exact hD
  
  refine w_ldI rfl rfl ?_
  refine w_push rfl ?_
  refine w_crGe rfl (by omega) (by omega) (fun b9 => ?_) (fun b9 => ?_)
  · first
    | (exfalso; omega)
    | (first
       | exact hK s _ ⟨hT.1, no_1 hT.2 b15⟩
       | exact hK s _ ⟨hT.1, no_12 hT.2 (by omega)⟩)
  · first
    | (exfalso; omega)
    | (refine w_ldR rfl rfl rfl ?_
       refine w_ldI rfl rfl ?_
       refine w_ldI rfl rfl ?_
       refine w_ldI rfl rfl ?_
       refine w_callV rfl rfl rfl rfl rfl rfl rfl (c_may hDs hM ha hw hz) ?_
       try simp only [hD]
       refine w_bEq0 rfl (fun b15 => ?_) (fun b15 => ?_)
       · first
         | (exfalso; omega)
         | (first
            | exact hK s _ ⟨hT.1, no_1 hT.2 b15⟩
            | exact hK s _ ⟨hT.1, no_12 hT.2 (by omega)⟩)
       · first
         | (exfalso; omega)
         | (have hok := mk_ok hM hC (a := a) (v := 2 + (k : Int)) ha (by omega)
            refine w_ldR rfl rfl rfl ?_
            refine w_ldI rfl rfl ?_
            refine w_ldI rfl rfl ?_
            refine w_ldI rfl rfl ?_
            refine w_ldI rfl rfl ?_
            refine w_ldI rfl rfl ?_
            refine w_callWI rfl rfl rfl rfl rfl rfl rfl (c_litWith hDs b15.1 hok.1 hok.2 ha hw hz hx) (fun v22 s22 p22 => ?_)
            obtain ⟨rfl, f22⟩ := p22
            rw [liW_gd (Gnd.up Gnd.rf ha) hw]
            refine w_bEq0 rfl (fun b23 => ?_) (fun b23 => ?_)
            · first
              | (exfalso; omega)
              | (refine w_inc_6_5 rfl rfl ?_
                 refine w_go rfl ?_
                 exact l_fO hD hM hC hw hz hx a ha (k + 1) (2 + (k : Int) + 1) (by omega) (by omega) ⟨hT.1.tr f22, no_s (n := 2 * a + k) hT.2 (by rw [P1_eq (by omega)]; exact fun h => b23 h.2)⟩ hP1 hK)
            · first
              | (exfalso; omega)
              | (refine w_ldR rfl rfl rfl ?_
                 first | refine w_getI rfl rfl rfl rfl rfl ?_ | refine w_getR rfl rfl rfl rfl rfl ?_
                 try simp only [hD]
                 refine w_push rfl ?_
                 refine w_ldI rfl rfl ?_
                 refine w_astk 0 rfl rfl rfl rfl rfl rfl ?_
                 refine w_ldR rfl rfl rfl ?_
                 first | refine w_getI rfl rfl rfl rfl rfl ?_ | refine w_getR rfl rfl rfl rfl rfl ?_
                 try simp only [hD]
                 refine w_push rfl ?_
                 refine w_ldI rfl rfl ?_
                 refine w_astk 1 rfl rfl rfl rfl rfl rfl ?_
                 refine w_push rfl ?_
                 refine w_retB rfl (by first | exact bI_01 _ | decide | omega) ?_
                 refine hP1 _ (2 * a + k) ⟨by omega, by rw [P1_eq (by omega)]; exact ⟨b15, b23⟩, hT.2⟩ ?_ ?_ ?_
                 · exact (((Fr.mono rfl hT.1).tr (Fr.mono rfl f22)).tr (Fr.us rfl)).tr (Fr.us rfl)
                 · rw [us_eq, mup_ne (by decide), us_eq, mup_eq, show (2 * a + k) / 2 = a by omega]
                 · rw [us_eq, mup_eq, show (2 * a + k) % 2 = k by omega])))
termination_by 2 - k
decreasing_by all_goals omega
theorem l_fOA {d : Nat} {s : mSt} {s0 : mSt} {P : Int → mSt → Prop} {D : Nat → Int} {w z x : Int} (hD : s0 147 = D) (hM : MOk D) (hC : COk D) (hw : 0 ≤ w ∧ w < 6) (hz : 0 ≤ z ∧ z < 36) (hx : 1 ≤ x ∧ x ≤ 99) {l5 : Option mAV} (a : Nat) (aa : Int) (haa : aa = (a : Int)) (ha : a ≤ 36) (hT : OneM D w z x s0 s (2 * a)) (hP1 : ∀ s1 i, Fst (P1 D w z x) 72 i → Fr [151, 153, 154, 158] s0 s1 → s1 158 0 = ((i / 2 : Nat) : Int) → s1 158 1 = 2 + ((i % 2 : Nat) : Int) → P 1 s1) (hP0 : ∀ s1, OneM D w z x s0 s1 72 → P 0 s1) : WP (d + 7) 239 2 [some (.inr (.inr 146)), some (.inl w), some (.inl z), some (.inl x), some (.inl aa), l5] [] (encA (s)) (QI P) := by
  subst haa
  refine w_ldI rfl rfl ?_
  refine w_push rfl ?_
  refine w_crGe rfl (by omega) (by omega) (fun b4 => ?_) (fun b4 => ?_)
  · first
    | (exfalso; omega)
    | (refine w_push rfl ?_
       refine w_retB rfl (by first | exact bI_01 _ | decide | omega) ?_
       obtain rfl : a = 36 := by omega
       exact hP0 s hT)
  · first
    | (exfalso; omega)
    | (refine w_push rfl ?_
       refine w_StI_6_5 rfl rfl ?_
       refine l_fO hD hM hC hw hz hx a (by omega) 0 2 rfl (by omega) hT hP1 (fun s1 l5 hT1 => ?_)
       refine w_inc_6_4 rfl rfl ?_
       refine w_go rfl ?_
       exact l_fOA hD hM hC hw hz hx (a + 1) ((a : Int) + 1) (by omega) (by omega) hT1 hP1 hP0)
termination_by 36 - a
decreasing_by all_goals omega
theorem c_findOne {d : Nat} {s : mSt} {D : Nat → Int} {w z x : Int} (hD : s 147 = D) (hM : MOk D) (hC : COk D) (hw : 0 ≤ w ∧ w < 6) (hz : 0 ≤ z ∧ z < 36) (hx : 1 ≤ x ∧ x ≤ 99)  : CI (d + 7) 239 [.inr (.inr 146), .inl w, .inl z, .inl x] (s) (fun r s1 => (r = 1 ∧ ∃ i, Fst (P1 D w z x) 72 i ∧ Fr [151, 153, 154, 158] s s1 ∧ s1 158 0 = ((i / 2 : Nat) : Int) ∧ s1 158 1 = 2 + ((i % 2 : Nat) : Int)) ∨ (r = 0 ∧ OneM D w z x s s1 72)) := by
  refine CI.mk rfl ?_
  show WP (d + 7) 239 0 [some (.inr (.inr 146)), some (.inl w), some (.inl z), some (.inl x), none, none] [] (encA (s)) _
  refine w_push rfl ?_
  refine w_StI_6_4 rfl rfl ?_
  exact l_fOA hD hM hC hw hz hx 0 0 rfl (by omega) ⟨Fr.rf, fun j hj => by omega⟩ (fun s1 i h1 h2 h3 h4 => Or.inl ⟨rfl, i, h1, h2, h3, h4⟩) (fun s1 h => Or.inr ⟨rfl, h⟩)
theorem P2_k {D : Nat → Int} {w z x : Int} {a b k : Nat} (hb : b < 36) (hk : k < 4) : P2 D w z x (144 * a + 4 * b + k) = (a < b ∧ okM D w z a ∧ okM D w z b ∧ x ≤ liF (mup (mup D a (2 + ((k / 2 : Nat) : Int))) b (2 + ((k % 2 : Nat) : Int))) (lfW D w) (cwF D w) z.toNat) := by
  rw [← P2_eq (p := k / 2) (q := k % 2) hb (by omega) (by omega), show 144 * a + 4 * b + 2 * (k / 2) + k % 2 = 144 * a + 4 * b + k by omega]
theorem l_fTK {d : Nat} {s : mSt} {s0 : mSt} {P : Int → mSt → Prop} {D : Nat → Int} {w z x : Int} (hD : s0 147 = D) (hM : MOk D) (hC : COk D) (hw : 0 ≤ w ∧ w < 6) (hz : 0 ≤ z ∧ z < 36) (hx : 1 ≤ x ∧ x ≤ 99) {l7 : Option mAV} (a b : Nat) (hb : b < 36) (hab : a < b) (oa : okM D w z a) (ob : okM D w z b) (k : Nat) (kk : Int) (hkk : kk = (k : Int)) (hk : k ≤ 4) (hT : TwoM D w z x s0 s (144 * a + 4 * b + k)) (hP1 : ∀ s1 i, Fst (P2 D w z x) 5184 i → Fr [151, 153, 154, 158] s0 s1 → s1 158 0 = ((i / 144 : Nat) : Int) → s1 158 1 = 2 + ((i / 2 % 2 : Nat) : Int) → s1 158 2 = ((i / 4 % 36 : Nat) : Int) → s1 158 3 = 2 + ((i % 2 : Nat) : Int) → P 1 s1) (hP0 : ∀ s1, TwoM D w z x s0 s1 (144 * a + 4 * b + 4) → P 0 s1) : WP (d + 7) 240 2 [some (.inr (.inr 146)), some (.inl w), some (.inl z), some (.inl x), some (.inl (a : Int)), some (.inl (b : Int)), some (.inl kk), l7] [] (encA (s)) (QI P) := by
  subst hkk
  have hDs : s 147 = D := by rw [hT.1.at 147 rfl]; exact hD
  have ho1 : a ≠ b := by omega
  refine w_ldI rfl rfl ?_
  refine w_push rfl ?_
  refine w_crGe rfl (by omega) (by omega) (fun b4 => ?_) (fun b4 => ?_)
  · first
    | (exfalso; omega)
    | (refine w_push rfl ?_
       refine w_retB rfl (by first | exact bI_01 _ | decide | omega) ?_
       obtain rfl : k = 4 := by omega
       exact hP0 s hT)
  · first
    | (exfalso; omega)
    | (refine w_ldR rfl rfl rfl ?_
       first | refine w_getI rfl rfl rfl rfl rfl ?_ | refine w_getR rfl rfl rfl rfl rfl ?_
       refine w_push rfl ?_
       refine w_ldI rfl rfl ?_
       refine w_add rfl ?_
       refine w_push rfl ?_
       refine w_ldI rfl rfl ?_
       refine w_push rfl ?_
       refine w_div rfl (by decide) ?_
       refine w_add rfl ?_
       rw [m_div_pos (by omega) (by omega), show (k : Int) / 2 = ((k / 2 : Nat) : Int) by omega]
       refine w_ast rfl rfl rfl (by omega) rfl ?_
       rw [show (0 + (a : Int)).toNat = a by omega]
       have hok1 := mk_ok hM hC (a := a) (v := 2 + ((k / 2 : Nat) : Int)) (by omega) (by omega)
       have hok2 := mk_ok hok1.1 hok1.2 (a := b) (v := 2 + ((k % 2 : Nat) : Int)) (by omega) (by omega)
       have h01 : mup D a (2 + ((k / 2 : Nat) : Int)) b = 0 := by rw [mup_ne (Ne.symm ho1)]; exact ob.1
       have hD1 : us s 147 a (2 + ((k / 2 : Nat) : Int)) 147 = mup D a (2 + ((k / 2 : Nat) : Int)) := by rw [us_eq, hDs]
       refine w_ldR rfl rfl rfl ?_
       refine w_ldI rfl rfl ?_
       refine w_ldI rfl rfl ?_
       refine w_ldI rfl rfl ?_
       refine w_ldI rfl rfl ?_
       refine w_push rfl ?_
       refine w_ldI rfl rfl ?_
       refine w_push rfl ?_
       refine w_div rfl (by decide) ?_
       refine w_add rfl ?_
       rw [m_rem_pos (by omega) (by omega), show (k : Int) % 2 = ((k % 2 : Nat) : Int) by omega]
       refine w_callWI rfl rfl rfl rfl rfl rfl rfl (c_litWith (E := mup D a (2 + ((k / 2 : Nat) : Int))) hD1 h01 hok2.1 hok2.2 hb hw hz hx) (fun v26 s26 p26 => ?_)
       obtain ⟨rfl, f26⟩ := p26
       rw [liW_gd (Gnd.up (Gnd.up Gnd.rf (by omega)) hb) hw]
       refine w_StI_8_7 rfl rfl ?_
       refine w_ldR rfl rfl rfl ?_
       first | refine w_getI rfl rfl rfl rfl rfl ?_ | refine w_getR rfl rfl rfl rfl rfl ?_
       refine w_push rfl ?_
       refine w_ldI rfl rfl ?_
       refine w_add rfl ?_
       refine w_push rfl ?_
       refine w_ast rfl rfl rfl (by omega) rfl ?_
       rw [show (0 + (a : Int)).toNat = a by omega]
       have fB : Fr [151, 153, 154] s (us s26 147 a 0) := fr_row (by rw [hDs]; exact oa.1) rfl f26
       refine w_ldI rfl rfl ?_
       refine w_bEq0 rfl (fun b36 => ?_) (fun b36 => ?_)
       · first
         | (exfalso; omega)
         | (refine w_inc_8_6 rfl rfl ?_
            refine w_go rfl ?_
            exact l_fTK hD hM hC hw hz hx a b hb hab oa ob (k + 1) ((k : Int) + 1) (by omega) (by omega) ⟨hT.1.tr fB, no_s2 (n := 144 * a + 4 * b + k) hT.2 (by rw [P2_k hb (by omega)]; exact fun h => b36 h.2.2.2)⟩ hP1 hP0)
       · first
         | (exfalso; omega)
         | (refine w_ldR rfl rfl rfl ?_
            first | refine w_getI rfl rfl rfl rfl rfl ?_ | refine w_getR rfl rfl rfl rfl rfl ?_
            refine w_push rfl ?_
            refine w_ldI rfl rfl ?_
            refine w_astk 0 rfl rfl rfl rfl rfl rfl ?_
            refine w_ldR rfl rfl rfl ?_
            first | refine w_getI rfl rfl rfl rfl rfl ?_ | refine w_getR rfl rfl rfl rfl rfl ?_
            refine w_push rfl ?_
            refine w_push rfl ?_
            refine w_ldI rfl rfl ?_
            refine w_push rfl ?_
            refine w_div rfl (by decide) ?_
            refine w_add rfl ?_
            rw [m_div_pos (by omega) (by omega), show (k : Int) / 2 = ((k / 2 : Nat) : Int) by omega]
            refine w_astk 1 rfl rfl rfl rfl rfl rfl ?_
            refine w_ldR rfl rfl rfl ?_
            first | refine w_getI rfl rfl rfl rfl rfl ?_ | refine w_getR rfl rfl rfl rfl rfl ?_
            refine w_push rfl ?_
            refine w_ldI rfl rfl ?_
            refine w_astk 2 rfl rfl rfl rfl rfl rfl ?_
            refine w_ldR rfl rfl rfl ?_
            first | refine w_getI rfl rfl rfl rfl rfl ?_ | refine w_getR rfl rfl rfl rfl rfl ?_
            refine w_push rfl ?_
            refine w_push rfl ?_
            refine w_ldI rfl rfl ?_
            refine w_push rfl ?_
            refine w_div rfl (by decide) ?_
            refine w_add rfl ?_
            rw [m_rem_pos (by omega) (by omega), show (k : Int) % 2 = ((k % 2 : Nat) : Int) by omega]
            refine w_astk 3 rfl rfl rfl rfl rfl rfl ?_
            refine w_push rfl ?_
            refine w_retB rfl (by first | exact bI_01 _ | decide | omega) ?_
            refine hP1 _ (144 * a + 4 * b + k) ⟨by omega, by rw [P2_k hb (by omega)]; exact ⟨hab, oa, ob, b36⟩, hT.2⟩ ?_ ?_ ?_ ?_ ?_
            · exact (((((Fr.mono rfl hT.1).tr (Fr.mono rfl fB)).tr (Fr.us rfl)).tr (Fr.us rfl)).tr (Fr.us rfl)).tr (Fr.us rfl)
            · rw [us_eq, mup_ne (by decide), us_eq, mup_ne (by decide), us_eq, mup_ne (by decide), us_eq, mup_eq, show (144 * a + 4 * b + k) / 144 = a by omega]
            · rw [us_eq, mup_ne (by decide), us_eq, mup_ne (by decide), us_eq, mup_eq, show (144 * a + 4 * b + k) / 2 % 2 = k / 2 by omega]
            · rw [us_eq, mup_ne (by decide), us_eq, mup_eq, show (144 * a + 4 * b + k) / 4 % 36 = b by omega]
            · rw [us_eq, mup_eq, show (144 * a + 4 * b + k) % 2 = k % 2 by omega]))
termination_by 4 - k
decreasing_by all_goals omega
def TwMR (D : Nat → Int) (w z x : Int) (s0 : mSt) (n : Nat) (r : Int) (s1 : mSt) : Prop := (r = 1 ∧ ∃ i, Fst (P2 D w z x) 5184 i ∧ Fr [151, 153, 154, 158] s0 s1 ∧ s1 158 0 = ((i / 144 : Nat) : Int) ∧ s1 158 1 = 2 + ((i / 2 % 2 : Nat) : Int) ∧ s1 158 2 = ((i / 4 % 36 : Nat) : Int) ∧ s1 158 3 = 2 + ((i % 2 : Nat) : Int)) ∨ (r = 0 ∧ TwoM D w z x s0 s1 n)
theorem c_twoAt {d : Nat} {s : mSt} {s0 : mSt} {D : Nat → Int} {w z x : Int} (hD : s0 147 = D) (hM : MOk D) (hC : COk D) (hw : 0 ≤ w ∧ w < 6) (hz : 0 ≤ z ∧ z < 36) (hx : 1 ≤ x ∧ x ≤ 99) {a b : Nat} (hb : b < 36) (hab : a < b) (oa : okM D w z a) (ob : okM D w z b) (hT : TwoM D w z x s0 s (144 * a + 4 * b)) : CI (d + 7) 240 [.inr (.inr 146), .inl w, .inl z, .inl x, .inl (a : Int), .inl (b : Int)] (s) (TwMR D w z x s0 (144 * a + 4 * b + 4)) := by
  refine CI.mk rfl ?_
  show WP (d + 7) 240 0 [some (.inr (.inr 146)), some (.inl w), some (.inl z), some (.inl x), some (.inl (a : Int)), some (.inl (b : Int)), none, none] [] (encA (s)) _
  refine w_push rfl ?_
  refine w_StI_8_6 rfl rfl ?_
  exact l_fTK hD hM hC hw hz hx a b hb hab oa ob 0 0 rfl (by omega) hT (fun s1 i h1 h2 h3 h4 h5 h6 => Or.inl ⟨rfl, i, h1, h2, h3, h4, h5, h6⟩) (fun s1 h => Or.inr ⟨rfl, h⟩)
theorem l_fTB {d : Nat} {s : mSt} {s0 : mSt} {P : Int → mSt → Prop} {D : Nat → Int} {w z x : Int} (hD : s0 147 = D) (hM : MOk D) (hC : COk D) (hw : 0 ≤ w ∧ w < 6) (hz : 0 ≤ z ∧ z < 36) (hx : 1 ≤ x ∧ x ≤ 99) (a : Nat) (ha : a < 36) (b : Nat) (bb : Int) (hbb : bb = (b : Int)) (hab : a < b) (hb : b ≤ 36) (hT : TwoM D w z x s0 s (144 * a + 4 * b)) (hP1 : ∀ s1 i, Fst (P2 D w z x) 5184 i → Fr [151, 153, 154, 158] s0 s1 → s1 158 0 = ((i / 144 : Nat) : Int) → s1 158 1 = 2 + ((i / 2 % 2 : Nat) : Int) → s1 158 2 = ((i / 4 % 36 : Nat) : Int) → s1 158 3 = 2 + ((i % 2 : Nat) : Int) → P 1 s1) (hK : ∀ s1 (l5 : Option mAV), TwoM D w z x s0 s1 (144 * (a + 1)) → WP (d + 8) 241 36 [some (.inr (.inr 146)), some (.inl w), some (.inl z), some (.inl x), some (.inl (a : Int)), l5] [] (encA (s1)) (QI P)) : WP (d + 8) 241 9 [some (.inr (.inr 146)), some (.inl w), some (.inl z), some (.inl x), some (.inl (a : Int)), some (.inl bb)] [] (encA (s)) (QI P) := by
  subst hbb
  have hDs : s 147 = D := by rw [hT.1.at 147 rfl]; exact hD
  
  refine w_ldI rfl rfl ?_
  refine w_push rfl ?_
  refine w_crGe rfl (by omega) (by omega) (fun b11 => ?_) (fun b11 => ?_)
  · first
    | (exfalso; omega)
    | (first
       | exact hK s _ ⟨hT.1, no_ab b17 hT.2⟩
       | exact hK s _ ⟨hT.1, no_36 (by omega) hT.2⟩)
  · first
    | (exfalso; omega)
    | (refine w_ldR rfl rfl rfl ?_
       refine w_ldI rfl rfl ?_
       refine w_ldI rfl rfl ?_
       refine w_ldI rfl rfl ?_
       refine w_callV rfl rfl rfl rfl rfl rfl rfl (c_may hDs hM ha hw hz) ?_
       refine w_bEq0 rfl (fun b17 => ?_) (fun b17 => ?_)
       · first
         | (exfalso; omega)
         | (first
            | exact hK s _ ⟨hT.1, no_ab b17 hT.2⟩
            | exact hK s _ ⟨hT.1, no_36 (by omega) hT.2⟩)
       · first
         | (exfalso; omega)
         | (refine w_ldR rfl rfl rfl ?_
            refine w_ldI rfl rfl ?_
            refine w_ldI rfl rfl ?_
            refine w_ldI rfl rfl ?_
            refine w_callV rfl rfl rfl rfl rfl rfl rfl (c_may hDs hM (by omega) hw hz) ?_
            refine w_bEq0 rfl (fun b23 => ?_) (fun b23 => ?_)
            · first
              | (exfalso; omega)
              | (refine w_inc_6_5 rfl rfl ?_
                 refine w_go rfl ?_
                 first
                 | exact l_fTB hD hM hC hw hz hx a ha (b + 1) ((b : Int) + 1) (by omega) (by omega) (by omega) ⟨hT.1, no_b (by omega) b23 hT.2⟩ hP1 hK
                 | (rcases p30 with ⟨e, -⟩ | ⟨e, hT1⟩
                    · exfalso; omega
                    · exact l_fTB hD hM hC hw hz hx a ha (b + 1) ((b : Int) + 1) (by omega) (by omega) (by omega) ⟨hT1.1, no_n (by omega) hT1.2⟩ hP1 hK))
            · first
              | (exfalso; omega)
              | (refine w_ldR rfl rfl rfl ?_
                 refine w_ldI rfl rfl ?_
                 refine w_ldI rfl rfl ?_
                 refine w_ldI rfl rfl ?_
                 refine w_ldI rfl rfl ?_
                 refine w_ldI rfl rfl ?_
                 refine w_callWI rfl rfl rfl rfl rfl rfl rfl (c_twoAt hD hM hC hw hz hx (by omega) hab b17 b23 hT) (fun v30 s30 p30 => ?_)
                 have r30 : v30 = 0 ∨ v30 = 1 := by rcases p30 with ⟨e, -⟩ | ⟨e, -⟩ <;> omega
                 refine w_irEq0 rfl (by omega) (fun b31 => ?_) (fun b31 => ?_)
                 · first
                   | (exfalso; omega)
                   | (refine w_inc_6_5 rfl rfl ?_
                      refine w_go rfl ?_
                      first
                      | exact l_fTB hD hM hC hw hz hx a ha (b + 1) ((b : Int) + 1) (by omega) (by omega) (by omega) ⟨hT.1, no_b (by omega) b23 hT.2⟩ hP1 hK
                      | (rcases p30 with ⟨e, -⟩ | ⟨e, hT1⟩
                         · exfalso; omega
                         · exact l_fTB hD hM hC hw hz hx a ha (b + 1) ((b : Int) + 1) (by omega) (by omega) (by omega) ⟨hT1.1, no_n (by omega) hT1.2⟩ hP1 hK))
                 · first
                   | (exfalso; omega)
                   | (refine w_push rfl ?_
                      refine w_retB rfl (by first | exact bI_01 _ | decide | omega) ?_
                      rcases p30 with ⟨e, i, h1, h2, h3, h4, h5, h6⟩ | ⟨e, -⟩
                      · exact hP1 s30 i h1 h2 h3 h4 h5 h6
                      · exfalso; omega))))
termination_by 36 - b
decreasing_by all_goals omega
theorem l_fTA {d : Nat} {s : mSt} {s0 : mSt} {P : Int → mSt → Prop} {D : Nat → Int} {w z x : Int} (hD : s0 147 = D) (hM : MOk D) (hC : COk D) (hw : 0 ≤ w ∧ w < 6) (hz : 0 ≤ z ∧ z < 36) (hx : 1 ≤ x ∧ x ≤ 99) {l5 : Option mAV} (a : Nat) (aa : Int) (haa : aa = (a : Int)) (ha : a ≤ 36) (hT : TwoM D w z x s0 s (144 * a)) (hP1 : ∀ s1 i, Fst (P2 D w z x) 5184 i → Fr [151, 153, 154, 158] s0 s1 → s1 158 0 = ((i / 144 : Nat) : Int) → s1 158 1 = 2 + ((i / 2 % 2 : Nat) : Int) → s1 158 2 = ((i / 4 % 36 : Nat) : Int) → s1 158 3 = 2 + ((i % 2 : Nat) : Int) → P 1 s1) (hP0 : ∀ s1, TwoM D w z x s0 s1 5184 → P 0 s1) : WP (d + 8) 241 2 [some (.inr (.inr 146)), some (.inl w), some (.inl z), some (.inl x), some (.inl aa), l5] [] (encA (s)) (QI P) := by
  subst haa
  refine w_ldI rfl rfl ?_
  refine w_push rfl ?_
  refine w_crGe rfl (by omega) (by omega) (fun b4 => ?_) (fun b4 => ?_)
  · first
    | (exfalso; omega)
    | (refine w_push rfl ?_
       refine w_retB rfl (by first | exact bI_01 _ | decide | omega) ?_
       obtain rfl : a = 36 := by omega
       exact hP0 s hT)
  · first
    | (exfalso; omega)
    | (refine w_ldI rfl rfl ?_
       refine w_push rfl ?_
       refine w_add rfl ?_
       refine w_StI_6_5 rfl rfl ?_
       refine l_fTB hD hM hC hw hz hx a (by omega) (a + 1) ((a : Int) + 1) (by omega) (by omega) (by omega) ⟨hT.1, no_e (by omega) hT.2⟩ hP1 (fun s1 l5 hT1 => ?_)
       refine w_inc_6_4 rfl rfl ?_
       refine w_go rfl ?_
       exact l_fTA hD hM hC hw hz hx (a + 1) ((a : Int) + 1) (by omega) (by omega) hT1 hP1 hP0)
termination_by 36 - a
decreasing_by all_goals omega
theorem c_findTwo {d : Nat} {s : mSt} {D : Nat → Int} {w z x : Int} (hD : s 147 = D) (hM : MOk D) (hC : COk D) (hw : 0 ≤ w ∧ w < 6) (hz : 0 ≤ z ∧ z < 36) (hx : 1 ≤ x ∧ x ≤ 99)  : CI (d + 8) 241 [.inr (.inr 146), .inl w, .inl z, .inl x] (s) (TwMR D w z x s 5184) := by
  refine CI.mk rfl ?_
  show WP (d + 8) 241 0 [some (.inr (.inr 146)), some (.inl w), some (.inl z), some (.inl x), none, none] [] (encA (s)) _
  refine w_push rfl ?_
  refine w_StI_6_4 rfl rfl ?_
  exact l_fTA hD hM hC hw hz hx 0 0 rfl (by omega) ⟨Fr.rf, fun j hj => by omega⟩ (fun s1 i h1 h2 h3 h4 h5 h6 => Or.inl ⟨rfl, i, h1, h2, h3, h4, h5, h6⟩) (fun s1 h => Or.inr ⟨rfl, h⟩)
