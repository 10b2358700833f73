/-! ===== mirrors: the search, plainly ===== -/
theorem lbF_s (L : Nat → Int) (n : Nat) : lbF L (n + 1) = lbF L n + (if 0 < L n then 2 ^ n else 0) := rfl
theorem lbF_cg {L M : Nat → Int} : ∀ n : Nat, (∀ i, i < n → L i = M i) → lbF L n = lbF M n
  | 0, _ => rfl
  | n + 1, h => by rw [lbF_s, lbF_s, lbF_cg n (fun i hi => h i (by omega)), h n (by omega)]
theorem lbF_0 : ∀ n : Nat, lbF (fun _ => 0) n = 0
  | 0 => rfl
  | n + 1 => by rw [lbF_s, lbF_0 n]; rfl
theorem lit_cmp {L : Nat → Int} {c : Nat} (hc : c < 36) : mCmp (m_land (m_lshr (lbF L 36) (c : Int)) 1) 0 = bI (0 < L c) := by
  rw [lit_test hc]
  unfold bI
  split
  · rfl
  · rfl
abbrev okM (D : Nat → Int) (w z : Int) (a : Nat) : Prop := D a = 0 ∧ ¬ (a : Int) = z ∧ ¬ (a : Int) = cwF D w
def m1D (D : Nat → Int) (i : Nat) : Nat → Int := mup D (i / 2) (2 + ((i % 2 : Nat) : Int))
def P1 (D : Nat → Int) (w z x : Int) (i : Nat) : Prop := okM D w z (i / 2) ∧ x ≤ liF (m1D D i) (lfW D w) (cwF D w) z.toNat
def lgF (D : Nat → Int) (w z : Int) (i : Nat) : Nat → Int := fun c => if okM D w z (i / 2) ∧ 0 < liW D w (i / 2) then liF (m1D D i) (lfW D w) (cwF D w) c else 0
def m2D (D : Nat → Int) (j : Nat) : Nat → Int := mup (mup D (j / 144) (2 + ((j / 2 % 2 : Nat) : Int))) (j / 4 % 36) (2 + ((j % 2 : Nat) : Int))
def P2 (D : Nat → Int) (w z x : Int) (j : Nat) : Prop := j / 144 < j / 4 % 36 ∧ okM D w z (j / 144) ∧ okM D w z (j / 4 % 36) ∧ x ≤ liF (m2D D j) (lfW D w) (cwF D w) z.toNat
def Fst (P : Nat → Prop) (n i : Nat) : Prop := i < n ∧ P i ∧ ∀ j, j < i → ¬ P j
theorem Fst.one {P : Nat → Prop} {n i j : Nat} (h1 : Fst P n i) (h2 : Fst P n j) : i = j := by
  rcases Nat.lt_trichotomy i j with h | h | h
  · exact absurd h1.2.1 (h2.2.2 i h)
  · exact h
  · exact absurd h2.2.1 (h1.2.2 j h)
theorem cwF_rng {D : Nat → Int} (hM : MOk D) {w : Int} (hw : 0 ≤ w ∧ w < 6) : 0 ≤ cwF D w ∧ cwF D w < 36 := by
  have := MOk_w hM hw
  unfold cwF
  omega
theorem lfW_rng {D : Nat → Int} (hM : MOk D) {w : Int} (hw : 0 ≤ w ∧ w < 6) (k : Nat) : -200 ≤ lfW D w k ∧ lfW D w k ≤ 30 := by
  have hsh := shn_rng hM hw
  exact ⟨by have := lfN_ge D (dms D w) (shn D w) hsh.1 k; unfold lfW; omega, by have := lfW_le hM hw k; omega⟩
theorem liF_L {G lf : Nat → Int} {c : Int} (hl : ∀ k, lf k ≤ 30) (h0 : 0 ≤ lf 0) : LOk (liF G lf c) := by
  unfold liF
  exact LOk_up (rayF_L hl _ _ _ _ _ (rayF_L hl _ _ _ _ _ (rayF_L hl _ _ _ _ _ (rayF_L hl _ _ _ _ _ (fun c _ => by show 0 ≤ (0 : Int) ∧ (0 : Int) ≤ 30; omega))))) ⟨h0, hl 0⟩
theorem liM_L {D G : Nat → Int} (hM : MOk D) {w : Int} (hw : 0 ≤ w ∧ w < 6) : LOk (liF G (lfW D w) (cwF D w)) :=
  liF_L (fun k => (lfW_rng hM hw k).2) (shn_rng hM hw).1
theorem P1_dark {D : Nat → Int} {w z x : Int} {a k : Nat} (hc : 0 ≤ cwF D w) (hx : liW D w z.toNat < x) (h : ¬ (okM D w z a ∧ 0 < liW D w a)) (hk : k < 2) : ¬ P1 D w z x (2 * a + k) := by
  intro hp
  unfold P1 m1D at hp
  rw [show (2 * a + k) / 2 = a by omega, show (2 * a + k) % 2 = k by omega] at hp
  have hz := hp.1
  unfold okM at hz
  have e := liF_dark (G := D) (lf := lfW D w) (c := cwF D w) (a := a) (q := 2 + (k : Int)) (by omega) (by omega) (by omega) (fun q => h ⟨hp.1, q⟩)
  rw [e] at hp
  have h2 := hp.2
  unfold liW at hx
  omega
theorem fr_gnd {A : List Nat} {s s1 : mSt} {a : Nat} {v : Int} (h0 : s 14 a = 0) (hA : A.contains 14 = false) (hf : Fr A (us s 14 a v) s1) : Fr A s (us s1 14 a 0) := by
  intro x hx
  by_cases e : x = 14
  · subst e
    rw [us_eq, hf.at 14 hA, us_eq, mup_back h0]
  · rw [us_ne e, hf x hx, us_ne e]
/-! ===== mirrors: the class's runs ===== -/
theorem l_litCells {d : Nat} {s : mSt} {P : Int → mSt → Prop} {L : Nat → Int} (k : Nat) (i v : Int) (hi : i = (k : Int)) (hv : v = lbF L k) (hl : ∀ i, i < 36 → s 129 i = L i) (hL : LOk L) (hk : k ≤ 36) (hP : P (lbF L 36) s) : WP (d + 0) 60 4 [some (.inr (.inr 127)), some (.inr (.inl v)), none, some (.inl i)] [] (encA (s)) (QL P) := by
  subst hi
  subst hv
  refine w_ldI rfl rfl ?_
  refine w_push rfl ?_
  refine w_crGe rfl (by omega) (by omega) (fun b6 => ?_) (fun b6 => ?_)
  · first
    | (exfalso; omega)
    | (refine w_ldL rfl rfl ?_
       refine w_retL rfl ?_
       obtain rfl : k = 36 := by omega
       exact hP)
  · first
    | (exfalso; omega)
    | (refine w_ldR rfl rfl rfl ?_
       first | refine w_getI rfl rfl rfl rfl rfl ?_ | refine w_getR rfl rfl rfl rfl rfl ?_
       refine w_ldI rfl rfl ?_
       refine w_ald rfl rfl rfl (by omega) rfl ?_
       rw [Int.toNat_natCast, hl k (by omega)]
       have hLk := hL k (by omega)
       refine w_irLe0 rfl (by omega) (fun b11 => ?_) (fun b11 => ?_)
       · first
         | (exfalso; omega)
         | (refine w_inc_4_3 rfl rfl ?_
            refine w_go rfl ?_
            exact l_litCells (k + 1) ((k : Int) + 1) _ (by omega) (by rw [lbF_s]; first | rw [if_pos (by omega), lor_bit (by omega) (lbF_rng L k)] | rw [if_neg (by omega), Int.add_zero]) hl hL (by omega) hP)
       · first
         | (exfalso; omega)
         | (refine w_ldL rfl rfl ?_
            refine w_push rfl ?_
            refine w_ldI rfl rfl ?_
            refine w_shL rfl ?_
            refine w_binL rfl ?_
            refine w_StL_4_1 rfl rfl ?_
            refine w_inc_4_3 rfl rfl ?_
            refine w_go rfl ?_
            exact l_litCells (k + 1) ((k : Int) + 1) _ (by omega) (by rw [lbF_s]; first | rw [if_pos (by omega), lor_bit (by omega) (lbF_rng L k)] | rw [if_neg (by omega), Int.add_zero]) hl hL (by omega) hP))
termination_by 36 - k
decreasing_by all_goals omega
theorem k_litCells {d : Nat} {s : mSt} {L : Nat → Int} (hl : ∀ i, i < 36 → s 129 i = L i) (hL : LOk L) : CL (d + 0) 60 [.inr (.inr 127)] (s) (fun v s1 => v = lbF L 36 ∧ s1 = s) := by
  refine CL.mk rfl ?_
  show WP (d + 0) 60 0 [some (.inr (.inr 127)), none, none, none] [] (encA (s)) _
  refine w_push rfl ?_
  refine w_StL_4_1 rfl rfl ?_
  refine w_push rfl ?_
  refine w_StI_4_3 rfl rfl ?_
  exact l_litCells 0 0 0 rfl rfl hl hL (by omega) ⟨rfl, rfl⟩
theorem k_takes {d : Nat} {s : mSt} {D : Nat → Int} (hV : VN13 s D) (hM : MOk D) {w z : Int} {a : Nat} (ha : a < 36) (hw : 0 ≤ w ∧ w < 6) (hz : -2147483648 ≤ z ∧ z < 2147483648) : Call (d + 0) 163 [.inr (.inr 10), .inl (a : Int), .inl w, .inl z] (encA (s)) (some (.inl (bI (okM D w z a)))) (encA (s)) := by
  refine CI.ex (CI.mk rfl ?_)
  show WP (d + 0) 163 0 [some (.inr (.inr 10)), some (.inl (a : Int)), some (.inl w), some (.inl z)] [] (encA (s)) _
  obtain ⟨vc, vpl, vga, vse, vne, veg, vre, vtu, vta, vwa, v36, v37, v39, v40, v42, v41, v43, v44, vl0, vl1, vlm⟩ := hV
  have hca := MOk_cell hM a ha
  have hcw := cwF_rng hM hw
  refine w_ldR rfl rfl rfl ?_
  first | refine w_getI rfl rfl rfl rfl rfl ?_ | refine w_getR rfl rfl rfl rfl rfl ?_
  first | refine w_getI rfl rfl rfl rfl rfl ?_ | refine w_getR rfl rfl rfl rfl rfl ?_
  refine w_ldI rfl rfl ?_
  refine w_ald rfl rfl rfl (by omega) rfl ?_
  rw [vc _ (by omega) (by omega), Int.toNat_natCast]
  refine w_irNe0 rfl (by omega) (fun b5 => ?_) (fun b5 => ?_)
  · first
    | (exfalso; omega)
    | (refine w_push rfl ?_
       refine w_retB rfl (by first | exact bI_01 _ | decide | omega) ?_
       refine ⟨?_, rfl⟩
       unfold bI okM
       first | rw [if_pos ⟨by omega, by omega, by omega⟩] | rw [if_neg (fun h => by omega)])
  · first
    | (exfalso; omega)
    | (refine w_ldI rfl rfl ?_
       refine w_ldI rfl rfl ?_
       refine w_crEq rfl (by omega) (by omega) (fun b8 => ?_) (fun b8 => ?_)
       · first
         | (exfalso; omega)
         | (refine w_push rfl ?_
            refine w_retB rfl (by first | exact bI_01 _ | decide | omega) ?_
            refine ⟨?_, rfl⟩
            unfold bI okM
            first | rw [if_pos ⟨by omega, by omega, by omega⟩] | rw [if_neg (fun h => by omega)])
       · first
         | (exfalso; omega)
         | (refine w_ldI rfl rfl ?_
            refine w_ldR rfl rfl rfl ?_
            first | refine w_getI rfl rfl rfl rfl rfl ?_ | refine w_getR rfl rfl rfl rfl rfl ?_
            first | refine w_getI rfl rfl rfl rfl rfl ?_ | refine w_getR rfl rfl rfl rfl rfl ?_
            refine w_ldI rfl rfl ?_
            refine w_ald rfl rfl rfl (by omega) rfl ?_
            rw [vpl _ (by omega) (by omega)]
            rw [show D (45 + 4 * w + 2).toNat = cwF D w from rfl]
            refine w_crEq rfl (by omega) (by omega) (fun b15 => ?_) (fun b15 => ?_)
            · first
              | (exfalso; omega)
              | (refine w_push rfl ?_
                 refine w_retB rfl (by first | exact bI_01 _ | decide | omega) ?_
                 refine ⟨?_, rfl⟩
                 unfold bI okM
                 first | rw [if_pos ⟨by omega, by omega, by omega⟩] | rw [if_neg (fun h => by omega)])
            · first
              | (exfalso; omega)
              | (refine w_push rfl ?_
                 refine w_go rfl ?_
                 refine w_retB rfl (by first | exact bI_01 _ | decide | omega) ?_
                 refine ⟨?_, rfl⟩
                 unfold bI okM
                 first | rw [if_pos ⟨by omega, by omega, by omega⟩] | rw [if_neg (fun h => by omega)])))
theorem k_litWith {d : Nat} {s : mSt} {L : Nat → Int} {a k b : Nat} (ha : a < 36) (hk : k < 2) (hb : b < 36) (hl : s 137 (2 * a + k) = lbF L 36) : Call (d + 0) 162 [.inr (.inr 10), .inl (a : Int), .inl (2 + (k : Int)), .inl (b : Int)] (encA (s)) (some (.inl (bI (0 < L b)))) (encA (s)) := by
  refine CI.ex (CI.mk rfl ?_)
  show WP (d + 0) 162 0 [some (.inr (.inr 10)), some (.inl (a : Int)), some (.inl (2 + (k : Int))), some (.inl (b : Int))] [] (encA (s)) _
  refine w_ldR rfl rfl rfl ?_
  first | refine w_getI rfl rfl rfl rfl rfl ?_ | refine w_getR rfl rfl rfl rfl rfl ?_
  refine w_push rfl ?_
  refine w_ldI rfl rfl ?_
  refine w_mul rfl ?_
  refine w_ldI rfl rfl ?_
  refine w_add rfl ?_
  refine w_push rfl ?_
  refine w_sub rfl ?_
  refine w_aldL rfl rfl rfl (by omega) rfl ?_
  rw [show (2 * (a : Int) + (2 + (k : Int)) - 2).toNat = 2 * a + k by omega, hl]
  refine w_ldI rfl rfl ?_
  refine w_shL rfl ?_
  refine w_push rfl ?_
  refine w_binL rfl ?_
  refine w_push rfl ?_
  refine w_cmpL rfl ?_
  rw [lit_cmp hb]
  refine w_bEq0 rfl (fun b16 => ?_) (fun b16 => ?_)
  · first
    | (exfalso; omega)
    | (refine w_push rfl ?_
       refine w_retB rfl (by first | exact bI_01 _ | decide | omega) ?_
       refine ⟨?_, rfl⟩
       unfold bI
       first | rw [if_pos b16] | rw [if_neg b16])
  · first
    | (exfalso; omega)
    | (refine w_push rfl ?_
       refine w_go rfl ?_
       refine w_retB rfl (by first | exact bI_01 _ | decide | omega) ?_
       refine ⟨?_, rfl⟩
       unfold bI
       first | rw [if_pos b16] | rw [if_neg b16])
theorem k_add135 {d : Nat} {s : mSt} {v : Int} (hs : 0 ≤ s 135 1 ∧ s 135 1 ≤ 4) : CI (d + 0) 65 [.inr (.inr 135), .inl v] (s) (fun q s1 => q = bI (s 135 1 < 4) ∧ s1 = (if s 135 1 < 4 then us (us s 136 (s 135 1).toNat v) 135 1 (s 135 1 + 1) else s)) := by
  refine CI.mk rfl ?_
  show WP (d + 0) 65 0 [some (.inr (.inr 135)), some (.inl v)] [] (encA (s)) _
  refine w_ldR rfl rfl rfl ?_
  first | refine w_getI rfl rfl rfl rfl rfl ?_ | refine w_getR rfl rfl rfl rfl rfl ?_
  refine w_ldR rfl rfl rfl ?_
  first | refine w_getI rfl rfl rfl rfl rfl ?_ | refine w_getR rfl rfl rfl rfl rfl ?_
  refine w_alen rfl rfl rfl ?_
  refine w_crLt rfl (by omega) (by omega) (fun b5 => ?_) (fun b5 => ?_)
  · first
    | (exfalso; omega)
    | (refine w_ldR rfl rfl rfl ?_
       first | refine w_getI rfl rfl rfl rfl rfl ?_ | refine w_getR rfl rfl rfl rfl rfl ?_
       refine w_ldR rfl rfl rfl ?_
       first | refine w_getI rfl rfl rfl rfl rfl ?_ | refine w_getR rfl rfl rfl rfl rfl ?_
       refine w_ldI rfl rfl ?_
       refine w_ast rfl rfl rfl (by omega) rfl ?_
       refine w_ldR rfl rfl rfl ?_
       first | refine w_dupI rfl ?_ | refine w_dupR rfl ?_
       first | refine w_getI rfl rfl rfl rfl rfl ?_ | refine w_getR rfl rfl rfl rfl rfl ?_
       rw [us_ne (by decide)]
       refine w_push rfl ?_
       refine w_add rfl ?_
       refine w_putI rfl rfl rfl rfl rfl rfl rfl ?_
       refine w_push rfl ?_
       refine w_retB rfl (by first | exact bI_01 _ | decide | omega) ?_
       unfold bI
       first | (rw [if_pos (by omega), if_pos (by omega)]; exact ⟨rfl, rfl⟩) | (rw [if_neg (by omega), if_neg (by omega)]; exact ⟨rfl, rfl⟩))
  · first
    | (exfalso; omega)
    | (refine w_push rfl ?_
       refine w_retB rfl (by first | exact bI_01 _ | decide | omega) ?_
       unfold bI
       first | (rw [if_pos (by omega), if_pos (by omega)]; exact ⟨rfl, rfl⟩) | (rw [if_neg (by omega), if_neg (by omega)]; exact ⟨rfl, rfl⟩))
theorem k_empty135 {d : Nat} {s : mSt}  : CV (d + 0) 69 [.inr (.inr 135)] (s) (fun s1 => s1 = us s 135 1 0) := by
  refine CV.mk rfl ?_
  show WP (d + 0) 69 0 [some (.inr (.inr 135))] [] (encA (s)) _
  refine w_ldR rfl rfl rfl ?_
  refine w_push rfl ?_
  refine w_putI rfl rfl rfl rfl rfl rfl rfl ?_
  refine w_retV rfl ?_
  rfl
def MrI (D : Nat → Int) (w z x : Int) (s : mSt) : Prop := MOk D ∧ VN13 s D ∧ (∀ k : Nat, k ≤ 40 → s 128 k = lfW D w k) ∧ (0 ≤ w ∧ w < 6) ∧ (0 ≤ z ∧ z < 36) ∧ (1 ≤ x ∧ x ≤ 99) ∧ liW D w z.toNat < x
theorem MrI.fr {A : List Nat} {D : Nat → Int} {w z x : Int} {s s1 : mSt} (hA : (128 :: A).all (fun x => !(vad13 x)) = true) (h8 : A.contains 128 = false) (hf : Fr A s s1) (h : MrI D w z x s) : MrI D w z x s1 := by
  obtain ⟨h1, h2, h3, h4⟩ := h
  rw [List.all_cons, Bool.and_eq_true] at hA
  exact ⟨h1, h2.fr hA.2 hf, fun k hk => by rw [hf.at 128 h8]; exact h3 k hk, h4⟩
def OneI (D : Nat → Int) (w z x : Int) (s0 s : mSt) (n : Nat) : Prop := Fr [129, 137] s0 s ∧ (∀ j, j < n → ¬ P1 D w z x j) ∧ ∀ j, j < n → s 137 j = lbF (lgF D w z j) 36
theorem OneI.up {D : Nat → Int} {w z x : Int} {s0 s s1 : mSt} {n : Nat} {v : Int} (h : OneI D w z x s0 s n) (hf : Fr [129, 137] s s1) (h1 : s1 137 = mup (s 137) n v) (hv : v = lbF (lgF D w z n) 36) (hn : ¬ P1 D w z x n) : OneI D w z x s0 s1 (n + 1) := by
  refine ⟨h.1.tr hf, fun j hj => ?_, fun j hj => ?_⟩
  · by_cases e : j = n
    · subst e; exact hn
    · exact h.2.1 j (by omega)
  · rw [h1]
    by_cases e : j = n
    · subst e; rw [mup_eq, hv]
    · rw [mup_ne e]; exact h.2.2 j (by omega)
theorem lgF_no {D : Nat → Int} {w z : Int} {a k : Nat} (hk : k < 2) (h : ¬ (okM D w z a ∧ 0 < liW D w a)) : lgF D w z (2 * a + k) = fun _ => 0 := by
  funext c
  unfold lgF
  rw [show (2 * a + k) / 2 = a by omega, if_neg h]
theorem lgF_yes {D : Nat → Int} {w z : Int} {a k : Nat} (hk : k < 2) (h : okM D w z a ∧ 0 < liW D w a) : lgF D w z (2 * a + k) = liF (mup D a (2 + (k : Int))) (lfW D w) (cwF D w) := by
  funext c
  unfold lgF m1D
  rw [show (2 * a + k) / 2 = a by omega, show (2 * a + k) % 2 = k by omega, if_pos h]
theorem l_oneK {d : Nat} {s : mSt} {s0 : mSt} {P : Int → mSt → Prop} {D : Nat → Int} {w z x pl tr : Int} {l9 : Option mAV} (hI : MrI D w z x s0) (h5 : s0 135 1 = 0) (a : Nat) (ha : a < 36) (k : Nat) (kk : Int) (hkk : kk = 2 + (k : Int)) (hk : k ≤ 2) (ht : tr = bI (okM D w z a ∧ 0 < liW D w a)) (hO : OneI D w z x s0 s (2 * a + k)) (hP1 : ∀ s1 i, Fst (P1 D w z x) 72 i → Fr [129, 135, 136, 137] s0 s1 → s1 135 1 = 2 → s1 136 0 = ((i / 2 : Nat) : Int) → s1 136 1 = 2 + ((i % 2 : Nat) : Int) → P 1 s1) (hK : ∀ s1 (l8 l9 : Option mAV), OneI D w z x s0 s1 (2 * a + 2) → WP (d + 3) 159 98 [some (.inr (.inr 10)), some (.inl w), some (.inl z), some (.inl x), some (.inr (.inl pl)), none, some (.inl (a : Int)), some (.inl tr), l8, l9] [] (encA (s1)) (QI P)) : WP (d + 3) 159 29 [some (.inr (.inr 10)), some (.inl w), some (.inl z), some (.inl x), some (.inr (.inl pl)), none, some (.inl (a : Int)), some (.inl tr), some (.inl kk), l9] [] (encA (s)) (QI P) := by
  subst hkk
  subst ht
  have hI0 := hI
  obtain ⟨hM, hV, hlf, hw, hz, hx, hli⟩ := hI
  have hcw := cwF_rng hM hw
  refine w_ldI rfl rfl ?_
  refine w_push rfl ?_
  refine w_crGt rfl (by omega) (by omega) (fun b31 => ?_) (fun b31 => ?_)
  · first
    | (exfalso; omega)
    | (obtain rfl : k = 2 := by omega
       exact hK s _ _ hO)
  · first
    | (exfalso; omega)
    | (refine w_push rfl ?_
       refine w_ldI rfl rfl ?_
       refine w_mul rfl ?_
       refine w_ldI rfl rfl ?_
       refine w_add rfl ?_
       refine w_push rfl ?_
       refine w_sub rfl ?_
       refine w_StI_10_9 rfl rfl ?_
       refine w_ldR rfl rfl rfl ?_
       first | refine w_getI rfl rfl rfl rfl rfl ?_ | refine w_getR rfl rfl rfl rfl rfl ?_
       refine w_ldI rfl rfl ?_
       refine w_push rfl ?_
       refine w_astL rfl rfl rfl (by omega) rfl ?_
       rw [show (2 * (a : Int) + (2 + (k : Int)) - 2).toNat = 2 * a + k by omega]
       have fN : Fr [129, 137] s (us s 137 (2 * a + k) 0) := Fr.us rfl
       refine w_ldI rfl rfl ?_
       refine w_bNe0 rfl (fun b46 => ?_) (fun b46 => ?_)
       · first
         | (exfalso; omega)
         | (refine w_ldR rfl rfl rfl ?_
            first | refine w_getI rfl rfl rfl rfl rfl ?_ | refine w_getR rfl rfl rfl rfl rfl ?_
            first | refine w_getI rfl rfl rfl rfl rfl ?_ | refine w_getR rfl rfl rfl rfl rfl ?_
            refine w_ldI rfl rfl ?_
            refine w_ldI rfl rfl ?_
            refine w_ast rfl rfl rfl (by omega) rfl ?_
            rw [Int.toNat_natCast]
            have hVs : VN13 (us s 137 (2 * a + k) 0) D := (hV.fr rfl hO.1).fr rfl fN
            have h0s : us s 137 (2 * a + k) 0 14 a = 0 := by
              have := hVs.1 (a : Int) (by omega) (by omega)
              rw [Int.toNat_natCast] at this
              rw [this]
              exact b46.1.1
            have hmv : ∀ q : Nat, q < 36 → 0 ≤ mup D a (2 + (k : Int)) q ∧ mup D a (2 + (k : Int)) q ≤ 3 := fun q hq => by
              unfold mup
              split
              · omega
              · exact MOk_cell hM q hq
            have hgs : ∀ c : Int, 0 ≤ c → c < 36 → us (us s 137 (2 * a + k) 0) 14 a (2 + (k : Int)) 14 c.toNat = mup D a (2 + (k : Int)) c.toNat := fun c h1 h2 => by
              rw [us_eq]
              unfold mup
              split
              · rfl
              · exact hVs.1 c h1 h2
            have hpl := hVs.2.1 w (by omega) (by omega)
            refine w_ldR rfl rfl rfl ?_
            first | refine w_getI rfl rfl rfl rfl rfl ?_ | refine w_getR rfl rfl rfl rfl rfl ?_
            refine w_ldR rfl rfl rfl ?_
            first | refine w_getI rfl rfl rfl rfl rfl ?_ | refine w_getR rfl rfl rfl rfl rfl ?_
            first | refine w_getI rfl rfl rfl rfl rfl ?_ | refine w_getR rfl rfl rfl rfl rfl ?_
            refine w_ldR rfl rfl rfl ?_
            first | refine w_getI rfl rfl rfl rfl rfl ?_ | refine w_getR rfl rfl rfl rfl rfl ?_
            first | refine w_getI rfl rfl rfl rfl rfl ?_ | refine w_getR rfl rfl rfl rfl rfl ?_
            refine w_ldI rfl rfl ?_
            refine w_ald rfl rfl rfl (by omega) rfl ?_
            rw [show us (us s 137 (2 * a + k) 0) 14 a (2 + (k : Int)) 16 w.toNat = cwF D w by rw [us_ne (by decide)]; exact hpl]
            refine w_callWN rfl rfl rfl rfl rfl rfl rfl (k_spread14 (Gf := mup D a (2 + (k : Int))) (lf := lfW D w) (c := cwF D w) hgs hmv (fun q hq => by rw [us_ne (by decide), fN.at 128 rfl, hO.1.at 128 rfl]; exact hlf q hq) (fun q => lfW_rng hM hw q) hcw) (fun s64 p64 => ?_)
            refine w_ldR rfl rfl rfl ?_
            first | refine w_getI rfl rfl rfl rfl rfl ?_ | refine w_getR rfl rfl rfl rfl rfl ?_
            first | refine w_getI rfl rfl rfl rfl rfl ?_ | refine w_getR rfl rfl rfl rfl rfl ?_
            refine w_ldI rfl rfl ?_
            refine w_push rfl ?_
            refine w_ast rfl rfl rfl (by omega) rfl ?_
            rw [Int.toNat_natCast]
            have fG := fr_gnd h0s rfl p64.1
            have hL9 : ∀ q, q < 36 → us s64 14 a 0 129 q = liF (mup D a (2 + (k : Int))) (lfW D w) (cwF D w) q := fun q hq => by rw [us_ne (by decide)]; exact p64.2 q hq
            refine w_ldR rfl rfl rfl ?_
            first | refine w_getI rfl rfl rfl rfl rfl ?_ | refine w_getR rfl rfl rfl rfl rfl ?_
            refine w_ldI rfl rfl ?_
            refine w_ldR rfl rfl rfl ?_
            first | refine w_getI rfl rfl rfl rfl rfl ?_ | refine w_getR rfl rfl rfl rfl rfl ?_
            refine w_callWL rfl rfl rfl rfl rfl rfl rfl (k_litCells hL9 (liM_L hM hw)) (fun v76 s76 p76 => ?_)
            refine w_astL rfl rfl rfl (by omega) rfl ?_
            obtain ⟨rfl, rfl⟩ := p76
            rw [show (2 * (a : Int) + (2 + (k : Int)) - 2).toNat = 2 * a + k by omega]
            have fE : Fr [129, 137] s (us (us s64 14 a 0) 137 (2 * a + k) (lbF (liF (mup D a (2 + (k : Int))) (lfW D w) (cwF D w)) 36)) := (fN.tr (Fr.mono rfl fG)).tr (Fr.us rfl)
            have e137 : us (us s64 14 a 0) 137 (2 * a + k) (lbF (liF (mup D a (2 + (k : Int))) (lfW D w) (cwF D w)) 36) 137 = mup (s 137) (2 * a + k) (lbF (liF (mup D a (2 + (k : Int))) (lfW D w) (cwF D w)) 36) := by
              rw [us_eq, fG.at 137 rfl, us_eq, mup_mup]
            have hzz := liM_L hM hw (G := mup D a (2 + (k : Int))) z.toNat (by omega)
            have hPe : P1 D w z x (2 * a + k) = (okM D w z a ∧ x ≤ liF (mup D a (2 + (k : Int))) (lfW D w) (cwF D w) z.toNat) := by
              unfold P1 m1D
              rw [show (2 * a + k) / 2 = a by omega, show (2 * a + k) % 2 = k by omega]
            have hY : liF (mup D a (2 + (k : Int))) (lfW D w) (cwF D w) z.toNat < x → OneI D w z x s0 (us (us s64 14 a 0) 137 (2 * a + k) (lbF (liF (mup D a (2 + (k : Int))) (lfW D w) (cwF D w)) 36)) (2 * a + k + 1) := fun q => hO.up fE e137 (by rw [lgF_yes (by omega) b46]) (by rw [hPe]; intro r; omega)
            refine w_ldR rfl rfl rfl ?_
            first | refine w_getI rfl rfl rfl rfl rfl ?_ | refine w_getR rfl rfl rfl rfl rfl ?_
            refine w_ldI rfl rfl ?_
            refine w_callV rfl rfl rfl rfl rfl rfl rfl (k_lightIn (by omega)) ?_
            rw [if_pos (by omega), us_ne (show (129 : Nat) ≠ 137 by decide), hL9 z.toNat (by omega)]
            have h135 : us (us s64 14 a 0) 137 (2 * a + k) (lbF (liF (mup D a (2 + (k : Int))) (lfW D w) (cwF D w)) 36) 135 1 = 0 := by rw [fE.at 135 rfl, hO.1.at 135 rfl]; exact h5
            refine w_ldI rfl rfl ?_
            refine w_crLt rfl (by omega) (by omega) (fun b83 => ?_) (fun b83 => ?_)
            · first
              | (exfalso; omega)
              | (refine w_inc_10_8 rfl rfl ?_
                 refine w_go rfl ?_
                 first | exact l_oneK hI0 h5 a ha (k + 1) (2 + (k : Int) + 1) (by omega) (by omega) rfl hN hP1 hK | exact l_oneK hI0 h5 a ha (k + 1) (2 + (k : Int) + 1) (by omega) (by omega) rfl (hY (by omega)) hP1 hK)
            · first
              | (exfalso; omega)
              | (refine w_ldR rfl rfl rfl ?_
                 first | refine w_getI rfl rfl rfl rfl rfl ?_ | refine w_getR rfl rfl rfl rfl rfl ?_
                 refine w_ldI rfl rfl ?_
                 refine w_callWI rfl rfl rfl rfl rfl rfl rfl (k_add135 (by omega)) (fun v87 s87 p87 => ?_)
                 obtain ⟨rfl, h87⟩ := p87
                 rw [if_pos (by omega), h135] at h87
                 have g135 : s87 135 1 = 1 := by rw [h87, us_eq, mup_eq]; rfl
                 refine w_popI rfl ?_
                 refine w_ldR rfl rfl rfl ?_
                 first | refine w_getI rfl rfl rfl rfl rfl ?_ | refine w_getR rfl rfl rfl rfl rfl ?_
                 refine w_ldI rfl rfl ?_
                 refine w_callWI rfl rfl rfl rfl rfl rfl rfl (k_add135 (by omega)) (fun v92 s92 p92 => ?_)
                 obtain ⟨rfl, h92⟩ := p92
                 rw [if_pos (by omega), g135] at h92
                 refine w_popI rfl ?_
                 refine w_push rfl ?_
                 refine w_retB rfl (by first | exact bI_01 _ | decide | omega) ?_
                 refine hP1 _ (2 * a + k) ⟨by omega, by rw [hPe]; exact ⟨b46.1, by omega⟩, hO.2.1⟩ ?_ ?_ ?_ ?_
                 · rw [h92, h87]
                   exact (((((Fr.mono rfl hO.1).tr (Fr.mono rfl fE)).tr (Fr.us rfl)).tr (Fr.us rfl)).tr (Fr.us rfl)).tr (Fr.us rfl)
                 · rw [h92, us_eq, mup_eq]; rfl
                 · rw [h92, us_ne (by decide), us_eq, mup_ne (by decide), h87, us_ne (by decide), us_eq]
                   rw [show (2 * a + k) / 2 = a by omega]
                   exact mup_eq _ _ _
                 · rw [h92, us_ne (by decide), us_eq]
                   rw [show (2 * a + k) % 2 = k by omega]
                   exact mup_eq _ _ _))
       · first
         | (exfalso; omega)
         | (have hN : OneI D w z x s0 (us s 137 (2 * a + k) 0) (2 * a + k + 1) := hO.up fN (us_eq _ _ _ _) (by rw [lgF_no (by omega) b46, lbF_0]) (P1_dark hcw.1 hli b46 (by omega))
            refine w_go rfl ?_
            refine w_inc_10_8 rfl rfl ?_
            refine w_go rfl ?_
            first | exact l_oneK hI0 h5 a ha (k + 1) (2 + (k : Int) + 1) (by omega) (by omega) rfl hN hP1 hK | exact l_oneK hI0 h5 a ha (k + 1) (2 + (k : Int) + 1) (by omega) (by omega) rfl (hY (by omega)) hP1 hK))
termination_by 2 - k
decreasing_by all_goals omega
