/-! ===== mirrors, plainly: which rays a mirror can turn ===== -/
/-- the ray comes by the cell z -/
def visF (G lf : Nat → Int) : Nat → Nat → Int → Int → Nat → Prop
  | 0, _, _, _, _ => False
  | n + 1, k, c, way, z => 0 < lf (k + 1) ∧ ¬ nxc c way < 0 ∧ ¬ G (nxc c way).toNat = 1 ∧ ((nxc c way).toNat = z ∨ visF G lf n (k + 1) (nxc c way) (trn way (G (nxc c way).toNat)) z)
theorem rayF_mono {G lf : Nat → Int} : ∀ (n k : Nat) (c way : Int) (L : Nat → Int) (z : Nat), L z ≤ rayF G lf n k c way L z
  | 0, _, _, _, L, z => Int.le_refl _
  | n + 1, k, c, way, L, z => by
    unfold rayF
    split
    · split
      · exact Int.le_refl _
      · split
        · exact Int.le_refl _
        · refine Int.le_trans ?_ (rayF_mono n _ _ _ _ z)
          unfold mup
          split
          · rename_i e; subst e; omega
          · exact Int.le_refl _
    · exact Int.le_refl _
theorem rayF_pos {G lf : Nat → Int} : ∀ (n k : Nat) (c way : Int) (L : Nat → Int) (z : Nat), visF G lf n k c way z → 0 < rayF G lf n k c way L z
  | 0, _, _, _, _, _, h => h.elim
  | n + 1, k, c, way, L, z, ⟨h1, h2, h3, h4⟩ => by
    rw [rayF_s h1 h2 h3]
    rcases h4 with h4 | h4
    · refine Int.lt_of_lt_of_le ?_ (rayF_mono n _ _ _ _ z)
      subst h4
      rw [mup_eq]
      omega
    · exact rayF_pos n _ _ _ _ z h4
/-- a mirror by which the ray does not come changes nothing -/
theorem rayF_off {G lf : Nat → Int} {a : Nat} {q : Int} (ha : ¬ G a = 1) (hq : ¬ q = 1) : ∀ (n k : Nat) (c way : Int) (L : Nat → Int), ¬ visF G lf n k c way a → rayF (mup G a q) lf n k c way L = rayF G lf n k c way L ∧ ∀ z, visF (mup G a q) lf n k c way z → visF G lf n k c way z
  | 0, _, _, _, _, _ => ⟨rfl, fun _ h => h⟩
  | n + 1, k, c, way, L, h => by
    by_cases h1 : 0 < lf (k + 1)
    · by_cases h2 : nxc c way < 0
      · exact ⟨by rw [rayF_a h2, rayF_a h2], fun z hz => absurd h2 hz.2.1⟩
      · by_cases h3 : G (nxc c way).toNat = 1
        · have e : (nxc c way).toNat ≠ a := fun e => ha (e ▸ h3)
          have h4 : mup G a q (nxc c way).toNat = 1 := by rw [mup_ne e]; exact h3
          exact ⟨by rw [rayF_c h3, rayF_c h4], fun z hz => absurd h4 hz.2.2.1⟩
        · have e : (nxc c way).toNat ≠ a := fun e => h ⟨h1, h2, h3, Or.inl e⟩
          have h4 : mup G a q (nxc c way).toNat = G (nxc c way).toNat := mup_ne e
          have h5 : ¬ visF G lf n (k + 1) (nxc c way) (trn way (G (nxc c way).toNat)) a := fun hv => h ⟨h1, h2, h3, Or.inr hv⟩
          have ih := rayF_off ha hq n (k + 1) (nxc c way) (trn way (G (nxc c way).toNat)) (mup L (nxc c way).toNat (max (L (nxc c way).toNat) (lf (k + 1)))) h5
          refine ⟨?_, fun z hz => ?_⟩
          · rw [rayF_s h1 h2 h3, rayF_s h1 h2 (by rw [h4]; exact h3), h4]
            exact ih.1
          · obtain ⟨_, _, _, z4⟩ := hz
            rw [h4] at z4
            exact ⟨h1, h2, h3, z4.imp id (ih.2 z)⟩
    · exact ⟨by rw [rayF_b (by omega), rayF_b (by omega)], fun z hz => absurd hz.1 h1⟩
theorem rayF_le {G lf : Nat → Int} {v : Int} (hv : ∀ k, lf k ≤ v) : ∀ (n k : Nat) (c way : Int) (L : Nat → Int) (z : Nat), L z ≤ v → rayF G lf n k c way L z ≤ v
  | 0, _, _, _, L, z, h => h
  | n + 1, k, c, way, L, z, h => by
    unfold rayF
    split
    · split
      · exact h
      · split
        · exact h
        · refine rayF_le hv n _ _ _ _ z ?_
          have := hv (k + 1)
          unfold mup
          split
          · rename_i e; subst e; omega
          · exact h
    · exact h
/-- what a ray gives is there over any light, and no more than that -/
theorem rayF_max {G lf : Nat → Int} : ∀ (n k : Nat) (c way : Int) (L L1 : Nat → Int) (z : Nat), rayF G lf n k c way L z ≤ max (L z) (rayF G lf n k c way L1 z)
  | 0, _, _, _, L, L1, z => by unfold rayF; omega
  | n + 1, k, c, way, L, L1, z => by
    by_cases h1 : 0 < lf (k + 1)
    · by_cases h2 : nxc c way < 0
      · rw [rayF_a h2, rayF_a h2]; omega
      · by_cases h3 : G (nxc c way).toNat = 1
        · rw [rayF_c h3, rayF_c h3]; omega
        · rw [rayF_s h1 h2 h3, rayF_s h1 h2 h3]
          have ih := rayF_max (G := G) (lf := lf) n (k + 1) (nxc c way) (trn way (G (nxc c way).toNat)) (mup L (nxc c way).toNat (max (L (nxc c way).toNat) (lf (k + 1)))) (mup L1 (nxc c way).toNat (max (L1 (nxc c way).toNat) (lf (k + 1)))) z
          have hm := rayF_mono (G := G) (lf := lf) n (k + 1) (nxc c way) (trn way (G (nxc c way).toNat)) (mup L1 (nxc c way).toNat (max (L1 (nxc c way).toNat) (lf (k + 1)))) z
          by_cases e : z = (nxc c way).toNat
          · rw [e] at ih hm ⊢
            rw [mup_eq] at ih hm
            omega
          · rw [mup_ne e] at ih
            omega
    · rw [rayF_b (by omega), rayF_b (by omega)]; omega
theorem rayF_up {G lf : Nat → Int} : ∀ (n k : Nat) (c way : Int) (L L1 : Nat → Int) (z : Nat), (∀ j, L1 j ≤ L j) → rayF G lf n k c way L1 z ≤ rayF G lf n k c way L z
  | 0, _, _, _, L, L1, z, h => h z
  | n + 1, k, c, way, L, L1, z, h => by
    unfold rayF
    split
    · split
      · exact h z
      · split
        · exact h z
        · refine rayF_up n _ _ _ _ _ z (fun j => ?_)
          have h1 := h (nxc c way).toNat
          unfold mup
          split
          · omega
          · exact h j
    · exact h z
/-- a cell (not that of the light) has so much light just if one of the four rays gives it -/
def r0F (G lf : Nat → Int) (c way : Int) (z : Nat) : Int := rayF G lf 40 0 c way (fun _ => 0) z
theorem liF_ge {G lf : Nat → Int} {c : Int} {z : Nat} (hz : z ≠ c.toNat) {way : Int} (hw : way = 0 ∨ way = 1 ∨ way = 2 ∨ way = 3) : r0F G lf c way z ≤ liF G lf c z := by
  unfold liF r0F
  rw [mup_ne hz]
  have p0 : ∀ (L : Nat → Int) (w : Int), (∀ j, 0 ≤ L j) → ∀ j, 0 ≤ rayF G lf 40 0 c w L j := fun L w h j => Int.le_trans (h j) (rayF_mono _ _ _ _ _ j)
  have z0 : ∀ j : Nat, (0 : Int) ≤ (fun _ : Nat => (0 : Int)) j := fun _ => Int.le_refl _
  rcases hw with rfl | rfl | rfl | rfl
  · exact Int.le_trans (Int.le_trans (rayF_mono _ _ _ _ _ z) (rayF_mono _ _ _ _ _ z)) (rayF_mono _ _ _ _ _ z)
  · exact Int.le_trans (Int.le_trans (rayF_up _ _ _ _ _ _ z (p0 _ 0 z0)) (rayF_mono _ _ _ _ _ z)) (rayF_mono _ _ _ _ _ z)
  · exact Int.le_trans (rayF_up _ _ _ _ _ _ z (p0 _ 1 (p0 _ 0 z0))) (rayF_mono _ _ _ _ _ z)
  · exact rayF_up _ _ _ _ _ _ z (p0 _ 2 (p0 _ 1 (p0 _ 0 z0)))
theorem liF_le {G lf : Nat → Int} {c : Int} {z : Nat} (hz : z ≠ c.toNat) {v : Int} (h0 : 0 ≤ v) (h : ∀ way : Int, (way = 0 ∨ way = 1 ∨ way = 2 ∨ way = 3) → r0F G lf c way z ≤ v) : liF G lf c z ≤ v := by
  unfold liF
  rw [mup_ne hz]
  have s0 := h 0 (by omega)
  have s1 := h 1 (by omega)
  have s2 := h 2 (by omega)
  have s3 := h 3 (by omega)
  unfold r0F at s0 s1 s2 s3
  have t1 := rayF_max (G := G) (lf := lf) 40 0 c 1 (rayF G lf 40 0 c 0 (fun _ => 0)) (fun _ => 0) z
  have t2 := rayF_max (G := G) (lf := lf) 40 0 c 2 (rayF G lf 40 0 c 1 (rayF G lf 40 0 c 0 (fun _ => 0))) (fun _ => 0) z
  have t3 := rayF_max (G := G) (lf := lf) 40 0 c 3 (rayF G lf 40 0 c 2 (rayF G lf 40 0 c 1 (rayF G lf 40 0 c 0 (fun _ => 0)))) (fun _ => 0) z
  omega
theorem liF_src {G lf : Nat → Int} {c : Int} {z : Nat} (hz : z = c.toNat) : liF G lf c z = lf 0 := by
  unfold liF
  rw [hz, mup_eq]
theorem liF_le0 {G lf : Nat → Int} {c : Int} {z : Nat} (h0 : 0 ≤ lf 0) (h : ∀ k, lf k ≤ lf 0) : liF G lf c z ≤ lf 0 := by
  by_cases hz : z = c.toNat
  · rw [liF_src hz]; omega
  · exact liF_le hz h0 (fun way _ => rayF_le h _ _ _ _ _ z h0)
/-- a mirror in a cell that is not lit changes no ray -/
theorem dark {G lf : Nat → Int} {c : Int} {a : Nat} {q : Int} (ha : ¬ G a = 1) (hq : ¬ q = 1) (hz : a ≠ c.toNat) (hd : ¬ 0 < liF G lf c a) : ∀ way : Int, (way = 0 ∨ way = 1 ∨ way = 2 ∨ way = 3) → (∀ z, r0F (mup G a q) lf c way z = r0F G lf c way z) ∧ ¬ visF G lf 40 0 c way a := by
  intro way hw
  have hv : ¬ visF G lf 40 0 c way a := fun hv => hd (Int.lt_of_lt_of_le (rayF_pos _ _ _ _ (fun _ => 0) _ hv) (liF_ge hz hw))
  exact ⟨fun z => by unfold r0F; rw [(rayF_off ha hq _ _ _ _ _ hv).1], hv⟩
theorem liF_off {G H lf : Nat → Int} {c : Int} (h : ∀ way : Int, (way = 0 ∨ way = 1 ∨ way = 2 ∨ way = 3) → ∀ L, rayF H lf 40 0 c way L = rayF G lf 40 0 c way L) : liF H lf c = liF G lf c := by
  unfold liF
  rw [h 0 (by omega), h 1 (by omega), h 2 (by omega), h 3 (by omega)]
theorem liF_dark {G lf : Nat → Int} {c : Int} {a : Nat} {q : Int} (ha : ¬ G a = 1) (hq : ¬ q = 1) (hz : a ≠ c.toNat) (hd : ¬ 0 < liF G lf c a) : liF (mup G a q) lf c = liF G lf c := by
  refine liF_off (fun way hw L => ?_)
  have hv : ¬ visF G lf 40 0 c way a := (dark ha hq hz hd way hw).2
  exact (rayF_off ha hq _ _ _ _ _ hv).1
/-- two mirrors light a cell that neither lights alone only if a ray comes from one to the other -/
theorem two_mirrors {G lf : Nat → Int} {c : Int} {a b z : Nat} {p q x : Int} (hab : a ≠ b) (hGa : G a = 0) (hGb : G b = 0) (hp : ¬ p = 1) (hq : ¬ q = 1) (hza : a ≠ c.toNat) (hzb : b ≠ c.toNat) (hx : 1 ≤ x) (h0 : liF G lf c z < x) (h1 : liF (mup G a p) lf c z < x) (h2 : liF (mup G b q) lf c z < x)
    (hA : ¬ (0 < liF G lf c a ∧ 0 < liF (mup G a p) lf c b)) (hB : ¬ (0 < liF G lf c b ∧ 0 < liF (mup G b q) lf c a)) : liF (mup (mup G a p) b q) lf c z < x := by
  by_cases hz : z = c.toNat
  · rw [liF_src hz] at h0 ⊢; exact h0
  · have key : liF (mup (mup G a p) b q) lf c z ≤ x - 1 := by
      refine liF_le hz (by omega) (fun way hw => ?_)
      have g1 := liF_ge (G := mup G a p) (lf := lf) hz hw
      have g2 := liF_ge (G := mup G b q) (lf := lf) hz hw
      have eb : ¬ mup G a p b = 1 := by rw [mup_ne (Ne.symm hab), hGb]; decide
      have ea : ¬ mup G b q a = 1 := by rw [mup_ne hab, hGa]; decide
      have comm : mup (mup G a p) b q = mup (mup G b q) a p := by
        funext j
        unfold mup
        by_cases e1 : j = b
        · rw [if_pos e1, if_neg (by omega), if_pos e1]
        · rw [if_neg e1]
          split
          · rfl
          · rfl
      have c1 : ¬ visF (mup G a p) lf 40 0 c way b → r0F (mup (mup G a p) b q) lf c way z ≤ x - 1 := fun hv => by
        unfold r0F
        rw [(rayF_off eb hq _ _ _ _ _ hv).1]
        unfold r0F at g1
        omega
      have c2 : ¬ visF (mup G b q) lf 40 0 c way a → r0F (mup (mup G a p) b q) lf c way z ≤ x - 1 := fun hv => by
        unfold r0F
        rw [comm, (rayF_off ea hp _ _ _ _ _ hv).1]
        unfold r0F at g2
        omega
      by_cases la : 0 < liF G lf c a
      · have lb : ¬ 0 < liF (mup G a p) lf c b := fun h => hA ⟨la, h⟩
        exact c1 (dark (q := q) eb hq hzb lb way hw).2
      · by_cases lb : 0 < liF G lf c b
        · have lc : ¬ 0 < liF (mup G b q) lf c a := fun h => hB ⟨lb, h⟩
          exact c2 (dark (q := p) ea hp hza lc way hw).2
        · have va := (dark (q := p) (by rw [hGa]; decide) hp hza la way hw).2
          have vb := (dark (q := q) (by rw [hGb]; decide) hq hzb lb way hw).2
          exact c1 (fun hv => vb ((rayF_off (by rw [hGa]; decide) hp _ _ _ _ (fun _ => 0) va).2 b hv))
    omega
theorem lsh_all : ∀ c : Fin 36, (((Int32.ofInt (c.val : Int)).toInt64 &&& 63).toBitVec.smod 64).toNat = c.val := by decide +kernel
theorem land_1 (x : Int) : m_land x 1 = x % 2 := by
  unfold m_land
  have h1 : (Int64.ofInt x &&& Int64.ofInt 1).toBitVec.toNat = (BitVec.ofInt 64 x).toNat % 2 := by
    rw [Int64.toBitVec_and, BitVec.toNat_and]
    exact Nat.and_two_pow_sub_one_eq_mod _ 1
  have h2 : (Int64.ofInt x &&& Int64.ofInt 1).toInt = ((Int64.ofInt x &&& Int64.ofInt 1).toBitVec.toNat : Int) := BitVec.toInt_eq_toNat_of_lt (by rw [h1]; omega)
  rw [h2, h1, BitVec.toNat_ofInt]
  omega
theorem lshr_n {V : Int} (hV : 0 ≤ V ∧ V < 68719476736) {c : Nat} (hc : c < 36) : m_lshr V (c : Int) = V / 2 ^ c := by
  unfold m_lshr
  have h1 : (Int64.ofInt V >>> ((Int32.ofInt (c : Int)).toInt64 &&& 63)).toInt = (Int64.ofInt V).toInt / 2 ^ c := by
    show (Int64.ofInt V >>> ((Int32.ofInt (c : Int)).toInt64 &&& 63)).toBitVec.toInt = _
    rw [Int64.toBitVec_shiftRight, BitVec.sshiftRight_eq', BitVec.toInt_sshiftRight, lsh_all ⟨c, hc⟩, Int.shiftRight_eq_div_pow]
    rfl
  rw [h1, show (Int64.ofInt V).toInt = V from Int64.toInt_ofInt_of_le (by omega) (by omega)]
theorem lor_bit {V : Int} {c : Nat} (hc : c < 36) (hV : 0 ≤ V ∧ V < 2 ^ c) : m_lor V (m_lshl 1 (c : Int)) = V + 2 ^ c := by
  obtain ⟨v, rfl⟩ : ∃ v : Nat, V = (v : Int) := ⟨V.toNat, by omega⟩
  have hv : v < 2 ^ c := by have := hV.2; rw [show (2 : Int) ^ c = ((2 ^ c : Nat) : Int) by norm_cast] at this; omega
  have h36 : (2 : Nat) ^ c ≤ 2 ^ 35 := Nat.pow_le_pow_right (by decide) (by omega)
  have hs : (Int64.ofInt 1 <<< ((Int32.ofInt (c : Int)).toInt64 &&& 63)).toBitVec.toNat = 2 ^ c := by
    rw [Int64.toBitVec_shiftLeft, BitVec.shiftLeft_eq', BitVec.toNat_shiftLeft, lsh_all ⟨c, hc⟩, Nat.shiftLeft_eq]
    show 1 * 2 ^ c % 2 ^ 64 = 2 ^ c
    omega
  unfold m_lor m_lshl
  rw [Int64.ofInt_toInt]
  have h1 : (Int64.ofInt (v : Int) ||| Int64.ofInt 1 <<< ((Int32.ofInt (c : Int)).toInt64 &&& 63)).toBitVec.toNat = v + 2 ^ c := by
    rw [Int64.toBitVec_or, BitVec.toNat_or, hs]
    show (BitVec.ofInt 64 (v : Int)).toNat ||| 2 ^ c = v + 2 ^ c
    rw [BitVec.toNat_ofInt, show (((v : Int) % ((2 ^ 64 : Nat) : Int)).toNat) = v by omega]
    have := Nat.two_pow_add_eq_or_of_lt hv 1
    rw [Nat.mul_one] at this
    rw [Nat.or_comm, ← this, Nat.add_comm]
  have h2 : (Int64.ofInt (v : Int) ||| Int64.ofInt 1 <<< ((Int32.ofInt (c : Int)).toInt64 &&& 63)).toInt = ((Int64.ofInt (v : Int) ||| Int64.ofInt 1 <<< ((Int32.ofInt (c : Int)).toInt64 &&& 63)).toBitVec.toNat : Int) := BitVec.toInt_eq_toNat_of_lt (by rw [h1]; omega)
  rw [h2, h1]
  push_cast
  rfl
/-- the lit ones among the first n, by bits -/
def lbF (L : Nat → Int) : Nat → Int
  | 0 => 0
  | n + 1 => lbF L n + (if 0 < L n then 2 ^ n else 0)
theorem lbF_rng (L : Nat → Int) : ∀ n : Nat, 0 ≤ lbF L n ∧ lbF L n < 2 ^ n
  | 0 => by unfold lbF; omega
  | n + 1 => by
    have ih := lbF_rng L n
    have h2 : (2 : Int) ^ (n + 1) = 2 * 2 ^ n := by rw [Int.pow_succ]; omega
    unfold lbF
    split <;> omega
theorem lbF_bit (L : Nat → Int) {c : Nat} : ∀ n : Nat, c < n → lbF L n / 2 ^ c % 2 = if 0 < L c then 1 else 0
  | 0, h => by omega
  | n + 1, h => by
    have hr := lbF_rng L n
    by_cases e : c = n
    · subst e
      unfold lbF
      have hp : (0 : Int) < 2 ^ c := Int.pow_pos (by decide)
      split
      · rw [Int.add_ediv_of_dvd_right (Int.dvd_refl _), Int.ediv_eq_zero_of_lt hr.1 hr.2, Int.ediv_self (by omega)]
        rfl
      · rw [Int.add_zero, Int.ediv_eq_zero_of_lt hr.1 hr.2]
        rfl
    · have ih := lbF_bit L (c := c) n (by omega)
      unfold lbF
      split
      · have hd : (2 : Int) ^ n = 2 ^ c * (2 * 2 ^ (n - c - 1)) := by
          rw [← Int.mul_assoc, show (2 : Int) ^ c * 2 = 2 ^ (c + 1) from (Int.pow_succ 2 c).symm, ← Int.pow_add]
          congr 1
          omega
        have hp : (2 : Int) ^ c ≠ 0 := by have : (0 : Int) < 2 ^ c := Int.pow_pos (by decide); omega
        rw [hd, Int.add_mul_ediv_left _ _ hp]
        omega
      · rw [Int.add_zero]; exact ih
theorem lit_test {L : Nat → Int} {c : Nat} (hc : c < 36) : m_land (m_lshr (lbF L 36) (c : Int)) 1 = if 0 < L c then 1 else 0 := by
  have hr := lbF_rng L 36
  rw [land_1, lshr_n ⟨hr.1, by have := hr.2; omega⟩ hc]
  exact lbF_bit L 36 hc
