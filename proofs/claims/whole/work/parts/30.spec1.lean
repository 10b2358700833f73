/-! ===== a village as a row of numbers D, as the reference keeps it: what a use gives, plainly ===== -/
def evT (nm : Nat → Int) (t : Int) (st : List Int) : List Int :=
  if t < 20000 then (if t < 10000 then t else nm (t - 10000).toNat) :: st
  else match st with
    | [] => []
    | y :: r => if t = 20033 then (if w32 y = 0 then 1 else 0) :: r else match r with
      | [] => [y]
      | x :: q => doneV (t - 20000) x y :: q
def evN (nm d : Nat → Int) (b : Int) : Nat → List Int
  | 0 => []
  | k + 1 => evT nm (d (b + (k : Int)).toNat) (evN nm d b k)
def n4 (a b c e : Int) : Nat → Int := fun i => if i = 0 then a else if i = 1 then b else if i = 2 then c else e
def bot (l : List Int) : Int := l.getLastD 0
def gv (D : Nat → Int) (use a b c e : Int) : Int := hld (w32 (if 0 < D (121 + use).toNat then bot (evN (n4 a b c e) D (143 + 50 * use) (D (121 + use).toNat).toNat) else if use = 0 then a + b else a))
theorem gv_rng (D : Nat → Int) (use a b c e : Int) : 1 ≤ gv D use a b c e ∧ gv D use a b c e ≤ 99 := hld_rng _
/-- a row of numbers holds a pile, its top first in the list -/
def Stk : List Int → (Nat → Int) → Prop
  | [], _ => True
  | x :: r, p => p r.length = x ∧ Stk r p
theorem Stk.up {p : Nat → Int} {k : Nat} {v : Int} : ∀ {l : List Int}, Stk l p → l.length ≤ k → Stk l (mup p k v)
  | [], _, _ => trivial
  | x :: r, h, hl => ⟨by
      have hl' : r.length + 1 ≤ k := hl
      rw [mup_ne (by omega)]; exact h.1, Stk.up h.2 (by have hl' : r.length + 1 ≤ k := hl; omega)⟩
theorem Stk.push {p : Nat → Int} {l : List Int} {v : Int} (h : Stk l p) : Stk (v :: l) (mup p l.length v) := ⟨mup_eq _ _ _, h.up (Nat.le_refl _)⟩
theorem Stk.bot {p : Nat → Int} : ∀ {l : List Int}, Stk l p → 0 < l.length → bot l = p 0
  | [x], h, _ => h.1.symm
  | x :: y :: r, h, _ => by
    have := Stk.bot h.2 (by show 0 < r.length + 1; omega)
    rw [← this]
    rfl
theorem evN_len {nm d : Nat → Int} {b n : Int} (hC : CodeOk d b n) : ∀ k : Nat, (k : Int) ≤ n → ((evN nm d b k).length : Int) = hgt d b k
  | 0, _ => rfl
  | k + 1, hk => by
    have ih := evN_len (nm := nm) hC k (by omega)
    have hc := hC.2 k (by omega)
    unfold evN hgt evT
    by_cases h1 : d (b + (k : Int)).toNat < 20000
    · rw [if_pos h1, if_pos h1, List.length_cons]; omega
    · rw [if_neg h1, if_neg h1]
      cases hl : evN nm d b k with
      | nil =>
        rw [hl] at ih
        have ih : (0 : Int) = hgt d b k := ih
        by_cases h2 : d (b + (k : Int)).toNat = 20033
        · have := hc.2.2.2.1 h2; omega
        · have := hc.2.2.2.2 (by omega) h2; omega
      | cons y r =>
        rw [hl] at ih
        have ih : ((r.length + 1 : Nat) : Int) = hgt d b k := ih
        dsimp only
        by_cases h2 : d (b + (k : Int)).toNat = 20033
        · rw [if_pos h2, if_pos h2, List.length_cons]; omega
        · rw [if_neg h2, if_neg h2]
          have h3 := hc.2.2.2.2 (by omega) h2
          cases r with
          | nil => have ih : (1 : Int) = hgt d b k := ih; omega
          | cons x q =>
            have ih : ((q.length + 1 + 1 : Nat) : Int) = hgt d b k := ih
            dsimp only
            rw [List.length_cons]; omega
theorem hgt_pos {d : Nat → Int} {b n : Int} (hC : CodeOk d b n) : ∀ k : Nat, 0 < k → (k : Int) ≤ n → 1 ≤ hgt d b k
  | 0, h, _ => by omega
  | k + 1, _, hk => by
    have hc := hC.2 k (by omega)
    unfold hgt
    by_cases h1 : d (b + (k : Int)).toNat < 20000
    · rw [if_pos h1]; omega
    · rw [if_neg h1]
      by_cases h2 : d (b + (k : Int)).toNat = 20033
      · rw [if_pos h2]; have := hc.2.2.2.1 h2; omega
      · rw [if_neg h2]; have := hc.2.2.2.2 (by omega) h2; omega
theorem wk_Stk {d nm nm' : Nat → Int} {b n : Int} {p0 : Nat → Int} (hC : CodeOk d b n) (hn : ∀ i, i < 4 → nm' i = nm i) : ∀ k : Nat, (k : Int) ≤ n → Stk (evN nm d b k) (wk d nm' b p0 k).1
  | 0, _ => trivial
  | k + 1, hk => by
    have ih := wk_Stk (p0 := p0) hC hn k (by omega)
    have hl := evN_len (nm := nm) hC k (by omega)
    have hw := wk_hgt d nm' b p0 k
    have hc := hC.2 k (by omega)
    unfold evN wk wkS evT
    by_cases h1 : d (b + (k : Int)).toNat < 20000
    · rw [if_pos h1, if_pos h1]
      dsimp only
      rw [hw, ← hl, Int.toNat_natCast]
      have := hc.2.1 (by omega)
      by_cases h0 : d (b + (k : Int)).toNat < 10000
      · rw [if_pos h0, if_pos h0]; exact ih.push
      · rw [if_neg h0, if_neg h0, hn _ (by omega)]; exact ih.push
    · rw [if_neg h1, if_neg h1]
      cases he : evN nm d b k with
      | nil => trivial
      | cons y r =>
        rw [he] at ih hl
        have hl : ((r.length + 1 : Nat) : Int) = hgt d b k := hl
        dsimp only
        by_cases h2 : d (b + (k : Int)).toNat = 20033
        · rw [if_pos h2, if_pos h2]
          dsimp only
          rw [hw, show (hgt d b k - 1).toNat = r.length by omega, ih.1]
          exact ih.2.push
        · rw [if_neg h2, if_neg h2]
          have h3 := hc.2.2.2.2 (by omega) h2
          cases r with
          | nil => have hl : (1 : Int) = hgt d b k := hl; omega
          | cons x q =>
            have hl : ((q.length + 1 + 1 : Nat) : Int) = hgt d b k := hl
            dsimp only
            rw [hw, show (hgt d b k + -1 - 1).toNat = q.length by omega, show (hgt d b k + -1).toNat = q.length + 1 by omega]
            have h4 := ih.1
            have h5 := ih.2.1
            have h6 : (x :: q).length = q.length + 1 := rfl
            rw [h6] at h4
            rw [h4, h5]
            exact ih.2.2.push
theorem COk.at {d : Nat → Int} (h : COk d) {use : Int} (hu : 0 ≤ use ∧ use ≤ 1) : CodeOk d (143 + 50 * use) (d (121 + use).toNat) := by
  rcases (show use = 0 ∨ use = 1 by omega) with rfl | rfl
  · exact h.1
  · exact h.2
theorem gvV_gv {s : mSt} {use a b c e : Int} (hu : 0 ≤ use ∧ use ≤ 1) (hC : COk (s 147)) : gvV s use a b c e = gv (s 147) use a b c e := by
  unfold gvV gv
  by_cases h : 0 < s 147 (121 + use).toNat
  · rw [if_pos h, if_pos h]
    have hc := hC.at hu
    have k := wk_Stk (nm := n4 a b c e) (nm' := nm4 (s 151) a b c e) (p0 := s 153) hc (by
      intro i hi
      unfold nm4 n4
      rcases (show i = 0 ∨ i = 1 ∨ i = 2 ∨ i = 3 by omega) with rfl | rfl | rfl | rfl <;> simp [mup]) (s 147 (121 + use).toNat).toNat (by omega)
    have hl := evN_len (nm := n4 a b c e) hc (s 147 (121 + use).toNat).toNat (by omega)
    have hp := hgt_pos hc (s 147 (121 + use).toNat).toNat (by omega) (by omega)
    rw [k.bot (by omega)]
    rfl
  · rw [if_neg h, if_neg h]
theorem c_gives {d : Nat} {s : mSt} {D : Nat → Int} {use a b c e : Int} (hu : 0 ≤ use ∧ use ≤ 1) (hD : s 147 = D) (hC : COk D) : CI (d + 2) 193 [.inr (.inr 146), .inl use, .inl a, .inl b, .inl c, .inl e] s (fun v s1 => v = gv D use a b c e ∧ Fr [151, 153] s s1) := by
  subst hD
  refine ⟨_, _, r_gives hu (hC.at hu), gvV_gv hu hC, ?_⟩
  unfold gvS
  split
  · exact (Fr.ua rfl).tr (Fr.ua rfl)
  · exact Fr.rf
/-- how much light is left behind so many steps -/
def lfN (D : Nat → Int) (dm h0 : Int) : Nat → Int
  | 0 => h0
  | k + 1 => if 0 < lfN D dm h0 k then lfN D dm h0 k - gv D 0 (D 36) dm (lfN D dm h0 k) k else 0
def rayF (G : Nat → Int) (lf : Nat → Int) : Nat → Nat → Int → Int → (Nat → Int) → (Nat → Int)
  | 0, _, _, _, L => L
  | n + 1, k, c, way, L => if 0 < lf (k + 1) then (if nxc c way < 0 then L else if G (nxc c way).toNat = 1 then L else rayF G lf n (k + 1) (nxc c way) (trn way (G (nxc c way).toNat)) (mup L (nxc c way).toNat (max (L (nxc c way).toNat) (lf (k + 1))))) else L
def liF (G lf : Nat → Int) (c : Int) : Nat → Int := mup (rayF G lf 40 0 c 3 (rayF G lf 40 0 c 2 (rayF G lf 40 0 c 1 (rayF G lf 40 0 c 0 (fun _ => 0))))) c.toNat (lf 0)
def cwF (D : Nat → Int) (w : Int) : Int := D (45 + 4 * w + 2).toNat
def lfW (D : Nat → Int) (w : Int) : Nat → Int := lfN D (dms D w) (shn D w)
/-- the light in each cell, by a window -/
def liW (D : Nat → Int) (w : Int) : Nat → Int := liF D (lfW D w) (cwF D w)
theorem nxc_rng {c way : Int} (hc : 0 ≤ c ∧ c < 36) : -1 ≤ nxc c way ∧ nxc c way < 36 := by
  unfold nxc
  repeat' split
  all_goals omega
theorem trn_rng {way g : Int} (hw : 0 ≤ way ∧ way < 4) : 0 ≤ trn way g ∧ trn way g < 4 := by
  unfold trn
  repeat' split
  all_goals omega
theorem lfN_le (D : Nat → Int) (dm h0 : Int) (h : 0 ≤ h0) : ∀ k, lfN D dm h0 k ≤ h0
  | 0 => Int.le_refl _
  | k + 1 => by
    have ih := lfN_le D dm h0 h k
    have := gv_rng D 0 (D 36) dm (lfN D dm h0 k) k
    unfold lfN
    split <;> omega
theorem lfN_ge (D : Nat → Int) (dm h0 : Int) (h : 0 ≤ h0) : ∀ k, -99 ≤ lfN D dm h0 k
  | 0 => by unfold lfN; omega
  | k + 1 => by
    have := gv_rng D 0 (D 36) dm (lfN D dm h0 k) k
    unfold lfN
    split <;> omega
/-- lights that are the same in the cells stay so -/
theorem rayF_eq {G lf : Nat → Int} : ∀ (n k : Nat) (c way : Int) (L L1 : Nat → Int), (0 ≤ c ∧ c < 36) → (∀ i, i < 36 → L i = L1 i) → ∀ i, i < 36 → rayF G lf n k c way L i = rayF G lf n k c way L1 i
  | 0, _, _, _, L, L1, _, h, i, hi => h i hi
  | n + 1, k, c, way, L, L1, hc, h, i, hi => by
    have hx := @nxc_rng c way hc
    unfold rayF
    split
    · split
      · exact h i hi
      · split
        · exact h i hi
        · refine rayF_eq n _ _ _ _ _ (by omega) (fun q hq => ?_) i hi
          unfold mup
          split
          · rw [h _ (by omega)]
          · exact h q hq
    · exact h i hi
/-- the cell from which the light comes may be lit before or behind -/
theorem rayF_src {G lf : Nat → Int} {z : Nat} {v : Int} (hv : ∀ k, lf k ≤ v) : ∀ (n k : Nat) (c way : Int) (L : Nat → Int), rayF G lf n k c way (mup L z v) = mup (rayF G lf n k c way L) z v
  | 0, _, _, _, L => rfl
  | n + 1, k, c, way, L => by
    unfold rayF
    split
    · split
      · rfl
      · split
        · rfl
        · rw [← rayF_src hv n]
          congr 1
          funext i
          unfold mup
          have := hv (k + 1)
          by_cases e1 : i = (nxc c way).toNat
          · by_cases e2 : i = z
            · rw [if_pos e1, if_pos (by omega), if_pos e2]; omega
            · rw [if_pos e1, if_neg (by omega), if_neg e2, if_pos e1]
          · rw [if_neg e1]
            split
            · rfl
            · rfl
    · rfl
theorem rayF_0 {G lf : Nat → Int} (h : lf 1 ≤ 0) (n : Nat) (c way : Int) (L : Nat → Int) : rayF G lf n 0 c way L = L := by
  cases n with
  | zero => rfl
  | succ n =>
    unfold rayF
    rw [if_neg (show ¬ 0 < lf (0 + 1) by rw [Nat.zero_add]; omega)]
