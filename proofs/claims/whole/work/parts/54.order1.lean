/-! ===== order ===== -/
theorem fb_1 : ∀ N : Fin 7, ∀ b : Fin 64, ∀ w : Fin 6, b.val < 2 ^ N.val → w.val < N.val → bitN (b.val : Int) w.val = 0 → b.val + 2 ^ w.val < 2 ^ N.val := by decide +kernel
theorem fb_2 : ∀ b : Fin 64, ∀ w : Fin 6, bitN (b.val : Int) w.val = 0 → m_or (b.val : Int) (m_shl 1 (w.val : Int)) = ((b.val + 2 ^ w.val : Nat) : Int) := by decide +kernel
theorem fb_3 : ∀ b : Fin 64, ∀ w : Fin 6, bitN (b.val : Int) w.val = 0 → pcF ((b.val + 2 ^ w.val : Nat) : Int) = pcF (b.val : Int) + 1 := by decide +kernel
theorem fb_4 : ∀ N : Fin 7, ∀ b : Fin 64, b.val + 1 < 2 ^ N.val → ∃ w : Fin 6, w.val < N.val ∧ bitN (b.val : Int) w.val = 0 := by decide +kernel
theorem fb_5 : ∀ N : Fin 7, ∀ b : Fin 64, b.val + 1 < 2 ^ N.val → pcF (b.val : Int) < (N.val : Int) := by decide +kernel
theorem fb_6 : ∀ N : Fin 7, pcF ((2 ^ N.val - 1 : Nat) : Int) = (N.val : Int) := by decide +kernel
theorem pow_64 {N : Nat} (h : N ≤ 6) : 1 ≤ 2 ^ N ∧ 2 ^ N ≤ 64 := ⟨Nat.one_le_two_pow, Nat.le_trans (Nat.pow_le_pow_right (by decide) h) (by decide)⟩
theorem fc_1 {N b w : Nat} (hN : N ≤ 6) (hb : b < 2 ^ N) (hw : w < N) (h : bitN (b : Int) w = 0) : b + 2 ^ w < 2 ^ N := by
  have := pow_64 hN
  exact fb_1 ⟨N, by omega⟩ ⟨b, by omega⟩ ⟨w, by omega⟩ hb hw h
theorem fc_2 {b w : Nat} (hb : b < 64) (hw : w < 6) (h : bitN (b : Int) w = 0) : m_or (b : Int) (m_shl 1 (w : Int)) = ((b + 2 ^ w : Nat) : Int) := fb_2 ⟨b, hb⟩ ⟨w, hw⟩ h
theorem fc_3 {b w : Nat} (hb : b < 64) (hw : w < 6) (h : bitN (b : Int) w = 0) : pcF ((b + 2 ^ w : Nat) : Int) = pcF (b : Int) + 1 := fb_3 ⟨b, hb⟩ ⟨w, hw⟩ h
theorem fc_4 {N b : Nat} (hN : N ≤ 6) (h : b + 1 < 2 ^ N) : ∃ w, w < N ∧ bitN (b : Int) w = 0 := by
  have := pow_64 hN
  obtain ⟨w, h1, h2⟩ := fb_4 ⟨N, by omega⟩ ⟨b, by omega⟩ h
  exact ⟨w.val, h1, h2⟩
theorem fc_5 {N b : Nat} (hN : N ≤ 6) (h : b + 1 < 2 ^ N) : pcF (b : Int) < (N : Int) := by
  have := pow_64 hN
  exact fb_5 ⟨N, by omega⟩ ⟨b, by omega⟩ h
theorem fc_6 {N : Nat} (hN : N ≤ 6) : pcF ((2 ^ N - 1 : Nat) : Int) = (N : Int) := fb_6 ⟨N, by omega⟩
/-- how many window w meets, i nights on -/
def niF (D : Nat → Int) (i : Nat) : Nat → Int := mup D 38 (D 38 + (i : Int))
def moF (D : Nat → Int) (i w : Nat) : Int := pcF (mtW (niF D i) w)
theorem moF_rng (D : Nat → Int) (i w : Nat) : 0 ≤ moF D i w ∧ moF D i w ≤ 10 := pcF_rng _
theorem niF_ok {D : Nat → Int} (hM : MOk D) (hC : COk D) (hN : D 38 ≤ 9999) {i : Nat} (hi : i < 6) : MOk (niF D i) ∧ COk (niF D i) ∧ niF D i 38 = D 38 + (i : Int) := by
  have h38 := hM.2.2.2.2.2.2.2.1
  unfold niF
  exact ⟨MOk_set hM ⟨by omega, by omega, by omega, by omega, by omega, by omega, by omega, by omega, by omega, fun w hw => ⟨by omega, by omega, by omega, by omega⟩, fun p hp => ⟨by omega, by omega, by omega, by omega⟩, fun j hj => by omega, fun j hj => by omega⟩, COk_set2 (by omega) hC, mup_eq _ _ _⟩
def mxF (M : Nat → Nat → Int) (t : Nat → Int) (b : Nat) : Nat → Int
  | 0 => 0
  | k + 1 => if bitN (b : Int) k = 0 then max (mxF M t b k) (M (pcF (b : Int)).toNat k + t (b + 2 ^ k)) else mxF M t b k
theorem mxF_cg {M : Nat → Nat → Int} {t u : Nat → Int} {b : Nat} (h : ∀ j, b < j → t j = u j) : ∀ k, mxF M t b k = mxF M u b k
  | 0 => rfl
  | k + 1 => by
    unfold mxF
    rw [mxF_cg h k, h (b + 2 ^ k) (by have : 1 ≤ 2 ^ k := Nat.one_le_two_pow; omega)]
def TabAt (M : Nat → Nat → Int) (N : Nat) (t : Nat → Int) (b : Nat) : Prop := (b + 1 = 2 ^ N → t b = 0) ∧ (b + 1 < 2 ^ N → t b = mxF M t b N) ∧ (0 ≤ t b ∧ t b ≤ 10 * (63 - (b : Int)))
def Tab (M : Nat → Nat → Int) (N : Nat) (t : Nat → Int) : Prop := ∀ b, b < 2 ^ N → TabAt M N t b
theorem TabAt.cg {M : Nat → Nat → Int} {N : Nat} {t u : Nat → Int} {b : Nat} (h : ∀ j, b ≤ j → t j = u j) (k : TabAt M N t b) : TabAt M N u b := by
  obtain ⟨a1, a2, a3⟩ := k
  unfold TabAt
  rw [← h b (Nat.le_refl _), ← mxF_cg (t := t) (u := u) (fun j hj => h j (by omega))]
  exact ⟨a1, a2, a3⟩
theorem Tab.uni {M : Nat → Nat → Int} {N : Nat} {t u : Nat → Int} (hN : N ≤ 6) (h1 : Tab M N t) (h2 : Tab M N u) : ∀ m b, b + m + 1 = 2 ^ N → ∀ j, b ≤ j → j < 2 ^ N → t j = u j
  | 0, b, hb, j, hj, hj2 => by
    obtain rfl : j = b := by omega
    rw [(h1 j hj2).1 (by omega), (h2 j hj2).1 (by omega)]
  | m + 1, b, hb, j, hj, hj2 => by
    by_cases e : j = b
    · subst e
      have ih := Tab.uni hN h1 h2 m (j + 1) (by omega)
      rw [(h1 j hj2).2.1 (by omega), (h2 j hj2).2.1 (by omega)]
      have key : ∀ k, k ≤ N → mxF M t j k = mxF M u j k := by
        intro k
        induction k with
        | zero => intro _; rfl
        | succ k ihk =>
          intro hk
          unfold mxF
          rw [ihk (by omega)]
          by_cases e2 : bitN (j : Int) k = 0
          · rw [if_pos e2, if_pos e2, ih (j + 2 ^ k) (by have : 1 ≤ 2 ^ k := Nat.one_le_two_pow; omega) (fc_1 hN hj2 (by omega) e2)]
          · rw [if_neg e2, if_neg e2]
      exact key N (Nat.le_refl _)
    · exact Tab.uni hN h1 h2 m (b + 1) (by omega) j (by omega) hj2
theorem mxF_rng {M : Nat → Nat → Int} {N b : Nat} {t : Nat → Int} (hN : N ≤ 6) (hb : b < 2 ^ N) (hM : ∀ i w, 0 ≤ M i w ∧ M i w ≤ 10) (ht : ∀ j, b < j → j < 2 ^ N → 0 ≤ t j ∧ t j ≤ 10 * (63 - (j : Int))) : ∀ k, k ≤ N → 0 ≤ mxF M t b k ∧ mxF M t b k ≤ 10 * (63 - (b : Int))
  | 0, _ => by have := pow_64 hN; unfold mxF; omega
  | k + 1, hk => by
    have ih := mxF_rng hN hb hM ht k (by omega)
    have h1 := hM (pcF (b : Int)).toNat k
    unfold mxF
    split
    · rename_i e
      have h2 := fc_1 hN hb (show k < N by omega) e
      have h3 : 1 ≤ 2 ^ k := Nat.one_le_two_pow
      have h4 := ht (b + 2 ^ k) (by omega) h2
      omega
    · exact ih
theorem mxF_ge {M : Nat → Nat → Int} {t : Nat → Int} {b w : Nat} (hw : bitN (b : Int) w = 0) : ∀ k, w < k → M (pcF (b : Int)).toNat w + t (b + 2 ^ w) ≤ mxF M t b k
  | 0, h => by omega
  | k + 1, h => by
    unfold mxF
    by_cases e : w = k
    · subst e; rw [if_pos hw]; omega
    · have ih := mxF_ge (M := M) (t := t) hw k (by omega)
      split <;> omega
theorem mxF_at {M : Nat → Nat → Int} {t : Nat → Int} {b : Nat} : ∀ k, mxF M t b k = 0 ∨ ∃ w, w < k ∧ bitN (b : Int) w = 0 ∧ M (pcF (b : Int)).toNat w + t (b + 2 ^ w) = mxF M t b k
  | 0 => Or.inl rfl
  | k + 1 => by
    unfold mxF
    by_cases e : bitN (b : Int) k = 0
    · rw [if_pos e]
      rcases (by omega : mxF M t b k < M (pcF (b : Int)).toNat k + t (b + 2 ^ k) ∨ M (pcF (b : Int)).toNat k + t (b + 2 ^ k) ≤ mxF M t b k) with h | h
      · exact Or.inr ⟨k, by omega, e, by omega⟩
      · rw [show max (mxF M t b k) (M (pcF (b : Int)).toNat k + t (b + 2 ^ k)) = mxF M t b k by omega]
        rcases mxF_at (M := M) (t := t) (b := b) k with h2 | ⟨w, h1, h2, h3⟩
        · exact Or.inl h2
        · exact Or.inr ⟨w, by omega, h2, h3⟩
    · rw [if_neg e]
      rcases mxF_at (M := M) (t := t) (b := b) k with h2 | ⟨w, h1, h2, h3⟩
      · exact Or.inl h2
      · exact Or.inr ⟨w, by omega, h2, h3⟩
def Gd (M : Nat → Nat → Int) (t : Nat → Int) (b w : Nat) : Prop := bitN (b : Int) w = 0 ∧ M (pcF (b : Int)).toNat w + t (b + 2 ^ w) = t b
theorem Gd.ex {M : Nat → Nat → Int} {N b : Nat} {t : Nat → Int} (hN : N ≤ 6) (hM : ∀ i w, 0 ≤ M i w ∧ M i w ≤ 10) (hT : Tab M N t) (hb : b + 1 < 2 ^ N) : ∃ w, w < N ∧ Gd M t b w := by
  have e := (hT b (by omega)).2.1 hb
  rcases mxF_at (M := M) (t := t) (b := b) N with h | ⟨w, h1, h2, h3⟩
  · obtain ⟨w, h1, h2⟩ := fc_4 hN hb
    have h3 := mxF_ge (M := M) (t := t) h2 N h1
    have h4 := hM (pcF (b : Int)).toNat w
    have h5 := (hT (b + 2 ^ w) (fc_1 hN (by omega) h1 h2)).2.2
    exact ⟨w, h1, h2, by omega⟩
  · exact ⟨w, h1, h2, by omega⟩
/-- the first good window from k on, or the last -/
noncomputable def fsF (M : Nat → Nat → Int) (t : Nat → Int) (b : Nat) : Nat → Nat → Nat
  | 0, k => k
  | n + 1, k => @ite _ (Gd M t b k) (Classical.propDecidable _) k (fsF M t b n (k + 1))
theorem fsF_y {M : Nat → Nat → Int} {t : Nat → Int} {b n k : Nat} (h : Gd M t b k) : fsF M t b n k = k := by
  cases n with
  | zero => rfl
  | succ n => unfold fsF; rw [if_pos h]
theorem fsF_n {M : Nat → Nat → Int} {t : Nat → Int} {b n k : Nat} (h : ¬ Gd M t b k) : fsF M t b (n + 1) k = fsF M t b n (k + 1) := by
  conv => lhs; unfold fsF
  rw [if_neg h]
theorem fsF_gd {M : Nat → Nat → Int} {t : Nat → Int} {b : Nat} : ∀ n k, (∃ w, k ≤ w ∧ w ≤ k + n ∧ Gd M t b w) → Gd M t b (fsF M t b n k) ∧ fsF M t b n k ≤ k + n
  | 0, k, ⟨w, h1, h2, h3⟩ => by
    obtain rfl : w = k := by omega
    exact ⟨h3, Nat.le_refl _⟩
  | n + 1, k, ⟨w, h1, h2, h3⟩ => by
    by_cases h : Gd M t b k
    · rw [fsF_y h]; exact ⟨h, by omega⟩
    · rw [fsF_n h]
      have e : w ≠ k := fun e => h (e ▸ h3)
      have ih := fsF_gd (M := M) (t := t) (b := b) n (k + 1) ⟨w, by omega, by omega, h3⟩
      exact ⟨ih.1, by omega⟩
theorem fsF_cg {M : Nat → Nat → Int} {t u : Nat → Int} {b N : Nat} (hN : N ≤ 6) (hb : b < 2 ^ N) (h : ∀ j, j < 2 ^ N → t j = u j) : ∀ n k, k + n < N → fsF M t b n k = fsF M u b n k
  | 0, k, _ => rfl
  | n + 1, k, hk => by
    have e : Gd M t b k ↔ Gd M u b k := by
      unfold Gd
      constructor
      · rintro ⟨h1, h2⟩
        exact ⟨h1, by rw [← h _ hb, ← h _ (fc_1 hN hb (by omega) h1)]; exact h2⟩
      · rintro ⟨h1, h2⟩
        exact ⟨h1, by rw [h _ hb, h _ (fc_1 hN hb (by omega) h1)]; exact h2⟩
    by_cases hg : Gd M t b k
    · rw [fsF_y hg, fsF_y (e.mp hg)]
    · rw [fsF_n hg, fsF_n (fun q => hg (e.mpr q))]
      exact fsF_cg hN hb h n (k + 1) (by omega)
noncomputable def chF (M : Nat → Nat → Int) (N : Nat) (t : Nat → Int) (b : Nat) : Nat := fsF M t b (N - 1) 0
noncomputable def sqF (M : Nat → Nat → Int) (N : Nat) (t : Nat → Int) : Nat → Nat
  | 0 => 0
  | i + 1 => sqF M N t i + 2 ^ chF M N t (sqF M N t i)
theorem chF_gd {M : Nat → Nat → Int} {N b : Nat} {t : Nat → Int} (hN : N ≤ 6) (hM : ∀ i w, 0 ≤ M i w ∧ M i w ≤ 10) (hT : Tab M N t) (hb : b + 1 < 2 ^ N) : Gd M t b (chF M N t b) ∧ chF M N t b < N := by
  obtain ⟨w, h1, h2⟩ := Gd.ex hN hM hT hb
  have := fsF_gd (M := M) (t := t) (b := b) (N - 1) 0 ⟨w, by omega, by omega, h2⟩
  unfold chF
  exact ⟨this.1, by omega⟩
theorem sqF_ok {M : Nat → Nat → Int} {N : Nat} {t : Nat → Int} (hN : N ≤ 6) (hM : ∀ i w, 0 ≤ M i w ∧ M i w ≤ 10) (hT : Tab M N t) : ∀ i, i ≤ N → sqF M N t i < 2 ^ N ∧ pcF (sqF M N t i : Int) = (i : Int)
  | 0, _ => ⟨(pow_64 hN).1, by show pcF 0 = 0; decide⟩
  | i + 1, hi => by
    have ih := sqF_ok hN hM hT i (by omega)
    have hp := pow_64 hN
    have hne : sqF M N t i ≠ 2 ^ N - 1 := fun e => by
      have h6 := fc_6 hN
      rw [← e] at h6
      omega
    have hg := chF_gd hN hM hT (b := sqF M N t i) (by omega)
    unfold sqF
    refine ⟨fc_1 hN ih.1 hg.2 hg.1.1, ?_⟩
    rw [fc_3 (by omega) (by omega) hg.1.1, ih.2]
    omega
theorem sqF_lt {M : Nat → Nat → Int} {N : Nat} {t : Nat → Int} (hN : N ≤ 6) (hM : ∀ i w, 0 ≤ M i w ∧ M i w ≤ 10) (hT : Tab M N t) {i : Nat} (hi : i < N) : sqF M N t i + 1 < 2 ^ N := by
  have h := sqF_ok hN hM hT i (by omega)
  have hp := pow_64 hN
  have hne : sqF M N t i ≠ 2 ^ N - 1 := fun e => by
    have h6 := fc_6 hN
    rw [← e] at h6
    omega
  omega
theorem sqF_uni {M : Nat → Nat → Int} {N : Nat} {t u : Nat → Int} (hN : N ≤ 6) (hM : ∀ i w, 0 ≤ M i w ∧ M i w ≤ 10) (h1 : Tab M N t) (h2 : Tab M N u) (h : ∀ j, j < 2 ^ N → t j = u j) : ∀ i, i < N → sqF M N t i = sqF M N u i ∧ chF M N t (sqF M N t i) = chF M N u (sqF M N u i)
  | 0, hi => ⟨rfl, fsF_cg hN (pow_64 hN).1 h _ _ (by omega)⟩
  | i + 1, hi => by
    have ih := sqF_uni hN hM h1 h2 h i (by omega)
    have e : sqF M N t (i + 1) = sqF M N u (i + 1) := by
      show sqF M N t i + 2 ^ chF M N t (sqF M N t i) = sqF M N u i + 2 ^ chF M N u (sqF M N u i)
      rw [ih.2, ih.1]
    refine ⟨e, ?_⟩
    have hb := sqF_ok hN hM h2 (i + 1) (by omega)
    rw [e]
    exact fsF_cg hN hb.1 h _ _ (by omega)
