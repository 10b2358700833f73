/-! ===== nights, plainly ===== -/
theorem MOk_set {d : Nat → Int} (hM : MOk d) {i : Nat} {v : Int} (h : (i = 39 → 0 ≤ v ∧ v ≤ 6) ∧ (i = 40 → 0 ≤ v ∧ v ≤ 10) ∧ (i = 41 → 0 ≤ v ∧ v ≤ 12) ∧ (i = 43 → 0 ≤ v ∧ v ≤ 50) ∧ (i = 44 → 0 ≤ v ∧ v ≤ 20) ∧ (i = 36 → 0 ≤ v ∧ v ≤ 9) ∧ (i = 37 → 0 ≤ v ∧ v ≤ 9) ∧ (i = 38 → 0 ≤ v ∧ v ≤ 20000) ∧ (i < 36 → 0 ≤ v ∧ v ≤ 3) ∧
  (∀ w, w < 6 → (i = 45 + 4 * w → 0 ≤ v ∧ v ≤ 6) ∧ (i = 46 + 4 * w → 0 ≤ v ∧ v ≤ 9) ∧ (i = 47 + 4 * w → 0 ≤ v ∧ v ≤ 35) ∧ (i = 48 + 4 * w → 0 ≤ v ∧ v ≤ 99999)) ∧
  (∀ p, p < 10 → (i = 69 + 4 * p → 0 ≤ v ∧ v ≤ 35) ∧ (i = 70 + 4 * p → 0 ≤ v ∧ v ≤ 20) ∧ (i = 71 + 4 * p → 0 ≤ v ∧ v ≤ 9999) ∧ (i = 72 + 4 * p → 0 ≤ v ∧ v ≤ 9999)) ∧
  (∀ j, j < 12 → i = 109 + j → 0 ≤ v ∧ v ≤ 5) ∧ (∀ j, j < 50 → i = 243 + j → 0 ≤ v ∧ v ≤ 255)) : MOk (mup d i v) := by
  obtain ⟨g39, g40, g41, g43, g44, g36, g37, g38, gc, gw, gp, gt, gb⟩ := h
  obtain ⟨h39, h40, h41, h43, h44, h36, h37, h38, hc, hw, hp, ht, hb⟩ := hM
  have up : ∀ {j : Nat} {a b : Int}, (i = j → a ≤ v ∧ v ≤ b) → (a ≤ d j ∧ d j ≤ b) → a ≤ mup d i v j ∧ mup d i v j ≤ b := by
    intro j a b e1 e2
    unfold mup
    split
    · rename_i e; exact e1 e.symm
    · exact e2
  refine ⟨up g39 h39, up g40 h40, up g41 h41, up g43 h43, up g44 h44, up g36 h36, up g37 h37, up g38 h38, fun c k => up (fun e => gc (by omega)) (hc c k), fun w k => ?_, fun p k => ?_, fun j k => up (gt j k) (ht j k), fun j k => up (gb j k) (hb j k)⟩
  · obtain ⟨a1, a2, a3, a4⟩ := gw w k
    obtain ⟨b1, b2, b3, b4⟩ := hw w k
    exact ⟨up a1 b1, up a2 b2, up a3 b3, up a4 b4⟩
  · obtain ⟨a1, a2, a3, a4⟩ := gp p k
    obtain ⟨b1, b2, b3, b4⟩ := hp p k
    exact ⟨up a1 b1, up a2 b2, up a3 b3, up a4 b4⟩
theorem hgt_congr {d d1 : Nat → Int} {b : Int} (hb : 143 ≤ b ∧ b ≤ 193) (h : ∀ j, 143 ≤ j → j < 243 → d1 j = d j) : ∀ k, k ≤ 50 → hgt d1 b k = hgt d b k
  | 0, _ => rfl
  | k + 1, hk => by
    unfold hgt
    rw [hgt_congr hb h k (by omega), h (b + (k : Int)).toNat (by omega) (by omega)]
theorem CodeOk_congr {d d1 : Nat → Int} {b n : Int} (hb : 143 ≤ b ∧ b ≤ 193) (h : ∀ j, 143 ≤ j → j < 243 → d1 j = d j) (hC : CodeOk d b n) : CodeOk d1 b n := by
  obtain ⟨hn, hC⟩ := hC
  refine ⟨hn, fun k hk => ?_⟩
  rw [hgt_congr hb h k (by omega), h (b + (k : Int)).toNat (by omega) (by omega)]
  exact hC k hk
theorem COk_congr {d d1 : Nat → Int} (h : ∀ j, 121 ≤ j → j < 243 → d1 j = d j) (hC : COk d) : COk d1 := by
  unfold COk
  rw [h (121 + (0 : Int)).toNat (by decide) (by decide), h (121 + (1 : Int)).toNat (by decide) (by decide)]
  exact ⟨CodeOk_congr (by decide) (fun j h1 h2 => h j (by omega) h2) hC.1, CodeOk_congr (by decide) (fun j h1 h2 => h j (by omega) h2) hC.2⟩
theorem COk_set {d : Nat → Int} {i : Nat} {v : Int} (hi : i < 121 ∨ 243 ≤ i) (hC : COk d) : COk (mup d i v) :=
  COk_congr (fun j h1 h2 => mup_ne (by omega)) hC
def rdP (d : Nat → Int) (p : Int) : Int := min (d 37) (d (69 + 4 * p + 2).toNat)
def rdD (d : Nat → Int) (p w : Int) : Nat → Int := mup (mup (mup d (69 + 4 * p + 3).toNat (min 9999 (d (69 + 4 * p + 3).toNat + 1))) (69 + 4 * p + 2).toNat (d (69 + 4 * p + 2).toNat - rdP d p)) (45 + 4 * w + 3).toNat (min 99999 (d (45 + 4 * w + 3).toNat + rdP d p))
theorem rdD_ok {d : Nat → Int} (hM : MOk d) {p w : Int} (hp0 : 0 ≤ p ∧ p < 10) (hw0 : 0 ≤ w ∧ w < 6) : MOk (rdD d p w) := by
  have h1 := MOk_p hM hp0
  have h2 := MOk_w hM hw0
  have h3 := hM.2.2.2.2.2.2.1
  have h4 : 0 ≤ rdP d p ∧ rdP d p ≤ d (69 + 4 * p + 2).toNat := by unfold rdP; omega
  unfold rdD
  refine MOk_set (MOk_set (MOk_set hM ⟨by omega, by omega, by omega, by omega, by omega, by omega, by omega, by omega, by omega, fun w hw => ⟨by omega, by omega, by omega, by omega⟩, fun p hp => ⟨by omega, by omega, by omega, by omega⟩, fun j hj => by omega, fun j hj => by omega⟩) ⟨by omega, by omega, by omega, by omega, by omega, by omega, by omega, by omega, by omega, fun w hw => ⟨by omega, by omega, by omega, by omega⟩, fun p hp => ⟨by omega, by omega, by omega, by omega⟩, fun j hj => by omega, fun j hj => by omega⟩) ⟨by omega, by omega, by omega, by omega, by omega, by omega, by omega, by omega, by omega, fun w hw => ⟨by omega, by omega, by omega, by omega⟩, fun p hp => ⟨by omega, by omega, by omega, by omega⟩, fun j hj => by omega, fun j hj => by omega⟩
theorem rdD_c {d : Nat → Int} (hC : COk d) {p w : Int} (hp0 : 0 ≤ p ∧ p < 10) (hw0 : 0 ≤ w ∧ w < 6) : COk (rdD d p w) := by
  unfold rdD
  exact COk_set (by omega) (COk_set (by omega) (COk_set (by omega) hC))
theorem rdD_lo {d : Nat → Int} {p w : Int} {i : Nat} (hp0 : 0 ≤ p ∧ p < 10) (hw0 : 0 ≤ w ∧ w < 6) (hi : i < 48 ∨ 109 ≤ i) : rdD d p w i = d i := by
  unfold rdD
  rw [mup_ne (by omega), mup_ne (by omega), mup_ne (by omega)]
theorem m_and_rng (x y : Int) : -2147483648 ≤ m_and x y ∧ m_and x y < 2147483648 := ⟨Int32.le_toInt _, Int32.toInt_lt _⟩
theorem litW_rng {d : Nat → Int} (hM : MOk d) : -1 ≤ litW d ∧ litW d < 6 := by
  obtain ⟨h39, h40, h41, h43, h44, h36, h37, h38, hc, hw, hp, ht, hb⟩ := hM
  unfold litW
  split
  · omega
  · have h1 := Int.emod_nonneg (d 38) (show d 41 ≠ 0 by omega)
    have h2 := Int.emod_lt_of_pos (d 38) (show 0 < d 41 by omega)
    have h3 := ht (d 38 % d 41).toNat (by omega)
    rw [show (109 + d 38 % d 41).toNat = 109 + (d 38 % d 41).toNat by omega]
    omega
theorem m_ushr8 (x : Int) : 0 ≤ m_ushr x 8 ∧ m_ushr x 8 < 16777216 := by
  unfold m_ushr
  rw [show (Int32.ofInt 8).toUInt32 &&& Int32.toUInt32 31 = 8 from by decide]
  generalize (Int32.ofInt x).toUInt32 = u
  have h1 : (u >>> 8).toNat = u.toNat / 256 := by
    rw [UInt32.toNat_shiftRight]
    exact Nat.shiftRight_eq_div_pow _ _
  have h2 := u.toNat_lt
  have h3 : (u >>> 8).toInt32.toInt = ((u >>> 8).toNat : Int) := BitVec.toInt_eq_toNat_of_lt (by show 2 * (u >>> 8).toNat < 2 ^ 32; omega)
  rw [h3]
  omega
theorem bit_at : ∀ p : Fin 10, ∀ m : Fin 1024, m_and (m_shr (m.val : Int) (p.val : Int)) 1 = ((m.val / 2 ^ p.val % 2 : Nat) : Int) := by decide +kernel
def bitN (m : Int) (p : Nat) : Int := m / 2 ^ p % 2
theorem bitN_rng (m : Int) (p : Nat) : 0 ≤ bitN m p ∧ bitN m p ≤ 1 := by
  unfold bitN
  omega
theorem m_bit {m : Int} {p : Nat} (hp : p < 10) (hm : 0 ≤ m ∧ m < 1024) : m_and (m_shr m (p : Int)) 1 = bitN m p := by
  obtain ⟨b, rfl⟩ : ∃ b : Nat, m = (b : Int) := ⟨m.toNat, by omega⟩
  have := bit_at ⟨p, hp⟩ ⟨b, by omega⟩
  simpa [bitN] using this
/-- all of the set m among the n from p on read, and pay to the window w -/
def gbF (w m : Int) : Nat → Nat → (Nat → Int) → (Nat → Int)
  | 0, _, D => D
  | n + 1, p, D => gbF w m n (p + 1) (if bitN m p = 1 then rdD D p w else D)
def gnF (D : Nat → Int) : Nat → Int := if litW D < 0 then D else gbF (litW D) (mtW D (litW D)) (D 40).toNat 0 D
/-- a night goes by -/
def nfF (D : Nat → Int) : Nat → Int := mup (gnF D) 38 (D 38 + 1)
theorem gbF_ok {w m : Int} (hw : 0 ≤ w ∧ w < 6) : ∀ (n p : Nat) (D : Nat → Int), MOk D → COk D → p + n ≤ 10 → MOk (gbF w m n p D) ∧ COk (gbF w m n p D) ∧ ∀ i, (i < 48 ∨ 109 ≤ i) → gbF w m n p D i = D i
  | 0, p, D, hM, hC, _ => ⟨hM, hC, fun _ _ => rfl⟩
  | n + 1, p, D, hM, hC, hn => by
    unfold gbF
    split
    · have ih := gbF_ok (m := m) hw n (p + 1) (rdD D p w) (rdD_ok hM (by omega) hw) (rdD_c hC (by omega) hw) (by omega)
      refine ⟨ih.1, ih.2.1, fun i hi => ?_⟩
      rw [ih.2.2 i hi, rdD_lo (by omega) hw hi]
    · exact gbF_ok hw n (p + 1) D hM hC (by omega)
theorem gnF_ok {D : Nat → Int} (hM : MOk D) (hC : COk D) : MOk (gnF D) ∧ COk (gnF D) ∧ ∀ i, (i < 48 ∨ 109 ≤ i) → gnF D i = D i := by
  have hl := litW_rng hM
  have h4 := hM.2.1
  unfold gnF
  split
  · exact ⟨hM, hC, fun _ _ => rfl⟩
  · exact gbF_ok (by omega) _ _ _ hM hC (by omega)
theorem nfF_ok {D : Nat → Int} (hM : MOk D) (hC : COk D) (hn : D 38 < 20000) : MOk (nfF D) ∧ COk (nfF D) ∧ (∀ i, i ≠ 38 → (i < 48 ∨ 109 ≤ i) → nfF D i = D i) ∧ nfF D 38 = D 38 + 1 := by
  have h := gnF_ok hM hC
  have h9 := hM.2.2.2.2.2.2.2.1
  unfold nfF
  refine ⟨MOk_set h.1 ⟨by omega, by omega, by omega, by omega, by omega, by omega, by omega, by omega, by omega, fun w hw => ⟨by omega, by omega, by omega, by omega⟩, fun p hp => ⟨by omega, by omega, by omega, by omega⟩, fun j hj => by omega, fun j hj => by omega⟩, COk_set (by omega) h.2.1, fun i e hi => ?_, mup_eq _ _ _⟩
  rw [mup_ne e, h.2.2 i hi]
/-- n nights go by -/
def nnF : Nat → (Nat → Int) → (Nat → Int)
  | 0, D => D
  | n + 1, D => nnF n (nfF D)
theorem nnF_ok : ∀ (n : Nat) (D : Nat → Int), MOk D → COk D → D 38 + n ≤ 20000 → MOk (nnF n D) ∧ COk (nnF n D) ∧ (∀ i, i ≠ 38 → (i < 48 ∨ 109 ≤ i) → nnF n D i = D i) ∧ nnF n D 38 = D 38 + n
  | 0, D, hM, hC, _ => ⟨hM, hC, fun _ _ _ => rfl, by show D 38 = D 38 + 0; omega⟩
  | n + 1, D, hM, hC, hn => by
    have h := nfF_ok hM hC (by omega)
    have ih := nnF_ok n (nfF D) h.1 h.2.1 (by omega)
    unfold nnF
    exact ⟨ih.1, ih.2.1, fun i e hi => (ih.2.2.1 i e hi).trans (h.2.2.1 i e hi), by omega⟩
def zF (z : Int) : Int := z * 1103515245 + 12345
/-- the fog of a night: drawn or as it was -/
def fgF (lo : Int) (D : Nat → Int) : Nat → Int := if lo = 0 then D else mup (mup D 42 (zF (D 42))) 36 (m_rem (m_ushr (zF (D 42)) 8) 4)
theorem fgF_ok {lo : Int} {D : Nat → Int} (hM : MOk D) (hC : COk D) : MOk (fgF lo D) ∧ COk (fgF lo D) ∧ (∀ i, i ≠ 36 → i ≠ 42 → fgF lo D i = D i) := by
  have h6 := hM.2.2.2.2.2.1
  have h8 := m_ushr8 (zF (D 42))
  have h9 := @m_rem_rng (m_ushr (zF (D 42)) 8) 4 (by omega) (by omega)
  unfold fgF
  split
  · exact ⟨hM, hC, fun i h1 h2 => rfl⟩
  · refine ⟨MOk_set (MOk_set hM ⟨by omega, by omega, by omega, by omega, by omega, by omega, by omega, by omega, by omega, fun w hw => ⟨by omega, by omega, by omega, by omega⟩, fun p hp => ⟨by omega, by omega, by omega, by omega⟩, fun j hj => by omega, fun j hj => by omega⟩) ⟨by omega, by omega, by omega, by omega, by omega, by omega, by omega, by omega, by omega, fun w hw => ⟨by omega, by omega, by omega, by omega⟩, fun p hp => ⟨by omega, by omega, by omega, by omega⟩, fun j hj => by omega, fun j hj => by omega⟩, COk_set (by omega) (COk_set (by omega) hC), fun i h1 h2 => ?_⟩
    rw [mup_ne h1, mup_ne h2]
def ngF (lo : Int) : Nat → (Nat → Int) → (Nat → Int)
  | 0, D => D
  | n + 1, D => ngF lo n (nfF (fgF lo D))
theorem ngF_ok {lo : Int} : ∀ (n : Nat) (D : Nat → Int), MOk D → COk D → D 38 + n ≤ 20000 → MOk (ngF lo n D) ∧ COk (ngF lo n D) ∧ (∀ i, i ≠ 36 → i ≠ 42 → i ≠ 38 → (i < 48 ∨ 109 ≤ i) → ngF lo n D i = D i) ∧ ngF lo n D 38 = D 38 + n
  | 0, D, hM, hC, _ => ⟨hM, hC, fun _ _ _ _ _ => rfl, by show D 38 = D 38 + 0; omega⟩
  | n + 1, D, hM, hC, hn => by
    have h0 := fgF_ok (lo := lo) hM hC
    have h00 := h0.2.2 38 (by decide) (by decide)
    have h := nfF_ok h0.1 h0.2.1 (by omega)
    have ih := ngF_ok (lo := lo) n (nfF (fgF lo D)) h.1 h.2.1 (by omega)
    unfold ngF
    exact ⟨ih.1, ih.2.1, fun i e1 e2 e3 hi => (ih.2.2.1 i e1 e2 e3 hi).trans ((h.2.2.1 i e3 hi).trans (h0.2.2 i e1 e2)), by omega⟩
def roF (D : Nat → Int) : Int := sumT (fun p => D (69 + 4 * p + 3)) (D 40).toNat
theorem c_reads {d : Nat} {s : mSt} {p w : Int} {D : Nat → Int} (hD : s 147 = D) (hM : MOk D) (hp : 0 ≤ p ∧ p < 10) (hw : 0 ≤ w ∧ w < 6) : CV (d + 1) 222 [.inr (.inr 146), .inl p, .inl w] (s) (fun s1 => s1 147 = rdD D p w ∧ Fr [147] s s1) := by
  refine CV.mk rfl ?_
  show WP (d + 1) 222 0 [some (.inr (.inr 146)), some (.inl p), some (.inl w), none] [] (encA (s)) _
  subst hD
  have h1 := MOk_p hM hp
  have h2 := MOk_w hM hw
  have h3 := hM.2.2.2.2.2.2.1
  have h4 : 0 ≤ rdP (s 147) p ∧ rdP (s 147) p ≤ s 147 (69 + 4 * p + 2).toNat := by unfold rdP; omega
  refine w_ldR rfl rfl rfl ?_
  first | refine w_getI rfl rfl rfl rfl rfl ?_ | refine w_getR rfl rfl rfl rfl rfl ?_
  refine w_push rfl ?_
  refine w_aldk 37 rfl rfl rfl rfl rfl rfl ?_
  refine w_ldR rfl rfl rfl ?_
  refine w_ldI rfl rfl ?_
  refine w_push rfl ?_
  refine w_callV rfl rfl rfl rfl rfl rfl rfl (r_ofOne (by omega) (by omega)) ?_
  refine w_call rfl rfl rfl (r_lesser (by omega) (by omega)) ?_
  rw [show min (s 147 37) (s 147 (69 + 4 * p + 2).toNat) = rdP (s 147) p from rfl]
  refine w_StI_4_3 rfl rfl ?_
  refine w_ldR rfl rfl rfl ?_
  first | refine w_getI rfl rfl rfl rfl rfl ?_ | refine w_getR rfl rfl rfl rfl rfl ?_
  refine w_push rfl ?_
  refine w_push rfl ?_
  refine w_ldI rfl rfl ?_
  refine w_mul rfl ?_
  refine w_add rfl ?_
  refine w_push rfl ?_
  refine w_add rfl ?_
  refine w_push rfl ?_
  refine w_ldR rfl rfl rfl ?_
  refine w_ldI rfl rfl ?_
  refine w_push rfl ?_
  refine w_callV rfl rfl rfl rfl rfl rfl rfl (r_ofOne (by omega) (by omega)) ?_
  refine w_push rfl ?_
  refine w_add rfl ?_
  refine w_call rfl rfl rfl (r_lesser (by omega) (by omega)) ?_
  refine w_ast rfl rfl rfl (by omega) rfl ?_
  refine w_ldR rfl rfl rfl ?_
  first | refine w_getI rfl rfl rfl rfl rfl ?_ | refine w_getR rfl rfl rfl rfl rfl ?_
  refine w_push rfl ?_
  refine w_push rfl ?_
  refine w_ldI rfl rfl ?_
  refine w_mul rfl ?_
  refine w_add rfl ?_
  refine w_push rfl ?_
  refine w_add rfl ?_
  refine w_dup2 rfl ?_
  refine w_ald rfl rfl rfl (by omega) rfl ?_
  simp (disch := omega) only [us_d, ua_ua, ua_eq, mup_ne, mup_eq]
  refine w_ldI rfl rfl ?_
  refine w_sub rfl ?_
  refine w_ast rfl rfl rfl (by omega) rfl ?_
  simp (disch := omega) only [us_d, ua_ua, ua_eq, mup_ne, mup_eq]
  refine w_ldR rfl rfl rfl ?_
  first | refine w_getI rfl rfl rfl rfl rfl ?_ | refine w_getR rfl rfl rfl rfl rfl ?_
  refine w_push rfl ?_
  refine w_push rfl ?_
  refine w_ldI rfl rfl ?_
  refine w_mul rfl ?_
  refine w_add rfl ?_
  refine w_push rfl ?_
  refine w_add rfl ?_
  refine w_push rfl ?_
  refine w_ldR rfl rfl rfl ?_
  refine w_ldI rfl rfl ?_
  refine w_push rfl ?_
  refine w_callV rfl rfl rfl rfl rfl rfl rfl (r_ofIt (by omega) (by omega)) ?_
  simp (disch := omega) only [us_d, ua_ua, ua_eq, mup_ne, mup_eq]
  refine w_ldI rfl rfl ?_
  refine w_add rfl ?_
  refine w_call rfl rfl rfl (r_lesser (by omega) (by omega)) ?_
  refine w_ast rfl rfl rfl (by omega) rfl ?_
  refine w_retV rfl ?_
  simp (disch := omega) only [us_d, ua_ua, ua_eq, mup_ne, mup_eq]
  exact ⟨by unfold rdD; rfl, Fr.ua rfl⟩
theorem c_goesBy2 {d : Nat} {s s0 : mSt} {l1 l2 l3 : Option mAV} {D : Nat → Int} (hf : Fr [147, 151, 153, 154] s0 s) (hD : s 147 = gnF D) (h8 : gnF D 38 = D 38) : WP (d + 6) 223 30 [some (.inr (.inr 146)), l1, l2, l3] [] (encA (s)) (QV (fun s1 => s1 147 = nfF D ∧ Fr [147, 151, 153, 154] s0 s1)) := by
  refine w_ldR rfl rfl rfl ?_
  first | refine w_getI rfl rfl rfl rfl rfl ?_ | refine w_getR rfl rfl rfl rfl rfl ?_
  refine w_push rfl ?_
  refine w_dup2 rfl ?_
  refine w_aldk 38 rfl rfl rfl rfl rfl rfl ?_
  refine w_push rfl ?_
  refine w_add rfl ?_
  refine w_astk 38 rfl rfl rfl rfl rfl rfl ?_
  refine w_retV rfl ?_
  exact ⟨by rw [us_eq, hD, h8]; rfl, hf.tr (Fr.us rfl)⟩
theorem l_goesBy {d : Nat} {s : mSt} {Q : mQ} {w m : Int} {D : Nat → Int} (n k : Nat) (i : Int) (hi : i = (k : Int)) (hD : s 147 = D) (hM : MOk D) (hC : COk D) (hw : 0 ≤ w ∧ w < 6) (hm : 0 ≤ m ∧ m < 1024) (hk : (k : Int) + n = D 40) (kk : ∀ s1, Fr [147] s s1 → s1 147 = gbF w m n k D → WP (d + 6) 223 30 [some (.inr (.inr 146)), some (.inl w), some (.inl m), some (.inl (D 40))] [] (encA (s1)) (Q)) : WP (d + 6) 223 11 [some (.inr (.inr 146)), some (.inl w), some (.inl m), some (.inl i)] [] (encA (s)) (Q) := by
  subst hi
  have h4 := hM.2.1
  have h5 := bitN_rng m k
  refine w_ldI rfl rfl ?_
  refine w_ldR rfl rfl rfl ?_
  first | refine w_getI rfl rfl rfl rfl rfl ?_ | refine w_getR rfl rfl rfl rfl rfl ?_
  refine w_push rfl ?_
  refine w_aldk 40 rfl rfl rfl rfl rfl rfl ?_
  rw [hD]
  refine w_crGe rfl (by omega) (by omega) (fun b16 => ?_) (fun b16 => ?_)
  · first
    | (exfalso; omega)
    | (obtain rfl : n = 0 := by omega
       rw [show (k : Int) = D 40 by omega]
       exact kk s Fr.rf hD)
  · first
    | (exfalso; omega)
    | (obtain ⟨n, rfl⟩ : ∃ q, n = q + 1 := ⟨n - 1, by omega⟩
       refine w_ldI rfl rfl ?_
       refine w_ldI rfl rfl ?_
       refine w_bin rfl ?_
       refine w_push rfl ?_
       refine w_bin rfl ?_
       rw [m_bit (by omega) hm]
       refine w_push rfl ?_
       refine w_crNe rfl (by omega) (by omega) (fun b23 => ?_) (fun b23 => ?_)
       · first
         | (exfalso; omega)
         | (refine w_inc_4_3 rfl rfl ?_
            refine w_go rfl ?_
            first
            | (exact l_goesBy (D := rdD D k w) n (k + 1) ((k : Int) + 1) (by omega) p27.1 (rdD_ok hM (by omega) hw) (by have := hC; exact rdD_c hC (by omega) hw) hw hm (by rw [rdD_lo (by omega) hw (by omega)]; omega) (fun s1 hf hs => by
                rw [rdD_lo (by omega) hw (by omega)]
                exact kk s1 (p27.2.tr hf) (by unfold gbF; rw [if_pos (by omega)]; exact hs)))
            | (exact l_goesBy (D := D) n (k + 1) ((k : Int) + 1) (by omega) hD hM hC hw hm (by omega) (fun s1 hf hs => kk s1 hf (by unfold gbF; rw [if_neg (by omega)]; exact hs))))
       · first
         | (exfalso; omega)
         | (refine w_ldR rfl rfl rfl ?_
            refine w_ldI rfl rfl ?_
            refine w_ldI rfl rfl ?_
            refine w_callWN rfl rfl rfl rfl rfl rfl rfl (c_reads hD hM (by omega) hw) (fun s27 p27 => ?_)
            refine w_inc_4_3 rfl rfl ?_
            refine w_go rfl ?_
            first
            | (exact l_goesBy (D := rdD D k w) n (k + 1) ((k : Int) + 1) (by omega) p27.1 (rdD_ok hM (by omega) hw) (by have := hC; exact rdD_c hC (by omega) hw) hw hm (by rw [rdD_lo (by omega) hw (by omega)]; omega) (fun s1 hf hs => by
                rw [rdD_lo (by omega) hw (by omega)]
                exact kk s1 (p27.2.tr hf) (by unfold gbF; rw [if_pos (by omega)]; exact hs)))
            | (exact l_goesBy (D := D) n (k + 1) ((k : Int) + 1) (by omega) hD hM hC hw hm (by omega) (fun s1 hf hs => kk s1 hf (by unfold gbF; rw [if_neg (by omega)]; exact hs)))))
termination_by n
decreasing_by all_goals omega
theorem c_goesBy {d : Nat} {s : mSt} {D : Nat → Int} (hD : s 147 = D) (hM : MOk D) (hC : COk D) : CV (d + 6) 223 [.inr (.inr 146)] (s) (fun s1 => s1 147 = nfF D ∧ Fr [147, 151, 153, 154] s s1) := by
  refine CV.mk rfl ?_
  show WP (d + 6) 223 0 [some (.inr (.inr 146)), none, none, none] [] (encA (s)) _
  have hl := litW_rng hM
  have h4 := hM.2.1
  have hg := gnF_ok hM hC
  have h8 := hg.2.2 38 (by omega)
  refine w_ldR rfl rfl rfl ?_
  refine w_callV rfl rfl rfl rfl rfl rfl rfl (r_litNow (by rw [hD]; exact hM)) ?_
  rw [hD]
  refine w_StI_4_1 rfl rfl ?_
  refine w_ldI rfl rfl ?_
  refine w_irLt0 rfl (by omega) (fun b4 => ?_) (fun b4 => ?_)
  · first
    | (exfalso; omega)
    | (exact c_goesBy2 Fr.rf (by unfold gnF; rw [if_pos (by omega)]; exact hD) h8)
  · first
    | (exfalso; omega)
    | (refine w_ldR rfl rfl rfl ?_
       refine w_ldI rfl rfl ?_
       refine w_callWI rfl rfl rfl rfl rfl rfl rfl (c_metBy hD hM hC (by omega)) (fun v7 s7 p7 => ?_)
       obtain ⟨rfl, f7⟩ := p7
       refine w_StI_4_2 rfl rfl ?_
       refine w_push rfl ?_
       refine w_StI_4_3 rfl rfl ?_
       exact l_goesBy (D := D) (D 40).toNat 0 0 rfl ((f7.at 147 rfl).trans hD) hM hC (by omega) (mtF_1024 (by omega)) (by omega) (fun s1 hf hs => c_goesBy2 ((Fr.mono rfl f7).tr (Fr.mono rfl hf)) (by rw [hs]; unfold gnF; rw [if_neg (by omega)]) h8))
theorem l_goesOn {d : Nat} {s : mSt} {P : mSt → Prop} {n : Int} {D : Nat → Int} (m k : Nat) (i : Int) (hi : i = (k : Int)) (hD : s 147 = D) (hM : MOk D) (hC : COk D) (hk : (k : Int) + m = n ∧ n ≤ 1000) (hn : D 38 + m ≤ 20000) (hP : ∀ s1, Fr [147, 151, 153, 154] s s1 → s1 147 = nnF m D → P s1) : WP (d + 7) 229 2 [some (.inr (.inr 146)), some (.inl n), some (.inl i)] [] (encA (s)) (QV P) := by
  subst hi
  refine w_ldI rfl rfl ?_
  refine w_ldI rfl rfl ?_
  refine w_crGe rfl (by omega) (by omega) (fun b4 => ?_) (fun b4 => ?_)
  · first
    | (exfalso; omega)
    | (refine w_retV rfl ?_
       obtain rfl : m = 0 := by omega
       exact hP s Fr.rf hD)
  · first
    | (exfalso; omega)
    | (obtain ⟨m, rfl⟩ : ∃ q, m = q + 1 := ⟨m - 1, by omega⟩
       refine w_ldR rfl rfl rfl ?_
       refine w_callWN rfl rfl rfl rfl rfl rfl rfl (c_goesBy hD hM hC) (fun s6 p6 => ?_)
       refine w_inc_3_2 rfl rfl ?_
       refine w_go rfl ?_
       have hg := nfF_ok hM hC (by omega)
       exact l_goesOn (D := nfF D) m (k + 1) ((k : Int) + 1) (by omega) p6.1 hg.1 hg.2.1 (by omega) (by omega) (fun s1 hf hs => hP s1 (p6.2.tr hf) hs))
termination_by m
decreasing_by all_goals omega
theorem c_goesOn {d : Nat} {s : mSt} {n : Int} {D : Nat → Int} (hD : s 147 = D) (hM : MOk D) (hC : COk D) (h0 : 0 ≤ n ∧ n ≤ 1000) (hn : D 38 + n ≤ 20000) : CV (d + 7) 229 [.inr (.inr 146), .inl n] (s) (fun s1 => s1 147 = nnF n.toNat D ∧ Fr [147, 151, 153, 154] s s1) := by
  refine CV.mk rfl ?_
  show WP (d + 7) 229 0 [some (.inr (.inr 146)), some (.inl n), none] [] (encA (s)) _
  refine w_push rfl ?_
  refine w_StI_3_2 rfl rfl ?_
  exact l_goesOn n.toNat 0 0 rfl hD hM hC (by omega) (by omega) (fun s1 hf hs => ⟨hs, hf⟩)
theorem c_readOfAll {d : Nat} {s : mSt} {D : Nat → Int} (hD : s 147 = D) (hM : MOk D) : Call (d + 1) 225 [.inr (.inr 146)] (encA s) (some (.inl (roF D))) (encA s) := by
  subst hD
  exact r_readOfAll hM
theorem l_goes {d : Nat} {s : mSt} {P : Int → mSt → Prop} {n lo : Int} {D : Nat → Int} (m k : Nat) (i : Int) (hi : i = (k : Int)) (hD : s 147 = D) (hM : MOk D) (hC : COk D) (hlo : lo = 0 ∨ lo = 1) (hk : (k : Int) + m = n ∧ n ≤ 1000) (hn : D 38 + m ≤ 20000) (hP : ∀ s1, Fr [147, 151, 153, 154] s s1 → s1 147 = ngF lo m D → P (roF (ngF lo m D)) s1) : WP (d + 7) 226 24 [some (.inr (.inr 146)), some (.inl n), some (.inl lo), some (.inl i)] [] (encA (s)) (QI P) := by
  subst hi
  refine w_ldI rfl rfl ?_
  refine w_ldI rfl rfl ?_
  refine w_crGe rfl (by omega) (by omega) (fun b26 => ?_) (fun b26 => ?_)
  · first
    | (exfalso; omega)
    | (refine w_ldR rfl rfl rfl ?_
       refine w_callV rfl rfl rfl rfl rfl rfl rfl (c_readOfAll hD hM) ?_
       refine w_retI rfl ?_
       obtain rfl : m = 0 := by omega
       exact hP s Fr.rf hD)
  · first
    | (exfalso; omega)
    | (obtain ⟨m, rfl⟩ : ∃ q, m = q + 1 := ⟨m - 1, by omega⟩
       have hf := fgF_ok (lo := lo) hM hC
       have hf8 := hf.2.2 38 (by decide) (by decide)
       refine w_ldR rfl rfl rfl ?_
       first | refine w_getI rfl rfl rfl rfl rfl ?_ | refine w_getR rfl rfl rfl rfl rfl ?_
       refine w_push rfl ?_
       refine w_ldI rfl rfl ?_
       refine w_irEq0 rfl (by omega) (fun b31 => ?_) (fun b31 => ?_)
       · first
         | (exfalso; omega)
         | (refine w_ldR rfl rfl rfl ?_
            first | refine w_getI rfl rfl rfl rfl rfl ?_ | refine w_getR rfl rfl rfl rfl rfl ?_
            refine w_push rfl ?_
            refine w_aldk 36 rfl rfl rfl rfl rfl rfl ?_
            refine w_astk 36 rfl rfl rfl rfl rfl rfl ?_
            generalize hs42 : us _ 147 36 _ = s42
            have h42 : s42 147 = fgF lo D := by
              rw [← hs42, us_eq]
              unfold fgF zF
              first
              | (rw [if_neg (by omega), us_eq, hD])
              | (rw [if_pos (by omega), hD]; funext q; unfold mup; split; rename_i e; rw [e]; rfl)
            have f42 : Fr [147, 151, 153, 154] s s42 := by
              rw [← hs42]
              first
              | exact (Fr.us rfl).tr (Fr.us rfl)
              | exact Fr.us rfl
            refine w_ldR rfl rfl rfl ?_
            refine w_callWN rfl rfl rfl rfl rfl rfl rfl (c_goesBy h42 hf.1 hf.2.1) (fun s43 p43 => ?_)
            refine w_inc_4_3 rfl rfl ?_
            refine w_go rfl ?_
            have hg := nfF_ok hf.1 hf.2.1 (by omega)
            exact l_goes (D := nfF (fgF lo D)) m (k + 1) ((k : Int) + 1) (by omega) p43.1 hg.1 hg.2.1 hlo (by omega) (by omega) (fun s1 hf1 hs => hP s1 (f42.tr (p43.2.tr hf1)) hs))
       · first
         | (exfalso; omega)
         | (refine w_ldR rfl rfl rfl ?_
            refine w_callV rfl rfl rfl rfl rfl rfl rfl r_drawn ?_
            refine w_push rfl ?_
            refine w_div rfl (by decide) ?_
            refine w_go rfl ?_
            refine w_astk 36 rfl rfl rfl rfl rfl rfl ?_
            generalize hs42 : us _ 147 36 _ = s42
            have h42 : s42 147 = fgF lo D := by
              rw [← hs42, us_eq]
              unfold fgF zF
              first
              | (rw [if_neg (by omega), us_eq, hD])
              | (rw [if_pos (by omega), hD]; funext q; unfold mup; split; rename_i e; rw [e]; rfl)
            have f42 : Fr [147, 151, 153, 154] s s42 := by
              rw [← hs42]
              first
              | exact (Fr.us rfl).tr (Fr.us rfl)
              | exact Fr.us rfl
            refine w_ldR rfl rfl rfl ?_
            refine w_callWN rfl rfl rfl rfl rfl rfl rfl (c_goesBy h42 hf.1 hf.2.1) (fun s43 p43 => ?_)
            refine w_inc_4_3 rfl rfl ?_
            refine w_go rfl ?_
            have hg := nfF_ok hf.1 hf.2.1 (by omega)
            exact l_goes (D := nfF (fgF lo D)) m (k + 1) ((k : Int) + 1) (by omega) p43.1 hg.1 hg.2.1 hlo (by omega) (by omega) (fun s1 hf1 hs => hP s1 (f42.tr (p43.2.tr hf1)) hs)))
termination_by m
decreasing_by all_goals omega
