/-! ===== check ===== -/
/-- two rows of numbers that differ in what is told alone -/
def Ag (E D : Nat → Int) : Prop := ∀ j, j ≠ 44 → E j = D j
theorem Ag.up {E D : Nat → Int} (h : Ag E D) (i : Nat) (v : Int) : Ag (mup E i v) (mup D i v) := fun j hj => by
  unfold mup
  split
  · rfl
  · exact h j hj
theorem Ag.at {E D : Nat → Int} (h : Ag E D) {j : Nat} (hj : j ≠ 44) : E j = D j := h j hj
theorem evN_ag {E D nm : Nat → Int} {b : Int} (h : Ag E D) (hb : 143 ≤ b) : ∀ k, evN nm E b k = evN nm D b k
  | 0 => rfl
  | k + 1 => by
    unfold evN
    rw [evN_ag h hb k, h.at (show (b + (k : Int)).toNat ≠ 44 by omega)]
theorem gv_ag {E D : Nat → Int} (h : Ag E D) {use a b c e : Int} (hu : 0 ≤ use ∧ use ≤ 1) : gv E use a b c e = gv D use a b c e := by
  unfold gv
  rw [h.at (show (121 + use).toNat ≠ 44 by omega), evN_ag h (by omega)]
theorem wtF_ag {E D : Nat → Int} (h : Ag E D) {p : Int} (hp : 0 ≤ p) : wtF E p = wtF D p := by
  unfold wtF
  rw [gv_ag h (by omega), h.at (show (69 + 4 * p + 1).toNat ≠ 44 by omega), h.at (show (69 + 4 * p + 2).toNat ≠ 44 by omega), h.at (show (69 + 4 * p + 3).toNat ≠ 44 by omega), h.at (show (38 : Nat) ≠ 44 by decide)]
theorem lfN_ag {E D : Nat → Int} (h : Ag E D) (dm h0 : Int) : ∀ k, lfN E dm h0 k = lfN D dm h0 k
  | 0 => rfl
  | k + 1 => by
    unfold lfN
    rw [lfN_ag h dm h0 k, gv_ag h (by omega), h.at (show (36 : Nat) ≠ 44 by decide)]
theorem rayF_ag {E D lf : Nat → Int} (h : Ag E D) : ∀ (n k : Nat) (c way : Int) (L : Nat → Int), (0 ≤ c ∧ c < 36) → rayF E lf n k c way L = rayF D lf n k c way L
  | 0, _, _, _, _, _ => rfl
  | n + 1, k, c, way, L, hc => by
    have hx := @nxc_rng c way hc
    unfold rayF
    by_cases h1 : nxc c way < 0
    · rw [if_pos h1, if_pos h1]
    · rw [h.at (show (nxc c way).toNat ≠ 44 by omega), rayF_ag h n _ _ _ _ (by omega)]
theorem liW_ag {E D : Nat → Int} (h : Ag E D) (hM : MOk D) {w : Int} (hw : 0 ≤ w ∧ w < 6) : liW E w = liW D w := by
  have hMW := MOk_w hM hw
  have e1 : shn E w = shn D w := by
    unfold shn
    rw [h.at (show (45 + 4 * w + 0).toNat ≠ 44 by omega), h.at (show (45 + 4 * w + 1).toNat ≠ 44 by omega), h.at (show (38 : Nat) ≠ 44 by decide)]
  have e2 : dms E w = dms D w := by
    unfold dms
    rw [h.at (show (45 + 4 * w + 0).toNat ≠ 44 by omega)]
  have e3 : cwF E w = cwF D w := h.at (show (45 + 4 * w + 2).toNat ≠ 44 by omega)
  have e4 : lfW E w = lfW D w := by
    funext k
    unfold lfW
    rw [e1, e2]
    exact lfN_ag h _ _ k
  have hc : 0 ≤ cwF D w ∧ cwF D w < 36 := by unfold cwF; omega
  unfold liW liF
  rw [e3, e4, rayF_ag h _ _ _ _ _ hc, rayF_ag h _ _ _ _ _ hc, rayF_ag h _ _ _ _ _ hc, rayF_ag h _ _ _ _ _ hc]
theorem mtF_ag {E D L : Nat → Int} (h : Ag E D) : ∀ n, mtF E L n = mtF D L n
  | 0 => rfl
  | n + 1 => by
    unfold mtF
    rw [mtF_ag h n, wtF_ag h (by omega), h.at (show (69 + 4 * (n : Int) + 0).toNat ≠ 44 by omega)]
theorem mtW_ag {E D : Nat → Int} (h : Ag E D) (hM : MOk D) {w : Int} (hw : 0 ≤ w ∧ w < 6) : mtW E w = mtW D w := by
  unfold mtW
  rw [liW_ag h hM hw, mtF_ag h, h.at (show (40 : Nat) ≠ 44 by decide)]
theorem rdD_ag {E D : Nat → Int} (h : Ag E D) {p w : Int} (hp : 0 ≤ p) (hw : 0 ≤ w) : Ag (rdD E p w) (rdD D p w) := by
  have e : rdP E p = rdP D p := by
    unfold rdP
    rw [h.at (show (37 : Nat) ≠ 44 by decide), h.at (show (69 + 4 * p + 2).toNat ≠ 44 by omega)]
  unfold rdD
  rw [e, h.at (show (69 + 4 * p + 3).toNat ≠ 44 by omega), h.at (show (69 + 4 * p + 2).toNat ≠ 44 by omega), h.at (show (45 + 4 * w + 3).toNat ≠ 44 by omega)]
  exact ((h.up _ _).up _ _).up _ _
theorem gbF_ag {w m : Int} (hw : 0 ≤ w) : ∀ (n p : Nat) (E D : Nat → Int), Ag E D → Ag (gbF w m n p E) (gbF w m n p D)
  | 0, p, E, D, h => h
  | n + 1, p, E, D, h => by
    unfold gbF
    refine gbF_ag hw n _ _ _ ?_
    split
    · exact rdD_ag h (by omega) hw
    · exact h
theorem nfF_ag {E D : Nat → Int} (h : Ag E D) (hM : MOk D) : Ag (nfF E) (nfF D) := by
  have hl := litW_rng hM
  have e : litW E = litW D := by
    obtain ⟨hM39, hM40, hM41, hM43, hM44, hM36, hM37, hM38, -⟩ := hM
    unfold litW
    rw [h.at (show (41 : Nat) ≠ 44 by decide), h.at (show (38 : Nat) ≠ 44 by decide)]
    by_cases h1 : D 41 = 0
    · rw [if_pos h1, if_pos h1]
    · have := Int.emod_nonneg (D 38) (show D 41 ≠ 0 by omega)
      rw [if_neg h1, if_neg h1, h.at (by omega)]
  unfold nfF
  rw [h.at (show (38 : Nat) ≠ 44 by decide)]
  refine Ag.up ?_ _ _
  unfold gnF
  rw [e]
  by_cases h1 : litW D < 0
  · rw [if_pos h1, if_pos h1]; exact h
  · rw [if_neg h1, if_neg h1, mtW_ag h hM (by omega), h.at (show (40 : Nat) ≠ 44 by decide)]
    exact gbF_ag (by omega) _ _ _ _ h
theorem sumT_cg {f g : Nat → Int} (h : ∀ i, f i = g i) : ∀ n, sumT f n = sumT g n
  | 0 => rfl
  | n + 1 => by unfold sumT; rw [sumT_cg h n, h n]
theorem roF_ag {E D : Nat → Int} (h : Ag E D) : roF E = roF D := by
  unfold roF
  rw [h.at (show (40 : Nat) ≠ 44 by decide)]
  exact sumT_cg (fun i => h.at (by omega)) _
/-- the first of n tellings, from the k-th on, that is wrong -/
def chN (D : Nat → Int) : Nat → Nat → (Nat → Int) → Int
  | 0, _, _ => 0
  | n + 1, k, E => if w32 (roF (nfF E)) = w32 (D (123 + (k : Int)).toNat) then chN D n (k + 1) (nfF E) else 1 + (k : Int)
theorem chN_ag {D : Nat → Int} : ∀ (n k : Nat) (E F : Nat → Int), Ag E F → MOk F → COk F → F 38 + n ≤ 20000 → chN D n k E = chN D n k F
  | 0, _, _, _, _, _, _, _ => rfl
  | n + 1, k, E, F, h, hM, hC, hn => by
    have h1 := nfF_ag h hM
    have hg := nfF_ok hM hC (by omega)
    unfold chN
    rw [roF_ag h1, chN_ag n (k + 1) _ _ h1 hg.1 hg.2.1 (by omega)]
theorem VN13.clearW {s : mSt} {D : Nat → Int} (hV : VN13 s D) : VN13 (us s 26 1 0) (mup D 44 0) := by
  obtain ⟨vc, vpl, vga, vse, vne, veg, vre, vtu, vta, vwa, v36, v37, v39, v40, v42, v41, v43, v44, vl0, vl1, vlm⟩ := hV
  exact ⟨fun i h1 h2 => by rw [us_ne (by decide), mup_ne (by omega)]; exact vc i h1 h2,
    fun i h1 h2 => by rw [us_ne (by decide), mup_ne (by omega)]; exact vpl i h1 h2,
    fun i h1 h2 => by rw [us_ne (by decide), mup_ne (by omega)]; exact vga i h1 h2,
    fun i h1 h2 => by rw [us_ne (by decide), mup_ne (by omega)]; exact vse i h1 h2,
    fun i h1 h2 => by rw [us_ne (by decide), mup_ne (by omega)]; exact vne i h1 h2,
    fun i h1 h2 => by rw [us_ne (by decide), mup_ne (by omega)]; exact veg i h1 h2,
    fun i h1 h2 => by rw [us_ne (by decide), mup_ne (by omega)]; exact vre i h1 h2,
    fun i h1 h2 => by rw [mup_ne (by omega)] at h2; rw [us_ne (by decide), mup_ne (by omega)]; exact vtu i h1 h2,
    fun i h1 h2 => by rw [mup_ne (by omega)] at h2; rw [us_ne (by decide), mup_ne (by omega)]; exact vta i h1 h2,
    fun i h1 h2 => by rw [mup_eq] at h2; omega,
    by rw [us_ne (by decide), mup_ne (by omega)]; exact v36,
    by rw [us_ne (by decide), mup_ne (by omega)]; exact v37,
    by rw [us_ne (by decide), mup_ne (by omega)]; exact v39,
    by rw [us_ne (by decide), mup_ne (by omega)]; exact v40,
    by rw [us_ne (by decide), mup_ne (by omega)]; exact v42,
    by rw [us_ne (by decide), mup_ne (by omega)]; exact v41,
    by rw [us_ne (by decide), mup_ne (by omega)]; exact v43,
    by rw [us_eq, mup_eq, mup_eq],
    vl0.cg (by omega) (us_ne (by decide)) (us_ne (by decide)) (us_ne (by decide)) (fun j h1 h2 h3 => mup_ne (by omega)),
    vl1.cg (by omega) (us_ne (by decide)) (us_ne (by decide)) (us_ne (by decide)) (fun j h1 h2 h3 => mup_ne (by omega)),
    fun i h1 h2 => by rw [us_ne (by decide), mup_ne (by omega), mup_ne (by omega)]; exact LampAt.fr rfl (Fr.us (A := [26]) rfl) (vlm i h1 h2)⟩
theorem k_at102 {d : Nat} {s : mSt} {i : Int} (hi : -2147483648 ≤ i ∧ i < 2147483648) (hs : 0 ≤ s 102 1 ∧ s 102 1 ≤ 20) : Call (d + 0) 64 [.inr (.inr 102), .inl i] (encA (s)) (some (.inl (rowAt s 102 i))) (encA (s)) := by
  refine CI.ex (CI.mk rfl ?_)
  show WP (d + 0) 64 0 [some (.inr (.inr 102)), some (.inl i)] [] (encA (s)) _
  refine w_ldI rfl rfl ?_
  refine w_irLt0 rfl (by omega) (fun b1 => ?_) (fun b1 => ?_)
  · first
    | (exfalso; omega)
    | (refine w_push rfl ?_
       refine w_retI rfl ?_
       refine ⟨?_, rfl⟩
       unfold rowAt
       first | rw [if_pos (by omega)] | rw [if_neg (by omega)])
  · first
    | (exfalso; omega)
    | (refine w_ldI rfl rfl ?_
       refine w_ldR rfl rfl rfl ?_
       first | refine w_getI rfl rfl rfl rfl rfl ?_ | refine w_getR rfl rfl rfl rfl rfl ?_
       refine w_crGe rfl (by omega) (by omega) (fun b5 => ?_) (fun b5 => ?_)
       · first
         | (exfalso; omega)
         | (refine w_push rfl ?_
            refine w_retI rfl ?_
            refine ⟨?_, rfl⟩
            unfold rowAt
            first | rw [if_pos (by omega)] | rw [if_neg (by omega)])
       · first
         | (exfalso; omega)
         | (refine w_ldR rfl rfl rfl ?_
            first | refine w_getI rfl rfl rfl rfl rfl ?_ | refine w_getR rfl rfl rfl rfl rfl ?_
            refine w_ldI rfl rfl ?_
            refine w_ald rfl rfl rfl (by omega) rfl ?_
            refine w_go rfl ?_
            refine w_retI rfl ?_
            refine ⟨?_, rfl⟩
            unfold rowAt
            first | rw [if_pos (by omega)] | rw [if_neg (by omega)]))
theorem l_check {d : Nat} {s : mSt} {P : Int → mSt → Prop} {s0 : mSt} {D E : Nat → Int} (n k : Nat) (i : Int) (hi : i = (k : Int)) (hf : Fr [89, 93, 96, 97, 114, 122, 128, 129] s0 s) (hwz : s0 102 1 = D 44) (hwr : ∀ i : Int, 0 ≤ i → i < D 44 → s0 103 i.toNat = D (123 + i).toNat) (h44 : 0 ≤ D 44 ∧ D 44 ≤ 20) (hV : VN89 s E) (h8 : s 89 1 = E 38) (hM : MOk E) (hC : COk E) (hk : (k : Int) + n = D 44) (hn : E 38 + n ≤ 20000) (hP : ∀ s1, Fr [89, 93, 96, 97, 114, 122, 128, 129] s0 s1 → P (chN D n k E) s1) : WP (d + 6) 138 11 [some (.inr (.inr 10)), some (.inl i)] [] (encA (s)) (QI P) := by
  subst hi
  have z0 : s 102 1 = D 44 := by rw [hf.at 102 rfl]; exact hwz
  refine w_ldI rfl rfl ?_
  refine w_ldR rfl rfl rfl ?_
  first | refine w_getI rfl rfl rfl rfl rfl ?_ | refine w_getR rfl rfl rfl rfl rfl ?_
  first | refine w_getI rfl rfl rfl rfl rfl ?_ | refine w_getR rfl rfl rfl rfl rfl ?_
  first | refine w_getI rfl rfl rfl rfl rfl ?_ | refine w_getR rfl rfl rfl rfl rfl ?_
  rw [z0]
  refine w_crGe rfl (by omega) (by omega) (fun b16 => ?_) (fun b16 => ?_)
  · first
    | (exfalso; omega)
    | (refine w_push rfl ?_
       refine w_retI rfl ?_
       obtain rfl : n = 0 := by omega
       exact hP s hf)
  · first
    | (exfalso; omega)
    | (obtain ⟨n, rfl⟩ : ∃ q, n = q + 1 := ⟨n - 1, by omega⟩
       refine w_ldR rfl rfl rfl ?_
       first | refine w_getI rfl rfl rfl rfl rfl ?_ | refine w_getR rfl rfl rfl rfl rfl ?_
       refine w_ldR rfl rfl rfl ?_
       first | refine w_getI rfl rfl rfl rfl rfl ?_ | refine w_getR rfl rfl rfl rfl rfl ?_
       refine w_callWN rfl rfl rfl rfl rfl rfl rfl (k_pass89 hV hM hC h8) (fun s21 p21 => ?_)
       refine w_ldR rfl rfl rfl ?_
       first | refine w_getI rfl rfl rfl rfl rfl ?_ | refine w_getR rfl rfl rfl rfl rfl ?_
       refine w_callV rfl rfl rfl rfl rfl rfl rfl (k_rall89 p21.1 (nfF_ok hM hC (by omega)).1) ?_
       refine w_ldR rfl rfl rfl ?_
       first | refine w_getI rfl rfl rfl rfl rfl ?_ | refine w_getR rfl rfl rfl rfl rfl ?_
       first | refine w_getI rfl rfl rfl rfl rfl ?_ | refine w_getR rfl rfl rfl rfl rfl ?_
       refine w_ldI rfl rfl ?_
       refine w_callV rfl rfl rfl rfl rfl rfl rfl (k_at102 (by omega) (by rw [p21.2.2.at 102 rfl]; omega)) ?_
       rw [show rowAt s21 102 (k : Int) = D (123 + (k : Int)).toNat by unfold rowAt; rw [p21.2.2.at 102 rfl, if_pos (by omega), p21.2.2.at (102 + 1) rfl, hf.at (102 + 1) rfl]; exact hwr k (by omega) (by omega)]
       refine w_icEq rfl (fun b30 => ?_) (fun b30 => ?_)
       · first
         | (exfalso; omega)
         | (refine w_inc_2_1 rfl rfl ?_
            refine w_go rfl ?_
            obtain ⟨g1, g2, g3⟩ := p21
            have hg := nfF_ok hM hC (by omega)
            refine l_check (E := nfF E) n (k + 1) ((k : Int) + 1) (by omega) (hf.tr (Fr.mono rfl g3)) hwz hwr h44 g1 (by omega) hg.1 hg.2.1 (by omega) (by omega) (fun s1 h1 => ?_)
            have h3 := hP s1 h1
            unfold chN at h3
            rw [if_pos b30] at h3
            exact h3)
       · first
         | (exfalso; omega)
         | (refine w_push rfl ?_
            refine w_ldI rfl rfl ?_
            refine w_add rfl ?_
            refine w_retI rfl ?_
            have h3 := hP s21 (hf.tr (Fr.mono rfl p21.2.2))
            unfold chN at h3
            rw [if_neg b30] at h3
            exact h3))
termination_by n
decreasing_by all_goals omega
theorem x_check {d : Nat} {s : mSt} (hI : IvD s)  (hu0 : s 111 0 = 0) (hu1 : s 119 0 = 1) : CI (d + 6) 138 [.inr (.inr 10)] (s) (fun r s1 => r = chN (s 147) (s 147 44).toNat 0 (s 147) ∧ VN13 s1 (mup (s 147) 44 0) ∧ s1 13 = s 13 ∧ Fr [89, 90, 91, 92, 93, 94, 95, 96, 97, 98, 99, 100, 101, 102, 103, 112, 113, 120, 121, 114, 122, 128, 129, 26] s s1) := by
  refine CI.mk rfl ?_
  show WP (d + 6) 138 0 [some (.inr (.inr 10)), none] [] (encA (s)) _
  have hI0 := hI
  obtain ⟨⟨hM, hC, hN⟩, hV, h8⟩ := hI
  have hV0 := hV
  have hM0 := hM
  obtain ⟨vc, vpl, vga, vse, vne, veg, vre, vtu, vta, vwa, v36, v37, v39, v40, v42, v41, v43, v44, vl0, vl1, vlm⟩ := hV
  obtain ⟨hM39, hM40, hM41, hM43, hM44, hM36, hM37, hM38, hMc, hMw, hMp, hMt, hMb⟩ := hM
  refine w_ldR rfl rfl rfl ?_
  first | refine w_getI rfl rfl rfl rfl rfl ?_ | refine w_getR rfl rfl rfl rfl rfl ?_
  refine w_ldR rfl rfl rfl ?_
  first | refine w_getI rfl rfl rfl rfl rfl ?_ | refine w_getR rfl rfl rfl rfl rfl ?_
  refine w_callWN rfl rfl rfl rfl rfl rfl rfl (k_copy89_13 hV0 hM0 hC hu0 hu1) (fun s4 p4 => ?_)
  obtain ⟨g1, g2, f4⟩ := p4
  refine w_ldR rfl rfl rfl ?_
  first | refine w_getI rfl rfl rfl rfl rfl ?_ | refine w_getR rfl rfl rfl rfl rfl ?_
  first | refine w_getI rfl rfl rfl rfl rfl ?_ | refine w_getR rfl rfl rfl rfl rfl ?_
  refine w_callWN rfl rfl rfl rfl rfl rfl rfl k_empty26 (fun s8 p8 => ?_)
  have f8 : Fr [26] s4 s8 := by rw [p8]; exact Fr.us rfl
  have hw8 : VN13 s8 (mup (s 147) 44 0) := by rw [p8]; exact (hV0.fr rfl f4).clearW
  refine w_push rfl ?_
  refine w_StI_2_1 rfl rfl ?_
  exact l_check (s0 := s8) (D := s 147) (E := s 147) (s 147 44).toNat 0 0 rfl Fr.rf (by rw [f8.at 102 rfl]; exact g1.2.2.2.2.2.2.2.2.2.2.2.2.2.2.2.2.2.1) (fun i h1 h2 => by rw [f8.at 103 rfl]; exact g1.2.2.2.2.2.2.2.2.2.1 i h1 h2) (by omega) (g1.fr rfl f8) (by rw [f8.at 89 rfl, g2]; exact h8) hM0 hC (by omega) (by omega) (fun s1 h1 => ⟨rfl, hw8.fr rfl h1, by rw [h1.at 13 rfl, f8.at 13 rfl, f4.at 13 rfl], ((Fr.mono rfl f4).tr (Fr.mono rfl f8)).tr (Fr.mono rfl h1)⟩)
theorem l_mcheck {d : Nat} {s : mSt} {Q : mQ} {s0 : mSt} {D E : Nat → Int} {m : Int} (n k : Nat) (i v : Int) (hi : i = (k : Int)) (hm : m = D 44) (hD : s 147 = E) (hEd : ∀ i : Nat, i < 20 → E (123 + i) = D (123 + i)) (hE300 : ∀ i, 300 ≤ i → E i = D i) (h44 : 0 ≤ D 44 ∧ D 44 ≤ 20) (hM : MOk E) (hC : COk E) (hk : (k : Int) + n = D 44) (hn : E 38 + n ≤ 20000) (hv : v = 0) (hf : Fr [147, 151, 153, 154] s0 s) (kk : ∀ s1 i1, Fr [147, 151, 153, 154] s0 s1 → (∀ i, 300 ≤ i → s1 147 i = D i) → WP (d + 7) 262 43 [some (.inr (.inr 146)), some (.inl m), some (.inl (chN D n k E)), i1] [] (encA (s1)) (Q)) : WP (d + 7) 262 19 [some (.inr (.inr 146)), some (.inl m), some (.inl v), some (.inl i)] [] (encA (s)) (Q) := by
  subst hi
  subst hv
  refine w_ldI rfl rfl ?_
  refine w_ldI rfl rfl ?_
  refine w_crGe rfl (by omega) (by omega) (fun b21 => ?_) (fun b21 => ?_)
  · first
    | (exfalso; omega)
    | (obtain rfl : n = 0 := by omega
       exact kk s _ hf (fun i hi => by rw [hD]; exact hE300 i hi))
  · first
    | (exfalso; omega)
    | (obtain ⟨n, rfl⟩ : ∃ q, n = q + 1 := ⟨n - 1, by omega⟩
       refine w_ldI rfl rfl ?_
       refine w_irNe0 rfl (by omega) (fun b23 => ?_) (fun b23 => ?_)
       · first
         | (exfalso; omega)
         | (obtain rfl : n = 0 := by omega
            exact kk s _ hf (fun i hi => by rw [hD]; exact hE300 i hi))
       · first
         | (exfalso; omega)
         | (refine w_ldR rfl rfl rfl ?_
            refine w_callWN rfl rfl rfl rfl rfl rfl rfl (c_goesBy hD hM hC) (fun s25 p25 => ?_)
            refine w_ldR rfl rfl rfl ?_
            refine w_callV rfl rfl rfl rfl rfl rfl rfl (c_readOfAll p25.1 (nfF_ok hM hC (by omega)).1) ?_
            refine w_ldR rfl rfl rfl ?_
            first | refine w_getI rfl rfl rfl rfl rfl ?_ | refine w_getR rfl rfl rfl rfl rfl ?_
            refine w_push rfl ?_
            refine w_ldI rfl rfl ?_
            refine w_add rfl ?_
            refine w_ald rfl rfl rfl (by omega) rfl ?_
            rw [p25.1]
            refine w_icNe rfl (fun b34 => ?_) (fun b34 => ?_)
            · refine w_push rfl ?_
              refine w_ldI rfl rfl ?_
              refine w_add rfl ?_
              refine w_StI_4_2 rfl rfl ?_
              refine w_inc_4_3 rfl rfl ?_
              refine w_go rfl ?_
              refine w_ldI rfl rfl ?_
              refine w_ldI rfl rfl ?_
              have hg := nfF_ok hM hC (by omega)
              have hb : ¬ w32 (roF (nfF E)) = w32 (D (123 + (k : Int)).toNat) := fun hq => b34 (by rw [hq, show (123 + (k : Int)).toNat = 123 + k by omega, hg.2.2.1 (123 + k) (by omega) (by omega), hEd k (by omega)])
              have h3 := kk s25 (some (.inl ((k : Int) + 1))) (hf.tr p25.2) (fun i hi => by rw [p25.1, hg.2.2.1 _ (by omega) (by omega)]; exact hE300 i hi)
              unfold chN at h3
              rw [if_neg hb] at h3
              refine w_crGe rfl (by omega) (by omega) (fun _ => h3) (fun _ => ?_)
              refine w_ldI rfl rfl ?_
              refine w_irNe0 rfl (by omega) (fun _ => h3) (fun hq => by exfalso; omega)
            · first
              | (exfalso; omega)
              | (refine w_push rfl ?_
                 refine w_go rfl ?_
                 refine w_StI_4_2 rfl rfl ?_
                 refine w_inc_4_3 rfl rfl ?_
                 refine w_go rfl ?_
                 have hg := nfF_ok hM hC (by omega)
                 have hb : w32 (roF (nfF E)) = w32 (D (123 + (k : Int)).toNat) := by rw [b34, show (123 + (k : Int)).toNat = 123 + k by omega, hg.2.2.1 (123 + k) (by omega) (by omega), hEd k (by omega)]
                 refine l_mcheck (E := nfF E) n (k + 1) ((k : Int) + 1) 0 (by omega) hm p25.1 (fun i hi => by rw [hg.2.2.1 _ (by omega) (by omega)]; exact hEd i hi) (fun i hi => by rw [hg.2.2.1 _ (by omega) (by omega)]; exact hE300 i hi) h44 hg.1 hg.2.1 (by omega) (by omega) rfl (hf.tr p25.2) (fun s1 i1 h1 h2 => ?_)
                 have h3 := kk s1 i1 h1 h2
                 unfold chN at h3
                 rw [if_pos hb] at h3
                 exact h3)))
termination_by n
decreasing_by all_goals omega
theorem z_mcheck {d : Nat} {s s0 : mSt} {m v : Int} {F : Nat → Int} {i1 : Option mAV} (hf : Fr [147, 151, 153, 154] s0 s) (h8 : s0 148 = F) (ht : ∀ i, 300 ≤ i → s 147 i = F i) : WP (d + 7) 262 43 [some (.inr (.inr 146)), some (.inl m), some (.inl v), i1] [] (encA (s)) (QI (fun r s1 => r = v ∧ s1 147 = F ∧ s1 148 = F ∧ Fr [147, 151, 153, 154] s0 s1)) := by
  refine w_ldR rfl rfl rfl ?_
  first | refine w_getI rfl rfl rfl rfl rfl ?_ | refine w_getR rfl rfl rfl rfl rfl ?_
  refine w_ldR rfl rfl rfl ?_
  first | refine w_getI rfl rfl rfl rfl rfl ?_ | refine w_getR rfl rfl rfl rfl rfl ?_
  refine w_call rfl rfl rfl (r_copies_148_147 (fun i hi => by rw [hf.at 148 rfl, h8]; exact (ht i hi).symm)) ?_
  refine w_ldI rfl rfl ?_
  refine w_retI rfl ?_
  exact ⟨rfl, by rw [ua_eq, hf.at 148 rfl, h8], by rw [ua_ne (by decide), hf.at 148 rfl, h8], hf.tr (Fr.ua rfl)⟩
theorem m_check {d : Nat} {s : mSt} {D : Nat → Int} (hD : s 147 = D) (hM : MOk D) (hC : COk D)  (hN9 : D 38 ≤ 9999) (ht : ∀ i, 300 ≤ i → s 147 i = s 148 i) : CI (d + 7) 262 [.inr (.inr 146)] (s) (fun r s1 => r = chN D (D 44).toNat 0 D ∧ s1 147 = mup D 44 0 ∧ s1 148 = mup D 44 0 ∧ Fr [147, 148, 151, 153, 154] s s1) := by
  refine CI.mk rfl ?_
  show WP (d + 7) 262 0 [some (.inr (.inr 146)), none, none, none] [] (encA (s)) _
  have hM0 := hM
  obtain ⟨hM39, hM40, hM41, hM43, hM44, hM36, hM37, hM38, hMc, hMw, hMp, hMt, hMb⟩ := hM
  have hA : Ag (mup D 44 0) D := fun j hj => mup_ne hj
  have hMF : MOk (mup D 44 0) := MOk_set hM0 ⟨by omega, by omega, by omega, by omega, by omega, by omega, by omega, by omega, by omega, fun w hw => ⟨by omega, by omega, by omega, by omega⟩, fun p hp => ⟨by omega, by omega, by omega, by omega⟩, fun j hj => by omega, fun j hj => by omega⟩
  have hCF : COk (mup D 44 0) := COk_set2 (by omega) hC
  refine w_ldR rfl rfl rfl ?_
  first | refine w_getI rfl rfl rfl rfl rfl ?_ | refine w_getR rfl rfl rfl rfl rfl ?_
  refine w_push rfl ?_
  refine w_aldk 44 rfl rfl rfl rfl rfl rfl ?_
  rw [hD]
  refine w_StI_4_1 rfl rfl ?_
  refine w_ldR rfl rfl rfl ?_
  first | refine w_getI rfl rfl rfl rfl rfl ?_ | refine w_getR rfl rfl rfl rfl rfl ?_
  refine w_push rfl ?_
  refine w_push rfl ?_
  refine w_astk 44 rfl rfl rfl rfl rfl rfl ?_
  refine w_push rfl ?_
  refine w_StI_4_2 rfl rfl ?_
  refine w_ldR rfl rfl rfl ?_
  first | refine w_getI rfl rfl rfl rfl rfl ?_ | refine w_getR rfl rfl rfl rfl rfl ?_
  refine w_ldR rfl rfl rfl ?_
  first | refine w_getI rfl rfl rfl rfl rfl ?_ | refine w_getR rfl rfl rfl rfl rfl ?_
  refine w_call rfl rfl rfl (r_copies_147_148 (fun i hi => by rw [us_eq, mup_ne (by omega), us_ne (by decide)]; exact ht i hi)) ?_
  refine w_push rfl ?_
  refine w_StI_4_3 rfl rfl ?_
  refine l_mcheck (s0 := _) (D := D) (E := mup D 44 0) (D 44).toNat 0 0 0 rfl rfl (by rw [ua_ne (by decide), us_eq, hD]) (fun i hi => mup_ne (by omega)) (fun i hi => mup_ne (by omega)) (by omega) hMF hCF (by omega) (by rw [mup_ne (by decide)]; omega) rfl Fr.rf (fun s1 i1 h1 h2 => ?_)
  rw [chN_ag (D (44)).toNat 0 (mup D 44 0) D hA hM0 hC (by omega)]
  refine WP.imp (z_mcheck (F := mup D 44 0) h1 (by rw [ua_eq, us_eq, hD]) (fun i hi => by rw [h2 i hi, mup_ne (by omega)])) (fun r h' hq => ?_)
  obtain ⟨v, t, e1, e2, e3, e4, e5, e6⟩ := hq
  exact ⟨v, t, e1, e2, e3, e4, e5, ((Fr.us rfl).tr (Fr.ua rfl)).tr (Fr.mono rfl e6)⟩
theorem st_check {X : Nat → Int} {N : Int} {d : Nat} {s : mSt} {cnt : Int} (hI : Inv X N s cnt)  : Step X N (d + 150) s cnt 138 262 [] := by
  have hI0 := hI
  obtain ⟨hD, -, -, -, -, hT, -, hX, hU⟩ := hI
  have hD0 := hD
  obtain ⟨⟨hM, hC, hN⟩, hV, h8⟩ := hD
  have hV0 := hV
  have hM0 := hM
  obtain ⟨vc, vpl, vga, vse, vne, veg, vre, vtu, vta, vwa, v36, v37, v39, v40, v42, v41, v43, v44, vl0, vl1, vlm⟩ := hV
  obtain ⟨hM39, hM40, hM41, hM43, hM44, hM36, hM37, hM38, hMc, hMw, hMp, hMt, hMb⟩ := hM
  obtain ⟨r1, s1, k1, hr, hV1, e13, f1⟩ := x_check (d := d + 144) hD0 hU.2.2.1 hU.2.2.2
  have e : s1 147 = s 147 := f1.at 147 rfl
  obtain ⟨r2, s2, k2, hr2, e2, e8, f2⟩ := m_check (d := d + 143) (s := s1) e hM0 hC hN (fun i hi => by rw [f1.at 147 rfl, f1.at 148 rfl, (hT i hi).1, (hT i hi).2.1])
  refine Step.mk (by first | exact ⟨(f1.at 1 rfl).trans hX.2.1, (congrFun (f1.at 0 rfl) 1).trans hX.2.2⟩ | exact ⟨hX.2.1, hX.2.2⟩ | exact ⟨by rw [hs1, us_ne (by decide)]; exact hX.2.1, by rw [hs1, us_ne (by decide)]; exact hX.2.2⟩ | exact ⟨by rw [hs1, us_ne (by decide), us_ne (by decide)]; exact hX.2.1, by rw [hs1, us_ne (by decide), us_ne (by decide)]; exact hX.2.2⟩ | exact ⟨by rw [e1, us_ne (by decide), f1.at 1 rfl]; exact hX.2.1, by rw [e1, us_ne (by decide), f1.at 0 rfl]; exact hX.2.2⟩ | exact ⟨by rw [ft.at 1 rfl, hx 1 (by decide) (by decide)]; exact hX.2.1, by rw [ft.at 0 rfl, et, newL_0, mup_ne (by decide)]; exact hX.2.2⟩) k1 k2 (by rw [hr, hr2]) ?_
  have hf := (Fr.mono (B := [89, 90, 91, 92, 93, 94, 95, 96, 97, 98, 99, 100, 101, 102, 103, 112, 113, 120, 121, 114, 122, 128, 129, 26, 147, 148, 151, 153, 154]) rfl f1).tr (Fr.mono rfl f2)
  refine hI0.vil rfl rfl (by omega) hf (IvD.mk e2 (MOk_set hM0 ⟨by omega, by omega, by omega, by omega, by omega, by omega, by omega, by omega, by omega, fun w hw => ⟨by omega, by omega, by omega, by omega⟩, fun p hp => ⟨by omega, by omega, by omega, by omega⟩, fun j hj => by omega, fun j hj => by omega⟩) (COk_set2 (by omega) hC) (by rw [mup_ne (by decide)]; exact hN) (hV1.fr (s1 := s2) rfl f2) (by rw [f2.at 13 rfl, e13, mup_ne (by decide)]; exact h8)) (fun i hi => ⟨by rw [e2, mup_ne (by omega)]; exact (hT i hi).1, by rw [e8, mup_ne (by omega)]; exact (hT i hi).1, by rw [hf.at 149 rfl]; exact (hT i hi).2.2⟩)
