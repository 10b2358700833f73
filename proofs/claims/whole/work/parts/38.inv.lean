/-! ===== what holds between two calls ===== -/
def IvD (s : mSt) : Prop := (MOk (s 147) ∧ COk (s 147) ∧ s 147 38 ≤ 9999) ∧ VN13 s (s 147) ∧ s 13 1 = s 147 38
def IvI (s : mSt) (cnt : Int) : Prop := s 10 8 = s 146 3 ∧ 0 ≤ s 146 3 ∧ s 146 3 ≤ cnt ∧ (0 < s 146 3 → (MOk (s 149) ∧ COk (s 149) ∧ s 149 38 ≤ 9999) ∧ VN51 s (s 149) ∧ s 51 1 = s 149 38)
def IvE (s : mSt) : Prop := ∀ k : Int, 1 ≤ k → k ≤ 5 → s 132 k.toNat = s 150 k.toNat
def IvR (s : mSt) : Prop := s 11 1 = s 146 21 ∧ (0 ≤ s 146 21 ∧ s 146 21 ≤ 40) ∧ ∀ i : Int, 0 ≤ i → i < s 146 21 → s 12 i.toNat = s 159 i.toNat
/-- the reference's number y and the class's x, by bits -/
def ShN (b x y : Int) : Prop := (b = 8 ∧ 0 ≤ x ∧ x < 256 ∧ -128 ≤ y ∧ y < 128 ∧ (x = y ∨ x = y + 256)) ∨ (b = 16 ∧ 0 ≤ x ∧ x < 65536 ∧ -32768 ≤ y ∧ y < 32768 ∧ (x = y ∨ x = y + 65536)) ∨ (b = 32 ∧ x = y ∧ -2147483648 ≤ x ∧ x < 2147483648) ∨ (b = 0 ∧ x = 0 ∧ y = 0)
def ShR (s : mSt) (r k : Nat) : Prop := s 131 k = s 160 k ∧ (s 160 k = 0 ∨ s 160 k = 8 ∨ s 160 k = 16 ∨ s 160 k = 32) ∧ (0 ≤ s 161 k ∧ s 161 k ≤ 40) ∧ s r 1 = s 161 k ∧ ∀ i : Int, 0 ≤ i → i < 40 → ShN (s 160 k) (s (r + 1) i.toNat) (s 162 (40 * (k : Int) + i).toNat)
def IvS (s : mSt) : Prop := ShR s 138 0 ∧ ShR s 140 1 ∧ ShR s 142 2 ∧ ShR s 144 3
def IvT (s : mSt) : Prop := ∀ i, 300 ≤ i → s 147 i = 0 ∧ s 148 i = 0 ∧ s 149 i = 0
def IvL (s : mSt) (cnt : Int) : Prop := 0 ≤ s 0 0 ∧ s 0 0 ≤ cnt
def IvX (X : Nat → Int) (N : Int) (s : mSt) : Prop := (∀ i, -2147483648 ≤ X i ∧ X i < 2147483648) ∧ s 1 = X ∧ s 0 1 = N
def IvU (s : mSt) : Prop := s 73 0 = 0 ∧ s 81 0 = 1 ∧ s 111 0 = 0 ∧ s 119 0 = 1
def Inv (X : Nat → Int) (N : Int) (s : mSt) (cnt : Int) : Prop := IvD s ∧ IvI s cnt ∧ IvE s ∧ IvR s ∧ IvS s ∧ IvT s ∧ IvL s cnt ∧ IvX X N s ∧ IvU s
theorem ndj {A B : List Nat} (h : A.all (fun x => !(B.contains x)) = true) {x : Nat} (hx : B.contains x = true) : A.contains x = false := by
  cases hc : A.contains x
  · rfl
  · have := List.all_eq_true.mp h x (by simpa using hc)
    rw [hx] at this
    cases this
def adD : List Nat := [13, 14, 15, 16, 17, 18, 19, 20, 21, 22, 23, 24, 25, 26, 27, 35, 36, 37, 43, 44, 45, 147]
def adI : List Nat := [51, 52, 53, 54, 55, 56, 57, 58, 59, 60, 61, 62, 63, 64, 65, 73, 74, 75, 81, 82, 83, 10, 146, 149]
def noL (A : List Nat) : Bool := A.all (fun x => !(lampAdr x) && !(x == 0) && !(x == 1))
theorem IvD.fr {A : List Nat} {s s1 : mSt} (h1 : A.all (fun x => !(vad13 x)) = true) (h2 : A.contains 147 = false) (hf : Fr A s s1) (h : IvD s) : IvD s1 := by
  obtain ⟨hM, hV, h8⟩ := h
  have e := hf.at 147 h2
  have e3 : s1 13 = s 13 := hf.at 13 (by
    cases hc : A.contains 13
    · rfl
    · have := List.all_eq_true.mp h1 13 (by simpa using hc)
      cases this)
  unfold IvD
  rw [e, e3]
  exact ⟨hM, hV.fr h1 hf, h8⟩
theorem IvI.fr {A : List Nat} {s s1 : mSt} {cnt cnt1 : Int} (h1 : A.all (fun x => !(vad51 x)) = true) (h2 : A.contains 149 = false) (h3 : s1 10 8 = s 10 8) (h4 : s1 146 3 = s 146 3) (hc : cnt ≤ cnt1) (hf : Fr A s s1) (h : IvI s cnt) : IvI s1 cnt1 := by
  obtain ⟨a, b, c, q⟩ := h
  have e := hf.at 149 h2
  have e3 : s1 51 = s 51 := hf.at 51 (by
    cases hc : A.contains 51
    · rfl
    · have := List.all_eq_true.mp h1 51 (by simpa using hc)
      cases this)
  unfold IvI
  rw [e, e3, h3, h4]
  exact ⟨a, b, by omega, fun h0 => ⟨(q h0).1, (q h0).2.1.fr h1 hf, (q h0).2.2⟩⟩
theorem IvE.fr {A : List Nat} {s s1 : mSt} (h1 : A.contains 132 = false) (h2 : A.contains 150 = false) (hf : Fr A s s1) (h : IvE s) : IvE s1 := fun k a b => by
  rw [hf.at 132 h1, hf.at 150 h2]
  exact h k a b
theorem IvR.fr {A : List Nat} {s s1 : mSt} (h1 : A.contains 11 = false) (h2 : A.contains 12 = false) (h3 : A.contains 159 = false) (h4 : s1 146 21 = s 146 21) (hf : Fr A s s1) (h : IvR s) : IvR s1 := by
  unfold IvR
  rw [hf.at 11 h1, hf.at 12 h2, hf.at 159 h3, h4]
  exact h
theorem IvS.fr {A : List Nat} {s s1 : mSt} (h1 : A.all (fun x => !([131, 138, 139, 140, 141, 142, 143, 144, 145, 160, 161, 162].contains x)) = true) (hf : Fr A s s1) (h : IvS s) : IvS s1 := by
  unfold IvS ShR
  rw [hf.at 131 (ndj h1 rfl), hf.at 138 (ndj h1 rfl), hf.at (138 + 1) (ndj h1 rfl), hf.at 140 (ndj h1 rfl), hf.at (140 + 1) (ndj h1 rfl), hf.at 142 (ndj h1 rfl), hf.at (142 + 1) (ndj h1 rfl), hf.at 144 (ndj h1 rfl), hf.at (144 + 1) (ndj h1 rfl), hf.at 160 (ndj h1 rfl), hf.at 161 (ndj h1 rfl), hf.at 162 (ndj h1 rfl)]
  exact h
theorem IvT.fr {A : List Nat} {s s1 : mSt} (h1 : A.all (fun x => !([147, 148, 149].contains x)) = true) (hf : Fr A s s1) (h : IvT s) : IvT s1 := fun i hi => by
  rw [hf.at 147 (ndj h1 rfl), hf.at 148 (ndj h1 rfl), hf.at 149 (ndj h1 rfl)]
  exact h i hi
theorem IvL.fr {A : List Nat} {s s1 : mSt} {cnt cnt1 : Int} (h1 : A.contains 0 = false) (hc : cnt ≤ cnt1) (hf : Fr A s s1) (h : IvL s cnt) : IvL s1 cnt1 := by
  unfold IvL
  rw [hf.at 0 h1]
  exact ⟨h.1, Int.le_trans h.2 hc⟩
theorem IvX.fr {A : List Nat} {X : Nat → Int} {N : Int} {s s1 : mSt} (h0 : A.contains 0 = false) (h1 : A.contains 1 = false) (hf : Fr A s s1) (h : IvX X N s) : IvX X N s1 := by
  unfold IvX
  rw [hf.at 1 h1, hf.at 0 h0]
  exact h
theorem IvU.fr {A : List Nat} {s s1 : mSt} (h1 : A.contains 73 = false) (h2 : A.contains 81 = false) (h3 : A.contains 111 = false) (h4 : A.contains 119 = false) (hf : Fr A s s1) (h : IvU s) : IvU s1 := by
  unfold IvU
  rw [hf.at 73 h1, hf.at 81 h2, hf.at 111 h3, hf.at 119 h4]
  exact h
/-- only what is looked at anew each time has changed -/
def scr : List Nat := [38, 46, 89, 90, 91, 92, 93, 94, 95, 96, 97, 98, 99, 100, 101, 102, 103, 112, 113, 114, 120, 121, 122, 128, 129, 133, 134, 135, 136, 137, 151, 152, 153, 154, 155, 156, 157, 158, 163]
theorem Inv.scr {s s1 : mSt} {X : Nat → Int} {N : Int} {cnt cnt1 : Int} (hc : cnt ≤ cnt1) (hf : Fr scr s s1) (h : Inv X N s cnt) : Inv X N s1 cnt1 := by
  obtain ⟨a1, a2, a3, a4, a5, a6, a7, a8, a9⟩ := h
  exact ⟨a1.fr rfl rfl hf, a2.fr rfl rfl (by rw [hf.at 10 rfl]) (by rw [hf.at 146 rfl]) hc hf, a3.fr rfl rfl hf, a4.fr rfl rfl rfl (by rw [hf.at 146 rfl]) hf, a5.fr rfl hf, a6.fr rfl hf, a7.fr rfl hc hf, a8.fr rfl rfl hf, a9.fr rfl rfl rfl rfl hf⟩
/-- an error is told on both sides -/
theorem Inv.err {s : mSt} {X : Nat → Int} {N : Int} {cnt cnt1 : Int} {k : Nat} (hc : cnt ≤ cnt1) (h : Inv X N s cnt) : Inv X N (us (us s 132 k (s 132 k + 1)) 150 k (s 150 k + 1)) cnt1 := by
  have hf : Fr [132, 150] s (us (us s 132 k (s 132 k + 1)) 150 k (s 150 k + 1)) := (Fr.us rfl).tr (Fr.us rfl)
  obtain ⟨a1, a2, a3, a4, a5, a6, a7, a8, a9⟩ := h
  refine ⟨a1.fr rfl rfl hf, a2.fr rfl rfl (by rw [hf.at 10 rfl]) (by rw [hf.at 146 rfl]) hc hf, ?_, a4.fr rfl rfl rfl (by rw [hf.at 146 rfl]) hf, a5.fr rfl hf, a6.fr rfl hf, a7.fr rfl hc hf, a8.fr rfl rfl hf, a9.fr rfl rfl rfl rfl hf⟩
  intro q h1 h2
  have e := a3 q h1 h2
  rw [us_eq, us_ne (by decide), us_eq]
  unfold mup
  by_cases hq : q.toNat = k
  · rw [if_pos hq, if_pos hq, ← hq, e]
  · rw [if_neg hq, if_neg hq]; exact e
/-- the village alone has changed, on both sides -/
theorem Inv.vil {s s1 : mSt} {X : Nat → Int} {N : Int} {cnt cnt1 : Int} {A : List Nat} (hA : A.all (fun x => !([0, 1, 10, 11, 12, 131, 132, 138, 139, 140, 141, 142, 143, 144, 145, 146, 149, 150, 159, 160, 161, 162, 73, 81, 111, 119].contains x)) = true) (h51 : A.all (fun x => !(vad51 x)) = true) (hc : cnt ≤ cnt1) (hf : Fr A s s1) (hD : IvD s1) (hT : IvT s1) (h : Inv X N s cnt) : Inv X N s1 cnt1 := by
  obtain ⟨a1, a2, a3, a4, a5, a6, a7, a8, a9⟩ := h
  have no : ∀ x, [0, 1, 10, 11, 12, 131, 132, 138, 139, 140, 141, 142, 143, 144, 145, 146, 149, 150, 159, 160, 161, 162, 73, 81, 111, 119].contains x = true → A.contains x = false := fun x hx => ndj hA hx
  refine ⟨hD, a2.fr h51 (no 149 rfl) (by rw [hf.at 10 (no 10 rfl)]) (by rw [hf.at 146 (no 146 rfl)]) hc hf, a3.fr (no 132 rfl) (no 150 rfl) hf, a4.fr (no 11 rfl) (no 12 rfl) (no 159 rfl) (by rw [hf.at 146 (no 146 rfl)]) hf, a5.fr ?_ hf, hT, a7.fr (no 0 rfl) hc hf, a8.fr (no 0 rfl) (no 1 rfl) hf, a9.fr (no 73 rfl) (no 81 rfl) (no 111 rfl) (no 119 rfl) hf⟩
  refine List.all_eq_true.mpr (fun x hx => ?_)
  have h1 := List.all_eq_true.mp hA x hx
  simp only [List.contains_cons, Bool.not_or, Bool.and_eq_true] at h1 ⊢
  simp only [h1, and_self, true_and]
  try simp
/-- one call on both sides -/
def Step (X : Nat → Int) (N : Int) (d : Nat) (s : mSt) (cnt : Int) (mx mm : Nat) (as : List mAV) : Prop := ∃ r s1 s2, Call d mx (.inr (.inr 10) :: as) (encA s) (some (.inl r)) (encA s1) ∧ (s1 1 = X ∧ s1 0 1 = N) ∧ Call d mm (.inr (.inr 146) :: as) (encA s1) (some (.inl r)) (encA s2) ∧ Inv X N s2 (cnt + 1)
theorem k_isLamp {d : Nat} {s : mSt} {c : Int} (hc : -2147483648 ≤ c ∧ c < 2147483648) : Call (d + 0) 143 [.inl c] (encA (s)) (some (.inl (bI (0 ≤ c ∧ c < 70)))) (encA (s)) := by
  refine CI.ex (CI.mk rfl ?_)
  show WP (d + 0) 143 0 [some (.inl c)] [] (encA (s)) _
  refine w_ldI rfl rfl ?_
  refine w_irLt0 rfl (by omega) (fun b1 => ?_) (fun b1 => ?_)
  · first
    | (exfalso; omega)
    | (refine w_push rfl ?_
       refine w_retB rfl (by first | exact bI_01 _ | decide | omega) ?_
       refine ⟨?_, rfl⟩
       unfold bI
       first | rw [if_pos (by omega)] | rw [if_neg (by omega)])
  · first
    | (exfalso; omega)
    | (refine w_ldI rfl rfl ?_
       refine w_push rfl ?_
       refine w_crGe rfl (by omega) (by omega) (fun b4 => ?_) (fun b4 => ?_)
       · first
         | (exfalso; omega)
         | (refine w_push rfl ?_
            refine w_retB rfl (by first | exact bI_01 _ | decide | omega) ?_
            refine ⟨?_, rfl⟩
            unfold bI
            first | rw [if_pos (by omega)] | rw [if_neg (by omega)])
       · first
         | (exfalso; omega)
         | (refine w_push rfl ?_
            refine w_go rfl ?_
            refine w_retB rfl (by first | exact bI_01 _ | decide | omega) ?_
            refine ⟨?_, rfl⟩
            unfold bI
            first | rw [if_pos (by omega)] | rw [if_neg (by omega)]))
theorem k_isUse {d : Nat} {s : mSt} {c : Int} (hc : -2147483648 ≤ c ∧ c < 2147483648) : Call (d + 0) 144 [.inl c] (encA (s)) (some (.inl (bI (0 ≤ c ∧ c < 2)))) (encA (s)) := by
  refine CI.ex (CI.mk rfl ?_)
  show WP (d + 0) 144 0 [some (.inl c)] [] (encA (s)) _
  refine w_ldI rfl rfl ?_
  refine w_irLt0 rfl (by omega) (fun b1 => ?_) (fun b1 => ?_)
  · first
    | (exfalso; omega)
    | (refine w_push rfl ?_
       refine w_retB rfl (by first | exact bI_01 _ | decide | omega) ?_
       refine ⟨?_, rfl⟩
       unfold bI
       first | rw [if_pos (by omega)] | rw [if_neg (by omega)])
  · first
    | (exfalso; omega)
    | (refine w_ldI rfl rfl ?_
       refine w_push rfl ?_
       refine w_crGe rfl (by omega) (by omega) (fun b4 => ?_) (fun b4 => ?_)
       · first
         | (exfalso; omega)
         | (refine w_push rfl ?_
            refine w_retB rfl (by first | exact bI_01 _ | decide | omega) ?_
            refine ⟨?_, rfl⟩
            unfold bI
            first | rw [if_pos (by omega)] | rw [if_neg (by omega)])
       · first
         | (exfalso; omega)
         | (refine w_push rfl ?_
            refine w_go rfl ?_
            refine w_retB rfl (by first | exact bI_01 _ | decide | omega) ?_
            refine ⟨?_, rfl⟩
            unfold bI
            first | rw [if_pos (by omega)] | rw [if_neg (by omega)]))
theorem k_isAhead {d : Nat} {s : mSt} {c : Int} (hc : -2147483648 ≤ c ∧ c < 2147483648) : Call (d + 0) 145 [.inl c] (encA (s)) (some (.inl (bI (0 ≤ c ∧ c ≤ 100)))) (encA (s)) := by
  refine CI.ex (CI.mk rfl ?_)
  show WP (d + 0) 145 0 [some (.inl c)] [] (encA (s)) _
  refine w_ldI rfl rfl ?_
  refine w_irLt0 rfl (by omega) (fun b1 => ?_) (fun b1 => ?_)
  · first
    | (exfalso; omega)
    | (refine w_push rfl ?_
       refine w_retB rfl (by first | exact bI_01 _ | decide | omega) ?_
       refine ⟨?_, rfl⟩
       unfold bI
       first | rw [if_pos (by omega)] | rw [if_neg (by omega)])
  · first
    | (exfalso; omega)
    | (refine w_ldI rfl rfl ?_
       refine w_push rfl ?_
       refine w_crGt rfl (by omega) (by omega) (fun b4 => ?_) (fun b4 => ?_)
       · first
         | (exfalso; omega)
         | (refine w_push rfl ?_
            refine w_retB rfl (by first | exact bI_01 _ | decide | omega) ?_
            refine ⟨?_, rfl⟩
            unfold bI
            first | rw [if_pos (by omega)] | rw [if_neg (by omega)])
       · first
         | (exfalso; omega)
         | (refine w_push rfl ?_
            refine w_go rfl ?_
            refine w_retB rfl (by first | exact bI_01 _ | decide | omega) ?_
            refine ⟨?_, rfl⟩
            unfold bI
            first | rw [if_pos (by omega)] | rw [if_neg (by omega)]))
theorem k_isSheet {d : Nat} {s : mSt} {c : Int} (hc : -2147483648 ≤ c ∧ c < 2147483648) : Call (d + 0) 146 [.inl c] (encA (s)) (some (.inl (bI (0 ≤ c ∧ c < 4)))) (encA (s)) := by
  refine CI.ex (CI.mk rfl ?_)
  show WP (d + 0) 146 0 [some (.inl c)] [] (encA (s)) _
  refine w_ldI rfl rfl ?_
  refine w_irLt0 rfl (by omega) (fun b1 => ?_) (fun b1 => ?_)
  · first
    | (exfalso; omega)
    | (refine w_push rfl ?_
       refine w_retB rfl (by first | exact bI_01 _ | decide | omega) ?_
       refine ⟨?_, rfl⟩
       unfold bI
       first | rw [if_pos (by omega)] | rw [if_neg (by omega)])
  · first
    | (exfalso; omega)
    | (refine w_ldI rfl rfl ?_
       refine w_push rfl ?_
       refine w_crGe rfl (by omega) (by omega) (fun b4 => ?_) (fun b4 => ?_)
       · first
         | (exfalso; omega)
         | (refine w_push rfl ?_
            refine w_retB rfl (by first | exact bI_01 _ | decide | omega) ?_
            refine ⟨?_, rfl⟩
            unfold bI
            first | rw [if_pos (by omega)] | rw [if_neg (by omega)])
       · first
         | (exfalso; omega)
         | (refine w_push rfl ?_
            refine w_go rfl ?_
            refine w_retB rfl (by first | exact bI_01 _ | decide | omega) ?_
            refine ⟨?_, rfl⟩
            unfold bI
            first | rw [if_pos (by omega)] | rw [if_neg (by omega)]))
theorem k_isWindow {d : Nat} {s : mSt} {c : Int} (hc : -2147483648 ≤ c ∧ c < 2147483648) (hs : -2147483648 ≤ s 13 5 ∧ s 13 5 < 2147483648) : Call (d + 0) 148 [.inr (.inr 10), .inl c] (encA (s)) (some (.inl (bI (0 ≤ c ∧ c < s 13 5)))) (encA (s)) := by
  refine CI.ex (CI.mk rfl ?_)
  show WP (d + 0) 148 0 [some (.inr (.inr 10)), some (.inl c)] [] (encA (s)) _
  refine w_ldI rfl rfl ?_
  refine w_irLt0 rfl (by omega) (fun b1 => ?_) (fun b1 => ?_)
  · first
    | (exfalso; omega)
    | (refine w_push rfl ?_
       refine w_retB rfl (by first | exact bI_01 _ | decide | omega) ?_
       refine ⟨?_, rfl⟩
       unfold bI
       first | rw [if_pos (by omega)] | rw [if_neg (by omega)])
  · first
    | (exfalso; omega)
    | (refine w_ldI rfl rfl ?_
       refine w_ldR rfl rfl rfl ?_
       first | refine w_getI rfl rfl rfl rfl rfl ?_ | refine w_getR rfl rfl rfl rfl rfl ?_
       first | refine w_getI rfl rfl rfl rfl rfl ?_ | refine w_getR rfl rfl rfl rfl rfl ?_
       refine w_crGe rfl (by omega) (by omega) (fun b6 => ?_) (fun b6 => ?_)
       · first
         | (exfalso; omega)
         | (refine w_push rfl ?_
            refine w_retB rfl (by first | exact bI_01 _ | decide | omega) ?_
            refine ⟨?_, rfl⟩
            unfold bI
            first | rw [if_pos (by omega)] | rw [if_neg (by omega)])
       · first
         | (exfalso; omega)
         | (refine w_push rfl ?_
            refine w_go rfl ?_
            refine w_retB rfl (by first | exact bI_01 _ | decide | omega) ?_
            refine ⟨?_, rfl⟩
            unfold bI
            first | rw [if_pos (by omega)] | rw [if_neg (by omega)]))
theorem k_isPerson {d : Nat} {s : mSt} {c : Int} (hc : -2147483648 ≤ c ∧ c < 2147483648) (hs : -2147483648 ≤ s 13 9 ∧ s 13 9 < 2147483648) : Call (d + 0) 149 [.inr (.inr 10), .inl c] (encA (s)) (some (.inl (bI (0 ≤ c ∧ c < s 13 9)))) (encA (s)) := by
  refine CI.ex (CI.mk rfl ?_)
  show WP (d + 0) 149 0 [some (.inr (.inr 10)), some (.inl c)] [] (encA (s)) _
  refine w_ldI rfl rfl ?_
  refine w_irLt0 rfl (by omega) (fun b1 => ?_) (fun b1 => ?_)
  · first
    | (exfalso; omega)
    | (refine w_push rfl ?_
       refine w_retB rfl (by first | exact bI_01 _ | decide | omega) ?_
       refine ⟨?_, rfl⟩
       unfold bI
       first | rw [if_pos (by omega)] | rw [if_neg (by omega)])
  · first
    | (exfalso; omega)
    | (refine w_ldI rfl rfl ?_
       refine w_ldR rfl rfl rfl ?_
       first | refine w_getI rfl rfl rfl rfl rfl ?_ | refine w_getR rfl rfl rfl rfl rfl ?_
       first | refine w_getI rfl rfl rfl rfl rfl ?_ | refine w_getR rfl rfl rfl rfl rfl ?_
       refine w_crGe rfl (by omega) (by omega) (fun b6 => ?_) (fun b6 => ?_)
       · first
         | (exfalso; omega)
         | (refine w_push rfl ?_
            refine w_retB rfl (by first | exact bI_01 _ | decide | omega) ?_
            refine ⟨?_, rfl⟩
            unfold bI
            first | rw [if_pos (by omega)] | rw [if_neg (by omega)])
       · first
         | (exfalso; omega)
         | (refine w_push rfl ?_
            refine w_go rfl ?_
            refine w_retB rfl (by first | exact bI_01 _ | decide | omega) ?_
            refine ⟨?_, rfl⟩
            unfold bI
            first | rw [if_pos (by omega)] | rw [if_neg (by omega)]))
theorem k_error1 {d : Nat} {s : mSt}  : CI (d + 0) 141 [.inr (.inr 10), .inl 1] (s) (fun v s1 => v = -1000000000 - 1 ∧ s1 = us s 132 1 (s 132 1 + 1)) := by
  refine CI.mk rfl ?_
  show WP (d + 0) 141 0 [some (.inr (.inr 10)), some (.inl 1)] [] (encA (s)) _
  refine w_ldI rfl rfl ?_
  refine w_push rfl ?_
  refine w_crLt rfl (by omega) (by omega) (fun b2 => ?_) (fun b2 => ?_)
  · first
    | (exfalso; omega)
    | (refine w_push rfl ?_
       refine w_ldI rfl rfl ?_
       refine w_sub rfl ?_
       refine w_retI rfl ?_
       exact ⟨rfl, rfl⟩)
  · first
    | (exfalso; omega)
    | (refine w_ldI rfl rfl ?_
       refine w_push rfl ?_
       refine w_crGt rfl (by omega) (by omega) (fun b5 => ?_) (fun b5 => ?_)
       · first
         | (exfalso; omega)
         | (refine w_push rfl ?_
            refine w_ldI rfl rfl ?_
            refine w_sub rfl ?_
            refine w_retI rfl ?_
            exact ⟨rfl, rfl⟩)
       · first
         | (exfalso; omega)
         | (refine w_ldR rfl rfl rfl ?_
            first | refine w_getI rfl rfl rfl rfl rfl ?_ | refine w_getR rfl rfl rfl rfl rfl ?_
            refine w_ldI rfl rfl ?_
            refine w_dup2 rfl ?_
            refine w_ald rfl rfl rfl (by omega) rfl ?_
            refine w_push rfl ?_
            refine w_add rfl ?_
            refine w_ast rfl rfl rfl (by omega) rfl ?_
            refine w_push rfl ?_
            refine w_ldI rfl rfl ?_
            refine w_sub rfl ?_
            refine w_retI rfl ?_
            exact ⟨rfl, rfl⟩))
theorem k_error2 {d : Nat} {s : mSt}  : CI (d + 0) 141 [.inr (.inr 10), .inl 2] (s) (fun v s1 => v = -1000000000 - 2 ∧ s1 = us s 132 2 (s 132 2 + 1)) := by
  refine CI.mk rfl ?_
  show WP (d + 0) 141 0 [some (.inr (.inr 10)), some (.inl 2)] [] (encA (s)) _
  refine w_ldI rfl rfl ?_
  refine w_push rfl ?_
  refine w_crLt rfl (by omega) (by omega) (fun b2 => ?_) (fun b2 => ?_)
  · first
    | (exfalso; omega)
    | (refine w_push rfl ?_
       refine w_ldI rfl rfl ?_
       refine w_sub rfl ?_
       refine w_retI rfl ?_
       exact ⟨rfl, rfl⟩)
  · first
    | (exfalso; omega)
    | (refine w_ldI rfl rfl ?_
       refine w_push rfl ?_
       refine w_crGt rfl (by omega) (by omega) (fun b5 => ?_) (fun b5 => ?_)
       · first
         | (exfalso; omega)
         | (refine w_push rfl ?_
            refine w_ldI rfl rfl ?_
            refine w_sub rfl ?_
            refine w_retI rfl ?_
            exact ⟨rfl, rfl⟩)
       · first
         | (exfalso; omega)
         | (refine w_ldR rfl rfl rfl ?_
            first | refine w_getI rfl rfl rfl rfl rfl ?_ | refine w_getR rfl rfl rfl rfl rfl ?_
            refine w_ldI rfl rfl ?_
            refine w_dup2 rfl ?_
            refine w_ald rfl rfl rfl (by omega) rfl ?_
            refine w_push rfl ?_
            refine w_add rfl ?_
            refine w_ast rfl rfl rfl (by omega) rfl ?_
            refine w_push rfl ?_
            refine w_ldI rfl rfl ?_
            refine w_sub rfl ?_
            refine w_retI rfl ?_
            exact ⟨rfl, rfl⟩))
theorem k_error3 {d : Nat} {s : mSt}  : CI (d + 0) 141 [.inr (.inr 10), .inl 3] (s) (fun v s1 => v = -1000000000 - 3 ∧ s1 = us s 132 3 (s 132 3 + 1)) := by
  refine CI.mk rfl ?_
  show WP (d + 0) 141 0 [some (.inr (.inr 10)), some (.inl 3)] [] (encA (s)) _
  refine w_ldI rfl rfl ?_
  refine w_push rfl ?_
  refine w_crLt rfl (by omega) (by omega) (fun b2 => ?_) (fun b2 => ?_)
  · first
    | (exfalso; omega)
    | (refine w_push rfl ?_
       refine w_ldI rfl rfl ?_
       refine w_sub rfl ?_
       refine w_retI rfl ?_
       exact ⟨rfl, rfl⟩)
  · first
    | (exfalso; omega)
    | (refine w_ldI rfl rfl ?_
       refine w_push rfl ?_
       refine w_crGt rfl (by omega) (by omega) (fun b5 => ?_) (fun b5 => ?_)
       · first
         | (exfalso; omega)
         | (refine w_push rfl ?_
            refine w_ldI rfl rfl ?_
            refine w_sub rfl ?_
            refine w_retI rfl ?_
            exact ⟨rfl, rfl⟩)
       · first
         | (exfalso; omega)
         | (refine w_ldR rfl rfl rfl ?_
            first | refine w_getI rfl rfl rfl rfl rfl ?_ | refine w_getR rfl rfl rfl rfl rfl ?_
            refine w_ldI rfl rfl ?_
            refine w_dup2 rfl ?_
            refine w_ald rfl rfl rfl (by omega) rfl ?_
            refine w_push rfl ?_
            refine w_add rfl ?_
            refine w_ast rfl rfl rfl (by omega) rfl ?_
            refine w_push rfl ?_
            refine w_ldI rfl rfl ?_
            refine w_sub rfl ?_
            refine w_retI rfl ?_
            exact ⟨rfl, rfl⟩))
theorem k_error4 {d : Nat} {s : mSt}  : CI (d + 0) 141 [.inr (.inr 10), .inl 4] (s) (fun v s1 => v = -1000000000 - 4 ∧ s1 = us s 132 4 (s 132 4 + 1)) := by
  refine CI.mk rfl ?_
  show WP (d + 0) 141 0 [some (.inr (.inr 10)), some (.inl 4)] [] (encA (s)) _
  refine w_ldI rfl rfl ?_
  refine w_push rfl ?_
  refine w_crLt rfl (by omega) (by omega) (fun b2 => ?_) (fun b2 => ?_)
  · first
    | (exfalso; omega)
    | (refine w_push rfl ?_
       refine w_ldI rfl rfl ?_
       refine w_sub rfl ?_
       refine w_retI rfl ?_
       exact ⟨rfl, rfl⟩)
  · first
    | (exfalso; omega)
    | (refine w_ldI rfl rfl ?_
       refine w_push rfl ?_
       refine w_crGt rfl (by omega) (by omega) (fun b5 => ?_) (fun b5 => ?_)
       · first
         | (exfalso; omega)
         | (refine w_push rfl ?_
            refine w_ldI rfl rfl ?_
            refine w_sub rfl ?_
            refine w_retI rfl ?_
            exact ⟨rfl, rfl⟩)
       · first
         | (exfalso; omega)
         | (refine w_ldR rfl rfl rfl ?_
            first | refine w_getI rfl rfl rfl rfl rfl ?_ | refine w_getR rfl rfl rfl rfl rfl ?_
            refine w_ldI rfl rfl ?_
            refine w_dup2 rfl ?_
            refine w_ald rfl rfl rfl (by omega) rfl ?_
            refine w_push rfl ?_
            refine w_add rfl ?_
            refine w_ast rfl rfl rfl (by omega) rfl ?_
            refine w_push rfl ?_
            refine w_ldI rfl rfl ?_
            refine w_sub rfl ?_
            refine w_retI rfl ?_
            exact ⟨rfl, rfl⟩))
theorem k_error5 {d : Nat} {s : mSt}  : CI (d + 0) 141 [.inr (.inr 10), .inl 5] (s) (fun v s1 => v = -1000000000 - 5 ∧ s1 = us s 132 5 (s 132 5 + 1)) := by
  refine CI.mk rfl ?_
  show WP (d + 0) 141 0 [some (.inr (.inr 10)), some (.inl 5)] [] (encA (s)) _
  refine w_ldI rfl rfl ?_
  refine w_push rfl ?_
  refine w_crLt rfl (by omega) (by omega) (fun b2 => ?_) (fun b2 => ?_)
  · first
    | (exfalso; omega)
    | (refine w_push rfl ?_
       refine w_ldI rfl rfl ?_
       refine w_sub rfl ?_
       refine w_retI rfl ?_
       exact ⟨rfl, rfl⟩)
  · first
    | (exfalso; omega)
    | (refine w_ldI rfl rfl ?_
       refine w_push rfl ?_
       refine w_crGt rfl (by omega) (by omega) (fun b5 => ?_) (fun b5 => ?_)
       · first
         | (exfalso; omega)
         | (refine w_push rfl ?_
            refine w_ldI rfl rfl ?_
            refine w_sub rfl ?_
            refine w_retI rfl ?_
            exact ⟨rfl, rfl⟩)
       · first
         | (exfalso; omega)
         | (refine w_ldR rfl rfl rfl ?_
            first | refine w_getI rfl rfl rfl rfl rfl ?_ | refine w_getR rfl rfl rfl rfl rfl ?_
            refine w_ldI rfl rfl ?_
            refine w_dup2 rfl ?_
            refine w_ald rfl rfl rfl (by omega) rfl ?_
            refine w_push rfl ?_
            refine w_add rfl ?_
            refine w_ast rfl rfl rfl (by omega) rfl ?_
            refine w_push rfl ?_
            refine w_ldI rfl rfl ?_
            refine w_sub rfl ?_
            refine w_retI rfl ?_
            exact ⟨rfl, rfl⟩))
