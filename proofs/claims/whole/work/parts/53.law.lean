/-! ===== the law: each call ===== -/
theorem enc_1 (s : mSt) : enc s 1 = some (.inr (.inl (0, (s 0 1).toNat, s 1))) := by
  unfold enc
  rw [show layAt 1 = none from rfl]
  rfl
theorem x_scld {d mt j : Nat} {L : mL} {S : mS} {s : mSt} {r : Option mAV} {h' : mH} {i : Int} {nx : Nat} (hc : (mPr mt).2 j = some (opScLd nx)) (hi : 0 ≤ i ∧ i < s 0 1) (hn : s 0 1 ≤ 4000) (k : Run d mt nx L (.inl (s 1 i.toNat) :: S) (encA s) r h') : Run d mt j L (.inl i :: .inr (.inr 1) :: S) (encA s) r h' := by
  refine Run.step hc ?_ k
  have hw : w32 i = i := w32_id (by omega) (by omega)
  unfold opScLd
  try dsimp only
  rw [show (encA s).2.2 1 = _ from enc_1 s]
  try dsimp only
  show (if 0 ≤ w32 i ∧ w32 i < ((s 0 1).toNat : Int) then some (Sum.inl (nx, L, Sum.inl (s 1 (w32 i).toNat) :: S, encA s)) else none) = _
  rw [hw, if_pos ⟨hi.1, by omega⟩]
theorem x_sclen {d mt j : Nat} {L : mL} {S : mS} {s : mSt} {r : Option mAV} {h' : mH} {nx : Nat} (hc : (mPr mt).2 j = some (opScLen nx)) (hn : 0 ≤ s 0 1) (k : Run d mt nx L (.inl (s 0 1) :: S) (encA s) r h') : Run d mt j L (.inr (.inr 1) :: S) (encA s) r h' := by
  refine Run.step hc ?_ k
  unfold opScLen
  try dsimp only
  rw [show (encA s).2.2 1 = _ from enc_1 s]
  try dsimp only
  rw [Int.toNat_of_nonneg hn]
  rfl
theorem w_scld {d mt j : Nat} {L : mL} {S : mS} {s : mSt} {Q : mQ} {i : Int} {nx : Nat} (hc : (mPr mt).2 j = some (opScLd nx)) (hi : 0 ≤ i ∧ i < s 0 1) (hn : s 0 1 ≤ 4000) (k : WP d mt nx L (.inl (s 1 i.toNat) :: S) (encA s) Q) : WP d mt j L (.inl i :: .inr (.inr 1) :: S) (encA s) Q := by
  obtain ⟨r, h', kr, z⟩ := k
  exact ⟨r, h', x_scld hc hi hn kr, z⟩
theorem w_sclen {d mt j : Nat} {L : mL} {S : mS} {s : mSt} {Q : mQ} {nx : Nat} (hc : (mPr mt).2 j = some (opScLen nx)) (hn : 0 ≤ s 0 1) (k : WP d mt nx L (.inl (s 0 1) :: S) (encA s) Q) : WP d mt j L (.inr (.inr 1) :: S) (encA s) Q := by
  obtain ⟨r, h', kr, z⟩ := k
  exact ⟨r, h', x_sclen hc hn kr, z⟩
/-- what is still to be shown of the text, of orders, of mirrors -/
def StT (X : Nat → Int) (N : Int) : Prop := ∀ (d : Nat) (s : mSt) (cnt u : Int), Inv X N s cnt → (-2147483648 ≤ u ∧ u < 2147483648) → Step X N (d + 150) s cnt 116 192 [.inl u]
def StO (X : Nat → Int) (N : Int) : Prop := ∀ (d : Nat) (s : mSt) (cnt q : Int), Inv X N s cnt → (-2147483648 ≤ q ∧ q < 2147483648) → Step X N (d + 150) s cnt 122 233 [.inl q]
def StM (X : Nat → Int) (N : Int) : Prop := ∀ (d : Nat) (s : mSt) (cnt w c x q : Int), Inv X N s cnt → (-2147483648 ≤ w ∧ w < 2147483648) → (-2147483648 ≤ c ∧ c < 2147483648) → (-2147483648 ≤ x ∧ x < 2147483648) → (-2147483648 ≤ q ∧ q < 2147483648) → Step X N (d + 150) s cnt 125 242 [.inl w, .inl c, .inl x, .inl q]
theorem bk_cell {X : Nat → Int} {N : Int} {d : Nat} {s : mSt} {cnt i : Int} {Q : mQ} (hI : Inv X N s cnt) (hi : 0 ≤ i ∧ i + 6 ≤ N ∧ N ≤ 3072) (hcn : cnt ≤ 1000) (kk : ∀ s1, Inv X N s1 (cnt + 1) → WP (d + 151) 0 1016 [some (.inr (.inr 1)), some (.inr (.inr 10)), some (.inr (.inr 146)), some (.inl i)] [] (encA s1) Q) : WP (d + 151) 0 22 [some (.inr (.inr 1)), some (.inr (.inr 10)), some (.inr (.inr 146)), some (.inl i)] [] (encA s) Q := by
  obtain ⟨-, -, -, -, -, -, -, hX, -⟩ := id hI
  obtain ⟨r, s1, s2, c1, ⟨m1, m2⟩, c2, hI2⟩ := st_cell (d := d) hI (c := X (i + 1).toNat) (v := X (i + 2).toNat) (hX.1 _) (hX.1 _)
  have e1 := hX.2.1
  have e2 := hX.2.2
  refine w_ldR rfl rfl rfl ?_
  refine w_ldR rfl rfl rfl ?_
  refine w_ldI rfl rfl ?_
  refine w_push rfl ?_
  refine w_add rfl ?_
  refine w_scld rfl (by rw [e2]; omega) (by rw [e2]; omega) ?_
  rw [e1]
  refine w_ldR rfl rfl rfl ?_
  refine w_ldI rfl rfl ?_
  refine w_push rfl ?_
  refine w_add rfl ?_
  refine w_scld rfl (by rw [e2]; omega) (by rw [e2]; omega) ?_
  rw [e1]
  refine w_callV rfl rfl rfl rfl rfl rfl rfl c1 ?_
  refine w_ldR rfl rfl rfl ?_
  refine w_ldR rfl rfl rfl ?_
  refine w_ldI rfl rfl ?_
  refine w_push rfl ?_
  refine w_add rfl ?_
  refine w_scld rfl (by rw [m2]; omega) (by rw [m2]; omega) ?_
  rw [m1]
  refine w_ldR rfl rfl rfl ?_
  refine w_ldI rfl rfl ?_
  refine w_push rfl ?_
  refine w_add rfl ?_
  refine w_scld rfl (by rw [m2]; omega) (by rw [m2]; omega) ?_
  rw [m1]
  refine w_callV rfl rfl rfl rfl rfl rfl rfl c2 ?_
  exact w_icEq rfl (fun _ => kk s2 hI2) (fun h => absurd rfl h)
theorem bk_set {X : Nat → Int} {N : Int} {d : Nat} {s : mSt} {cnt i : Int} {Q : mQ} (hI : Inv X N s cnt) (hi : 0 ≤ i ∧ i + 6 ≤ N ∧ N ≤ 3072) (hcn : cnt ≤ 1000) (kk : ∀ s1, Inv X N s1 (cnt + 1) → WP (d + 151) 0 1016 [some (.inr (.inr 1)), some (.inr (.inr 10)), some (.inr (.inr 146)), some (.inl i)] [] (encA s1) Q) : WP (d + 151) 0 49 [some (.inr (.inr 1)), some (.inr (.inr 10)), some (.inr (.inr 146)), some (.inl i)] [] (encA s) Q := by
  obtain ⟨-, -, -, -, -, -, -, hX, -⟩ := id hI
  obtain ⟨r, s1, s2, c1, ⟨m1, m2⟩, c2, hI2⟩ := st_set (d := d) hI (w := X (i + 1).toNat) (v := X (i + 2).toNat) (hX.1 _) (hX.1 _)
  have e1 := hX.2.1
  have e2 := hX.2.2
  refine w_ldR rfl rfl rfl ?_
  refine w_ldR rfl rfl rfl ?_
  refine w_ldI rfl rfl ?_
  refine w_push rfl ?_
  refine w_add rfl ?_
  refine w_scld rfl (by rw [e2]; omega) (by rw [e2]; omega) ?_
  rw [e1]
  refine w_ldR rfl rfl rfl ?_
  refine w_ldI rfl rfl ?_
  refine w_push rfl ?_
  refine w_add rfl ?_
  refine w_scld rfl (by rw [e2]; omega) (by rw [e2]; omega) ?_
  rw [e1]
  refine w_callV rfl rfl rfl rfl rfl rfl rfl c1 ?_
  refine w_ldR rfl rfl rfl ?_
  refine w_ldR rfl rfl rfl ?_
  refine w_ldI rfl rfl ?_
  refine w_push rfl ?_
  refine w_add rfl ?_
  refine w_scld rfl (by rw [m2]; omega) (by rw [m2]; omega) ?_
  rw [m1]
  refine w_ldR rfl rfl rfl ?_
  refine w_ldI rfl rfl ?_
  refine w_push rfl ?_
  refine w_add rfl ?_
  refine w_scld rfl (by rw [m2]; omega) (by rw [m2]; omega) ?_
  rw [m1]
  refine w_callV rfl rfl rfl rfl rfl rfl rfl c2 ?_
  exact w_icEq rfl (fun _ => kk s2 hI2) (fun h => absurd rfl h)
theorem bk_window {X : Nat → Int} {N : Int} {d : Nat} {s : mSt} {cnt i : Int} {Q : mQ} (hI : Inv X N s cnt) (hi : 0 ≤ i ∧ i + 6 ≤ N ∧ N ≤ 3072) (hcn : cnt ≤ 1000) (kk : ∀ s1, Inv X N s1 (cnt + 1) → WP (d + 151) 0 1016 [some (.inr (.inr 1)), some (.inr (.inr 10)), some (.inr (.inr 146)), some (.inl i)] [] (encA s1) Q) : WP (d + 151) 0 76 [some (.inr (.inr 1)), some (.inr (.inr 10)), some (.inr (.inr 146)), some (.inl i)] [] (encA s) Q := by
  obtain ⟨-, -, -, -, -, -, -, hX, -⟩ := id hI
  obtain ⟨r, s1, s2, c1, ⟨m1, m2⟩, c2, hI2⟩ := st_window (d := d) hI (km := X (i + 1).toNat) (c := X (i + 2).toNat) (hX.1 _) (hX.1 _)
  have e1 := hX.2.1
  have e2 := hX.2.2
  refine w_ldR rfl rfl rfl ?_
  refine w_ldR rfl rfl rfl ?_
  refine w_ldI rfl rfl ?_
  refine w_push rfl ?_
  refine w_add rfl ?_
  refine w_scld rfl (by rw [e2]; omega) (by rw [e2]; omega) ?_
  rw [e1]
  refine w_ldR rfl rfl rfl ?_
  refine w_ldI rfl rfl ?_
  refine w_push rfl ?_
  refine w_add rfl ?_
  refine w_scld rfl (by rw [e2]; omega) (by rw [e2]; omega) ?_
  rw [e1]
  refine w_callV rfl rfl rfl rfl rfl rfl rfl c1 ?_
  refine w_ldR rfl rfl rfl ?_
  refine w_ldR rfl rfl rfl ?_
  refine w_ldI rfl rfl ?_
  refine w_push rfl ?_
  refine w_add rfl ?_
  refine w_scld rfl (by rw [m2]; omega) (by rw [m2]; omega) ?_
  rw [m1]
  refine w_ldR rfl rfl rfl ?_
  refine w_ldI rfl rfl ?_
  refine w_push rfl ?_
  refine w_add rfl ?_
  refine w_scld rfl (by rw [m2]; omega) (by rw [m2]; omega) ?_
  rw [m1]
  refine w_callV rfl rfl rfl rfl rfl rfl rfl c2 ?_
  exact w_icEq rfl (fun _ => kk s2 hI2) (fun h => absurd rfl h)
theorem bk_ofWindow {X : Nat → Int} {N : Int} {d : Nat} {s : mSt} {cnt i : Int} {Q : mQ} (hI : Inv X N s cnt) (hi : 0 ≤ i ∧ i + 6 ≤ N ∧ N ≤ 3072) (hcn : cnt ≤ 1000) (kk : ∀ s1, Inv X N s1 (cnt + 1) → WP (d + 151) 0 1016 [some (.inr (.inr 1)), some (.inr (.inr 10)), some (.inr (.inr 146)), some (.inl i)] [] (encA s1) Q) : WP (d + 151) 0 103 [some (.inr (.inr 1)), some (.inr (.inr 10)), some (.inr (.inr 146)), some (.inl i)] [] (encA s) Q := by
  obtain ⟨-, -, -, -, -, -, -, hX, -⟩ := id hI
  obtain ⟨r, s1, s2, c1, ⟨m1, m2⟩, c2, hI2⟩ := st_ofWindow (d := d) hI (w := X (i + 1).toNat) (q := X (i + 2).toNat) (hX.1 _) (hX.1 _)
  have e1 := hX.2.1
  have e2 := hX.2.2
  refine w_ldR rfl rfl rfl ?_
  refine w_ldR rfl rfl rfl ?_
  refine w_ldI rfl rfl ?_
  refine w_push rfl ?_
  refine w_add rfl ?_
  refine w_scld rfl (by rw [e2]; omega) (by rw [e2]; omega) ?_
  rw [e1]
  refine w_ldR rfl rfl rfl ?_
  refine w_ldI rfl rfl ?_
  refine w_push rfl ?_
  refine w_add rfl ?_
  refine w_scld rfl (by rw [e2]; omega) (by rw [e2]; omega) ?_
  rw [e1]
  refine w_callV rfl rfl rfl rfl rfl rfl rfl c1 ?_
  refine w_ldR rfl rfl rfl ?_
  refine w_ldR rfl rfl rfl ?_
  refine w_ldI rfl rfl ?_
  refine w_push rfl ?_
  refine w_add rfl ?_
  refine w_scld rfl (by rw [m2]; omega) (by rw [m2]; omega) ?_
  rw [m1]
  refine w_ldR rfl rfl rfl ?_
  refine w_ldI rfl rfl ?_
  refine w_push rfl ?_
  refine w_add rfl ?_
  refine w_scld rfl (by rw [m2]; omega) (by rw [m2]; omega) ?_
  rw [m1]
  refine w_callV rfl rfl rfl rfl rfl rfl rfl c2 ?_
  exact w_icEq rfl (fun _ => kk s2 hI2) (fun h => absurd rfl h)
theorem bk_become {X : Nat → Int} {N : Int} {d : Nat} {s : mSt} {cnt i : Int} {Q : mQ} (hI : Inv X N s cnt) (hi : 0 ≤ i ∧ i + 6 ≤ N ∧ N ≤ 3072) (hcn : cnt ≤ 1000) (kk : ∀ s1, Inv X N s1 (cnt + 1) → WP (d + 151) 0 1016 [some (.inr (.inr 1)), some (.inr (.inr 10)), some (.inr (.inr 146)), some (.inl i)] [] (encA s1) Q) : WP (d + 151) 0 130 [some (.inr (.inr 1)), some (.inr (.inr 10)), some (.inr (.inr 146)), some (.inl i)] [] (encA s) Q := by
  obtain ⟨-, -, -, -, -, -, -, hX, -⟩ := id hI
  obtain ⟨r, s1, s2, c1, ⟨m1, m2⟩, c2, hI2⟩ := st_become (d := d) hI (w := X (i + 1).toNat) (km := X (i + 2).toNat) (hX.1 _) (hX.1 _)
  have e1 := hX.2.1
  have e2 := hX.2.2
  refine w_ldR rfl rfl rfl ?_
  refine w_ldR rfl rfl rfl ?_
  refine w_ldI rfl rfl ?_
  refine w_push rfl ?_
  refine w_add rfl ?_
  refine w_scld rfl (by rw [e2]; omega) (by rw [e2]; omega) ?_
  rw [e1]
  refine w_ldR rfl rfl rfl ?_
  refine w_ldI rfl rfl ?_
  refine w_push rfl ?_
  refine w_add rfl ?_
  refine w_scld rfl (by rw [e2]; omega) (by rw [e2]; omega) ?_
  rw [e1]
  refine w_callV rfl rfl rfl rfl rfl rfl rfl c1 ?_
  refine w_ldR rfl rfl rfl ?_
  refine w_ldR rfl rfl rfl ?_
  refine w_ldI rfl rfl ?_
  refine w_push rfl ?_
  refine w_add rfl ?_
  refine w_scld rfl (by rw [m2]; omega) (by rw [m2]; omega) ?_
  rw [m1]
  refine w_ldR rfl rfl rfl ?_
  refine w_ldI rfl rfl ?_
  refine w_push rfl ?_
  refine w_add rfl ?_
  refine w_scld rfl (by rw [m2]; omega) (by rw [m2]; omega) ?_
  rw [m1]
  refine w_callV rfl rfl rfl rfl rfl rfl rfl c2 ?_
  exact w_icEq rfl (fun _ => kk s2 hI2) (fun h => absurd rfl h)
theorem bk_as {X : Nat → Int} {N : Int} {d : Nat} {s : mSt} {cnt i : Int} {Q : mQ} (hI : Inv X N s cnt) (hi : 0 ≤ i ∧ i + 6 ≤ N ∧ N ≤ 3072) (hcn : cnt ≤ 1000) (kk : ∀ s1, Inv X N s1 (cnt + 1) → WP (d + 151) 0 1016 [some (.inr (.inr 1)), some (.inr (.inr 10)), some (.inr (.inr 146)), some (.inl i)] [] (encA s1) Q) : WP (d + 151) 0 157 [some (.inr (.inr 1)), some (.inr (.inr 10)), some (.inr (.inr 146)), some (.inl i)] [] (encA s) Q := by
  obtain ⟨-, -, -, -, -, -, -, hX, -⟩ := id hI
  obtain ⟨r, s1, s2, c1, ⟨m1, m2⟩, c2, hI2⟩ := st_as (d := d) hI (w := X (i + 1).toNat) (q := X (i + 2).toNat) (hX.1 _) (hX.1 _)
  have e1 := hX.2.1
  have e2 := hX.2.2
  refine w_ldR rfl rfl rfl ?_
  refine w_ldR rfl rfl rfl ?_
  refine w_ldI rfl rfl ?_
  refine w_push rfl ?_
  refine w_add rfl ?_
  refine w_scld rfl (by rw [e2]; omega) (by rw [e2]; omega) ?_
  rw [e1]
  refine w_ldR rfl rfl rfl ?_
  refine w_ldI rfl rfl ?_
  refine w_push rfl ?_
  refine w_add rfl ?_
  refine w_scld rfl (by rw [e2]; omega) (by rw [e2]; omega) ?_
  rw [e1]
  refine w_callV rfl rfl rfl rfl rfl rfl rfl c1 ?_
  refine w_ldR rfl rfl rfl ?_
  refine w_ldR rfl rfl rfl ?_
  refine w_ldI rfl rfl ?_
  refine w_push rfl ?_
  refine w_add rfl ?_
  refine w_scld rfl (by rw [m2]; omega) (by rw [m2]; omega) ?_
  rw [m1]
  refine w_ldR rfl rfl rfl ?_
  refine w_ldI rfl rfl ?_
  refine w_push rfl ?_
  refine w_add rfl ?_
  refine w_scld rfl (by rw [m2]; omega) (by rw [m2]; omega) ?_
  rw [m1]
  refine w_callV rfl rfl rfl rfl rfl rfl rfl c2 ?_
  exact w_icEq rfl (fun _ => kk s2 hI2) (fun h => absurd rfl h)
theorem bk_light {X : Nat → Int} {N : Int} {d : Nat} {s : mSt} {cnt i : Int} {Q : mQ} (hI : Inv X N s cnt) (hi : 0 ≤ i ∧ i + 6 ≤ N ∧ N ≤ 3072) (hcn : cnt ≤ 1000) (kk : ∀ s1, Inv X N s1 (cnt + 1) → WP (d + 151) 0 1016 [some (.inr (.inr 1)), some (.inr (.inr 10)), some (.inr (.inr 146)), some (.inl i)] [] (encA s1) Q) : WP (d + 151) 0 184 [some (.inr (.inr 1)), some (.inr (.inr 10)), some (.inr (.inr 146)), some (.inl i)] [] (encA s) Q := by
  obtain ⟨-, -, -, -, -, -, -, hX, -⟩ := id hI
  obtain ⟨r, s1, s2, c1, ⟨m1, m2⟩, c2, hI2⟩ := st_light (d := d) hI (w := X (i + 1).toNat) (c := X (i + 2).toNat) (hX.1 _) (hX.1 _)
  have e1 := hX.2.1
  have e2 := hX.2.2
  refine w_ldR rfl rfl rfl ?_
  refine w_ldR rfl rfl rfl ?_
  refine w_ldI rfl rfl ?_
  refine w_push rfl ?_
  refine w_add rfl ?_
  refine w_scld rfl (by rw [e2]; omega) (by rw [e2]; omega) ?_
  rw [e1]
  refine w_ldR rfl rfl rfl ?_
  refine w_ldI rfl rfl ?_
  refine w_push rfl ?_
  refine w_add rfl ?_
  refine w_scld rfl (by rw [e2]; omega) (by rw [e2]; omega) ?_
  rw [e1]
  refine w_callV rfl rfl rfl rfl rfl rfl rfl c1 ?_
  refine w_ldR rfl rfl rfl ?_
  refine w_ldR rfl rfl rfl ?_
  refine w_ldI rfl rfl ?_
  refine w_push rfl ?_
  refine w_add rfl ?_
  refine w_scld rfl (by rw [m2]; omega) (by rw [m2]; omega) ?_
  rw [m1]
  refine w_ldR rfl rfl rfl ?_
  refine w_ldI rfl rfl ?_
  refine w_push rfl ?_
  refine w_add rfl ?_
  refine w_scld rfl (by rw [m2]; omega) (by rw [m2]; omega) ?_
  rw [m1]
  refine w_callV rfl rfl rfl rfl rfl rfl rfl c2 ?_
  exact w_icEq rfl (fun _ => kk s2 hI2) (fun h => absurd rfl h)
theorem bk_person {X : Nat → Int} {N : Int} {d : Nat} {s : mSt} {cnt i : Int} {Q : mQ} (hI : Inv X N s cnt) (hi : 0 ≤ i ∧ i + 6 ≤ N ∧ N ≤ 3072) (hcn : cnt ≤ 1000) (kk : ∀ s1, Inv X N s1 (cnt + 1) → WP (d + 151) 0 1016 [some (.inr (.inr 1)), some (.inr (.inr 10)), some (.inr (.inr 146)), some (.inl i)] [] (encA s1) Q) : WP (d + 151) 0 211 [some (.inr (.inr 1)), some (.inr (.inr 10)), some (.inr (.inr 146)), some (.inl i)] [] (encA s) Q := by
  obtain ⟨-, -, -, -, -, -, -, hX, -⟩ := id hI
  obtain ⟨r, s1, s2, c1, ⟨m1, m2⟩, c2, hI2⟩ := st_person (d := d) hI (c := X (i + 1).toNat) (n := X (i + 2).toNat) (hX.1 _) (hX.1 _)
  have e1 := hX.2.1
  have e2 := hX.2.2
  refine w_ldR rfl rfl rfl ?_
  refine w_ldR rfl rfl rfl ?_
  refine w_ldI rfl rfl ?_
  refine w_push rfl ?_
  refine w_add rfl ?_
  refine w_scld rfl (by rw [e2]; omega) (by rw [e2]; omega) ?_
  rw [e1]
  refine w_ldR rfl rfl rfl ?_
  refine w_ldI rfl rfl ?_
  refine w_push rfl ?_
  refine w_add rfl ?_
  refine w_scld rfl (by rw [e2]; omega) (by rw [e2]; omega) ?_
  rw [e1]
  refine w_callV rfl rfl rfl rfl rfl rfl rfl c1 ?_
  refine w_ldR rfl rfl rfl ?_
  refine w_ldR rfl rfl rfl ?_
  refine w_ldI rfl rfl ?_
  refine w_push rfl ?_
  refine w_add rfl ?_
  refine w_scld rfl (by rw [m2]; omega) (by rw [m2]; omega) ?_
  rw [m1]
  refine w_ldR rfl rfl rfl ?_
  refine w_ldI rfl rfl ?_
  refine w_push rfl ?_
  refine w_add rfl ?_
  refine w_scld rfl (by rw [m2]; omega) (by rw [m2]; omega) ?_
  rw [m1]
  refine w_callV rfl rfl rfl rfl rfl rfl rfl c2 ?_
  exact w_icEq rfl (fun _ => kk s2 hI2) (fun h => absurd rfl h)
theorem bk_ofPerson {X : Nat → Int} {N : Int} {d : Nat} {s : mSt} {cnt i : Int} {Q : mQ} (hI : Inv X N s cnt) (hi : 0 ≤ i ∧ i + 6 ≤ N ∧ N ≤ 3072) (hcn : cnt ≤ 1000) (kk : ∀ s1, Inv X N s1 (cnt + 1) → WP (d + 151) 0 1016 [some (.inr (.inr 1)), some (.inr (.inr 10)), some (.inr (.inr 146)), some (.inl i)] [] (encA s1) Q) : WP (d + 151) 0 238 [some (.inr (.inr 1)), some (.inr (.inr 10)), some (.inr (.inr 146)), some (.inl i)] [] (encA s) Q := by
  obtain ⟨-, -, -, -, -, -, -, hX, -⟩ := id hI
  obtain ⟨r, s1, s2, c1, ⟨m1, m2⟩, c2, hI2⟩ := st_ofPerson (d := d) hI (p := X (i + 1).toNat) (w := X (i + 2).toNat) (hX.1 _) (hX.1 _)
  have e1 := hX.2.1
  have e2 := hX.2.2
  refine w_ldR rfl rfl rfl ?_
  refine w_ldR rfl rfl rfl ?_
  refine w_ldI rfl rfl ?_
  refine w_push rfl ?_
  refine w_add rfl ?_
  refine w_scld rfl (by rw [e2]; omega) (by rw [e2]; omega) ?_
  rw [e1]
  refine w_ldR rfl rfl rfl ?_
  refine w_ldI rfl rfl ?_
  refine w_push rfl ?_
  refine w_add rfl ?_
  refine w_scld rfl (by rw [e2]; omega) (by rw [e2]; omega) ?_
  rw [e1]
  refine w_callV rfl rfl rfl rfl rfl rfl rfl c1 ?_
  refine w_ldR rfl rfl rfl ?_
  refine w_ldR rfl rfl rfl ?_
  refine w_ldI rfl rfl ?_
  refine w_push rfl ?_
  refine w_add rfl ?_
  refine w_scld rfl (by rw [m2]; omega) (by rw [m2]; omega) ?_
  rw [m1]
  refine w_ldR rfl rfl rfl ?_
  refine w_ldI rfl rfl ?_
  refine w_push rfl ?_
  refine w_add rfl ?_
  refine w_scld rfl (by rw [m2]; omega) (by rw [m2]; omega) ?_
  rw [m1]
  refine w_callV rfl rfl rfl rfl rfl rfl rfl c2 ?_
  exact w_icEq rfl (fun _ => kk s2 hI2) (fun h => absurd rfl h)
theorem bk_change {X : Nat → Int} {N : Int} {d : Nat} {s : mSt} {cnt i : Int} {Q : mQ} (hI : Inv X N s cnt) (hi : 0 ≤ i ∧ i + 6 ≤ N ∧ N ≤ 3072) (hcn : cnt ≤ 1000) (kk : ∀ s1, Inv X N s1 (cnt + 1) → WP (d + 151) 0 1016 [some (.inr (.inr 1)), some (.inr (.inr 10)), some (.inr (.inr 146)), some (.inl i)] [] (encA s1) Q) : WP (d + 151) 0 265 [some (.inr (.inr 1)), some (.inr (.inr 10)), some (.inr (.inr 146)), some (.inl i)] [] (encA s) Q := by
  obtain ⟨-, -, -, -, -, -, -, hX, -⟩ := id hI
  obtain ⟨r, s1, s2, c1, ⟨m1, m2⟩, c2, hI2⟩ := st_change (d := d) hI (p := X (i + 1).toNat) (w := X (i + 2).toNat) (v := X (i + 3).toNat) (hX.1 _) (hX.1 _) (hX.1 _)
  have e1 := hX.2.1
  have e2 := hX.2.2
  refine w_ldR rfl rfl rfl ?_
  refine w_ldR rfl rfl rfl ?_
  refine w_ldI rfl rfl ?_
  refine w_push rfl ?_
  refine w_add rfl ?_
  refine w_scld rfl (by rw [e2]; omega) (by rw [e2]; omega) ?_
  rw [e1]
  refine w_ldR rfl rfl rfl ?_
  refine w_ldI rfl rfl ?_
  refine w_push rfl ?_
  refine w_add rfl ?_
  refine w_scld rfl (by rw [e2]; omega) (by rw [e2]; omega) ?_
  rw [e1]
  refine w_ldR rfl rfl rfl ?_
  refine w_ldI rfl rfl ?_
  refine w_push rfl ?_
  refine w_add rfl ?_
  refine w_scld rfl (by rw [e2]; omega) (by rw [e2]; omega) ?_
  rw [e1]
  refine w_callV rfl rfl rfl rfl rfl rfl rfl c1 ?_
  refine w_ldR rfl rfl rfl ?_
  refine w_ldR rfl rfl rfl ?_
  refine w_ldI rfl rfl ?_
  refine w_push rfl ?_
  refine w_add rfl ?_
  refine w_scld rfl (by rw [m2]; omega) (by rw [m2]; omega) ?_
  rw [m1]
  refine w_ldR rfl rfl rfl ?_
  refine w_ldI rfl rfl ?_
  refine w_push rfl ?_
  refine w_add rfl ?_
  refine w_scld rfl (by rw [m2]; omega) (by rw [m2]; omega) ?_
  rw [m1]
  refine w_ldR rfl rfl rfl ?_
  refine w_ldI rfl rfl ?_
  refine w_push rfl ?_
  refine w_add rfl ?_
  refine w_scld rfl (by rw [m2]; omega) (by rw [m2]; omega) ?_
  rw [m1]
  refine w_callV rfl rfl rfl rfl rfl rfl rfl c2 ?_
  exact w_icEq rfl (fun _ => kk s2 hI2) (fun h => absurd rfl h)
theorem bk_met {X : Nat → Int} {N : Int} {d : Nat} {s : mSt} {cnt i : Int} {Q : mQ} (hI : Inv X N s cnt) (hi : 0 ≤ i ∧ i + 6 ≤ N ∧ N ≤ 3072) (hcn : cnt ≤ 1000) (kk : ∀ s1, Inv X N s1 (cnt + 1) → WP (d + 151) 0 1016 [some (.inr (.inr 1)), some (.inr (.inr 10)), some (.inr (.inr 146)), some (.inl i)] [] (encA s1) Q) : WP (d + 151) 0 302 [some (.inr (.inr 1)), some (.inr (.inr 10)), some (.inr (.inr 146)), some (.inl i)] [] (encA s) Q := by
  obtain ⟨-, -, -, -, -, -, -, hX, -⟩ := id hI
  obtain ⟨r, s1, s2, c1, ⟨m1, m2⟩, c2, hI2⟩ := st_met (d := d) hI (w := X (i + 1).toNat) (hX.1 _)
  have e1 := hX.2.1
  have e2 := hX.2.2
  refine w_ldR rfl rfl rfl ?_
  refine w_ldR rfl rfl rfl ?_
  refine w_ldI rfl rfl ?_
  refine w_push rfl ?_
  refine w_add rfl ?_
  refine w_scld rfl (by rw [e2]; omega) (by rw [e2]; omega) ?_
  rw [e1]
  refine w_callV rfl rfl rfl rfl rfl rfl rfl c1 ?_
  refine w_ldR rfl rfl rfl ?_
  refine w_ldR rfl rfl rfl ?_
  refine w_ldI rfl rfl ?_
  refine w_push rfl ?_
  refine w_add rfl ?_
  refine w_scld rfl (by rw [m2]; omega) (by rw [m2]; omega) ?_
  rw [m1]
  refine w_callV rfl rfl rfl rfl rfl rfl rfl c2 ?_
  exact w_icEq rfl (fun _ => kk s2 hI2) (fun h => absurd rfl h)
theorem bk_turn {X : Nat → Int} {N : Int} {d : Nat} {s : mSt} {cnt i : Int} {Q : mQ} (hI : Inv X N s cnt) (hi : 0 ≤ i ∧ i + 6 ≤ N ∧ N ≤ 3072) (hcn : cnt ≤ 1000) (kk : ∀ s1, Inv X N s1 (cnt + 1) → WP (d + 151) 0 1016 [some (.inr (.inr 1)), some (.inr (.inr 10)), some (.inr (.inr 146)), some (.inl i)] [] (encA s1) Q) : WP (d + 151) 0 319 [some (.inr (.inr 1)), some (.inr (.inr 10)), some (.inr (.inr 146)), some (.inl i)] [] (encA s) Q := by
  obtain ⟨-, -, -, -, -, -, -, hX, -⟩ := id hI
  obtain ⟨r, s1, s2, c1, ⟨m1, m2⟩, c2, hI2⟩ := st_turn (d := d) hI (w := X (i + 1).toNat) (hX.1 _)
  have e1 := hX.2.1
  have e2 := hX.2.2
  refine w_ldR rfl rfl rfl ?_
  refine w_ldR rfl rfl rfl ?_
  refine w_ldI rfl rfl ?_
  refine w_push rfl ?_
  refine w_add rfl ?_
  refine w_scld rfl (by rw [e2]; omega) (by rw [e2]; omega) ?_
  rw [e1]
  refine w_callV rfl rfl rfl rfl rfl rfl rfl c1 ?_
  refine w_ldR rfl rfl rfl ?_
  refine w_ldR rfl rfl rfl ?_
  refine w_ldI rfl rfl ?_
  refine w_push rfl ?_
  refine w_add rfl ?_
  refine w_scld rfl (by rw [m2]; omega) (by rw [m2]; omega) ?_
  rw [m1]
  refine w_callV rfl rfl rfl rfl rfl rfl rfl c2 ?_
  exact w_icEq rfl (fun _ => kk s2 hI2) (fun h => absurd rfl h)
theorem bk_clear {X : Nat → Int} {N : Int} {d : Nat} {s : mSt} {cnt i : Int} {Q : mQ} (hI : Inv X N s cnt) (hi : 0 ≤ i ∧ i + 6 ≤ N ∧ N ≤ 3072) (hcn : cnt ≤ 1000) (kk : ∀ s1, Inv X N s1 (cnt + 1) → WP (d + 151) 0 1016 [some (.inr (.inr 1)), some (.inr (.inr 10)), some (.inr (.inr 146)), some (.inl i)] [] (encA s1) Q) : WP (d + 151) 0 336 [some (.inr (.inr 1)), some (.inr (.inr 10)), some (.inr (.inr 146)), some (.inl i)] [] (encA s) Q := by
  obtain ⟨-, -, -, -, -, -, -, hX, -⟩ := id hI
  obtain ⟨r, s1, s2, c1, ⟨m1, m2⟩, c2, hI2⟩ := st_clear (d := d) hI 
  have e1 := hX.2.1
  have e2 := hX.2.2
  refine w_ldR rfl rfl rfl ?_
  refine w_callV rfl rfl rfl rfl rfl rfl rfl c1 ?_
  refine w_ldR rfl rfl rfl ?_
  refine w_callV rfl rfl rfl rfl rfl rfl rfl c2 ?_
  exact w_icEq rfl (fun _ => kk s2 hI2) (fun h => absurd rfl h)
theorem bk_lit {X : Nat → Int} {N : Int} {d : Nat} {s : mSt} {cnt i : Int} {Q : mQ} (hI : Inv X N s cnt) (hi : 0 ≤ i ∧ i + 6 ≤ N ∧ N ≤ 3072) (hcn : cnt ≤ 1000) (kk : ∀ s1, Inv X N s1 (cnt + 1) → WP (d + 151) 0 1016 [some (.inr (.inr 1)), some (.inr (.inr 10)), some (.inr (.inr 146)), some (.inl i)] [] (encA s1) Q) : WP (d + 151) 0 343 [some (.inr (.inr 1)), some (.inr (.inr 10)), some (.inr (.inr 146)), some (.inl i)] [] (encA s) Q := by
  obtain ⟨-, -, -, -, -, -, -, hX, -⟩ := id hI
  obtain ⟨r, s1, s2, c1, ⟨m1, m2⟩, c2, hI2⟩ := st_lit (d := d) hI 
  have e1 := hX.2.1
  have e2 := hX.2.2
  refine w_ldR rfl rfl rfl ?_
  refine w_callV rfl rfl rfl rfl rfl rfl rfl c1 ?_
  refine w_ldR rfl rfl rfl ?_
  refine w_callV rfl rfl rfl rfl rfl rfl rfl c2 ?_
  exact w_icEq rfl (fun _ => kk s2 hI2) (fun h => absurd rfl h)
theorem bk_feed {X : Nat → Int} {N : Int} {d : Nat} {s : mSt} {cnt i : Int} {Q : mQ} (hI : Inv X N s cnt) (hi : 0 ≤ i ∧ i + 6 ≤ N ∧ N ≤ 3072) (hcn : cnt ≤ 1000) (kk : ∀ s1, Inv X N s1 (cnt + 1) → WP (d + 151) 0 1016 [some (.inr (.inr 1)), some (.inr (.inr 10)), some (.inr (.inr 146)), some (.inl i)] [] (encA s1) Q) : WP (d + 151) 0 350 [some (.inr (.inr 1)), some (.inr (.inr 10)), some (.inr (.inr 146)), some (.inl i)] [] (encA s) Q := by
  obtain ⟨-, -, -, -, -, -, -, hX, -⟩ := id hI
  obtain ⟨r, s1, s2, c1, ⟨m1, m2⟩, c2, hI2⟩ := st_feed (d := d) hI (W := m_lor (m_lshl (X (i + 1).toNat) 32) (m_land (X (i + 2).toNat) 4294967295)) (n := X (i + 3).toNat) (hX.1 _)
  have e1 := hX.2.1
  have e2 := hX.2.2
  refine w_ldR rfl rfl rfl ?_
  refine w_ldR rfl rfl rfl ?_
  refine w_ldI rfl rfl ?_
  refine w_push rfl ?_
  refine w_add rfl ?_
  refine w_scld rfl (by rw [e2]; omega) (by rw [e2]; omega) ?_
  rw [e1]
  refine w_i2lr rfl (hX.1 _) ?_
  refine w_push rfl ?_
  refine w_shL rfl ?_
  refine w_ldR rfl rfl rfl ?_
  refine w_ldI rfl rfl ?_
  refine w_push rfl ?_
  refine w_add rfl ?_
  refine w_scld rfl (by rw [e2]; omega) (by rw [e2]; omega) ?_
  rw [e1]
  refine w_i2lr rfl (hX.1 _) ?_
  refine w_push rfl ?_
  refine w_binL rfl ?_
  refine w_binL rfl ?_
  refine w_ldR rfl rfl rfl ?_
  refine w_ldI rfl rfl ?_
  refine w_push rfl ?_
  refine w_add rfl ?_
  refine w_scld rfl (by rw [e2]; omega) (by rw [e2]; omega) ?_
  rw [e1]
  refine w_callV rfl rfl rfl rfl rfl rfl rfl c1 ?_
  refine w_ldR rfl rfl rfl ?_
  refine w_ldR rfl rfl rfl ?_
  refine w_ldI rfl rfl ?_
  refine w_push rfl ?_
  refine w_add rfl ?_
  refine w_scld rfl (by rw [m2]; omega) (by rw [m2]; omega) ?_
  rw [m1]
  refine w_i2lr rfl (hX.1 _) ?_
  refine w_push rfl ?_
  refine w_shL rfl ?_
  refine w_ldR rfl rfl rfl ?_
  refine w_ldI rfl rfl ?_
  refine w_push rfl ?_
  refine w_add rfl ?_
  refine w_scld rfl (by rw [m2]; omega) (by rw [m2]; omega) ?_
  rw [m1]
  refine w_i2lr rfl (hX.1 _) ?_
  refine w_push rfl ?_
  refine w_binL rfl ?_
  refine w_binL rfl ?_
  refine w_ldR rfl rfl rfl ?_
  refine w_ldI rfl rfl ?_
  refine w_push rfl ?_
  refine w_add rfl ?_
  refine w_scld rfl (by rw [m2]; omega) (by rw [m2]; omega) ?_
  rw [m1]
  refine w_callV rfl rfl rfl rfl rfl rfl rfl c2 ?_
  exact w_icEq rfl (fun _ => kk s2 hI2) (fun h => absurd rfl h)
theorem bk_text {X : Nat → Int} {N : Int} {d : Nat} {s : mSt} {cnt i : Int} {Q : mQ} (hT : StT X N) (hI : Inv X N s cnt) (hi : 0 ≤ i ∧ i + 6 ≤ N ∧ N ≤ 3072) (hcn : cnt ≤ 1000) (kk : ∀ s1, Inv X N s1 (cnt + 1) → WP (d + 151) 0 1016 [some (.inr (.inr 1)), some (.inr (.inr 10)), some (.inr (.inr 146)), some (.inl i)] [] (encA s1) Q) : WP (d + 151) 0 401 [some (.inr (.inr 1)), some (.inr (.inr 10)), some (.inr (.inr 146)), some (.inl i)] [] (encA s) Q := by
  obtain ⟨-, -, -, -, -, -, -, hX, -⟩ := id hI
  obtain ⟨r, s1, s2, c1, ⟨m1, m2⟩, c2, hI2⟩ := hT d _ _ (X (i + 1).toNat) hI (hX.1 _)
  have e1 := hX.2.1
  have e2 := hX.2.2
  refine w_ldR rfl rfl rfl ?_
  refine w_ldR rfl rfl rfl ?_
  refine w_ldI rfl rfl ?_
  refine w_push rfl ?_
  refine w_add rfl ?_
  refine w_scld rfl (by rw [e2]; omega) (by rw [e2]; omega) ?_
  rw [e1]
  refine w_callV rfl rfl rfl rfl rfl rfl rfl c1 ?_
  refine w_ldR rfl rfl rfl ?_
  refine w_ldR rfl rfl rfl ?_
  refine w_ldI rfl rfl ?_
  refine w_push rfl ?_
  refine w_add rfl ?_
  refine w_scld rfl (by rw [m2]; omega) (by rw [m2]; omega) ?_
  rw [m1]
  refine w_callV rfl rfl rfl rfl rfl rfl rfl c2 ?_
  exact w_icEq rfl (fun _ => kk s2 hI2) (fun h => absurd rfl h)
theorem bk_law {X : Nat → Int} {N : Int} {d : Nat} {s : mSt} {cnt i : Int} {Q : mQ} (hI : Inv X N s cnt) (hi : 0 ≤ i ∧ i + 6 ≤ N ∧ N ≤ 3072) (hcn : cnt ≤ 1000) (kk : ∀ s1, Inv X N s1 (cnt + 1) → WP (d + 151) 0 1016 [some (.inr (.inr 1)), some (.inr (.inr 10)), some (.inr (.inr 146)), some (.inl i)] [] (encA s1) Q) : WP (d + 151) 0 418 [some (.inr (.inr 1)), some (.inr (.inr 10)), some (.inr (.inr 146)), some (.inl i)] [] (encA s) Q := by
  obtain ⟨-, -, -, -, -, -, -, hX, -⟩ := id hI
  obtain ⟨r, s1, s2, c1, ⟨m1, m2⟩, c2, hI2⟩ := st_law (d := d) hI (u := X (i + 1).toNat) (a := X (i + 2).toNat) (b := X (i + 3).toNat) (c := X (i + 4).toNat) (e := X (i + 5).toNat) (hX.1 _)
  have e1 := hX.2.1
  have e2 := hX.2.2
  refine w_ldR rfl rfl rfl ?_
  refine w_ldR rfl rfl rfl ?_
  refine w_ldI rfl rfl ?_
  refine w_push rfl ?_
  refine w_add rfl ?_
  refine w_scld rfl (by rw [e2]; omega) (by rw [e2]; omega) ?_
  rw [e1]
  refine w_ldR rfl rfl rfl ?_
  refine w_ldI rfl rfl ?_
  refine w_push rfl ?_
  refine w_add rfl ?_
  refine w_scld rfl (by rw [e2]; omega) (by rw [e2]; omega) ?_
  rw [e1]
  refine w_ldR rfl rfl rfl ?_
  refine w_ldI rfl rfl ?_
  refine w_push rfl ?_
  refine w_add rfl ?_
  refine w_scld rfl (by rw [e2]; omega) (by rw [e2]; omega) ?_
  rw [e1]
  refine w_ldR rfl rfl rfl ?_
  refine w_ldI rfl rfl ?_
  refine w_push rfl ?_
  refine w_add rfl ?_
  refine w_scld rfl (by rw [e2]; omega) (by rw [e2]; omega) ?_
  rw [e1]
  refine w_ldR rfl rfl rfl ?_
  refine w_ldI rfl rfl ?_
  refine w_push rfl ?_
  refine w_add rfl ?_
  refine w_scld rfl (by rw [e2]; omega) (by rw [e2]; omega) ?_
  rw [e1]
  refine w_callV rfl rfl rfl rfl rfl rfl rfl c1 ?_
  refine w_ldR rfl rfl rfl ?_
  refine w_ldR rfl rfl rfl ?_
  refine w_ldI rfl rfl ?_
  refine w_push rfl ?_
  refine w_add rfl ?_
  refine w_scld rfl (by rw [m2]; omega) (by rw [m2]; omega) ?_
  rw [m1]
  refine w_ldR rfl rfl rfl ?_
  refine w_ldI rfl rfl ?_
  refine w_push rfl ?_
  refine w_add rfl ?_
  refine w_scld rfl (by rw [m2]; omega) (by rw [m2]; omega) ?_
  rw [m1]
  refine w_ldR rfl rfl rfl ?_
  refine w_ldI rfl rfl ?_
  refine w_push rfl ?_
  refine w_add rfl ?_
  refine w_scld rfl (by rw [m2]; omega) (by rw [m2]; omega) ?_
  rw [m1]
  refine w_ldR rfl rfl rfl ?_
  refine w_ldI rfl rfl ?_
  refine w_push rfl ?_
  refine w_add rfl ?_
  refine w_scld rfl (by rw [m2]; omega) (by rw [m2]; omega) ?_
  rw [m1]
  refine w_ldR rfl rfl rfl ?_
  refine w_ldI rfl rfl ?_
  refine w_push rfl ?_
  refine w_add rfl ?_
  refine w_scld rfl (by rw [m2]; omega) (by rw [m2]; omega) ?_
  rw [m1]
  refine w_callV rfl rfl rfl rfl rfl rfl rfl c2 ?_
  exact w_icEq rfl (fun _ => kk s2 hI2) (fun h => absurd rfl h)
theorem bk_nights {X : Nat → Int} {N : Int} {d : Nat} {s : mSt} {cnt i : Int} {Q : mQ} (hI : Inv X N s cnt) (hi : 0 ≤ i ∧ i + 6 ≤ N ∧ N ≤ 3072) (hcn : cnt ≤ 1000) (kk : ∀ s1, Inv X N s1 (cnt + 1) → WP (d + 151) 0 1016 [some (.inr (.inr 1)), some (.inr (.inr 10)), some (.inr (.inr 146)), some (.inl i)] [] (encA s1) Q) : WP (d + 151) 0 475 [some (.inr (.inr 1)), some (.inr (.inr 10)), some (.inr (.inr 146)), some (.inl i)] [] (encA s) Q := by
  obtain ⟨-, -, -, -, -, -, -, hX, -⟩ := id hI
  obtain ⟨r, s1, s2, c1, ⟨m1, m2⟩, c2, hI2⟩ := st_nights (d := d) hI (n := X (i + 1).toNat) (hX.1 _)
  have e1 := hX.2.1
  have e2 := hX.2.2
  refine w_ldR rfl rfl rfl ?_
  refine w_ldR rfl rfl rfl ?_
  refine w_ldI rfl rfl ?_
  refine w_push rfl ?_
  refine w_add rfl ?_
  refine w_scld rfl (by rw [e2]; omega) (by rw [e2]; omega) ?_
  rw [e1]
  refine w_callV rfl rfl rfl rfl rfl rfl rfl c1 ?_
  refine w_ldR rfl rfl rfl ?_
  refine w_ldR rfl rfl rfl ?_
  refine w_ldI rfl rfl ?_
  refine w_push rfl ?_
  refine w_add rfl ?_
  refine w_scld rfl (by rw [m2]; omega) (by rw [m2]; omega) ?_
  rw [m1]
  refine w_callV rfl rfl rfl rfl rfl rfl rfl c2 ?_
  exact w_icEq rfl (fun _ => kk s2 hI2) (fun h => absurd rfl h)
theorem bk_loose {X : Nat → Int} {N : Int} {d : Nat} {s : mSt} {cnt i : Int} {Q : mQ} (hI : Inv X N s cnt) (hi : 0 ≤ i ∧ i + 6 ≤ N ∧ N ≤ 3072) (hcn : cnt ≤ 1000) (kk : ∀ s1, Inv X N s1 (cnt + 1) → WP (d + 151) 0 1016 [some (.inr (.inr 1)), some (.inr (.inr 10)), some (.inr (.inr 146)), some (.inl i)] [] (encA s1) Q) : WP (d + 151) 0 492 [some (.inr (.inr 1)), some (.inr (.inr 10)), some (.inr (.inr 146)), some (.inl i)] [] (encA s) Q := by
  obtain ⟨-, -, -, -, -, -, -, hX, -⟩ := id hI
  obtain ⟨r, s1, s2, c1, ⟨m1, m2⟩, c2, hI2⟩ := st_loose (d := d) hI (n := X (i + 1).toNat) (hX.1 _)
  have e1 := hX.2.1
  have e2 := hX.2.2
  refine w_ldR rfl rfl rfl ?_
  refine w_ldR rfl rfl rfl ?_
  refine w_ldI rfl rfl ?_
  refine w_push rfl ?_
  refine w_add rfl ?_
  refine w_scld rfl (by rw [e2]; omega) (by rw [e2]; omega) ?_
  rw [e1]
  refine w_callV rfl rfl rfl rfl rfl rfl rfl c1 ?_
  refine w_ldR rfl rfl rfl ?_
  refine w_ldR rfl rfl rfl ?_
  refine w_ldI rfl rfl ?_
  refine w_push rfl ?_
  refine w_add rfl ?_
  refine w_scld rfl (by rw [m2]; omega) (by rw [m2]; omega) ?_
  rw [m1]
  refine w_callV rfl rfl rfl rfl rfl rfl rfl c2 ?_
  exact w_icEq rfl (fun _ => kk s2 hI2) (fun h => absurd rfl h)
theorem bk_then {X : Nat → Int} {N : Int} {d : Nat} {s : mSt} {cnt i : Int} {Q : mQ} (hI : Inv X N s cnt) (hi : 0 ≤ i ∧ i + 6 ≤ N ∧ N ≤ 3072) (hcn : cnt ≤ 1000) (kk : ∀ s1, Inv X N s1 (cnt + 1) → WP (d + 151) 0 1016 [some (.inr (.inr 1)), some (.inr (.inr 10)), some (.inr (.inr 146)), some (.inl i)] [] (encA s1) Q) : WP (d + 151) 0 509 [some (.inr (.inr 1)), some (.inr (.inr 10)), some (.inr (.inr 146)), some (.inl i)] [] (encA s) Q := by
  obtain ⟨-, -, -, -, -, -, -, hX, -⟩ := id hI
  obtain ⟨r, s1, s2, c1, ⟨m1, m2⟩, c2, hI2⟩ := st_then (d := d) hI (n := X (i + 1).toNat) (p := X (i + 2).toNat) (w := X (i + 3).toNat) (hX.1 _) (hX.1 _) (hX.1 _)
  have e1 := hX.2.1
  have e2 := hX.2.2
  refine w_ldR rfl rfl rfl ?_
  refine w_ldR rfl rfl rfl ?_
  refine w_ldI rfl rfl ?_
  refine w_push rfl ?_
  refine w_add rfl ?_
  refine w_scld rfl (by rw [e2]; omega) (by rw [e2]; omega) ?_
  rw [e1]
  refine w_ldR rfl rfl rfl ?_
  refine w_ldI rfl rfl ?_
  refine w_push rfl ?_
  refine w_add rfl ?_
  refine w_scld rfl (by rw [e2]; omega) (by rw [e2]; omega) ?_
  rw [e1]
  refine w_ldR rfl rfl rfl ?_
  refine w_ldI rfl rfl ?_
  refine w_push rfl ?_
  refine w_add rfl ?_
  refine w_scld rfl (by rw [e2]; omega) (by rw [e2]; omega) ?_
  rw [e1]
  refine w_callV rfl rfl rfl rfl rfl rfl rfl c1 ?_
  refine w_ldR rfl rfl rfl ?_
  refine w_ldR rfl rfl rfl ?_
  refine w_ldI rfl rfl ?_
  refine w_push rfl ?_
  refine w_add rfl ?_
  refine w_scld rfl (by rw [m2]; omega) (by rw [m2]; omega) ?_
  rw [m1]
  refine w_ldR rfl rfl rfl ?_
  refine w_ldI rfl rfl ?_
  refine w_push rfl ?_
  refine w_add rfl ?_
  refine w_scld rfl (by rw [m2]; omega) (by rw [m2]; omega) ?_
  rw [m1]
  refine w_ldR rfl rfl rfl ?_
  refine w_ldI rfl rfl ?_
  refine w_push rfl ?_
  refine w_add rfl ?_
  refine w_scld rfl (by rw [m2]; omega) (by rw [m2]; omega) ?_
  rw [m1]
  refine w_callV rfl rfl rfl rfl rfl rfl rfl c2 ?_
  exact w_icEq rfl (fun _ => kk s2 hI2) (fun h => absurd rfl h)
theorem bk_thenEggs {X : Nat → Int} {N : Int} {d : Nat} {s : mSt} {cnt i : Int} {Q : mQ} (hI : Inv X N s cnt) (hi : 0 ≤ i ∧ i + 6 ≤ N ∧ N ≤ 3072) (hcn : cnt ≤ 1000) (kk : ∀ s1, Inv X N s1 (cnt + 1) → WP (d + 151) 0 1016 [some (.inr (.inr 1)), some (.inr (.inr 10)), some (.inr (.inr 146)), some (.inl i)] [] (encA s1) Q) : WP (d + 151) 0 546 [some (.inr (.inr 1)), some (.inr (.inr 10)), some (.inr (.inr 146)), some (.inl i)] [] (encA s) Q := by
  obtain ⟨-, -, -, -, -, -, -, hX, -⟩ := id hI
  obtain ⟨r, s1, s2, c1, ⟨m1, m2⟩, c2, hI2⟩ := st_thenEggs (d := d) hI (n := X (i + 1).toNat) (w := X (i + 2).toNat) (hX.1 _) (hX.1 _)
  have e1 := hX.2.1
  have e2 := hX.2.2
  refine w_ldR rfl rfl rfl ?_
  refine w_ldR rfl rfl rfl ?_
  refine w_ldI rfl rfl ?_
  refine w_push rfl ?_
  refine w_add rfl ?_
  refine w_scld rfl (by rw [e2]; omega) (by rw [e2]; omega) ?_
  rw [e1]
  refine w_ldR rfl rfl rfl ?_
  refine w_ldI rfl rfl ?_
  refine w_push rfl ?_
  refine w_add rfl ?_
  refine w_scld rfl (by rw [e2]; omega) (by rw [e2]; omega) ?_
  rw [e1]
  refine w_callV rfl rfl rfl rfl rfl rfl rfl c1 ?_
  refine w_ldR rfl rfl rfl ?_
  refine w_ldR rfl rfl rfl ?_
  refine w_ldI rfl rfl ?_
  refine w_push rfl ?_
  refine w_add rfl ?_
  refine w_scld rfl (by rw [m2]; omega) (by rw [m2]; omega) ?_
  rw [m1]
  refine w_ldR rfl rfl rfl ?_
  refine w_ldI rfl rfl ?_
  refine w_push rfl ?_
  refine w_add rfl ?_
  refine w_scld rfl (by rw [m2]; omega) (by rw [m2]; omega) ?_
  rw [m1]
  refine w_callV rfl rfl rfl rfl rfl rfl rfl c2 ?_
  exact w_icEq rfl (fun _ => kk s2 hI2) (fun h => absurd rfl h)
theorem bk_order {X : Nat → Int} {N : Int} {d : Nat} {s : mSt} {cnt i : Int} {Q : mQ} (hO : StO X N) (hI : Inv X N s cnt) (hi : 0 ≤ i ∧ i + 6 ≤ N ∧ N ≤ 3072) (hcn : cnt ≤ 1000) (kk : ∀ s1, Inv X N s1 (cnt + 1) → WP (d + 151) 0 1016 [some (.inr (.inr 1)), some (.inr (.inr 10)), some (.inr (.inr 146)), some (.inl i)] [] (encA s1) Q) : WP (d + 151) 0 573 [some (.inr (.inr 1)), some (.inr (.inr 10)), some (.inr (.inr 146)), some (.inl i)] [] (encA s) Q := by
  obtain ⟨-, -, -, -, -, -, -, hX, -⟩ := id hI
  obtain ⟨r, s1, s2, c1, ⟨m1, m2⟩, c2, hI2⟩ := hO d _ _ (X (i + 1).toNat) hI (hX.1 _)
  have e1 := hX.2.1
  have e2 := hX.2.2
  refine w_ldR rfl rfl rfl ?_
  refine w_ldR rfl rfl rfl ?_
  refine w_ldI rfl rfl ?_
  refine w_push rfl ?_
  refine w_add rfl ?_
  refine w_scld rfl (by rw [e2]; omega) (by rw [e2]; omega) ?_
  rw [e1]
  refine w_callV rfl rfl rfl rfl rfl rfl rfl c1 ?_
  refine w_ldR rfl rfl rfl ?_
  refine w_ldR rfl rfl rfl ?_
  refine w_ldI rfl rfl ?_
  refine w_push rfl ?_
  refine w_add rfl ?_
  refine w_scld rfl (by rw [m2]; omega) (by rw [m2]; omega) ?_
  rw [m1]
  refine w_callV rfl rfl rfl rfl rfl rfl rfl c2 ?_
  exact w_icEq rfl (fun _ => kk s2 hI2) (fun h => absurd rfl h)
theorem bk_seat {X : Nat → Int} {N : Int} {d : Nat} {s : mSt} {cnt i : Int} {Q : mQ} (hI : Inv X N s cnt) (hi : 0 ≤ i ∧ i + 6 ≤ N ∧ N ≤ 3072) (hcn : cnt ≤ 1000) (kk : ∀ s1, Inv X N s1 (cnt + 1) → WP (d + 151) 0 1016 [some (.inr (.inr 1)), some (.inr (.inr 10)), some (.inr (.inr 146)), some (.inl i)] [] (encA s1) Q) : WP (d + 151) 0 590 [some (.inr (.inr 1)), some (.inr (.inr 10)), some (.inr (.inr 146)), some (.inl i)] [] (encA s) Q := by
  obtain ⟨-, -, -, -, -, -, -, hX, -⟩ := id hI
  obtain ⟨r, s1, s2, c1, ⟨m1, m2⟩, c2, hI2⟩ := st_seat (d := d) hI (w := X (i + 1).toNat) (hX.1 _)
  have e1 := hX.2.1
  have e2 := hX.2.2
  refine w_ldR rfl rfl rfl ?_
  refine w_ldR rfl rfl rfl ?_
  refine w_ldI rfl rfl ?_
  refine w_push rfl ?_
  refine w_add rfl ?_
  refine w_scld rfl (by rw [e2]; omega) (by rw [e2]; omega) ?_
  rw [e1]
  refine w_callV rfl rfl rfl rfl rfl rfl rfl c1 ?_
  refine w_ldR rfl rfl rfl ?_
  refine w_ldR rfl rfl rfl ?_
  refine w_ldI rfl rfl ?_
  refine w_push rfl ?_
  refine w_add rfl ?_
  refine w_scld rfl (by rw [m2]; omega) (by rw [m2]; omega) ?_
  rw [m1]
  refine w_callV rfl rfl rfl rfl rfl rfl rfl c2 ?_
  exact w_icEq rfl (fun _ => kk s2 hI2) (fun h => absurd rfl h)
theorem bk_curtain {X : Nat → Int} {N : Int} {d : Nat} {s : mSt} {cnt i : Int} {Q : mQ} (hI : Inv X N s cnt) (hi : 0 ≤ i ∧ i + 6 ≤ N ∧ N ≤ 3072) (hcn : cnt ≤ 1000) (kk : ∀ s1, Inv X N s1 (cnt + 1) → WP (d + 151) 0 1016 [some (.inr (.inr 1)), some (.inr (.inr 10)), some (.inr (.inr 146)), some (.inl i)] [] (encA s1) Q) : WP (d + 151) 0 607 [some (.inr (.inr 1)), some (.inr (.inr 10)), some (.inr (.inr 146)), some (.inl i)] [] (encA s) Q := by
  obtain ⟨-, -, -, -, -, -, -, hX, -⟩ := id hI
  obtain ⟨r, s1, s2, c1, ⟨m1, m2⟩, c2, hI2⟩ := st_curtain (d := d) hI (w := X (i + 1).toNat) (c := X (i + 2).toNat) (hX.1 _) (hX.1 _)
  have e1 := hX.2.1
  have e2 := hX.2.2
  refine w_ldR rfl rfl rfl ?_
  refine w_ldR rfl rfl rfl ?_
  refine w_ldI rfl rfl ?_
  refine w_push rfl ?_
  refine w_add rfl ?_
  refine w_scld rfl (by rw [e2]; omega) (by rw [e2]; omega) ?_
  rw [e1]
  refine w_ldR rfl rfl rfl ?_
  refine w_ldI rfl rfl ?_
  refine w_push rfl ?_
  refine w_add rfl ?_
  refine w_scld rfl (by rw [e2]; omega) (by rw [e2]; omega) ?_
  rw [e1]
  refine w_callV rfl rfl rfl rfl rfl rfl rfl c1 ?_
  refine w_ldR rfl rfl rfl ?_
  refine w_ldR rfl rfl rfl ?_
  refine w_ldI rfl rfl ?_
  refine w_push rfl ?_
  refine w_add rfl ?_
  refine w_scld rfl (by rw [m2]; omega) (by rw [m2]; omega) ?_
  rw [m1]
  refine w_ldR rfl rfl rfl ?_
  refine w_ldI rfl rfl ?_
  refine w_push rfl ?_
  refine w_add rfl ?_
  refine w_scld rfl (by rw [m2]; omega) (by rw [m2]; omega) ?_
  rw [m1]
  refine w_callV rfl rfl rfl rfl rfl rfl rfl c2 ?_
  exact w_icEq rfl (fun _ => kk s2 hI2) (fun h => absurd rfl h)
theorem bk_mirrors {X : Nat → Int} {N : Int} {d : Nat} {s : mSt} {cnt i : Int} {Q : mQ} (hMi : StM X N) (hI : Inv X N s cnt) (hi : 0 ≤ i ∧ i + 6 ≤ N ∧ N ≤ 3072) (hcn : cnt ≤ 1000) (kk : ∀ s1, Inv X N s1 (cnt + 1) → WP (d + 151) 0 1016 [some (.inr (.inr 1)), some (.inr (.inr 10)), some (.inr (.inr 146)), some (.inl i)] [] (encA s1) Q) : WP (d + 151) 0 634 [some (.inr (.inr 1)), some (.inr (.inr 10)), some (.inr (.inr 146)), some (.inl i)] [] (encA s) Q := by
  obtain ⟨-, -, -, -, -, -, -, hX, -⟩ := id hI
  obtain ⟨r, s1, s2, c1, ⟨m1, m2⟩, c2, hI2⟩ := hMi d _ _ (X (i + 1).toNat) (X (i + 2).toNat) (X (i + 3).toNat) (X (i + 4).toNat) hI (hX.1 _) (hX.1 _) (hX.1 _) (hX.1 _)
  have e1 := hX.2.1
  have e2 := hX.2.2
  refine w_ldR rfl rfl rfl ?_
  refine w_ldR rfl rfl rfl ?_
  refine w_ldI rfl rfl ?_
  refine w_push rfl ?_
  refine w_add rfl ?_
  refine w_scld rfl (by rw [e2]; omega) (by rw [e2]; omega) ?_
  rw [e1]
  refine w_ldR rfl rfl rfl ?_
  refine w_ldI rfl rfl ?_
  refine w_push rfl ?_
  refine w_add rfl ?_
  refine w_scld rfl (by rw [e2]; omega) (by rw [e2]; omega) ?_
  rw [e1]
  refine w_ldR rfl rfl rfl ?_
  refine w_ldI rfl rfl ?_
  refine w_push rfl ?_
  refine w_add rfl ?_
  refine w_scld rfl (by rw [e2]; omega) (by rw [e2]; omega) ?_
  rw [e1]
  refine w_ldR rfl rfl rfl ?_
  refine w_ldI rfl rfl ?_
  refine w_push rfl ?_
  refine w_add rfl ?_
  refine w_scld rfl (by rw [e2]; omega) (by rw [e2]; omega) ?_
  rw [e1]
  refine w_callV rfl rfl rfl rfl rfl rfl rfl c1 ?_
  refine w_ldR rfl rfl rfl ?_
  refine w_ldR rfl rfl rfl ?_
  refine w_ldI rfl rfl ?_
  refine w_push rfl ?_
  refine w_add rfl ?_
  refine w_scld rfl (by rw [m2]; omega) (by rw [m2]; omega) ?_
  rw [m1]
  refine w_ldR rfl rfl rfl ?_
  refine w_ldI rfl rfl ?_
  refine w_push rfl ?_
  refine w_add rfl ?_
  refine w_scld rfl (by rw [m2]; omega) (by rw [m2]; omega) ?_
  rw [m1]
  refine w_ldR rfl rfl rfl ?_
  refine w_ldI rfl rfl ?_
  refine w_push rfl ?_
  refine w_add rfl ?_
  refine w_scld rfl (by rw [m2]; omega) (by rw [m2]; omega) ?_
  rw [m1]
  refine w_ldR rfl rfl rfl ?_
  refine w_ldI rfl rfl ?_
  refine w_push rfl ?_
  refine w_add rfl ?_
  refine w_scld rfl (by rw [m2]; omega) (by rw [m2]; omega) ?_
  rw [m1]
  refine w_callV rfl rfl rfl rfl rfl rfl rfl c2 ?_
  exact w_icEq rfl (fun _ => kk s2 hI2) (fun h => absurd rfl h)
theorem bk_whose {X : Nat → Int} {N : Int} {d : Nat} {s : mSt} {cnt i : Int} {Q : mQ} (hI : Inv X N s cnt) (hi : 0 ≤ i ∧ i + 6 ≤ N ∧ N ≤ 3072) (hcn : cnt ≤ 1000) (kk : ∀ s1, Inv X N s1 (cnt + 1) → WP (d + 151) 0 1016 [some (.inr (.inr 1)), some (.inr (.inr 10)), some (.inr (.inr 146)), some (.inl i)] [] (encA s1) Q) : WP (d + 151) 0 681 [some (.inr (.inr 1)), some (.inr (.inr 10)), some (.inr (.inr 146)), some (.inl i)] [] (encA s) Q := by
  obtain ⟨-, -, -, -, -, -, -, hX, -⟩ := id hI
  obtain ⟨r, s1, s2, c1, ⟨m1, m2⟩, c2, hI2⟩ := st_whose (d := d) hI (q := X (i + 1).toNat) (hX.1 _)
  have e1 := hX.2.1
  have e2 := hX.2.2
  refine w_ldR rfl rfl rfl ?_
  refine w_ldR rfl rfl rfl ?_
  refine w_ldI rfl rfl ?_
  refine w_push rfl ?_
  refine w_add rfl ?_
  refine w_scld rfl (by rw [e2]; omega) (by rw [e2]; omega) ?_
  rw [e1]
  refine w_callV rfl rfl rfl rfl rfl rfl rfl c1 ?_
  refine w_ldR rfl rfl rfl ?_
  refine w_ldR rfl rfl rfl ?_
  refine w_ldI rfl rfl ?_
  refine w_push rfl ?_
  refine w_add rfl ?_
  refine w_scld rfl (by rw [m2]; omega) (by rw [m2]; omega) ?_
  rw [m1]
  refine w_callV rfl rfl rfl rfl rfl rfl rfl c2 ?_
  exact w_icEq rfl (fun _ => kk s2 hI2) (fun h => absurd rfl h)
theorem bk_seed {X : Nat → Int} {N : Int} {d : Nat} {s : mSt} {cnt i : Int} {Q : mQ} (hI : Inv X N s cnt) (hi : 0 ≤ i ∧ i + 6 ≤ N ∧ N ≤ 3072) (hcn : cnt ≤ 1000) (kk : ∀ s1, Inv X N s1 (cnt + 1) → WP (d + 151) 0 1016 [some (.inr (.inr 1)), some (.inr (.inr 10)), some (.inr (.inr 146)), some (.inl i)] [] (encA s1) Q) : WP (d + 151) 0 698 [some (.inr (.inr 1)), some (.inr (.inr 10)), some (.inr (.inr 146)), some (.inl i)] [] (encA s) Q := by
  obtain ⟨-, -, -, -, -, -, -, hX, -⟩ := id hI
  obtain ⟨r, s1, s2, c1, ⟨m1, m2⟩, c2, hI2⟩ := st_seed (d := d) hI (v := X (i + 1).toNat)
  have e1 := hX.2.1
  have e2 := hX.2.2
  refine w_ldR rfl rfl rfl ?_
  refine w_ldR rfl rfl rfl ?_
  refine w_ldI rfl rfl ?_
  refine w_push rfl ?_
  refine w_add rfl ?_
  refine w_scld rfl (by rw [e2]; omega) (by rw [e2]; omega) ?_
  rw [e1]
  refine w_callV rfl rfl rfl rfl rfl rfl rfl c1 ?_
  refine w_ldR rfl rfl rfl ?_
  refine w_ldR rfl rfl rfl ?_
  refine w_ldI rfl rfl ?_
  refine w_push rfl ?_
  refine w_add rfl ?_
  refine w_scld rfl (by rw [m2]; omega) (by rw [m2]; omega) ?_
  rw [m1]
  refine w_callV rfl rfl rfl rfl rfl rfl rfl c2 ?_
  exact w_icEq rfl (fun _ => kk s2 hI2) (fun h => absurd rfl h)
theorem bk_voice {X : Nat → Int} {N : Int} {d : Nat} {s : mSt} {cnt i : Int} {Q : mQ} (hI : Inv X N s cnt) (hi : 0 ≤ i ∧ i + 6 ≤ N ∧ N ≤ 3072) (hcn : cnt ≤ 1000) (kk : ∀ s1, Inv X N s1 (cnt + 1) → WP (d + 151) 0 1016 [some (.inr (.inr 1)), some (.inr (.inr 10)), some (.inr (.inr 146)), some (.inl i)] [] (encA s1) Q) : WP (d + 151) 0 715 [some (.inr (.inr 1)), some (.inr (.inr 10)), some (.inr (.inr 146)), some (.inl i)] [] (encA s) Q := by
  obtain ⟨-, -, -, -, -, -, -, hX, -⟩ := id hI
  obtain ⟨r, s1, s2, c1, ⟨m1, m2⟩, c2, hI2⟩ := st_voice (d := d) hI (w := X (i + 1).toNat) (act := X (i + 2).toNat) (x := X (i + 3).toNat) (hX.1 _) (hX.1 _)
  have e1 := hX.2.1
  have e2 := hX.2.2
  refine w_ldR rfl rfl rfl ?_
  refine w_ldR rfl rfl rfl ?_
  refine w_ldI rfl rfl ?_
  refine w_push rfl ?_
  refine w_add rfl ?_
  refine w_scld rfl (by rw [e2]; omega) (by rw [e2]; omega) ?_
  rw [e1]
  refine w_ldR rfl rfl rfl ?_
  refine w_ldI rfl rfl ?_
  refine w_push rfl ?_
  refine w_add rfl ?_
  refine w_scld rfl (by rw [e2]; omega) (by rw [e2]; omega) ?_
  rw [e1]
  refine w_ldR rfl rfl rfl ?_
  refine w_ldI rfl rfl ?_
  refine w_push rfl ?_
  refine w_add rfl ?_
  refine w_scld rfl (by rw [e2]; omega) (by rw [e2]; omega) ?_
  rw [e1]
  refine w_callV rfl rfl rfl rfl rfl rfl rfl c1 ?_
  refine w_ldR rfl rfl rfl ?_
  refine w_ldR rfl rfl rfl ?_
  refine w_ldI rfl rfl ?_
  refine w_push rfl ?_
  refine w_add rfl ?_
  refine w_scld rfl (by rw [m2]; omega) (by rw [m2]; omega) ?_
  rw [m1]
  refine w_ldR rfl rfl rfl ?_
  refine w_ldI rfl rfl ?_
  refine w_push rfl ?_
  refine w_add rfl ?_
  refine w_scld rfl (by rw [m2]; omega) (by rw [m2]; omega) ?_
  rw [m1]
  refine w_ldR rfl rfl rfl ?_
  refine w_ldI rfl rfl ?_
  refine w_push rfl ?_
  refine w_add rfl ?_
  refine w_scld rfl (by rw [m2]; omega) (by rw [m2]; omega) ?_
  rw [m1]
  refine w_callV rfl rfl rfl rfl rfl rfl rfl c2 ?_
  exact w_icEq rfl (fun _ => kk s2 hI2) (fun h => absurd rfl h)
theorem bk_trace {X : Nat → Int} {N : Int} {d : Nat} {s : mSt} {cnt i : Int} {Q : mQ} (hI : Inv X N s cnt) (hi : 0 ≤ i ∧ i + 6 ≤ N ∧ N ≤ 3072) (hcn : cnt ≤ 1000) (kk : ∀ s1, Inv X N s1 (cnt + 1) → WP (d + 151) 0 1016 [some (.inr (.inr 1)), some (.inr (.inr 10)), some (.inr (.inr 146)), some (.inl i)] [] (encA s1) Q) : WP (d + 151) 0 752 [some (.inr (.inr 1)), some (.inr (.inr 10)), some (.inr (.inr 146)), some (.inl i)] [] (encA s) Q := by
  obtain ⟨-, -, -, -, -, -, -, hX, -⟩ := id hI
  obtain ⟨r, s1, s2, c1, ⟨m1, m2⟩, c2, hI2⟩ := st_trace (d := d) hI (i := X (i + 1).toNat) (hX.1 _)
  have e1 := hX.2.1
  have e2 := hX.2.2
  refine w_ldR rfl rfl rfl ?_
  refine w_ldR rfl rfl rfl ?_
  refine w_ldI rfl rfl ?_
  refine w_push rfl ?_
  refine w_add rfl ?_
  refine w_scld rfl (by rw [e2]; omega) (by rw [e2]; omega) ?_
  rw [e1]
  refine w_callV rfl rfl rfl rfl rfl rfl rfl c1 ?_
  refine w_ldR rfl rfl rfl ?_
  refine w_ldR rfl rfl rfl ?_
  refine w_ldI rfl rfl ?_
  refine w_push rfl ?_
  refine w_add rfl ?_
  refine w_scld rfl (by rw [m2]; omega) (by rw [m2]; omega) ?_
  rw [m1]
  refine w_callV rfl rfl rfl rfl rfl rfl rfl c2 ?_
  exact w_icEq rfl (fun _ => kk s2 hI2) (fun h => absurd rfl h)
theorem bk_sheet {X : Nat → Int} {N : Int} {d : Nat} {s : mSt} {cnt i : Int} {Q : mQ} (hI : Inv X N s cnt) (hi : 0 ≤ i ∧ i + 6 ≤ N ∧ N ≤ 3072) (hcn : cnt ≤ 1000) (kk : ∀ s1, Inv X N s1 (cnt + 1) → WP (d + 151) 0 1016 [some (.inr (.inr 1)), some (.inr (.inr 10)), some (.inr (.inr 146)), some (.inl i)] [] (encA s1) Q) : WP (d + 151) 0 769 [some (.inr (.inr 1)), some (.inr (.inr 10)), some (.inr (.inr 146)), some (.inl i)] [] (encA s) Q := by
  obtain ⟨-, -, -, -, -, -, -, hX, -⟩ := id hI
  obtain ⟨r, s1, s2, c1, ⟨m1, m2⟩, c2, hI2⟩ := st_sheet (d := d) hI (w := X (i + 1).toNat) (b := X (i + 2).toNat) (n := X (i + 3).toNat) (hX.1 _) (hX.1 _) (hX.1 _)
  have e1 := hX.2.1
  have e2 := hX.2.2
  refine w_ldR rfl rfl rfl ?_
  refine w_ldR rfl rfl rfl ?_
  refine w_ldI rfl rfl ?_
  refine w_push rfl ?_
  refine w_add rfl ?_
  refine w_scld rfl (by rw [e2]; omega) (by rw [e2]; omega) ?_
  rw [e1]
  refine w_ldR rfl rfl rfl ?_
  refine w_ldI rfl rfl ?_
  refine w_push rfl ?_
  refine w_add rfl ?_
  refine w_scld rfl (by rw [e2]; omega) (by rw [e2]; omega) ?_
  rw [e1]
  refine w_ldR rfl rfl rfl ?_
  refine w_ldI rfl rfl ?_
  refine w_push rfl ?_
  refine w_add rfl ?_
  refine w_scld rfl (by rw [e2]; omega) (by rw [e2]; omega) ?_
  rw [e1]
  refine w_callV rfl rfl rfl rfl rfl rfl rfl c1 ?_
  refine w_ldR rfl rfl rfl ?_
  refine w_ldR rfl rfl rfl ?_
  refine w_ldI rfl rfl ?_
  refine w_push rfl ?_
  refine w_add rfl ?_
  refine w_scld rfl (by rw [m2]; omega) (by rw [m2]; omega) ?_
  rw [m1]
  refine w_ldR rfl rfl rfl ?_
  refine w_ldI rfl rfl ?_
  refine w_push rfl ?_
  refine w_add rfl ?_
  refine w_scld rfl (by rw [m2]; omega) (by rw [m2]; omega) ?_
  rw [m1]
  refine w_ldR rfl rfl rfl ?_
  refine w_ldI rfl rfl ?_
  refine w_push rfl ?_
  refine w_add rfl ?_
  refine w_scld rfl (by rw [m2]; omega) (by rw [m2]; omega) ?_
  rw [m1]
  refine w_callV rfl rfl rfl rfl rfl rfl rfl c2 ?_
  exact w_icEq rfl (fun _ => kk s2 hI2) (fun h => absurd rfl h)
theorem bk_put {X : Nat → Int} {N : Int} {d : Nat} {s : mSt} {cnt i : Int} {Q : mQ} (hI : Inv X N s cnt) (hi : 0 ≤ i ∧ i + 6 ≤ N ∧ N ≤ 3072) (hcn : cnt ≤ 1000) (kk : ∀ s1, Inv X N s1 (cnt + 1) → WP (d + 151) 0 1016 [some (.inr (.inr 1)), some (.inr (.inr 10)), some (.inr (.inr 146)), some (.inl i)] [] (encA s1) Q) : WP (d + 151) 0 806 [some (.inr (.inr 1)), some (.inr (.inr 10)), some (.inr (.inr 146)), some (.inl i)] [] (encA s) Q := by
  obtain ⟨-, -, -, -, -, -, -, hX, -⟩ := id hI
  obtain ⟨r, s1, s2, c1, ⟨m1, m2⟩, c2, hI2⟩ := st_put (d := d) hI (w := X (i + 1).toNat) (i := X (i + 2).toNat) (v := X (i + 3).toNat) (hX.1 _) (hX.1 _) (hX.1 _)
  have e1 := hX.2.1
  have e2 := hX.2.2
  refine w_ldR rfl rfl rfl ?_
  refine w_ldR rfl rfl rfl ?_
  refine w_ldI rfl rfl ?_
  refine w_push rfl ?_
  refine w_add rfl ?_
  refine w_scld rfl (by rw [e2]; omega) (by rw [e2]; omega) ?_
  rw [e1]
  refine w_ldR rfl rfl rfl ?_
  refine w_ldI rfl rfl ?_
  refine w_push rfl ?_
  refine w_add rfl ?_
  refine w_scld rfl (by rw [e2]; omega) (by rw [e2]; omega) ?_
  rw [e1]
  refine w_ldR rfl rfl rfl ?_
  refine w_ldI rfl rfl ?_
  refine w_push rfl ?_
  refine w_add rfl ?_
  refine w_scld rfl (by rw [e2]; omega) (by rw [e2]; omega) ?_
  rw [e1]
  refine w_callV rfl rfl rfl rfl rfl rfl rfl c1 ?_
  refine w_ldR rfl rfl rfl ?_
  refine w_ldR rfl rfl rfl ?_
  refine w_ldI rfl rfl ?_
  refine w_push rfl ?_
  refine w_add rfl ?_
  refine w_scld rfl (by rw [m2]; omega) (by rw [m2]; omega) ?_
  rw [m1]
  refine w_ldR rfl rfl rfl ?_
  refine w_ldI rfl rfl ?_
  refine w_push rfl ?_
  refine w_add rfl ?_
  refine w_scld rfl (by rw [m2]; omega) (by rw [m2]; omega) ?_
  rw [m1]
  refine w_ldR rfl rfl rfl ?_
  refine w_ldI rfl rfl ?_
  refine w_push rfl ?_
  refine w_add rfl ?_
  refine w_scld rfl (by rw [m2]; omega) (by rw [m2]; omega) ?_
  rw [m1]
  refine w_callV rfl rfl rfl rfl rfl rfl rfl c2 ?_
  exact w_icEq rfl (fun _ => kk s2 hI2) (fun h => absurd rfl h)
theorem bk_move {X : Nat → Int} {N : Int} {d : Nat} {s : mSt} {cnt i : Int} {Q : mQ} (hI : Inv X N s cnt) (hi : 0 ≤ i ∧ i + 6 ≤ N ∧ N ≤ 3072) (hcn : cnt ≤ 1000) (kk : ∀ s1, Inv X N s1 (cnt + 1) → WP (d + 151) 0 1016 [some (.inr (.inr 1)), some (.inr (.inr 10)), some (.inr (.inr 146)), some (.inl i)] [] (encA s1) Q) : WP (d + 151) 0 843 [some (.inr (.inr 1)), some (.inr (.inr 10)), some (.inr (.inr 146)), some (.inl i)] [] (encA s) Q := by
  obtain ⟨-, -, -, -, -, -, -, hX, -⟩ := id hI
  obtain ⟨r, s1, s2, c1, ⟨m1, m2⟩, c2, hI2⟩ := st_move (d := d) hI (w := X (i + 1).toNat) (i := X (i + 2).toNat) (o := X (i + 3).toNat) (j := X (i + 4).toNat) (n := X (i + 5).toNat) (hX.1 _) (hX.1 _) (hX.1 _) (hX.1 _) (hX.1 _)
  have e1 := hX.2.1
  have e2 := hX.2.2
  refine w_ldR rfl rfl rfl ?_
  refine w_ldR rfl rfl rfl ?_
  refine w_ldI rfl rfl ?_
  refine w_push rfl ?_
  refine w_add rfl ?_
  refine w_scld rfl (by rw [e2]; omega) (by rw [e2]; omega) ?_
  rw [e1]
  refine w_ldR rfl rfl rfl ?_
  refine w_ldI rfl rfl ?_
  refine w_push rfl ?_
  refine w_add rfl ?_
  refine w_scld rfl (by rw [e2]; omega) (by rw [e2]; omega) ?_
  rw [e1]
  refine w_ldR rfl rfl rfl ?_
  refine w_ldI rfl rfl ?_
  refine w_push rfl ?_
  refine w_add rfl ?_
  refine w_scld rfl (by rw [e2]; omega) (by rw [e2]; omega) ?_
  rw [e1]
  refine w_ldR rfl rfl rfl ?_
  refine w_ldI rfl rfl ?_
  refine w_push rfl ?_
  refine w_add rfl ?_
  refine w_scld rfl (by rw [e2]; omega) (by rw [e2]; omega) ?_
  rw [e1]
  refine w_ldR rfl rfl rfl ?_
  refine w_ldI rfl rfl ?_
  refine w_push rfl ?_
  refine w_add rfl ?_
  refine w_scld rfl (by rw [e2]; omega) (by rw [e2]; omega) ?_
  rw [e1]
  refine w_callV rfl rfl rfl rfl rfl rfl rfl c1 ?_
  refine w_ldR rfl rfl rfl ?_
  refine w_ldR rfl rfl rfl ?_
  refine w_ldI rfl rfl ?_
  refine w_push rfl ?_
  refine w_add rfl ?_
  refine w_scld rfl (by rw [m2]; omega) (by rw [m2]; omega) ?_
  rw [m1]
  refine w_ldR rfl rfl rfl ?_
  refine w_ldI rfl rfl ?_
  refine w_push rfl ?_
  refine w_add rfl ?_
  refine w_scld rfl (by rw [m2]; omega) (by rw [m2]; omega) ?_
  rw [m1]
  refine w_ldR rfl rfl rfl ?_
  refine w_ldI rfl rfl ?_
  refine w_push rfl ?_
  refine w_add rfl ?_
  refine w_scld rfl (by rw [m2]; omega) (by rw [m2]; omega) ?_
  rw [m1]
  refine w_ldR rfl rfl rfl ?_
  refine w_ldI rfl rfl ?_
  refine w_push rfl ?_
  refine w_add rfl ?_
  refine w_scld rfl (by rw [m2]; omega) (by rw [m2]; omega) ?_
  rw [m1]
  refine w_ldR rfl rfl rfl ?_
  refine w_ldI rfl rfl ?_
  refine w_push rfl ?_
  refine w_add rfl ?_
  refine w_scld rfl (by rw [m2]; omega) (by rw [m2]; omega) ?_
  rw [m1]
  refine w_callV rfl rfl rfl rfl rfl rfl rfl c2 ?_
  exact w_icEq rfl (fun _ => kk s2 hI2) (fun h => absurd rfl h)
theorem bk_cells {X : Nat → Int} {N : Int} {d : Nat} {s : mSt} {cnt i : Int} {Q : mQ} (hI : Inv X N s cnt) (hi : 0 ≤ i ∧ i + 6 ≤ N ∧ N ≤ 3072) (hcn : cnt ≤ 1000) (kk : ∀ s1, Inv X N s1 (cnt + 1) → WP (d + 151) 0 1016 [some (.inr (.inr 1)), some (.inr (.inr 10)), some (.inr (.inr 146)), some (.inl i)] [] (encA s1) Q) : WP (d + 151) 0 900 [some (.inr (.inr 1)), some (.inr (.inr 10)), some (.inr (.inr 146)), some (.inl i)] [] (encA s) Q := by
  obtain ⟨-, -, -, -, -, -, -, hX, -⟩ := id hI
  obtain ⟨r, s1, s2, c1, ⟨m1, m2⟩, c2, hI2⟩ := st_cells (d := d) hI (w := X (i + 1).toNat) (hX.1 _)
  have e1 := hX.2.1
  have e2 := hX.2.2
  refine w_ldR rfl rfl rfl ?_
  refine w_ldR rfl rfl rfl ?_
  refine w_ldI rfl rfl ?_
  refine w_push rfl ?_
  refine w_add rfl ?_
  refine w_scld rfl (by rw [e2]; omega) (by rw [e2]; omega) ?_
  rw [e1]
  refine w_callV rfl rfl rfl rfl rfl rfl rfl c1 ?_
  refine w_ldR rfl rfl rfl ?_
  refine w_ldR rfl rfl rfl ?_
  refine w_ldI rfl rfl ?_
  refine w_push rfl ?_
  refine w_add rfl ?_
  refine w_scld rfl (by rw [m2]; omega) (by rw [m2]; omega) ?_
  rw [m1]
  refine w_callV rfl rfl rfl rfl rfl rfl rfl c2 ?_
  exact w_icEq rfl (fun _ => kk s2 hI2) (fun h => absurd rfl h)
theorem bk_judge {X : Nat → Int} {N : Int} {d : Nat} {s : mSt} {cnt i : Int} {Q : mQ} (hI : Inv X N s cnt) (hi : 0 ≤ i ∧ i + 6 ≤ N ∧ N ≤ 3072) (hcn : cnt ≤ 1000) (kk : ∀ s1, Inv X N s1 (cnt + 1) → WP (d + 151) 0 1016 [some (.inr (.inr 1)), some (.inr (.inr 10)), some (.inr (.inr 146)), some (.inl i)] [] (encA s1) Q) : WP (d + 151) 0 917 [some (.inr (.inr 1)), some (.inr (.inr 10)), some (.inr (.inr 146)), some (.inl i)] [] (encA s) Q := by
  obtain ⟨-, -, -, -, -, -, -, hX, -⟩ := id hI
  obtain ⟨r, s1, s2, c1, ⟨m1, m2⟩, c2, hI2⟩ := st_judge (d := d) hI (w := X (i + 1).toNat) (q := X (i + 2).toNat) (hX.1 _) (hX.1 _)
  have e1 := hX.2.1
  have e2 := hX.2.2
  refine w_ldR rfl rfl rfl ?_
  refine w_ldR rfl rfl rfl ?_
  refine w_ldI rfl rfl ?_
  refine w_push rfl ?_
  refine w_add rfl ?_
  refine w_scld rfl (by rw [e2]; omega) (by rw [e2]; omega) ?_
  rw [e1]
  refine w_ldR rfl rfl rfl ?_
  refine w_ldI rfl rfl ?_
  refine w_push rfl ?_
  refine w_add rfl ?_
  refine w_scld rfl (by rw [e2]; omega) (by rw [e2]; omega) ?_
  rw [e1]
  refine w_callV rfl rfl rfl rfl rfl rfl rfl c1 ?_
  refine w_ldR rfl rfl rfl ?_
  refine w_ldR rfl rfl rfl ?_
  refine w_ldI rfl rfl ?_
  refine w_push rfl ?_
  refine w_add rfl ?_
  refine w_scld rfl (by rw [m2]; omega) (by rw [m2]; omega) ?_
  rw [m1]
  refine w_ldR rfl rfl rfl ?_
  refine w_ldI rfl rfl ?_
  refine w_push rfl ?_
  refine w_add rfl ?_
  refine w_scld rfl (by rw [m2]; omega) (by rw [m2]; omega) ?_
  rw [m1]
  refine w_callV rfl rfl rfl rfl rfl rfl rfl c2 ?_
  exact w_icEq rfl (fun _ => kk s2 hI2) (fun h => absurd rfl h)
theorem bk_image {X : Nat → Int} {N : Int} {d : Nat} {s : mSt} {cnt i : Int} {Q : mQ} (hI : Inv X N s cnt) (hi : 0 ≤ i ∧ i + 6 ≤ N ∧ N ≤ 3072) (hcn : cnt ≤ 1000) (kk : ∀ s1, Inv X N s1 (cnt + 1) → WP (d + 151) 0 1016 [some (.inr (.inr 1)), some (.inr (.inr 10)), some (.inr (.inr 146)), some (.inl i)] [] (encA s1) Q) : WP (d + 151) 0 944 [some (.inr (.inr 1)), some (.inr (.inr 10)), some (.inr (.inr 146)), some (.inl i)] [] (encA s) Q := by
  obtain ⟨-, -, -, -, -, -, -, hX, -⟩ := id hI
  obtain ⟨r, s1, s2, c1, ⟨m1, m2⟩, c2, hI2⟩ := st_image (d := d) hI 
  have e1 := hX.2.1
  have e2 := hX.2.2
  refine w_ldR rfl rfl rfl ?_
  refine w_callV rfl rfl rfl rfl rfl rfl rfl c1 ?_
  refine w_ldR rfl rfl rfl ?_
  refine w_callV rfl rfl rfl rfl rfl rfl rfl c2 ?_
  exact w_icEq rfl (fun _ => kk s2 hI2) (fun h => absurd rfl h)
theorem bk_restore {X : Nat → Int} {N : Int} {d : Nat} {s : mSt} {cnt i : Int} {Q : mQ} (hI : Inv X N s cnt) (hi : 0 ≤ i ∧ i + 6 ≤ N ∧ N ≤ 3072) (hcn : cnt ≤ 1000) (kk : ∀ s1, Inv X N s1 (cnt + 1) → WP (d + 151) 0 1016 [some (.inr (.inr 1)), some (.inr (.inr 10)), some (.inr (.inr 146)), some (.inl i)] [] (encA s1) Q) : WP (d + 151) 0 951 [some (.inr (.inr 1)), some (.inr (.inr 10)), some (.inr (.inr 146)), some (.inl i)] [] (encA s) Q := by
  obtain ⟨-, -, -, -, -, -, -, hX, -⟩ := id hI
  obtain ⟨r, s1, s2, c1, ⟨m1, m2⟩, c2, hI2⟩ := st_restore (d := d) hI (by omega)
  have e1 := hX.2.1
  have e2 := hX.2.2
  refine w_ldR rfl rfl rfl ?_
  refine w_callV rfl rfl rfl rfl rfl rfl rfl c1 ?_
  refine w_ldR rfl rfl rfl ?_
  refine w_callV rfl rfl rfl rfl rfl rfl rfl c2 ?_
  exact w_icEq rfl (fun _ => kk s2 hI2) (fun h => absurd rfl h)
theorem bk_tell {X : Nat → Int} {N : Int} {d : Nat} {s : mSt} {cnt i : Int} {Q : mQ} (hI : Inv X N s cnt) (hi : 0 ≤ i ∧ i + 6 ≤ N ∧ N ≤ 3072) (hcn : cnt ≤ 1000) (kk : ∀ s1, Inv X N s1 (cnt + 1) → WP (d + 151) 0 1016 [some (.inr (.inr 1)), some (.inr (.inr 10)), some (.inr (.inr 146)), some (.inl i)] [] (encA s1) Q) : WP (d + 151) 0 958 [some (.inr (.inr 1)), some (.inr (.inr 10)), some (.inr (.inr 146)), some (.inl i)] [] (encA s) Q := by
  obtain ⟨-, -, -, -, -, -, -, hX, -⟩ := id hI
  obtain ⟨r, s1, s2, c1, ⟨m1, m2⟩, c2, hI2⟩ := st_tell (d := d) hI (v := X (i + 1).toNat)
  have e1 := hX.2.1
  have e2 := hX.2.2
  refine w_ldR rfl rfl rfl ?_
  refine w_ldR rfl rfl rfl ?_
  refine w_ldI rfl rfl ?_
  refine w_push rfl ?_
  refine w_add rfl ?_
  refine w_scld rfl (by rw [e2]; omega) (by rw [e2]; omega) ?_
  rw [e1]
  refine w_callV rfl rfl rfl rfl rfl rfl rfl c1 ?_
  refine w_ldR rfl rfl rfl ?_
  refine w_ldR rfl rfl rfl ?_
  refine w_ldI rfl rfl ?_
  refine w_push rfl ?_
  refine w_add rfl ?_
  refine w_scld rfl (by rw [m2]; omega) (by rw [m2]; omega) ?_
  rw [m1]
  refine w_callV rfl rfl rfl rfl rfl rfl rfl c2 ?_
  exact w_icEq rfl (fun _ => kk s2 hI2) (fun h => absurd rfl h)
theorem bk_check {X : Nat → Int} {N : Int} {d : Nat} {s : mSt} {cnt i : Int} {Q : mQ} (hI : Inv X N s cnt) (hi : 0 ≤ i ∧ i + 6 ≤ N ∧ N ≤ 3072) (hcn : cnt ≤ 1000) (kk : ∀ s1, Inv X N s1 (cnt + 1) → WP (d + 151) 0 1016 [some (.inr (.inr 1)), some (.inr (.inr 10)), some (.inr (.inr 146)), some (.inl i)] [] (encA s1) Q) : WP (d + 151) 0 975 [some (.inr (.inr 1)), some (.inr (.inr 10)), some (.inr (.inr 146)), some (.inl i)] [] (encA s) Q := by
  obtain ⟨-, -, -, -, -, -, -, hX, -⟩ := id hI
  obtain ⟨r, s1, s2, c1, ⟨m1, m2⟩, c2, hI2⟩ := st_check (d := d) hI 
  have e1 := hX.2.1
  have e2 := hX.2.2
  refine w_ldR rfl rfl rfl ?_
  refine w_callV rfl rfl rfl rfl rfl rfl rfl c1 ?_
  refine w_ldR rfl rfl rfl ?_
  refine w_callV rfl rfl rfl rfl rfl rfl rfl c2 ?_
  exact w_icEq rfl (fun _ => kk s2 hI2) (fun h => absurd rfl h)
theorem bk_count {X : Nat → Int} {N : Int} {d : Nat} {s : mSt} {cnt i : Int} {Q : mQ} (hI : Inv X N s cnt) (hi : 0 ≤ i ∧ i + 6 ≤ N ∧ N ≤ 3072) (hcn : cnt ≤ 1000) (kk : ∀ s1, Inv X N s1 (cnt + 1) → WP (d + 151) 0 1016 [some (.inr (.inr 1)), some (.inr (.inr 10)), some (.inr (.inr 146)), some (.inl i)] [] (encA s1) Q) : WP (d + 151) 0 982 [some (.inr (.inr 1)), some (.inr (.inr 10)), some (.inr (.inr 146)), some (.inl i)] [] (encA s) Q := by
  obtain ⟨-, -, -, -, -, -, -, hX, -⟩ := id hI
  obtain ⟨r, s1, s2, c1, ⟨m1, m2⟩, c2, hI2⟩ := st_count (d := d) hI (k := X (i + 1).toNat) (hX.1 _)
  have e1 := hX.2.1
  have e2 := hX.2.2
  refine w_ldR rfl rfl rfl ?_
  refine w_ldR rfl rfl rfl ?_
  refine w_ldI rfl rfl ?_
  refine w_push rfl ?_
  refine w_add rfl ?_
  refine w_scld rfl (by rw [e2]; omega) (by rw [e2]; omega) ?_
  rw [e1]
  refine w_callV rfl rfl rfl rfl rfl rfl rfl c1 ?_
  refine w_ldR rfl rfl rfl ?_
  refine w_ldR rfl rfl rfl ?_
  refine w_ldI rfl rfl ?_
  refine w_push rfl ?_
  refine w_add rfl ?_
  refine w_scld rfl (by rw [m2]; omega) (by rw [m2]; omega) ?_
  rw [m1]
  refine w_callV rfl rfl rfl rfl rfl rfl rfl c2 ?_
  exact w_icEq rfl (fun _ => kk s2 hI2) (fun h => absurd rfl h)
theorem bk_told {X : Nat → Int} {N : Int} {d : Nat} {s : mSt} {cnt i : Int} {Q : mQ} (hI : Inv X N s cnt) (hi : 0 ≤ i ∧ i + 6 ≤ N ∧ N ≤ 3072) (hcn : cnt ≤ 1000) (kk : ∀ s1, Inv X N s1 (cnt + 1) → WP (d + 151) 0 1016 [some (.inr (.inr 1)), some (.inr (.inr 10)), some (.inr (.inr 146)), some (.inl i)] [] (encA s1) Q) : WP (d + 151) 0 999 [some (.inr (.inr 1)), some (.inr (.inr 10)), some (.inr (.inr 146)), some (.inl i)] [] (encA s) Q := by
  obtain ⟨-, -, -, -, -, -, -, hX, -⟩ := id hI
  obtain ⟨r, s1, s2, c1, ⟨m1, m2⟩, c2, hI2⟩ := st_told (d := d) hI (k := X (i + 1).toNat) (hX.1 _)
  have e1 := hX.2.1
  have e2 := hX.2.2
  refine w_ldR rfl rfl rfl ?_
  refine w_ldR rfl rfl rfl ?_
  refine w_ldI rfl rfl ?_
  refine w_push rfl ?_
  refine w_add rfl ?_
  refine w_scld rfl (by rw [e2]; omega) (by rw [e2]; omega) ?_
  rw [e1]
  refine w_callV rfl rfl rfl rfl rfl rfl rfl c1 ?_
  refine w_ldR rfl rfl rfl ?_
  refine w_ldR rfl rfl rfl ?_
  refine w_ldI rfl rfl ?_
  refine w_push rfl ?_
  refine w_add rfl ?_
  refine w_scld rfl (by rw [m2]; omega) (by rw [m2]; omega) ?_
  rw [m1]
  refine w_callV rfl rfl rfl rfl rfl rfl rfl c2 ?_
  exact w_icEq rfl (fun _ => kk s2 hI2) (fun h => absurd rfl h)
theorem law_loop {X : Nat → Int} {N : Int} {d : Nat} (hT : StT X N) (hO : StO X N) (hMi : StM X N) (hN : 0 ≤ N ∧ N ≤ 3072) (m : Nat) : ∀ (s : mSt) (cnt i : Int), Inv X N s cnt → i = 6 * cnt → 0 ≤ cnt → i ≤ N + 6 → N - i < 6 * (m : Int) → WP (d + 151) 0 10 [some (.inr (.inr 1)), some (.inr (.inr 10)), some (.inr (.inr 146)), some (.inl i)] [] (encA s) (QI (fun v _ => v = 1)) := by
  induction m with
  | zero =>
    intro s cnt i hI hi hc hle hm
    obtain ⟨-, -, -, -, -, -, -, hX, -⟩ := id hI
    have e2 := hX.2.2
    refine w_ldI rfl rfl ?_
    refine w_ldR rfl rfl rfl ?_
    refine w_sclen rfl (by rw [e2]; omega) ?_
    rw [e2]
    refine w_push rfl ?_
    refine w_sub rfl ?_
    refine w_crGt rfl (by omega) (by omega) (fun b => ?_) (fun b => by exfalso; omega)
    refine w_push rfl ?_
    exact w_retB rfl (by decide) rfl
  | succ m ih =>
    intro s cnt i hI hi hc hle hm
    obtain ⟨-, -, -, -, -, -, -, hX, -⟩ := id hI
    have e1 := hX.2.1
    have e2 := hX.2.2
    refine w_ldI rfl rfl ?_
    refine w_ldR rfl rfl rfl ?_
    refine w_sclen rfl (by rw [e2]; omega) ?_
    rw [e2]
    refine w_push rfl ?_
    refine w_sub rfl ?_
    refine w_crGt rfl (by omega) (by omega) (fun b => ?_) (fun b => ?_)
    · refine w_push rfl ?_
      exact w_retB rfl (by decide) rfl
    · have kk : ∀ s1, Inv X N s1 (cnt + 1) → WP (d + 151) 0 1016 [some (.inr (.inr 1)), some (.inr (.inr 10)), some (.inr (.inr 146)), some (.inl i)] [] (encA s1) (QI (fun v _ => v = 1)) := fun s1 hI1 => by
        refine w_inc_4_3 rfl rfl ?_
        refine w_go rfl ?_
        exact ih s1 (cnt + 1) (i + 6) hI1 (by omega) (by omega) (by omega) (by omega)
      have kd : Inv X N s (cnt + 1) := hI.scr (by omega) Fr.rf
      have hi6 : 0 ≤ i ∧ i + 6 ≤ N ∧ N ≤ 3072 := by omega
      have hc1 : cnt ≤ 1000 := by omega
      refine w_ldR rfl rfl rfl ?_
      refine w_ldI rfl rfl ?_
      refine w_scld rfl (by rw [e2]; omega) (by rw [e2]; omega) ?_
      rw [e1]
      refine w_push rfl ?_
      refine w_bin rfl ?_
      have hv := m_and_rng (X i.toNat) 63
      generalize m_and (X i.toNat) 63 = v at hv ⊢
      obtain b | b | b | b | b | b | b | b | b | b | b | b | b | b | b | b | b | b | b | b | b | b | b | b | b | b | b | b | b | b | b | b | b | b | b | b | b | b | b | b | b := (by omega : v = 0 ∨ v = 1 ∨ v = 2 ∨ v = 3 ∨ v = 4 ∨ v = 5 ∨ v = 6 ∨ v = 7 ∨ v = 8 ∨ v = 9 ∨ v = 10 ∨ v = 11 ∨ v = 12 ∨ v = 13 ∨ v = 14 ∨ v = 15 ∨ v = 16 ∨ v = 17 ∨ v = 18 ∨ v = 19 ∨ v = 20 ∨ v = 21 ∨ v = 22 ∨ v = 23 ∨ v = 24 ∨ v = 25 ∨ v = 26 ∨ v = 27 ∨ v = 28 ∨ v = 29 ∨ v = 30 ∨ v = 31 ∨ v = 32 ∨ v = 33 ∨ v = 34 ∨ v = 35 ∨ v = 36 ∨ v = 37 ∨ v = 38 ∨ v = 39 ∨ (v < 0 ∨ 40 ≤ v))
      · exact w_sw (tg := 22) rfl (by rw [w32_id (by omega) (by omega), b]; rfl) (bk_cell hI hi6 hc1 kk)
      · exact w_sw (tg := 49) rfl (by rw [w32_id (by omega) (by omega), b]; rfl) (bk_set hI hi6 hc1 kk)
      · exact w_sw (tg := 76) rfl (by rw [w32_id (by omega) (by omega), b]; rfl) (bk_window hI hi6 hc1 kk)
      · exact w_sw (tg := 103) rfl (by rw [w32_id (by omega) (by omega), b]; rfl) (bk_ofWindow hI hi6 hc1 kk)
      · exact w_sw (tg := 130) rfl (by rw [w32_id (by omega) (by omega), b]; rfl) (bk_become hI hi6 hc1 kk)
      · exact w_sw (tg := 157) rfl (by rw [w32_id (by omega) (by omega), b]; rfl) (bk_as hI hi6 hc1 kk)
      · exact w_sw (tg := 184) rfl (by rw [w32_id (by omega) (by omega), b]; rfl) (bk_light hI hi6 hc1 kk)
      · exact w_sw (tg := 211) rfl (by rw [w32_id (by omega) (by omega), b]; rfl) (bk_person hI hi6 hc1 kk)
      · exact w_sw (tg := 238) rfl (by rw [w32_id (by omega) (by omega), b]; rfl) (bk_ofPerson hI hi6 hc1 kk)
      · exact w_sw (tg := 265) rfl (by rw [w32_id (by omega) (by omega), b]; rfl) (bk_change hI hi6 hc1 kk)
      · exact w_sw (tg := 302) rfl (by rw [w32_id (by omega) (by omega), b]; rfl) (bk_met hI hi6 hc1 kk)
      · exact w_sw (tg := 319) rfl (by rw [w32_id (by omega) (by omega), b]; rfl) (bk_turn hI hi6 hc1 kk)
      · exact w_sw (tg := 336) rfl (by rw [w32_id (by omega) (by omega), b]; rfl) (bk_clear hI hi6 hc1 kk)
      · exact w_sw (tg := 343) rfl (by rw [w32_id (by omega) (by omega), b]; rfl) (bk_lit hI hi6 hc1 kk)
      · exact w_sw (tg := 350) rfl (by rw [w32_id (by omega) (by omega), b]; rfl) (bk_feed hI hi6 hc1 kk)
      · exact w_sw (tg := 401) rfl (by rw [w32_id (by omega) (by omega), b]; rfl) (bk_text hT hI hi6 hc1 kk)
      · exact w_sw (tg := 418) rfl (by rw [w32_id (by omega) (by omega), b]; rfl) (bk_law hI hi6 hc1 kk)
      · exact w_sw (tg := 475) rfl (by rw [w32_id (by omega) (by omega), b]; rfl) (bk_nights hI hi6 hc1 kk)
      · exact w_sw (tg := 492) rfl (by rw [w32_id (by omega) (by omega), b]; rfl) (bk_loose hI hi6 hc1 kk)
      · exact w_sw (tg := 509) rfl (by rw [w32_id (by omega) (by omega), b]; rfl) (bk_then hI hi6 hc1 kk)
      · exact w_sw (tg := 546) rfl (by rw [w32_id (by omega) (by omega), b]; rfl) (bk_thenEggs hI hi6 hc1 kk)
      · exact w_sw (tg := 573) rfl (by rw [w32_id (by omega) (by omega), b]; rfl) (bk_order hO hI hi6 hc1 kk)
      · exact w_sw (tg := 590) rfl (by rw [w32_id (by omega) (by omega), b]; rfl) (bk_seat hI hi6 hc1 kk)
      · exact w_sw (tg := 607) rfl (by rw [w32_id (by omega) (by omega), b]; rfl) (bk_curtain hI hi6 hc1 kk)
      · exact w_sw (tg := 634) rfl (by rw [w32_id (by omega) (by omega), b]; rfl) (bk_mirrors hMi hI hi6 hc1 kk)
      · exact w_sw (tg := 681) rfl (by rw [w32_id (by omega) (by omega), b]; rfl) (bk_whose hI hi6 hc1 kk)
      · exact w_sw (tg := 698) rfl (by rw [w32_id (by omega) (by omega), b]; rfl) (bk_seed hI hi6 hc1 kk)
      · exact w_sw (tg := 715) rfl (by rw [w32_id (by omega) (by omega), b]; rfl) (bk_voice hI hi6 hc1 kk)
      · exact w_sw (tg := 752) rfl (by rw [w32_id (by omega) (by omega), b]; rfl) (bk_trace hI hi6 hc1 kk)
      · exact w_sw (tg := 769) rfl (by rw [w32_id (by omega) (by omega), b]; rfl) (bk_sheet hI hi6 hc1 kk)
      · exact w_sw (tg := 806) rfl (by rw [w32_id (by omega) (by omega), b]; rfl) (bk_put hI hi6 hc1 kk)
      · exact w_sw (tg := 843) rfl (by rw [w32_id (by omega) (by omega), b]; rfl) (bk_move hI hi6 hc1 kk)
      · exact w_sw (tg := 900) rfl (by rw [w32_id (by omega) (by omega), b]; rfl) (bk_cells hI hi6 hc1 kk)
      · exact w_sw (tg := 917) rfl (by rw [w32_id (by omega) (by omega), b]; rfl) (bk_judge hI hi6 hc1 kk)
      · exact w_sw (tg := 944) rfl (by rw [w32_id (by omega) (by omega), b]; rfl) (bk_image hI hi6 hc1 kk)
      · exact w_sw (tg := 951) rfl (by rw [w32_id (by omega) (by omega), b]; rfl) (bk_restore hI hi6 hc1 kk)
      · exact w_sw (tg := 958) rfl (by rw [w32_id (by omega) (by omega), b]; rfl) (bk_tell hI hi6 hc1 kk)
      · exact w_sw (tg := 975) rfl (by rw [w32_id (by omega) (by omega), b]; rfl) (bk_check hI hi6 hc1 kk)
      · exact w_sw (tg := 982) rfl (by rw [w32_id (by omega) (by omega), b]; rfl) (bk_count hI hi6 hc1 kk)
      · exact w_sw (tg := 999) rfl (by rw [w32_id (by omega) (by omega), b]; rfl) (bk_told hI hi6 hc1 kk)
      · exact w_sw (tg := 1016) rfl (mSwT_df (by rw [w32_id (by omega) (by omega)]; exact b)) (kk s kd)
