/-! ===== how the class holds a village: by a row of numbers D ===== -/
theorem LwR.cg {s s1 : mSt} {q : Nat} {D D1 : Nat → Int} {use : Int} (h : LwR s q D use) (hu : 0 ≤ use ∧ use ≤ 1) (h0 : s1 q = s q) (h1 : s1 (q + 1) = s (q + 1)) (h2 : s1 (q + 2) = s (q + 2)) (hD : ∀ j, 121 ≤ j → j < 243 → ¬ (123 ≤ j ∧ j < 143) → D1 j = D j) : LwR s1 q D1 use := by
  obtain ⟨a, b, c⟩ := h
  have e : D1 (121 + use).toNat = D (121 + use).toNat := hD _ (by omega) (by omega) (by omega)
  refine ⟨by rw [h0]; exact a, by rw [h1, e]; exact b, fun i i0 i1 i2 => ?_⟩
  rw [e] at i1
  rw [h2, hD _ (by omega) (by omega) (by omega)]
  exact c i i0 i1 i2
theorem LampA.fr {A : List Nat} {s s1 : mSt} {a : Nat} {k n m : Int} (h0 : s1 0 = s 0) (h1 : s1 1 = s 1) (ha : s1 a = s a) (h : LampA s a k n m) : LampA s1 a k n m := by
  refine ⟨h.1, ?_⟩
  have e : enc s1 a = enc s a := by unfold enc; rw [h0, h1, ha]
  rw [e]
  exact h.2
theorem LampAt.fr {A : List Nat} {s s1 : mSt} {r k n m : Int} (hA : A.all (fun x => !(lampAdr x) && !(x == 0) && !(x == 1)) = true) (hf : Fr A s s1) (h : LampAt s r k n m) : LampAt s1 r k n m := by
  obtain ⟨a, e, hd, hl⟩ := h
  have no : ∀ x, (!(lampAdr x) && !(x == 0) && !(x == 1)) = false → A.contains x = false := fun x hx => by
    cases hc : A.contains x
    · rfl
    · have := List.all_eq_true.mp hA x (by simpa using hc)
      rw [hx] at this
      cases this
  exact ⟨a, e, hd, LampA.fr (A := A) (hf 0 (no 0 rfl)) (hf 1 (no 1 rfl)) (hf a (no a (by rw [hd]; rfl))) hl⟩
def VN13 (s : mSt) (D : Nat → Int) : Prop := (∀ i : Int, 0 ≤ i → i < 36 → s 14 i.toNat = D i.toNat) ∧ (∀ i : Int, 0 ≤ i → i < 6 → s 16 i.toNat = D (45 + 4 * i + 2).toNat) ∧ (∀ i : Int, 0 ≤ i → i < 6 → s 17 i.toNat = D (45 + 4 * i + 3).toNat) ∧ (∀ i : Int, 0 ≤ i → i < 10 → s 18 i.toNat = D (69 + 4 * i + 0).toNat) ∧ (∀ i : Int, 0 ≤ i → i < 10 → s 19 i.toNat = D (69 + 4 * i + 1).toNat) ∧ (∀ i : Int, 0 ≤ i → i < 10 → s 20 i.toNat = D (69 + 4 * i + 2).toNat) ∧ (∀ i : Int, 0 ≤ i → i < 10 → s 21 i.toNat = D (69 + 4 * i + 3).toNat) ∧ (∀ i : Int, 0 ≤ i → i < D 41 → s 23 i.toNat = D (109 + i).toNat) ∧ (∀ i : Int, 0 ≤ i → i < D 43 → s 25 i.toNat = D (243 + i).toNat) ∧ (∀ i : Int, 0 ≤ i → i < D 44 → s 27 i.toNat = D (123 + i).toNat) ∧ s 13 2 = D 36 ∧ s 13 3 = D 37 ∧ s 13 5 = D 39 ∧ s 13 9 = D 40 ∧ s 13 4 = D 42 ∧ s 22 1 = D 41 ∧ s 24 1 = D 43 ∧ s 26 1 = D 44 ∧ LwR s 35 D 0 ∧ LwR s 43 D 1 ∧ (∀ i : Int, 0 ≤ i → i < 6 → LampAt s (s 15 i.toNat) (D (45 + 4 * i + 0).toNat) i (D (45 + 4 * i + 1).toNat))
def vad13 (x : Nat) : Bool := x == 13 || x == 14 || x == 15 || x == 16 || x == 17 || x == 18 || x == 19 || x == 20 || x == 21 || x == 22 || x == 23 || x == 24 || x == 25 || x == 26 || x == 27 || x == 35 || x == 36 || x == 37 || x == 43 || x == 44 || x == 45 || x == 0 || x == 1 || lampAdr x
theorem VN13.fr {A : List Nat} {s s1 : mSt} {D : Nat → Int} (hA : A.all (fun x => !(vad13 x)) = true) (hf : Fr A s s1) (hV : VN13 s D) : VN13 s1 D := by
  have no : ∀ x, vad13 x = true → A.contains x = false := fun x hx => by
    cases hc : A.contains x
    · rfl
    · have := List.all_eq_true.mp hA x (by simpa using hc)
      rw [hx] at this
      cases this
  obtain ⟨vc, vpl, vga, vse, vne, veg, vre, vtu, vta, vwa, v36, v37, v39, v40, v42, v41, v43, v44, vl0, vl1, vlm⟩ := hV
  exact ⟨fun i h1 h2 => by rw [hf.at 14 (no 14 rfl)]; exact vc i h1 h2,
    fun i h1 h2 => by rw [hf.at 16 (no 16 rfl)]; exact vpl i h1 h2,
    fun i h1 h2 => by rw [hf.at 17 (no 17 rfl)]; exact vga i h1 h2,
    fun i h1 h2 => by rw [hf.at 18 (no 18 rfl)]; exact vse i h1 h2,
    fun i h1 h2 => by rw [hf.at 19 (no 19 rfl)]; exact vne i h1 h2,
    fun i h1 h2 => by rw [hf.at 20 (no 20 rfl)]; exact veg i h1 h2,
    fun i h1 h2 => by rw [hf.at 21 (no 21 rfl)]; exact vre i h1 h2,
    fun i h1 h2 => by rw [hf.at 23 (no 23 rfl)]; exact vtu i h1 h2,
    fun i h1 h2 => by rw [hf.at 25 (no 25 rfl)]; exact vta i h1 h2,
    fun i h1 h2 => by rw [hf.at 27 (no 27 rfl)]; exact vwa i h1 h2,
    by rw [hf.at 13 (no 13 rfl)]; exact v36,
    by rw [hf.at 13 (no 13 rfl)]; exact v37,
    by rw [hf.at 13 (no 13 rfl)]; exact v39,
    by rw [hf.at 13 (no 13 rfl)]; exact v40,
    by rw [hf.at 13 (no 13 rfl)]; exact v42,
    by rw [hf.at 22 (no 22 rfl)]; exact v41,
    by rw [hf.at 24 (no 24 rfl)]; exact v43,
    by rw [hf.at 26 (no 26 rfl)]; exact v44,
    vl0.cg (by omega) (hf.at 35 (no 35 rfl)) (hf.at 36 (no 36 rfl)) (hf.at 37 (no 37 rfl)) (fun _ _ _ _ => rfl),
    vl1.cg (by omega) (hf.at 43 (no 43 rfl)) (hf.at 44 (no 44 rfl)) (hf.at 45 (no 45 rfl)) (fun _ _ _ _ => rfl),
    fun i h1 h2 => by rw [hf.at 15 (no 15 rfl)]; exact LampAt.fr (List.all_eq_true.mpr (fun x hx => by have := List.all_eq_true.mp hA x hx; unfold vad13 at this; simp only [Bool.not_or, Bool.and_eq_true] at this; simp only [Bool.and_eq_true]; exact ⟨⟨this.2, this.1.1.2⟩, this.1.2⟩)) hf (vlm i h1 h2)⟩
theorem VN13.cg {s : mSt} {D D1 : Nat → Int} (h : ∀ j, j ≠ 38 → D1 j = D j) (hV : VN13 s D) : VN13 s D1 := by
  obtain ⟨vc, vpl, vga, vse, vne, veg, vre, vtu, vta, vwa, v36, v37, v39, v40, v42, v41, v43, v44, vl0, vl1, vlm⟩ := hV
  exact ⟨fun i h1 h2 => by rw [h _ (by omega)]; exact vc i h1 h2,
    fun i h1 h2 => by rw [h _ (by omega)]; exact vpl i h1 h2,
    fun i h1 h2 => by rw [h _ (by omega)]; exact vga i h1 h2,
    fun i h1 h2 => by rw [h _ (by omega)]; exact vse i h1 h2,
    fun i h1 h2 => by rw [h _ (by omega)]; exact vne i h1 h2,
    fun i h1 h2 => by rw [h _ (by omega)]; exact veg i h1 h2,
    fun i h1 h2 => by rw [h _ (by omega)]; exact vre i h1 h2,
    fun i h1 h2 => by rw [h 41 (by decide)] at h2; rw [h _ (by omega)]; exact vtu i h1 h2,
    fun i h1 h2 => by rw [h 43 (by decide)] at h2; rw [h _ (by omega)]; exact vta i h1 h2,
    fun i h1 h2 => by rw [h 44 (by decide)] at h2; rw [h _ (by omega)]; exact vwa i h1 h2,
    by rw [h 36 (by decide)]; exact v36,
    by rw [h 37 (by decide)]; exact v37,
    by rw [h 39 (by decide)]; exact v39,
    by rw [h 40 (by decide)]; exact v40,
    by rw [h 42 (by decide)]; exact v42,
    by rw [h 41 (by decide)]; exact v41,
    by rw [h 43 (by decide)]; exact v43,
    by rw [h 44 (by decide)]; exact v44,
    vl0.cg (by omega) rfl rfl rfl (fun j h1 h2 h3 => h j (by omega)),
    vl1.cg (by omega) rfl rfl rfl (fun j h1 h2 h3 => h j (by omega)),
    fun i h1 h2 => by rw [h _ (by omega), h _ (by omega)]; exact vlm i h1 h2⟩
def VN51 (s : mSt) (D : Nat → Int) : Prop := (∀ i : Int, 0 ≤ i → i < 36 → s 52 i.toNat = D i.toNat) ∧ (∀ i : Int, 0 ≤ i → i < 6 → s 54 i.toNat = D (45 + 4 * i + 2).toNat) ∧ (∀ i : Int, 0 ≤ i → i < 6 → s 55 i.toNat = D (45 + 4 * i + 3).toNat) ∧ (∀ i : Int, 0 ≤ i → i < 10 → s 56 i.toNat = D (69 + 4 * i + 0).toNat) ∧ (∀ i : Int, 0 ≤ i → i < 10 → s 57 i.toNat = D (69 + 4 * i + 1).toNat) ∧ (∀ i : Int, 0 ≤ i → i < 10 → s 58 i.toNat = D (69 + 4 * i + 2).toNat) ∧ (∀ i : Int, 0 ≤ i → i < 10 → s 59 i.toNat = D (69 + 4 * i + 3).toNat) ∧ (∀ i : Int, 0 ≤ i → i < D 41 → s 61 i.toNat = D (109 + i).toNat) ∧ (∀ i : Int, 0 ≤ i → i < D 43 → s 63 i.toNat = D (243 + i).toNat) ∧ (∀ i : Int, 0 ≤ i → i < D 44 → s 65 i.toNat = D (123 + i).toNat) ∧ s 51 2 = D 36 ∧ s 51 3 = D 37 ∧ s 51 5 = D 39 ∧ s 51 9 = D 40 ∧ s 51 4 = D 42 ∧ s 60 1 = D 41 ∧ s 62 1 = D 43 ∧ s 64 1 = D 44 ∧ LwR s 73 D 0 ∧ LwR s 81 D 1 ∧ (∀ i : Int, 0 ≤ i → i < 6 → LampAt s (s 53 i.toNat) (D (45 + 4 * i + 0).toNat) i (D (45 + 4 * i + 1).toNat))
def vad51 (x : Nat) : Bool := x == 51 || x == 52 || x == 53 || x == 54 || x == 55 || x == 56 || x == 57 || x == 58 || x == 59 || x == 60 || x == 61 || x == 62 || x == 63 || x == 64 || x == 65 || x == 73 || x == 74 || x == 75 || x == 81 || x == 82 || x == 83 || x == 0 || x == 1 || lampAdr x
theorem VN51.fr {A : List Nat} {s s1 : mSt} {D : Nat → Int} (hA : A.all (fun x => !(vad51 x)) = true) (hf : Fr A s s1) (hV : VN51 s D) : VN51 s1 D := by
  have no : ∀ x, vad51 x = true → A.contains x = false := fun x hx => by
    cases hc : A.contains x
    · rfl
    · have := List.all_eq_true.mp hA x (by simpa using hc)
      rw [hx] at this
      cases this
  obtain ⟨vc, vpl, vga, vse, vne, veg, vre, vtu, vta, vwa, v36, v37, v39, v40, v42, v41, v43, v44, vl0, vl1, vlm⟩ := hV
  exact ⟨fun i h1 h2 => by rw [hf.at 52 (no 52 rfl)]; exact vc i h1 h2,
    fun i h1 h2 => by rw [hf.at 54 (no 54 rfl)]; exact vpl i h1 h2,
    fun i h1 h2 => by rw [hf.at 55 (no 55 rfl)]; exact vga i h1 h2,
    fun i h1 h2 => by rw [hf.at 56 (no 56 rfl)]; exact vse i h1 h2,
    fun i h1 h2 => by rw [hf.at 57 (no 57 rfl)]; exact vne i h1 h2,
    fun i h1 h2 => by rw [hf.at 58 (no 58 rfl)]; exact veg i h1 h2,
    fun i h1 h2 => by rw [hf.at 59 (no 59 rfl)]; exact vre i h1 h2,
    fun i h1 h2 => by rw [hf.at 61 (no 61 rfl)]; exact vtu i h1 h2,
    fun i h1 h2 => by rw [hf.at 63 (no 63 rfl)]; exact vta i h1 h2,
    fun i h1 h2 => by rw [hf.at 65 (no 65 rfl)]; exact vwa i h1 h2,
    by rw [hf.at 51 (no 51 rfl)]; exact v36,
    by rw [hf.at 51 (no 51 rfl)]; exact v37,
    by rw [hf.at 51 (no 51 rfl)]; exact v39,
    by rw [hf.at 51 (no 51 rfl)]; exact v40,
    by rw [hf.at 51 (no 51 rfl)]; exact v42,
    by rw [hf.at 60 (no 60 rfl)]; exact v41,
    by rw [hf.at 62 (no 62 rfl)]; exact v43,
    by rw [hf.at 64 (no 64 rfl)]; exact v44,
    vl0.cg (by omega) (hf.at 73 (no 73 rfl)) (hf.at 74 (no 74 rfl)) (hf.at 75 (no 75 rfl)) (fun _ _ _ _ => rfl),
    vl1.cg (by omega) (hf.at 81 (no 81 rfl)) (hf.at 82 (no 82 rfl)) (hf.at 83 (no 83 rfl)) (fun _ _ _ _ => rfl),
    fun i h1 h2 => by rw [hf.at 53 (no 53 rfl)]; exact LampAt.fr (List.all_eq_true.mpr (fun x hx => by have := List.all_eq_true.mp hA x hx; unfold vad51 at this; simp only [Bool.not_or, Bool.and_eq_true] at this; simp only [Bool.and_eq_true]; exact ⟨⟨this.2, this.1.1.2⟩, this.1.2⟩)) hf (vlm i h1 h2)⟩
theorem VN51.cg {s : mSt} {D D1 : Nat → Int} (h : ∀ j, j ≠ 38 → D1 j = D j) (hV : VN51 s D) : VN51 s D1 := by
  obtain ⟨vc, vpl, vga, vse, vne, veg, vre, vtu, vta, vwa, v36, v37, v39, v40, v42, v41, v43, v44, vl0, vl1, vlm⟩ := hV
  exact ⟨fun i h1 h2 => by rw [h _ (by omega)]; exact vc i h1 h2,
    fun i h1 h2 => by rw [h _ (by omega)]; exact vpl i h1 h2,
    fun i h1 h2 => by rw [h _ (by omega)]; exact vga i h1 h2,
    fun i h1 h2 => by rw [h _ (by omega)]; exact vse i h1 h2,
    fun i h1 h2 => by rw [h _ (by omega)]; exact vne i h1 h2,
    fun i h1 h2 => by rw [h _ (by omega)]; exact veg i h1 h2,
    fun i h1 h2 => by rw [h _ (by omega)]; exact vre i h1 h2,
    fun i h1 h2 => by rw [h 41 (by decide)] at h2; rw [h _ (by omega)]; exact vtu i h1 h2,
    fun i h1 h2 => by rw [h 43 (by decide)] at h2; rw [h _ (by omega)]; exact vta i h1 h2,
    fun i h1 h2 => by rw [h 44 (by decide)] at h2; rw [h _ (by omega)]; exact vwa i h1 h2,
    by rw [h 36 (by decide)]; exact v36,
    by rw [h 37 (by decide)]; exact v37,
    by rw [h 39 (by decide)]; exact v39,
    by rw [h 40 (by decide)]; exact v40,
    by rw [h 42 (by decide)]; exact v42,
    by rw [h 41 (by decide)]; exact v41,
    by rw [h 43 (by decide)]; exact v43,
    by rw [h 44 (by decide)]; exact v44,
    vl0.cg (by omega) rfl rfl rfl (fun j h1 h2 h3 => h j (by omega)),
    vl1.cg (by omega) rfl rfl rfl (fun j h1 h2 h3 => h j (by omega)),
    fun i h1 h2 => by rw [h _ (by omega), h _ (by omega)]; exact vlm i h1 h2⟩
def VN89 (s : mSt) (D : Nat → Int) : Prop := (∀ i : Int, 0 ≤ i → i < 36 → s 90 i.toNat = D i.toNat) ∧ (∀ i : Int, 0 ≤ i → i < 6 → s 92 i.toNat = D (45 + 4 * i + 2).toNat) ∧ (∀ i : Int, 0 ≤ i → i < 6 → s 93 i.toNat = D (45 + 4 * i + 3).toNat) ∧ (∀ i : Int, 0 ≤ i → i < 10 → s 94 i.toNat = D (69 + 4 * i + 0).toNat) ∧ (∀ i : Int, 0 ≤ i → i < 10 → s 95 i.toNat = D (69 + 4 * i + 1).toNat) ∧ (∀ i : Int, 0 ≤ i → i < 10 → s 96 i.toNat = D (69 + 4 * i + 2).toNat) ∧ (∀ i : Int, 0 ≤ i → i < 10 → s 97 i.toNat = D (69 + 4 * i + 3).toNat) ∧ (∀ i : Int, 0 ≤ i → i < D 41 → s 99 i.toNat = D (109 + i).toNat) ∧ (∀ i : Int, 0 ≤ i → i < D 43 → s 101 i.toNat = D (243 + i).toNat) ∧ (∀ i : Int, 0 ≤ i → i < D 44 → s 103 i.toNat = D (123 + i).toNat) ∧ s 89 2 = D 36 ∧ s 89 3 = D 37 ∧ s 89 5 = D 39 ∧ s 89 9 = D 40 ∧ s 89 4 = D 42 ∧ s 98 1 = D 41 ∧ s 100 1 = D 43 ∧ s 102 1 = D 44 ∧ LwR s 111 D 0 ∧ LwR s 119 D 1 ∧ (∀ i : Int, 0 ≤ i → i < 6 → LampAt s (s 91 i.toNat) (D (45 + 4 * i + 0).toNat) i (D (45 + 4 * i + 1).toNat))
def vad89 (x : Nat) : Bool := x == 89 || x == 90 || x == 91 || x == 92 || x == 93 || x == 94 || x == 95 || x == 96 || x == 97 || x == 98 || x == 99 || x == 100 || x == 101 || x == 102 || x == 103 || x == 111 || x == 112 || x == 113 || x == 119 || x == 120 || x == 121 || x == 0 || x == 1 || lampAdr x
theorem VN89.fr {A : List Nat} {s s1 : mSt} {D : Nat → Int} (hA : A.all (fun x => !(vad89 x)) = true) (hf : Fr A s s1) (hV : VN89 s D) : VN89 s1 D := by
  have no : ∀ x, vad89 x = true → A.contains x = false := fun x hx => by
    cases hc : A.contains x
    · rfl
    · have := List.all_eq_true.mp hA x (by simpa using hc)
      rw [hx] at this
      cases this
  obtain ⟨vc, vpl, vga, vse, vne, veg, vre, vtu, vta, vwa, v36, v37, v39, v40, v42, v41, v43, v44, vl0, vl1, vlm⟩ := hV
  exact ⟨fun i h1 h2 => by rw [hf.at 90 (no 90 rfl)]; exact vc i h1 h2,
    fun i h1 h2 => by rw [hf.at 92 (no 92 rfl)]; exact vpl i h1 h2,
    fun i h1 h2 => by rw [hf.at 93 (no 93 rfl)]; exact vga i h1 h2,
    fun i h1 h2 => by rw [hf.at 94 (no 94 rfl)]; exact vse i h1 h2,
    fun i h1 h2 => by rw [hf.at 95 (no 95 rfl)]; exact vne i h1 h2,
    fun i h1 h2 => by rw [hf.at 96 (no 96 rfl)]; exact veg i h1 h2,
    fun i h1 h2 => by rw [hf.at 97 (no 97 rfl)]; exact vre i h1 h2,
    fun i h1 h2 => by rw [hf.at 99 (no 99 rfl)]; exact vtu i h1 h2,
    fun i h1 h2 => by rw [hf.at 101 (no 101 rfl)]; exact vta i h1 h2,
    fun i h1 h2 => by rw [hf.at 103 (no 103 rfl)]; exact vwa i h1 h2,
    by rw [hf.at 89 (no 89 rfl)]; exact v36,
    by rw [hf.at 89 (no 89 rfl)]; exact v37,
    by rw [hf.at 89 (no 89 rfl)]; exact v39,
    by rw [hf.at 89 (no 89 rfl)]; exact v40,
    by rw [hf.at 89 (no 89 rfl)]; exact v42,
    by rw [hf.at 98 (no 98 rfl)]; exact v41,
    by rw [hf.at 100 (no 100 rfl)]; exact v43,
    by rw [hf.at 102 (no 102 rfl)]; exact v44,
    vl0.cg (by omega) (hf.at 111 (no 111 rfl)) (hf.at 112 (no 112 rfl)) (hf.at 113 (no 113 rfl)) (fun _ _ _ _ => rfl),
    vl1.cg (by omega) (hf.at 119 (no 119 rfl)) (hf.at 120 (no 120 rfl)) (hf.at 121 (no 121 rfl)) (fun _ _ _ _ => rfl),
    fun i h1 h2 => by rw [hf.at 91 (no 91 rfl)]; exact LampAt.fr (List.all_eq_true.mpr (fun x hx => by have := List.all_eq_true.mp hA x hx; unfold vad89 at this; simp only [Bool.not_or, Bool.and_eq_true] at this; simp only [Bool.and_eq_true]; exact ⟨⟨this.2, this.1.1.2⟩, this.1.2⟩)) hf (vlm i h1 h2)⟩
theorem VN89.cg {s : mSt} {D D1 : Nat → Int} (h : ∀ j, j ≠ 38 → D1 j = D j) (hV : VN89 s D) : VN89 s D1 := by
  obtain ⟨vc, vpl, vga, vse, vne, veg, vre, vtu, vta, vwa, v36, v37, v39, v40, v42, v41, v43, v44, vl0, vl1, vlm⟩ := hV
  exact ⟨fun i h1 h2 => by rw [h _ (by omega)]; exact vc i h1 h2,
    fun i h1 h2 => by rw [h _ (by omega)]; exact vpl i h1 h2,
    fun i h1 h2 => by rw [h _ (by omega)]; exact vga i h1 h2,
    fun i h1 h2 => by rw [h _ (by omega)]; exact vse i h1 h2,
    fun i h1 h2 => by rw [h _ (by omega)]; exact vne i h1 h2,
    fun i h1 h2 => by rw [h _ (by omega)]; exact veg i h1 h2,
    fun i h1 h2 => by rw [h _ (by omega)]; exact vre i h1 h2,
    fun i h1 h2 => by rw [h 41 (by decide)] at h2; rw [h _ (by omega)]; exact vtu i h1 h2,
    fun i h1 h2 => by rw [h 43 (by decide)] at h2; rw [h _ (by omega)]; exact vta i h1 h2,
    fun i h1 h2 => by rw [h 44 (by decide)] at h2; rw [h _ (by omega)]; exact vwa i h1 h2,
    by rw [h 36 (by decide)]; exact v36,
    by rw [h 37 (by decide)]; exact v37,
    by rw [h 39 (by decide)]; exact v39,
    by rw [h 40 (by decide)]; exact v40,
    by rw [h 42 (by decide)]; exact v42,
    by rw [h 41 (by decide)]; exact v41,
    by rw [h 43 (by decide)]; exact v43,
    by rw [h 44 (by decide)]; exact v44,
    vl0.cg (by omega) rfl rfl rfl (fun j h1 h2 h3 => h j (by omega)),
    vl1.cg (by omega) rfl rfl rfl (fun j h1 h2 h3 => h j (by omega)),
    fun i h1 h2 => by rw [h _ (by omega), h _ (by omega)]; exact vlm i h1 h2⟩
theorem VN13.set_vga {s : mSt} {D : Nat → Int} {p v : Int} (hV : VN13 s D) (hp : 0 ≤ p ∧ p < 6) : VN13 (us s 17 p.toNat v) (mup D (45 + 4 * p + 3).toNat v) := by
  obtain ⟨vc, vpl, vga, vse, vne, veg, vre, vtu, vta, vwa, v36, v37, v39, v40, v42, v41, v43, v44, vl0, vl1, vlm⟩ := hV
  exact ⟨fun i h1 h2 => by rw [us_ne (by decide), mup_ne (by omega)]; exact vc i h1 h2,
    fun i h1 h2 => by rw [us_ne (by decide), mup_ne (by omega)]; exact vpl i h1 h2,
    fun i h1 h2 => by rw [us_eq]; unfold mup; by_cases e : i.toNat = p.toNat; (rw [if_pos e, if_pos (by omega)]); (rw [if_neg e, if_neg (by omega)]; exact vga i h1 h2),
    fun i h1 h2 => by rw [us_ne (by decide), mup_ne (by omega)]; exact vse i h1 h2,
    fun i h1 h2 => by rw [us_ne (by decide), mup_ne (by omega)]; exact vne i h1 h2,
    fun i h1 h2 => by rw [us_ne (by decide), mup_ne (by omega)]; exact veg i h1 h2,
    fun i h1 h2 => by rw [us_ne (by decide), mup_ne (by omega)]; exact vre i h1 h2,
    fun i h1 h2 => by rw [mup_ne (by omega)] at h2; rw [us_ne (by decide), mup_ne (by omega)]; exact vtu i h1 h2,
    fun i h1 h2 => by rw [mup_ne (by omega)] at h2; rw [us_ne (by decide), mup_ne (by omega)]; exact vta i h1 h2,
    fun i h1 h2 => by rw [mup_ne (by omega)] at h2; rw [us_ne (by decide), mup_ne (by omega)]; exact vwa i h1 h2,
    by rw [us_ne (by decide), mup_ne (by omega)]; exact v36,
    by rw [us_ne (by decide), mup_ne (by omega)]; exact v37,
    by rw [us_ne (by decide), mup_ne (by omega)]; exact v39,
    by rw [us_ne (by decide), mup_ne (by omega)]; exact v40,
    by rw [us_ne (by decide), mup_ne (by omega)]; exact v42,
    by rw [us_ne (by decide), mup_ne (by omega)]; exact v41,
    by rw [us_ne (by decide), mup_ne (by omega)]; exact v43,
    by rw [us_ne (by decide), mup_ne (by omega)]; exact v44,
    vl0.cg (by omega) (us_ne (by decide)) (us_ne (by decide)) (us_ne (by decide)) (fun j h1 h2 h3 => mup_ne (by omega)),
    vl1.cg (by omega) (us_ne (by decide)) (us_ne (by decide)) (us_ne (by decide)) (fun j h1 h2 h3 => mup_ne (by omega)),
    fun i h1 h2 => by rw [us_ne (by decide), mup_ne (by omega), mup_ne (by omega)]; exact LampAt.fr rfl (Fr.us (A := [17]) rfl) (vlm i h1 h2)⟩
theorem VN13.set_veg {s : mSt} {D : Nat → Int} {p v : Int} (hV : VN13 s D) (hp : 0 ≤ p ∧ p < 10) : VN13 (us s 20 p.toNat v) (mup D (69 + 4 * p + 2).toNat v) := by
  obtain ⟨vc, vpl, vga, vse, vne, veg, vre, vtu, vta, vwa, v36, v37, v39, v40, v42, v41, v43, v44, vl0, vl1, vlm⟩ := hV
  exact ⟨fun i h1 h2 => by rw [us_ne (by decide), mup_ne (by omega)]; exact vc i h1 h2,
    fun i h1 h2 => by rw [us_ne (by decide), mup_ne (by omega)]; exact vpl i h1 h2,
    fun i h1 h2 => by rw [us_ne (by decide), mup_ne (by omega)]; exact vga i h1 h2,
    fun i h1 h2 => by rw [us_ne (by decide), mup_ne (by omega)]; exact vse i h1 h2,
    fun i h1 h2 => by rw [us_ne (by decide), mup_ne (by omega)]; exact vne i h1 h2,
    fun i h1 h2 => by rw [us_eq]; unfold mup; by_cases e : i.toNat = p.toNat; (rw [if_pos e, if_pos (by omega)]); (rw [if_neg e, if_neg (by omega)]; exact veg i h1 h2),
    fun i h1 h2 => by rw [us_ne (by decide), mup_ne (by omega)]; exact vre i h1 h2,
    fun i h1 h2 => by rw [mup_ne (by omega)] at h2; rw [us_ne (by decide), mup_ne (by omega)]; exact vtu i h1 h2,
    fun i h1 h2 => by rw [mup_ne (by omega)] at h2; rw [us_ne (by decide), mup_ne (by omega)]; exact vta i h1 h2,
    fun i h1 h2 => by rw [mup_ne (by omega)] at h2; rw [us_ne (by decide), mup_ne (by omega)]; exact vwa i h1 h2,
    by rw [us_ne (by decide), mup_ne (by omega)]; exact v36,
    by rw [us_ne (by decide), mup_ne (by omega)]; exact v37,
    by rw [us_ne (by decide), mup_ne (by omega)]; exact v39,
    by rw [us_ne (by decide), mup_ne (by omega)]; exact v40,
    by rw [us_ne (by decide), mup_ne (by omega)]; exact v42,
    by rw [us_ne (by decide), mup_ne (by omega)]; exact v41,
    by rw [us_ne (by decide), mup_ne (by omega)]; exact v43,
    by rw [us_ne (by decide), mup_ne (by omega)]; exact v44,
    vl0.cg (by omega) (us_ne (by decide)) (us_ne (by decide)) (us_ne (by decide)) (fun j h1 h2 h3 => mup_ne (by omega)),
    vl1.cg (by omega) (us_ne (by decide)) (us_ne (by decide)) (us_ne (by decide)) (fun j h1 h2 h3 => mup_ne (by omega)),
    fun i h1 h2 => by rw [us_ne (by decide), mup_ne (by omega), mup_ne (by omega)]; exact LampAt.fr rfl (Fr.us (A := [20]) rfl) (vlm i h1 h2)⟩
theorem VN13.set_vre {s : mSt} {D : Nat → Int} {p v : Int} (hV : VN13 s D) (hp : 0 ≤ p ∧ p < 10) : VN13 (us s 21 p.toNat v) (mup D (69 + 4 * p + 3).toNat v) := by
  obtain ⟨vc, vpl, vga, vse, vne, veg, vre, vtu, vta, vwa, v36, v37, v39, v40, v42, v41, v43, v44, vl0, vl1, vlm⟩ := hV
  exact ⟨fun i h1 h2 => by rw [us_ne (by decide), mup_ne (by omega)]; exact vc i h1 h2,
    fun i h1 h2 => by rw [us_ne (by decide), mup_ne (by omega)]; exact vpl i h1 h2,
    fun i h1 h2 => by rw [us_ne (by decide), mup_ne (by omega)]; exact vga i h1 h2,
    fun i h1 h2 => by rw [us_ne (by decide), mup_ne (by omega)]; exact vse i h1 h2,
    fun i h1 h2 => by rw [us_ne (by decide), mup_ne (by omega)]; exact vne i h1 h2,
    fun i h1 h2 => by rw [us_ne (by decide), mup_ne (by omega)]; exact veg i h1 h2,
    fun i h1 h2 => by rw [us_eq]; unfold mup; by_cases e : i.toNat = p.toNat; (rw [if_pos e, if_pos (by omega)]); (rw [if_neg e, if_neg (by omega)]; exact vre i h1 h2),
    fun i h1 h2 => by rw [mup_ne (by omega)] at h2; rw [us_ne (by decide), mup_ne (by omega)]; exact vtu i h1 h2,
    fun i h1 h2 => by rw [mup_ne (by omega)] at h2; rw [us_ne (by decide), mup_ne (by omega)]; exact vta i h1 h2,
    fun i h1 h2 => by rw [mup_ne (by omega)] at h2; rw [us_ne (by decide), mup_ne (by omega)]; exact vwa i h1 h2,
    by rw [us_ne (by decide), mup_ne (by omega)]; exact v36,
    by rw [us_ne (by decide), mup_ne (by omega)]; exact v37,
    by rw [us_ne (by decide), mup_ne (by omega)]; exact v39,
    by rw [us_ne (by decide), mup_ne (by omega)]; exact v40,
    by rw [us_ne (by decide), mup_ne (by omega)]; exact v42,
    by rw [us_ne (by decide), mup_ne (by omega)]; exact v41,
    by rw [us_ne (by decide), mup_ne (by omega)]; exact v43,
    by rw [us_ne (by decide), mup_ne (by omega)]; exact v44,
    vl0.cg (by omega) (us_ne (by decide)) (us_ne (by decide)) (us_ne (by decide)) (fun j h1 h2 h3 => mup_ne (by omega)),
    vl1.cg (by omega) (us_ne (by decide)) (us_ne (by decide)) (us_ne (by decide)) (fun j h1 h2 h3 => mup_ne (by omega)),
    fun i h1 h2 => by rw [us_ne (by decide), mup_ne (by omega), mup_ne (by omega)]; exact LampAt.fr rfl (Fr.us (A := [21]) rfl) (vlm i h1 h2)⟩
theorem VN13.night {s : mSt} {D : Nat → Int} {v : Int} (hV : VN13 s D) : VN13 (us s 13 1 v) D := by
  obtain ⟨vc, vpl, vga, vse, vne, veg, vre, vtu, vta, vwa, v36, v37, v39, v40, v42, v41, v43, v44, vl0, vl1, vlm⟩ := hV
  exact ⟨fun i h1 h2 => by rw [us_ne (by decide)]; exact vc i h1 h2,
    fun i h1 h2 => by rw [us_ne (by decide)]; exact vpl i h1 h2,
    fun i h1 h2 => by rw [us_ne (by decide)]; exact vga i h1 h2,
    fun i h1 h2 => by rw [us_ne (by decide)]; exact vse i h1 h2,
    fun i h1 h2 => by rw [us_ne (by decide)]; exact vne i h1 h2,
    fun i h1 h2 => by rw [us_ne (by decide)]; exact veg i h1 h2,
    fun i h1 h2 => by rw [us_ne (by decide)]; exact vre i h1 h2,
    fun i h1 h2 => by rw [us_ne (by decide)]; exact vtu i h1 h2,
    fun i h1 h2 => by rw [us_ne (by decide)]; exact vta i h1 h2,
    fun i h1 h2 => by rw [us_ne (by decide)]; exact vwa i h1 h2,
    by rw [us_eq, mup_ne (by decide)]; exact v36,
    by rw [us_eq, mup_ne (by decide)]; exact v37,
    by rw [us_eq, mup_ne (by decide)]; exact v39,
    by rw [us_eq, mup_ne (by decide)]; exact v40,
    by rw [us_eq, mup_ne (by decide)]; exact v42,
    by rw [us_ne (by decide)]; exact v41,
    by rw [us_ne (by decide)]; exact v43,
    by rw [us_ne (by decide)]; exact v44,
    vl0.cg (by omega) (us_ne (by decide)) (us_ne (by decide)) (us_ne (by decide)) (fun _ _ _ _ => rfl),
    vl1.cg (by omega) (us_ne (by decide)) (us_ne (by decide)) (us_ne (by decide)) (fun _ _ _ _ => rfl),
    fun i h1 h2 => by rw [us_ne (by decide)]; exact LampAt.fr rfl (Fr.us (A := [13]) rfl) (vlm i h1 h2)⟩
theorem VN89.set_vga {s : mSt} {D : Nat → Int} {p v : Int} (hV : VN89 s D) (hp : 0 ≤ p ∧ p < 6) : VN89 (us s 93 p.toNat v) (mup D (45 + 4 * p + 3).toNat v) := by
  obtain ⟨vc, vpl, vga, vse, vne, veg, vre, vtu, vta, vwa, v36, v37, v39, v40, v42, v41, v43, v44, vl0, vl1, vlm⟩ := hV
  exact ⟨fun i h1 h2 => by rw [us_ne (by decide), mup_ne (by omega)]; exact vc i h1 h2,
    fun i h1 h2 => by rw [us_ne (by decide), mup_ne (by omega)]; exact vpl i h1 h2,
    fun i h1 h2 => by rw [us_eq]; unfold mup; by_cases e : i.toNat = p.toNat; (rw [if_pos e, if_pos (by omega)]); (rw [if_neg e, if_neg (by omega)]; exact vga i h1 h2),
    fun i h1 h2 => by rw [us_ne (by decide), mup_ne (by omega)]; exact vse i h1 h2,
    fun i h1 h2 => by rw [us_ne (by decide), mup_ne (by omega)]; exact vne i h1 h2,
    fun i h1 h2 => by rw [us_ne (by decide), mup_ne (by omega)]; exact veg i h1 h2,
    fun i h1 h2 => by rw [us_ne (by decide), mup_ne (by omega)]; exact vre i h1 h2,
    fun i h1 h2 => by rw [mup_ne (by omega)] at h2; rw [us_ne (by decide), mup_ne (by omega)]; exact vtu i h1 h2,
    fun i h1 h2 => by rw [mup_ne (by omega)] at h2; rw [us_ne (by decide), mup_ne (by omega)]; exact vta i h1 h2,
    fun i h1 h2 => by rw [mup_ne (by omega)] at h2; rw [us_ne (by decide), mup_ne (by omega)]; exact vwa i h1 h2,
    by rw [us_ne (by decide), mup_ne (by omega)]; exact v36,
    by rw [us_ne (by decide), mup_ne (by omega)]; exact v37,
    by rw [us_ne (by decide), mup_ne (by omega)]; exact v39,
    by rw [us_ne (by decide), mup_ne (by omega)]; exact v40,
    by rw [us_ne (by decide), mup_ne (by omega)]; exact v42,
    by rw [us_ne (by decide), mup_ne (by omega)]; exact v41,
    by rw [us_ne (by decide), mup_ne (by omega)]; exact v43,
    by rw [us_ne (by decide), mup_ne (by omega)]; exact v44,
    vl0.cg (by omega) (us_ne (by decide)) (us_ne (by decide)) (us_ne (by decide)) (fun j h1 h2 h3 => mup_ne (by omega)),
    vl1.cg (by omega) (us_ne (by decide)) (us_ne (by decide)) (us_ne (by decide)) (fun j h1 h2 h3 => mup_ne (by omega)),
    fun i h1 h2 => by rw [us_ne (by decide), mup_ne (by omega), mup_ne (by omega)]; exact LampAt.fr rfl (Fr.us (A := [93]) rfl) (vlm i h1 h2)⟩
theorem VN89.set_veg {s : mSt} {D : Nat → Int} {p v : Int} (hV : VN89 s D) (hp : 0 ≤ p ∧ p < 10) : VN89 (us s 96 p.toNat v) (mup D (69 + 4 * p + 2).toNat v) := by
  obtain ⟨vc, vpl, vga, vse, vne, veg, vre, vtu, vta, vwa, v36, v37, v39, v40, v42, v41, v43, v44, vl0, vl1, vlm⟩ := hV
  exact ⟨fun i h1 h2 => by rw [us_ne (by decide), mup_ne (by omega)]; exact vc i h1 h2,
    fun i h1 h2 => by rw [us_ne (by decide), mup_ne (by omega)]; exact vpl i h1 h2,
    fun i h1 h2 => by rw [us_ne (by decide), mup_ne (by omega)]; exact vga i h1 h2,
    fun i h1 h2 => by rw [us_ne (by decide), mup_ne (by omega)]; exact vse i h1 h2,
    fun i h1 h2 => by rw [us_ne (by decide), mup_ne (by omega)]; exact vne i h1 h2,
    fun i h1 h2 => by rw [us_eq]; unfold mup; by_cases e : i.toNat = p.toNat; (rw [if_pos e, if_pos (by omega)]); (rw [if_neg e, if_neg (by omega)]; exact veg i h1 h2),
    fun i h1 h2 => by rw [us_ne (by decide), mup_ne (by omega)]; exact vre i h1 h2,
    fun i h1 h2 => by rw [mup_ne (by omega)] at h2; rw [us_ne (by decide), mup_ne (by omega)]; exact vtu i h1 h2,
    fun i h1 h2 => by rw [mup_ne (by omega)] at h2; rw [us_ne (by decide), mup_ne (by omega)]; exact vta i h1 h2,
    fun i h1 h2 => by rw [mup_ne (by omega)] at h2; rw [us_ne (by decide), mup_ne (by omega)]; exact vwa i h1 h2,
    by rw [us_ne (by decide), mup_ne (by omega)]; exact v36,
    by rw [us_ne (by decide), mup_ne (by omega)]; exact v37,
    by rw [us_ne (by decide), mup_ne (by omega)]; exact v39,
    by rw [us_ne (by decide), mup_ne (by omega)]; exact v40,
    by rw [us_ne (by decide), mup_ne (by omega)]; exact v42,
    by rw [us_ne (by decide), mup_ne (by omega)]; exact v41,
    by rw [us_ne (by decide), mup_ne (by omega)]; exact v43,
    by rw [us_ne (by decide), mup_ne (by omega)]; exact v44,
    vl0.cg (by omega) (us_ne (by decide)) (us_ne (by decide)) (us_ne (by decide)) (fun j h1 h2 h3 => mup_ne (by omega)),
    vl1.cg (by omega) (us_ne (by decide)) (us_ne (by decide)) (us_ne (by decide)) (fun j h1 h2 h3 => mup_ne (by omega)),
    fun i h1 h2 => by rw [us_ne (by decide), mup_ne (by omega), mup_ne (by omega)]; exact LampAt.fr rfl (Fr.us (A := [96]) rfl) (vlm i h1 h2)⟩
theorem VN89.set_vre {s : mSt} {D : Nat → Int} {p v : Int} (hV : VN89 s D) (hp : 0 ≤ p ∧ p < 10) : VN89 (us s 97 p.toNat v) (mup D (69 + 4 * p + 3).toNat v) := by
  obtain ⟨vc, vpl, vga, vse, vne, veg, vre, vtu, vta, vwa, v36, v37, v39, v40, v42, v41, v43, v44, vl0, vl1, vlm⟩ := hV
  exact ⟨fun i h1 h2 => by rw [us_ne (by decide), mup_ne (by omega)]; exact vc i h1 h2,
    fun i h1 h2 => by rw [us_ne (by decide), mup_ne (by omega)]; exact vpl i h1 h2,
    fun i h1 h2 => by rw [us_ne (by decide), mup_ne (by omega)]; exact vga i h1 h2,
    fun i h1 h2 => by rw [us_ne (by decide), mup_ne (by omega)]; exact vse i h1 h2,
    fun i h1 h2 => by rw [us_ne (by decide), mup_ne (by omega)]; exact vne i h1 h2,
    fun i h1 h2 => by rw [us_ne (by decide), mup_ne (by omega)]; exact veg i h1 h2,
    fun i h1 h2 => by rw [us_eq]; unfold mup; by_cases e : i.toNat = p.toNat; (rw [if_pos e, if_pos (by omega)]); (rw [if_neg e, if_neg (by omega)]; exact vre i h1 h2),
    fun i h1 h2 => by rw [mup_ne (by omega)] at h2; rw [us_ne (by decide), mup_ne (by omega)]; exact vtu i h1 h2,
    fun i h1 h2 => by rw [mup_ne (by omega)] at h2; rw [us_ne (by decide), mup_ne (by omega)]; exact vta i h1 h2,
    fun i h1 h2 => by rw [mup_ne (by omega)] at h2; rw [us_ne (by decide), mup_ne (by omega)]; exact vwa i h1 h2,
    by rw [us_ne (by decide), mup_ne (by omega)]; exact v36,
    by rw [us_ne (by decide), mup_ne (by omega)]; exact v37,
    by rw [us_ne (by decide), mup_ne (by omega)]; exact v39,
    by rw [us_ne (by decide), mup_ne (by omega)]; exact v40,
    by rw [us_ne (by decide), mup_ne (by omega)]; exact v42,
    by rw [us_ne (by decide), mup_ne (by omega)]; exact v41,
    by rw [us_ne (by decide), mup_ne (by omega)]; exact v43,
    by rw [us_ne (by decide), mup_ne (by omega)]; exact v44,
    vl0.cg (by omega) (us_ne (by decide)) (us_ne (by decide)) (us_ne (by decide)) (fun j h1 h2 h3 => mup_ne (by omega)),
    vl1.cg (by omega) (us_ne (by decide)) (us_ne (by decide)) (us_ne (by decide)) (fun j h1 h2 h3 => mup_ne (by omega)),
    fun i h1 h2 => by rw [us_ne (by decide), mup_ne (by omega), mup_ne (by omega)]; exact LampAt.fr rfl (Fr.us (A := [97]) rfl) (vlm i h1 h2)⟩
theorem VN89.night {s : mSt} {D : Nat → Int} {v : Int} (hV : VN89 s D) : VN89 (us s 89 1 v) D := by
  obtain ⟨vc, vpl, vga, vse, vne, veg, vre, vtu, vta, vwa, v36, v37, v39, v40, v42, v41, v43, v44, vl0, vl1, vlm⟩ := hV
  exact ⟨fun i h1 h2 => by rw [us_ne (by decide)]; exact vc i h1 h2,
    fun i h1 h2 => by rw [us_ne (by decide)]; exact vpl i h1 h2,
    fun i h1 h2 => by rw [us_ne (by decide)]; exact vga i h1 h2,
    fun i h1 h2 => by rw [us_ne (by decide)]; exact vse i h1 h2,
    fun i h1 h2 => by rw [us_ne (by decide)]; exact vne i h1 h2,
    fun i h1 h2 => by rw [us_ne (by decide)]; exact veg i h1 h2,
    fun i h1 h2 => by rw [us_ne (by decide)]; exact vre i h1 h2,
    fun i h1 h2 => by rw [us_ne (by decide)]; exact vtu i h1 h2,
    fun i h1 h2 => by rw [us_ne (by decide)]; exact vta i h1 h2,
    fun i h1 h2 => by rw [us_ne (by decide)]; exact vwa i h1 h2,
    by rw [us_eq, mup_ne (by decide)]; exact v36,
    by rw [us_eq, mup_ne (by decide)]; exact v37,
    by rw [us_eq, mup_ne (by decide)]; exact v39,
    by rw [us_eq, mup_ne (by decide)]; exact v40,
    by rw [us_eq, mup_ne (by decide)]; exact v42,
    by rw [us_ne (by decide)]; exact v41,
    by rw [us_ne (by decide)]; exact v43,
    by rw [us_ne (by decide)]; exact v44,
    vl0.cg (by omega) (us_ne (by decide)) (us_ne (by decide)) (us_ne (by decide)) (fun _ _ _ _ => rfl),
    vl1.cg (by omega) (us_ne (by decide)) (us_ne (by decide)) (us_ne (by decide)) (fun _ _ _ _ => rfl),
    fun i h1 h2 => by rw [us_ne (by decide)]; exact LampAt.fr rfl (Fr.us (A := [89]) rfl) (vlm i h1 h2)⟩
theorem VN13.set_vc {s : mSt} {D : Nat → Int} {p v : Int} (hV : VN13 s D) (hp : 0 ≤ p ∧ p < 36) : VN13 (us s 14 p.toNat v) (mup D p.toNat v) := by
  obtain ⟨vc, vpl, vga, vse, vne, veg, vre, vtu, vta, vwa, v36, v37, v39, v40, v42, v41, v43, v44, vl0, vl1, vlm⟩ := hV
  exact ⟨fun i h1 h2 => by rw [us_eq]; unfold mup; by_cases e : i.toNat = p.toNat; (rw [if_pos e, if_pos (by omega)]); (rw [if_neg e, if_neg (by omega)]; exact vc i h1 h2),
    fun i h1 h2 => by rw [us_ne (by decide), mup_ne (by omega)]; exact vpl i h1 h2,
    fun i h1 h2 => by rw [us_ne (by decide), mup_ne (by omega)]; exact vga i h1 h2,
    fun i h1 h2 => by rw [us_ne (by decide), mup_ne (by omega)]; exact vse i h1 h2,
    fun i h1 h2 => by rw [us_ne (by decide), mup_ne (by omega)]; exact vne i h1 h2,
    fun i h1 h2 => by rw [us_ne (by decide), mup_ne (by omega)]; exact veg i h1 h2,
    fun i h1 h2 => by rw [us_ne (by decide), mup_ne (by omega)]; exact vre i h1 h2,
    fun i h1 h2 => by rw [mup_ne (by omega)] at h2; rw [us_ne (by decide), mup_ne (by omega)]; exact vtu i h1 h2,
    fun i h1 h2 => by rw [mup_ne (by omega)] at h2; rw [us_ne (by decide), mup_ne (by omega)]; exact vta i h1 h2,
    fun i h1 h2 => by rw [mup_ne (by omega)] at h2; rw [us_ne (by decide), mup_ne (by omega)]; exact vwa i h1 h2,
    by rw [us_ne (by decide), mup_ne (by omega)]; exact v36,
    by rw [us_ne (by decide), mup_ne (by omega)]; exact v37,
    by rw [us_ne (by decide), mup_ne (by omega)]; exact v39,
    by rw [us_ne (by decide), mup_ne (by omega)]; exact v40,
    by rw [us_ne (by decide), mup_ne (by omega)]; exact v42,
    by rw [us_ne (by decide), mup_ne (by omega)]; exact v41,
    by rw [us_ne (by decide), mup_ne (by omega)]; exact v43,
    by rw [us_ne (by decide), mup_ne (by omega)]; exact v44,
    vl0.cg (by omega) (us_ne (by decide)) (us_ne (by decide)) (us_ne (by decide)) (fun j h1 h2 h3 => mup_ne (by omega)),
    vl1.cg (by omega) (us_ne (by decide)) (us_ne (by decide)) (us_ne (by decide)) (fun j h1 h2 h3 => mup_ne (by omega)),
    fun i h1 h2 => by rw [us_ne (by decide), mup_ne (by omega), mup_ne (by omega)]; exact LampAt.fr rfl (Fr.us (A := [14]) rfl) (vlm i h1 h2)⟩
theorem VN13.set_vpl {s : mSt} {D : Nat → Int} {p v : Int} (hV : VN13 s D) (hp : 0 ≤ p ∧ p < 6) : VN13 (us s 16 p.toNat v) (mup D (45 + 4 * p + 2).toNat v) := by
  obtain ⟨vc, vpl, vga, vse, vne, veg, vre, vtu, vta, vwa, v36, v37, v39, v40, v42, v41, v43, v44, vl0, vl1, vlm⟩ := hV
  exact ⟨fun i h1 h2 => by rw [us_ne (by decide), mup_ne (by omega)]; exact vc i h1 h2,
    fun i h1 h2 => by rw [us_eq]; unfold mup; by_cases e : i.toNat = p.toNat; (rw [if_pos e, if_pos (by omega)]); (rw [if_neg e, if_neg (by omega)]; exact vpl i h1 h2),
    fun i h1 h2 => by rw [us_ne (by decide), mup_ne (by omega)]; exact vga i h1 h2,
    fun i h1 h2 => by rw [us_ne (by decide), mup_ne (by omega)]; exact vse i h1 h2,
    fun i h1 h2 => by rw [us_ne (by decide), mup_ne (by omega)]; exact vne i h1 h2,
    fun i h1 h2 => by rw [us_ne (by decide), mup_ne (by omega)]; exact veg i h1 h2,
    fun i h1 h2 => by rw [us_ne (by decide), mup_ne (by omega)]; exact vre i h1 h2,
    fun i h1 h2 => by rw [mup_ne (by omega)] at h2; rw [us_ne (by decide), mup_ne (by omega)]; exact vtu i h1 h2,
    fun i h1 h2 => by rw [mup_ne (by omega)] at h2; rw [us_ne (by decide), mup_ne (by omega)]; exact vta i h1 h2,
    fun i h1 h2 => by rw [mup_ne (by omega)] at h2; rw [us_ne (by decide), mup_ne (by omega)]; exact vwa i h1 h2,
    by rw [us_ne (by decide), mup_ne (by omega)]; exact v36,
    by rw [us_ne (by decide), mup_ne (by omega)]; exact v37,
    by rw [us_ne (by decide), mup_ne (by omega)]; exact v39,
    by rw [us_ne (by decide), mup_ne (by omega)]; exact v40,
    by rw [us_ne (by decide), mup_ne (by omega)]; exact v42,
    by rw [us_ne (by decide), mup_ne (by omega)]; exact v41,
    by rw [us_ne (by decide), mup_ne (by omega)]; exact v43,
    by rw [us_ne (by decide), mup_ne (by omega)]; exact v44,
    vl0.cg (by omega) (us_ne (by decide)) (us_ne (by decide)) (us_ne (by decide)) (fun j h1 h2 h3 => mup_ne (by omega)),
    vl1.cg (by omega) (us_ne (by decide)) (us_ne (by decide)) (us_ne (by decide)) (fun j h1 h2 h3 => mup_ne (by omega)),
    fun i h1 h2 => by rw [us_ne (by decide), mup_ne (by omega), mup_ne (by omega)]; exact LampAt.fr rfl (Fr.us (A := [16]) rfl) (vlm i h1 h2)⟩
theorem VN13.set_vse {s : mSt} {D : Nat → Int} {p v : Int} (hV : VN13 s D) (hp : 0 ≤ p ∧ p < 10) : VN13 (us s 18 p.toNat v) (mup D (69 + 4 * p + 0).toNat v) := by
  obtain ⟨vc, vpl, vga, vse, vne, veg, vre, vtu, vta, vwa, v36, v37, v39, v40, v42, v41, v43, v44, vl0, vl1, vlm⟩ := hV
  exact ⟨fun i h1 h2 => by rw [us_ne (by decide), mup_ne (by omega)]; exact vc i h1 h2,
    fun i h1 h2 => by rw [us_ne (by decide), mup_ne (by omega)]; exact vpl i h1 h2,
    fun i h1 h2 => by rw [us_ne (by decide), mup_ne (by omega)]; exact vga i h1 h2,
    fun i h1 h2 => by rw [us_eq]; unfold mup; by_cases e : i.toNat = p.toNat; (rw [if_pos e, if_pos (by omega)]); (rw [if_neg e, if_neg (by omega)]; exact vse i h1 h2),
    fun i h1 h2 => by rw [us_ne (by decide), mup_ne (by omega)]; exact vne i h1 h2,
    fun i h1 h2 => by rw [us_ne (by decide), mup_ne (by omega)]; exact veg i h1 h2,
    fun i h1 h2 => by rw [us_ne (by decide), mup_ne (by omega)]; exact vre i h1 h2,
    fun i h1 h2 => by rw [mup_ne (by omega)] at h2; rw [us_ne (by decide), mup_ne (by omega)]; exact vtu i h1 h2,
    fun i h1 h2 => by rw [mup_ne (by omega)] at h2; rw [us_ne (by decide), mup_ne (by omega)]; exact vta i h1 h2,
    fun i h1 h2 => by rw [mup_ne (by omega)] at h2; rw [us_ne (by decide), mup_ne (by omega)]; exact vwa i h1 h2,
    by rw [us_ne (by decide), mup_ne (by omega)]; exact v36,
    by rw [us_ne (by decide), mup_ne (by omega)]; exact v37,
    by rw [us_ne (by decide), mup_ne (by omega)]; exact v39,
    by rw [us_ne (by decide), mup_ne (by omega)]; exact v40,
    by rw [us_ne (by decide), mup_ne (by omega)]; exact v42,
    by rw [us_ne (by decide), mup_ne (by omega)]; exact v41,
    by rw [us_ne (by decide), mup_ne (by omega)]; exact v43,
    by rw [us_ne (by decide), mup_ne (by omega)]; exact v44,
    vl0.cg (by omega) (us_ne (by decide)) (us_ne (by decide)) (us_ne (by decide)) (fun j h1 h2 h3 => mup_ne (by omega)),
    vl1.cg (by omega) (us_ne (by decide)) (us_ne (by decide)) (us_ne (by decide)) (fun j h1 h2 h3 => mup_ne (by omega)),
    fun i h1 h2 => by rw [us_ne (by decide), mup_ne (by omega), mup_ne (by omega)]; exact LampAt.fr rfl (Fr.us (A := [18]) rfl) (vlm i h1 h2)⟩
theorem VN13.set_vne {s : mSt} {D : Nat → Int} {p v : Int} (hV : VN13 s D) (hp : 0 ≤ p ∧ p < 10) : VN13 (us s 19 p.toNat v) (mup D (69 + 4 * p + 1).toNat v) := by
  obtain ⟨vc, vpl, vga, vse, vne, veg, vre, vtu, vta, vwa, v36, v37, v39, v40, v42, v41, v43, v44, vl0, vl1, vlm⟩ := hV
  exact ⟨fun i h1 h2 => by rw [us_ne (by decide), mup_ne (by omega)]; exact vc i h1 h2,
    fun i h1 h2 => by rw [us_ne (by decide), mup_ne (by omega)]; exact vpl i h1 h2,
    fun i h1 h2 => by rw [us_ne (by decide), mup_ne (by omega)]; exact vga i h1 h2,
    fun i h1 h2 => by rw [us_ne (by decide), mup_ne (by omega)]; exact vse i h1 h2,
    fun i h1 h2 => by rw [us_eq]; unfold mup; by_cases e : i.toNat = p.toNat; (rw [if_pos e, if_pos (by omega)]); (rw [if_neg e, if_neg (by omega)]; exact vne i h1 h2),
    fun i h1 h2 => by rw [us_ne (by decide), mup_ne (by omega)]; exact veg i h1 h2,
    fun i h1 h2 => by rw [us_ne (by decide), mup_ne (by omega)]; exact vre i h1 h2,
    fun i h1 h2 => by rw [mup_ne (by omega)] at h2; rw [us_ne (by decide), mup_ne (by omega)]; exact vtu i h1 h2,
    fun i h1 h2 => by rw [mup_ne (by omega)] at h2; rw [us_ne (by decide), mup_ne (by omega)]; exact vta i h1 h2,
    fun i h1 h2 => by rw [mup_ne (by omega)] at h2; rw [us_ne (by decide), mup_ne (by omega)]; exact vwa i h1 h2,
    by rw [us_ne (by decide), mup_ne (by omega)]; exact v36,
    by rw [us_ne (by decide), mup_ne (by omega)]; exact v37,
    by rw [us_ne (by decide), mup_ne (by omega)]; exact v39,
    by rw [us_ne (by decide), mup_ne (by omega)]; exact v40,
    by rw [us_ne (by decide), mup_ne (by omega)]; exact v42,
    by rw [us_ne (by decide), mup_ne (by omega)]; exact v41,
    by rw [us_ne (by decide), mup_ne (by omega)]; exact v43,
    by rw [us_ne (by decide), mup_ne (by omega)]; exact v44,
    vl0.cg (by omega) (us_ne (by decide)) (us_ne (by decide)) (us_ne (by decide)) (fun j h1 h2 h3 => mup_ne (by omega)),
    vl1.cg (by omega) (us_ne (by decide)) (us_ne (by decide)) (us_ne (by decide)) (fun j h1 h2 h3 => mup_ne (by omega)),
    fun i h1 h2 => by rw [us_ne (by decide), mup_ne (by omega), mup_ne (by omega)]; exact LampAt.fr rfl (Fr.us (A := [19]) rfl) (vlm i h1 h2)⟩
theorem VN13.set_v36 {s : mSt} {D : Nat → Int} {v : Int} (hV : VN13 s D) : VN13 (us s 13 2 v) (mup D 36 v) := by
  obtain ⟨vc, vpl, vga, vse, vne, veg, vre, vtu, vta, vwa, v36, v37, v39, v40, v42, v41, v43, v44, vl0, vl1, vlm⟩ := hV
  exact ⟨fun i h1 h2 => by rw [us_ne (by decide), mup_ne (by omega)]; exact vc i h1 h2,
    fun i h1 h2 => by rw [us_ne (by decide), mup_ne (by omega)]; exact vpl i h1 h2,
    fun i h1 h2 => by rw [us_ne (by decide), mup_ne (by omega)]; exact vga i h1 h2,
    fun i h1 h2 => by rw [us_ne (by decide), mup_ne (by omega)]; exact vse i h1 h2,
    fun i h1 h2 => by rw [us_ne (by decide), mup_ne (by omega)]; exact vne i h1 h2,
    fun i h1 h2 => by rw [us_ne (by decide), mup_ne (by omega)]; exact veg i h1 h2,
    fun i h1 h2 => by rw [us_ne (by decide), mup_ne (by omega)]; exact vre i h1 h2,
    fun i h1 h2 => by rw [mup_ne (by omega)] at h2; rw [us_ne (by decide), mup_ne (by omega)]; exact vtu i h1 h2,
    fun i h1 h2 => by rw [mup_ne (by omega)] at h2; rw [us_ne (by decide), mup_ne (by omega)]; exact vta i h1 h2,
    fun i h1 h2 => by rw [mup_ne (by omega)] at h2; rw [us_ne (by decide), mup_ne (by omega)]; exact vwa i h1 h2,
    by rw [us_eq, mup_eq, mup_eq],
    by rw [us_eq, mup_ne (by decide), mup_ne (by omega)]; exact v37,
    by rw [us_eq, mup_ne (by decide), mup_ne (by omega)]; exact v39,
    by rw [us_eq, mup_ne (by decide), mup_ne (by omega)]; exact v40,
    by rw [us_eq, mup_ne (by decide), mup_ne (by omega)]; exact v42,
    by rw [us_ne (by decide), mup_ne (by omega)]; exact v41,
    by rw [us_ne (by decide), mup_ne (by omega)]; exact v43,
    by rw [us_ne (by decide), mup_ne (by omega)]; exact v44,
    vl0.cg (by omega) (us_ne (by decide)) (us_ne (by decide)) (us_ne (by decide)) (fun j h1 h2 h3 => mup_ne (by omega)),
    vl1.cg (by omega) (us_ne (by decide)) (us_ne (by decide)) (us_ne (by decide)) (fun j h1 h2 h3 => mup_ne (by omega)),
    fun i h1 h2 => by rw [us_ne (by decide), mup_ne (by omega), mup_ne (by omega)]; exact LampAt.fr rfl (Fr.us (A := [13]) rfl) (vlm i h1 h2)⟩
theorem VN13.set_v37 {s : mSt} {D : Nat → Int} {v : Int} (hV : VN13 s D) : VN13 (us s 13 3 v) (mup D 37 v) := by
  obtain ⟨vc, vpl, vga, vse, vne, veg, vre, vtu, vta, vwa, v36, v37, v39, v40, v42, v41, v43, v44, vl0, vl1, vlm⟩ := hV
  exact ⟨fun i h1 h2 => by rw [us_ne (by decide), mup_ne (by omega)]; exact vc i h1 h2,
    fun i h1 h2 => by rw [us_ne (by decide), mup_ne (by omega)]; exact vpl i h1 h2,
    fun i h1 h2 => by rw [us_ne (by decide), mup_ne (by omega)]; exact vga i h1 h2,
    fun i h1 h2 => by rw [us_ne (by decide), mup_ne (by omega)]; exact vse i h1 h2,
    fun i h1 h2 => by rw [us_ne (by decide), mup_ne (by omega)]; exact vne i h1 h2,
    fun i h1 h2 => by rw [us_ne (by decide), mup_ne (by omega)]; exact veg i h1 h2,
    fun i h1 h2 => by rw [us_ne (by decide), mup_ne (by omega)]; exact vre i h1 h2,
    fun i h1 h2 => by rw [mup_ne (by omega)] at h2; rw [us_ne (by decide), mup_ne (by omega)]; exact vtu i h1 h2,
    fun i h1 h2 => by rw [mup_ne (by omega)] at h2; rw [us_ne (by decide), mup_ne (by omega)]; exact vta i h1 h2,
    fun i h1 h2 => by rw [mup_ne (by omega)] at h2; rw [us_ne (by decide), mup_ne (by omega)]; exact vwa i h1 h2,
    by rw [us_eq, mup_ne (by decide), mup_ne (by omega)]; exact v36,
    by rw [us_eq, mup_eq, mup_eq],
    by rw [us_eq, mup_ne (by decide), mup_ne (by omega)]; exact v39,
    by rw [us_eq, mup_ne (by decide), mup_ne (by omega)]; exact v40,
    by rw [us_eq, mup_ne (by decide), mup_ne (by omega)]; exact v42,
    by rw [us_ne (by decide), mup_ne (by omega)]; exact v41,
    by rw [us_ne (by decide), mup_ne (by omega)]; exact v43,
    by rw [us_ne (by decide), mup_ne (by omega)]; exact v44,
    vl0.cg (by omega) (us_ne (by decide)) (us_ne (by decide)) (us_ne (by decide)) (fun j h1 h2 h3 => mup_ne (by omega)),
    vl1.cg (by omega) (us_ne (by decide)) (us_ne (by decide)) (us_ne (by decide)) (fun j h1 h2 h3 => mup_ne (by omega)),
    fun i h1 h2 => by rw [us_ne (by decide), mup_ne (by omega), mup_ne (by omega)]; exact LampAt.fr rfl (Fr.us (A := [13]) rfl) (vlm i h1 h2)⟩
theorem VN13.set_v39 {s : mSt} {D : Nat → Int} {v : Int} (hV : VN13 s D) : VN13 (us s 13 5 v) (mup D 39 v) := by
  obtain ⟨vc, vpl, vga, vse, vne, veg, vre, vtu, vta, vwa, v36, v37, v39, v40, v42, v41, v43, v44, vl0, vl1, vlm⟩ := hV
  exact ⟨fun i h1 h2 => by rw [us_ne (by decide), mup_ne (by omega)]; exact vc i h1 h2,
    fun i h1 h2 => by rw [us_ne (by decide), mup_ne (by omega)]; exact vpl i h1 h2,
    fun i h1 h2 => by rw [us_ne (by decide), mup_ne (by omega)]; exact vga i h1 h2,
    fun i h1 h2 => by rw [us_ne (by decide), mup_ne (by omega)]; exact vse i h1 h2,
    fun i h1 h2 => by rw [us_ne (by decide), mup_ne (by omega)]; exact vne i h1 h2,
    fun i h1 h2 => by rw [us_ne (by decide), mup_ne (by omega)]; exact veg i h1 h2,
    fun i h1 h2 => by rw [us_ne (by decide), mup_ne (by omega)]; exact vre i h1 h2,
    fun i h1 h2 => by rw [mup_ne (by omega)] at h2; rw [us_ne (by decide), mup_ne (by omega)]; exact vtu i h1 h2,
    fun i h1 h2 => by rw [mup_ne (by omega)] at h2; rw [us_ne (by decide), mup_ne (by omega)]; exact vta i h1 h2,
    fun i h1 h2 => by rw [mup_ne (by omega)] at h2; rw [us_ne (by decide), mup_ne (by omega)]; exact vwa i h1 h2,
    by rw [us_eq, mup_ne (by decide), mup_ne (by omega)]; exact v36,
    by rw [us_eq, mup_ne (by decide), mup_ne (by omega)]; exact v37,
    by rw [us_eq, mup_eq, mup_eq],
    by rw [us_eq, mup_ne (by decide), mup_ne (by omega)]; exact v40,
    by rw [us_eq, mup_ne (by decide), mup_ne (by omega)]; exact v42,
    by rw [us_ne (by decide), mup_ne (by omega)]; exact v41,
    by rw [us_ne (by decide), mup_ne (by omega)]; exact v43,
    by rw [us_ne (by decide), mup_ne (by omega)]; exact v44,
    vl0.cg (by omega) (us_ne (by decide)) (us_ne (by decide)) (us_ne (by decide)) (fun j h1 h2 h3 => mup_ne (by omega)),
    vl1.cg (by omega) (us_ne (by decide)) (us_ne (by decide)) (us_ne (by decide)) (fun j h1 h2 h3 => mup_ne (by omega)),
    fun i h1 h2 => by rw [us_ne (by decide), mup_ne (by omega), mup_ne (by omega)]; exact LampAt.fr rfl (Fr.us (A := [13]) rfl) (vlm i h1 h2)⟩
theorem VN13.set_v40 {s : mSt} {D : Nat → Int} {v : Int} (hV : VN13 s D) : VN13 (us s 13 9 v) (mup D 40 v) := by
  obtain ⟨vc, vpl, vga, vse, vne, veg, vre, vtu, vta, vwa, v36, v37, v39, v40, v42, v41, v43, v44, vl0, vl1, vlm⟩ := hV
  exact ⟨fun i h1 h2 => by rw [us_ne (by decide), mup_ne (by omega)]; exact vc i h1 h2,
    fun i h1 h2 => by rw [us_ne (by decide), mup_ne (by omega)]; exact vpl i h1 h2,
    fun i h1 h2 => by rw [us_ne (by decide), mup_ne (by omega)]; exact vga i h1 h2,
    fun i h1 h2 => by rw [us_ne (by decide), mup_ne (by omega)]; exact vse i h1 h2,
    fun i h1 h2 => by rw [us_ne (by decide), mup_ne (by omega)]; exact vne i h1 h2,
    fun i h1 h2 => by rw [us_ne (by decide), mup_ne (by omega)]; exact veg i h1 h2,
    fun i h1 h2 => by rw [us_ne (by decide), mup_ne (by omega)]; exact vre i h1 h2,
    fun i h1 h2 => by rw [mup_ne (by omega)] at h2; rw [us_ne (by decide), mup_ne (by omega)]; exact vtu i h1 h2,
    fun i h1 h2 => by rw [mup_ne (by omega)] at h2; rw [us_ne (by decide), mup_ne (by omega)]; exact vta i h1 h2,
    fun i h1 h2 => by rw [mup_ne (by omega)] at h2; rw [us_ne (by decide), mup_ne (by omega)]; exact vwa i h1 h2,
    by rw [us_eq, mup_ne (by decide), mup_ne (by omega)]; exact v36,
    by rw [us_eq, mup_ne (by decide), mup_ne (by omega)]; exact v37,
    by rw [us_eq, mup_ne (by decide), mup_ne (by omega)]; exact v39,
    by rw [us_eq, mup_eq, mup_eq],
    by rw [us_eq, mup_ne (by decide), mup_ne (by omega)]; exact v42,
    by rw [us_ne (by decide), mup_ne (by omega)]; exact v41,
    by rw [us_ne (by decide), mup_ne (by omega)]; exact v43,
    by rw [us_ne (by decide), mup_ne (by omega)]; exact v44,
    vl0.cg (by omega) (us_ne (by decide)) (us_ne (by decide)) (us_ne (by decide)) (fun j h1 h2 h3 => mup_ne (by omega)),
    vl1.cg (by omega) (us_ne (by decide)) (us_ne (by decide)) (us_ne (by decide)) (fun j h1 h2 h3 => mup_ne (by omega)),
    fun i h1 h2 => by rw [us_ne (by decide), mup_ne (by omega), mup_ne (by omega)]; exact LampAt.fr rfl (Fr.us (A := [13]) rfl) (vlm i h1 h2)⟩
theorem VN13.set_v42 {s : mSt} {D : Nat → Int} {v : Int} (hV : VN13 s D) : VN13 (us s 13 4 v) (mup D 42 v) := by
  obtain ⟨vc, vpl, vga, vse, vne, veg, vre, vtu, vta, vwa, v36, v37, v39, v40, v42, v41, v43, v44, vl0, vl1, vlm⟩ := hV
  exact ⟨fun i h1 h2 => by rw [us_ne (by decide), mup_ne (by omega)]; exact vc i h1 h2,
    fun i h1 h2 => by rw [us_ne (by decide), mup_ne (by omega)]; exact vpl i h1 h2,
    fun i h1 h2 => by rw [us_ne (by decide), mup_ne (by omega)]; exact vga i h1 h2,
    fun i h1 h2 => by rw [us_ne (by decide), mup_ne (by omega)]; exact vse i h1 h2,
    fun i h1 h2 => by rw [us_ne (by decide), mup_ne (by omega)]; exact vne i h1 h2,
    fun i h1 h2 => by rw [us_ne (by decide), mup_ne (by omega)]; exact veg i h1 h2,
    fun i h1 h2 => by rw [us_ne (by decide), mup_ne (by omega)]; exact vre i h1 h2,
    fun i h1 h2 => by rw [mup_ne (by omega)] at h2; rw [us_ne (by decide), mup_ne (by omega)]; exact vtu i h1 h2,
    fun i h1 h2 => by rw [mup_ne (by omega)] at h2; rw [us_ne (by decide), mup_ne (by omega)]; exact vta i h1 h2,
    fun i h1 h2 => by rw [mup_ne (by omega)] at h2; rw [us_ne (by decide), mup_ne (by omega)]; exact vwa i h1 h2,
    by rw [us_eq, mup_ne (by decide), mup_ne (by omega)]; exact v36,
    by rw [us_eq, mup_ne (by decide), mup_ne (by omega)]; exact v37,
    by rw [us_eq, mup_ne (by decide), mup_ne (by omega)]; exact v39,
    by rw [us_eq, mup_ne (by decide), mup_ne (by omega)]; exact v40,
    by rw [us_eq, mup_eq, mup_eq],
    by rw [us_ne (by decide), mup_ne (by omega)]; exact v41,
    by rw [us_ne (by decide), mup_ne (by omega)]; exact v43,
    by rw [us_ne (by decide), mup_ne (by omega)]; exact v44,
    vl0.cg (by omega) (us_ne (by decide)) (us_ne (by decide)) (us_ne (by decide)) (fun j h1 h2 h3 => mup_ne (by omega)),
    vl1.cg (by omega) (us_ne (by decide)) (us_ne (by decide)) (us_ne (by decide)) (fun j h1 h2 h3 => mup_ne (by omega)),
    fun i h1 h2 => by rw [us_ne (by decide), mup_ne (by omega), mup_ne (by omega)]; exact LampAt.fr rfl (Fr.us (A := [13]) rfl) (vlm i h1 h2)⟩
