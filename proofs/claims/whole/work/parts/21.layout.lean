/-! ===== the layout of the made cells (written by program): which fields are fixed references, where the numbers stand ===== -/
abbrev mLE : Type := (Nat × List (Nat ⊕ Nat)) ⊕ ((Nat × Nat) ⊕ ((Nat × Nat × List Nat) ⊕ (Nat × Nat)))
abbrev mSt : Type := Nat → Nat → Int
def lay_0 : List (Option mLE) := [none,
  none,
  none,
  none,
  none,
  none,
  none,
  none,
  none,
  none,
  some (.inl (11, [.inl 11, .inl 13, .inl 51, .inl 89, .inl 127, .inl 130, .inl 131, .inl 132, .inr 8, .inl 133, .inl 134, .inl 135, .inl 137])),
  some (.inl (6, [.inl 12, .inr 1])),
  some (.inr (.inl (0, 40))),
  some (.inl (9, [.inl 14, .inr 1, .inr 2, .inr 3, .inr 4, .inr 5, .inl 15, .inl 16, .inl 17, .inr 9, .inl 18, .inl 19, .inl 20, .inl 21, .inl 22, .inl 24, .inl 26, .inl 28])),
  some (.inr (.inl (0, 36))),
  some (.inr (.inr (.inr (10, 6)))),
  some (.inr (.inl (0, 6))),
  some (.inr (.inl (0, 6))),
  some (.inr (.inl (0, 10))),
  some (.inr (.inl (0, 10))),
  some (.inr (.inl (0, 10))),
  some (.inr (.inl (0, 10))),
  some (.inl (6, [.inl 23, .inr 1])),
  some (.inr (.inl (0, 12))),
  some (.inl (6, [.inl 25, .inr 1])),
  some (.inr (.inl (0, 50))),
  some (.inl (6, [.inl 27, .inr 1])),
  some (.inr (.inl (0, 20))),
  some (.inr (.inr (.inl (11, 2, [35, 43])))),
  some (.inl (3, [.inr 0, .inr 1, .inl 11])),
  some (.inl (3, [.inr 0, .inr 1, .inl 11])),
  some (.inl (3, [.inr 0, .inr 1, .inl 11]))]
def lay_1 : List (Option mLE) := [some (.inl (3, [.inr 0, .inr 1, .inl 11])),
  some (.inl (3, [.inr 0, .inr 1, .inl 11])),
  some (.inl (3, [.inr 0, .inr 1, .inl 11])),
  some (.inl (4, [.inr 0, .inl 36, .inl 38, .inl 39, .inl 41, .inr 5, .inr 6, .inr 7])),
  some (.inl (6, [.inl 37, .inr 1])),
  some (.inr (.inl (0, 50))),
  some (.inr (.inl (0, 50))),
  some (.inl (6, [.inl 40, .inr 1])),
  some (.inr (.inl (0, 50))),
  some (.inl (6, [.inl 42, .inr 1])),
  some (.inr (.inl (0, 50))),
  some (.inl (4, [.inr 0, .inl 44, .inl 46, .inl 47, .inl 49, .inr 5, .inr 6, .inr 7])),
  some (.inl (6, [.inl 45, .inr 1])),
  some (.inr (.inl (0, 50))),
  some (.inr (.inl (0, 50))),
  some (.inl (6, [.inl 48, .inr 1])),
  some (.inr (.inl (0, 50))),
  some (.inl (6, [.inl 50, .inr 1])),
  some (.inr (.inl (0, 50))),
  some (.inl (9, [.inl 52, .inr 1, .inr 2, .inr 3, .inr 4, .inr 5, .inl 53, .inl 54, .inl 55, .inr 9, .inl 56, .inl 57, .inl 58, .inl 59, .inl 60, .inl 62, .inl 64, .inl 66])),
  some (.inr (.inl (0, 36))),
  some (.inr (.inr (.inr (10, 6)))),
  some (.inr (.inl (0, 6))),
  some (.inr (.inl (0, 6))),
  some (.inr (.inl (0, 10))),
  some (.inr (.inl (0, 10))),
  some (.inr (.inl (0, 10))),
  some (.inr (.inl (0, 10))),
  some (.inl (6, [.inl 61, .inr 1])),
  some (.inr (.inl (0, 12))),
  some (.inl (6, [.inl 63, .inr 1])),
  some (.inr (.inl (0, 50)))]
def lay_2 : List (Option mLE) := [some (.inl (6, [.inl 65, .inr 1])),
  some (.inr (.inl (0, 20))),
  some (.inr (.inr (.inl (11, 2, [73, 81])))),
  some (.inl (3, [.inr 0, .inr 1, .inl 11])),
  some (.inl (3, [.inr 0, .inr 1, .inl 11])),
  some (.inl (3, [.inr 0, .inr 1, .inl 11])),
  some (.inl (3, [.inr 0, .inr 1, .inl 11])),
  some (.inl (3, [.inr 0, .inr 1, .inl 11])),
  some (.inl (3, [.inr 0, .inr 1, .inl 11])),
  some (.inl (4, [.inr 0, .inl 74, .inl 76, .inl 77, .inl 79, .inr 5, .inr 6, .inr 7])),
  some (.inl (6, [.inl 75, .inr 1])),
  some (.inr (.inl (0, 50))),
  some (.inr (.inl (0, 50))),
  some (.inl (6, [.inl 78, .inr 1])),
  some (.inr (.inl (0, 50))),
  some (.inl (6, [.inl 80, .inr 1])),
  some (.inr (.inl (0, 50))),
  some (.inl (4, [.inr 0, .inl 82, .inl 84, .inl 85, .inl 87, .inr 5, .inr 6, .inr 7])),
  some (.inl (6, [.inl 83, .inr 1])),
  some (.inr (.inl (0, 50))),
  some (.inr (.inl (0, 50))),
  some (.inl (6, [.inl 86, .inr 1])),
  some (.inr (.inl (0, 50))),
  some (.inl (6, [.inl 88, .inr 1])),
  some (.inr (.inl (0, 50))),
  some (.inl (9, [.inl 90, .inr 1, .inr 2, .inr 3, .inr 4, .inr 5, .inl 91, .inl 92, .inl 93, .inr 9, .inl 94, .inl 95, .inl 96, .inl 97, .inl 98, .inl 100, .inl 102, .inl 104])),
  some (.inr (.inl (0, 36))),
  some (.inr (.inr (.inr (10, 6)))),
  some (.inr (.inl (0, 6))),
  some (.inr (.inl (0, 6))),
  some (.inr (.inl (0, 10))),
  some (.inr (.inl (0, 10)))]
def lay_3 : List (Option mLE) := [some (.inr (.inl (0, 10))),
  some (.inr (.inl (0, 10))),
  some (.inl (6, [.inl 99, .inr 1])),
  some (.inr (.inl (0, 12))),
  some (.inl (6, [.inl 101, .inr 1])),
  some (.inr (.inl (0, 50))),
  some (.inl (6, [.inl 103, .inr 1])),
  some (.inr (.inl (0, 20))),
  some (.inr (.inr (.inl (11, 2, [111, 119])))),
  some (.inl (3, [.inr 0, .inr 1, .inl 11])),
  some (.inl (3, [.inr 0, .inr 1, .inl 11])),
  some (.inl (3, [.inr 0, .inr 1, .inl 11])),
  some (.inl (3, [.inr 0, .inr 1, .inl 11])),
  some (.inl (3, [.inr 0, .inr 1, .inl 11])),
  some (.inl (3, [.inr 0, .inr 1, .inl 11])),
  some (.inl (4, [.inr 0, .inl 112, .inl 114, .inl 115, .inl 117, .inr 5, .inr 6, .inr 7])),
  some (.inl (6, [.inl 113, .inr 1])),
  some (.inr (.inl (0, 50))),
  some (.inr (.inl (0, 50))),
  some (.inl (6, [.inl 116, .inr 1])),
  some (.inr (.inl (0, 50))),
  some (.inl (6, [.inl 118, .inr 1])),
  some (.inr (.inl (0, 50))),
  some (.inl (4, [.inr 0, .inl 120, .inl 122, .inl 123, .inl 125, .inr 5, .inr 6, .inr 7])),
  some (.inl (6, [.inl 121, .inr 1])),
  some (.inr (.inl (0, 50))),
  some (.inr (.inl (0, 50))),
  some (.inl (6, [.inl 124, .inr 1])),
  some (.inr (.inl (0, 50))),
  some (.inl (6, [.inl 126, .inr 1])),
  some (.inr (.inl (0, 50))),
  some (.inl (5, [.inl 128, .inl 129]))]
def lay_4 : List (Option mLE) := [some (.inr (.inl (0, 41))),
  some (.inr (.inl (0, 36))),
  some (.inr (.inr (.inl (12, 4, [138, 140, 142, 144])))),
  some (.inr (.inl (0, 4))),
  some (.inr (.inl (0, 6))),
  some (.inr (.inl (0, 36))),
  some (.inr (.inl (0, 64))),
  some (.inl (6, [.inl 136, .inr 1])),
  some (.inr (.inl (0, 4))),
  some (.inr (.inl (1, 72))),
  some (.inl (6, [.inl 139, .inr 1])),
  some (.inr (.inl (0, 40))),
  some (.inl (6, [.inl 141, .inr 1])),
  some (.inr (.inl (0, 40))),
  some (.inl (6, [.inl 143, .inr 1])),
  some (.inr (.inl (0, 40))),
  some (.inl (6, [.inl 145, .inr 1])),
  some (.inr (.inl (0, 40))),
  some (.inl (12, [.inl 147, .inl 148, .inl 149, .inr 3, .inl 150, .inr 5, .inr 6, .inr 7, .inr 8, .inr 9, .inr 10, .inl 151, .inl 152, .inr 13, .inl 153, .inl 154, .inl 155, .inl 156, .inl 157, .inl 158, .inl 159, .inr 21, .inr 22, .inl 160, .inl 161, .inl 162, .inl 163])),
  some (.inr (.inl (0, 300))),
  some (.inr (.inl (0, 300))),
  some (.inr (.inl (0, 300))),
  some (.inr (.inl (0, 6))),
  some (.inr (.inl (0, 4))),
  some (.inr (.inl (0, 60))),
  some (.inr (.inl (0, 60))),
  some (.inr (.inl (0, 36))),
  some (.inr (.inl (0, 36))),
  some (.inr (.inl (0, 64))),
  some (.inr (.inl (0, 6))),
  some (.inr (.inl (0, 4))),
  some (.inr (.inl (0, 40)))]
def lay_5 : List (Option mLE) := [some (.inr (.inl (0, 4))),
  some (.inr (.inl (0, 4))),
  some (.inr (.inl (0, 160))),
  some (.inr (.inl (0, 40)))]
def layR : List (List (Option mLE)) := [lay_0, lay_1, lay_2, lay_3, lay_4, lay_5]
def layAt (a : Nat) : Option mLE := match m_rows layR a with
  | some o => o
  | none => none
def fillF (s : Nat → Int) : List (Nat ⊕ Nat) → List mAV
  | [] => []
  | .inl r :: q => .inr (.inr r) :: fillF s q
  | .inr i :: q => .inl (s i) :: fillF s q
def fillE (s : Nat → Int) : mLE → mEnt
  | .inl (c, fd) => eo c (fillF s fd)
  | .inr (.inl (t, n)) => ep t n s
  | .inr (.inr (.inl (t, n, l))) => er t n (fun j => l.getD j 0)
  | .inr (.inr (.inr (t, n))) => er t n (fun j => (s j).toNat)
/-- the heap that a state stands for: s 0 0 lamps more than at first; s 0 1 the script's length -/
def enc (s : mSt) (a : Nat) : mEnt := match layAt a with
  | some e => fillE (s a) e
  | none => if a = 1 then ep 0 (s 0 1).toNat (s 1) else if 164 ≤ a ∧ a < 164 + (s 0 0).toNat then eo (s a 3).toNat [.inl (s a 0), .inl (s a 1), .inr (.inr 11)] else none
def encA (s : mSt) : mH := (164 + (s 0 0).toNat, 3889 + 3 * (s 0 0).toNat, enc s)
def us (s : mSt) (a j : Nat) (x : Int) : mSt := mup s a (mup (s a) j x)
def ua (s : mSt) (a : Nat) (f : Nat → Int) : mSt := mup s a f
theorem layAt_10 {a : Nat} {e : mLE} (h : layAt a = some e) : ¬ a < 10 := by
  intro ha
  have : layAt a = none := by
    rcases (show a = 0 ∨ a = 1 ∨ a = 2 ∨ a = 3 ∨ a = 4 ∨ a = 5 ∨ a = 6 ∨ a = 7 ∨ a = 8 ∨ a = 9 by omega) with rfl | rfl | rfl | rfl | rfl | rfl | rfl | rfl | rfl | rfl <;> rfl
  rw [this] at h
  cases h
theorem enc_at {s : mSt} {a : Nat} {e : mLE} (h : layAt a = some e) : enc s a = fillE (s a) e := by
  unfold enc
  rw [h]
theorem enc_ua {s : mSt} {a : Nat} {e : mLE} {f : Nat → Int} (h : layAt a = some e) : mup (enc s) a (fillE f e) = enc (ua s a f) := by
  have h10 := layAt_10 h
  funext b
  unfold mup
  by_cases hb : b = a
  · subst hb
    rw [if_pos rfl, enc_at h]
    simp [ua, mup]
  · rw [if_neg hb]
    have h0 : ¬ 0 = a := by omega
    have h1 : ¬ 1 = a := by omega
    unfold enc ua mup
    simp [hb, h0, h1]
theorem encA_ua {s : mSt} {a : Nat} {e : mLE} {f : Nat → Int} (h : layAt a = some e) : ((encA s).1, (encA s).2.1, mup (encA s).2.2 a (fillE f e)) = encA (ua s a f) := by
  have h10 := layAt_10 h
  have h0 : ¬ 0 = a := by omega
  show (_, _, mup (enc s) a (fillE f e)) = _
  rw [enc_ua h]
  unfold encA ua mup
  simp [h0]
theorem fillF_len (s : Nat → Int) : ∀ fd : List (Nat ⊕ Nat), (fillF s fd).length = fd.length
  | [] => rfl
  | .inl r :: q => by simp [fillF, fillF_len s q]
  | .inr i :: q => by simp [fillF, fillF_len s q]
theorem fillF_at {s : Nat → Int} : ∀ {fd : List (Nat ⊕ Nat)} {k i : Nat}, fd[k]? = some (.inr i) → (fillF s fd)[k]? = some (.inl (s i))
  | .inl r :: q, 0, i, h => by cases h
  | .inr i0 :: q, 0, i, h => by cases h; rfl
  | .inl r :: q, k + 1, i, h => by simpa [fillF] using fillF_at (fd := q) (k := k) (by simpa using h)
  | .inr i0 :: q, k + 1, i, h => by simpa [fillF] using fillF_at (fd := q) (k := k) (by simpa using h)
theorem fillF_ref {s : Nat → Int} : ∀ {fd : List (Nat ⊕ Nat)} {k r : Nat}, fd[k]? = some (.inl r) → (fillF s fd)[k]? = some (.inr (.inr r))
  | .inl r0 :: q, 0, r, h => by cases h; rfl
  | .inr i0 :: q, 0, r, h => by cases h
  | .inl r0 :: q, k + 1, r, h => by simpa [fillF] using fillF_ref (fd := q) (k := k) (by simpa using h)
  | .inr i0 :: q, k + 1, r, h => by simpa [fillF] using fillF_ref (fd := q) (k := k) (by simpa using h)
/-- each number's place is its own -/
def layOwn : List (Nat ⊕ Nat) → Nat → Bool
  | [], _ => true
  | .inl _ :: q, n => layOwn q (n + 1)
  | .inr i :: q, n => i == n && layOwn q (n + 1)
theorem fillF_low {s : Nat → Int} {i : Nat} {x : Int} : ∀ {fd : List (Nat ⊕ Nat)} {n : Nat}, layOwn fd n = true → i < n → fillF (mup s i x) fd = fillF s fd
  | [], n, _, _ => rfl
  | .inl r :: q, n, h, hi => by
    unfold layOwn at h
    simp only [fillF]
    rw [fillF_low h (by omega)]
  | .inr j :: q, n, h, hi => by
    unfold layOwn at h
    simp only [Bool.and_eq_true, beq_iff_eq] at h
    simp only [fillF]
    rw [fillF_low h.2 (by omega)]
    have : ¬ j = i := by omega
    simp [mup, this]
theorem fillF_set {s : Nat → Int} {x : Int} : ∀ {fd : List (Nat ⊕ Nat)} {k i n : Nat}, layOwn fd n = true → fd[k]? = some (.inr i) → (fillF s fd).set k (.inl x) = fillF (mup s i x) fd
  | .inl r :: q, 0, i, n, _, h => by cases h
  | .inr i0 :: q, 0, i, n, ho, h => by
    cases h
    unfold layOwn at ho
    simp only [Bool.and_eq_true, beq_iff_eq] at ho
    simp only [fillF, List.set_cons_zero]
    rw [fillF_low ho.2 (by omega)]
    simp [mup]
  | .inl r :: q, k + 1, i, n, ho, h => by
    unfold layOwn at ho
    simp only [fillF, List.set_cons_succ]
    rw [fillF_set ho (by simpa using h)]
  | .inr i0 :: q, k + 1, i, n, ho, h => by
    unfold layOwn at ho
    simp only [Bool.and_eq_true, beq_iff_eq] at ho
    have h' : q[k]? = some (.inr i) := by simpa using h
    have hi : ∀ {q : List (Nat ⊕ Nat)} {k i n : Nat}, layOwn q n = true → q[k]? = some (.inr i) → n ≤ i := by
      intro q
      induction q with
      | nil => intro k i n _ h; simp at h
      | cons e q ih =>
        intro k i n ho h
        cases k with
        | zero =>
          cases h
          unfold layOwn at ho
          simp only [Bool.and_eq_true, beq_iff_eq] at ho
          omega
        | succ k =>
          cases e with
          | inl r => unfold layOwn at ho; have := ih ho (by simpa using h); omega
          | inr r =>
            unfold layOwn at ho
            simp only [Bool.and_eq_true, beq_iff_eq] at ho
            have := ih ho.2 (by simpa using h); omega
    have h9 := hi ho.2 h'
    simp only [fillF, List.set_cons_succ]
    rw [fillF_set ho.2 h']
    have : ¬ i0 = i := by omega
    simp [mup, this]
section RE
variable {d mt j : Nat} {L : mL} {S : mS} {s : mSt} {r : Option mAV} {h' : mH}
theorem x_getI {cs : List Nat} {a c k i nx : Nat} {fd : List (Nat ⊕ Nat)} (hc : (mPr mt).2 j = some (opGet cs k nx)) (ha : Nat.ble 10 a = true) (hl : layAt a = some (.inl (c, fd))) (hcs : cs.contains c = true) (hk : fd[k]? = some (.inr i)) (kk : Run d mt nx L (.inl (s a i) :: S) (encA s) r h') : Run d mt j L (.inr (.inr a) :: S) (encA s) r h' :=
  x_get0 hc ha (show enc s a = _ from (enc_at hl).trans rfl) hcs (fillF_at hk) kk
theorem x_getR {cs : List Nat} {a c k q nx : Nat} {fd : List (Nat ⊕ Nat)} (hc : (mPr mt).2 j = some (opGet cs k nx)) (ha : Nat.ble 10 a = true) (hl : layAt a = some (.inl (c, fd))) (hcs : cs.contains c = true) (hk : fd[k]? = some (.inl q)) (kk : Run d mt nx L (.inr (.inr q) :: S) (encA s) r h') : Run d mt j L (.inr (.inr a) :: S) (encA s) r h' :=
  x_get0 hc ha (show enc s a = _ from (enc_at hl).trans rfl) hcs (fillF_ref hk) kk
theorem x_putI {cs : List Nat} {a c t k i nx : Nat} {fd : List (Nat ⊕ Nat)} {x : Int} (hc : (mPr mt).2 j = some (opPut cs t k nx)) (ha : Nat.ble 10 a = true) (hl : layAt a = some (.inl (c, fd))) (hcs : cs.contains c = true) (hk : fd[k]? = some (.inr i)) (ho : layOwn fd 0 = true) (ht : mFit t (.inl x) = true) (kk : Run d mt nx L S (encA (us s a i x)) r h') : Run d mt j L (.inl x :: .inr (.inr a) :: S) (encA s) r h' := by
  refine x_put0 hc ha (show enc s a = _ from (enc_at hl).trans rfl) hcs (by rw [fillF_len]; exact (List.getElem?_eq_some_iff.mp hk).1) ht ?_
  rw [fillF_set ho hk]
  rw [show eo c (fillF (mup (s a) i x) fd) = fillE (mup (s a) i x) (.inl (c, fd)) from rfl, encA_ua hl]
  exact kk
theorem x_ald {a n nx : Nat} {x : Int} (hc : (mPr mt).2 j = some (opALd 0 nx)) (ha : Nat.ble 10 a = true) (hl : layAt a = some (.inr (.inl (0, n)))) (hx : 0 ≤ x ∧ x < n) (hn : Nat.ble n 1000 = true) (kk : Run d mt nx L (.inl (s a x.toNat) :: S) (encA s) r h') : Run d mt j L (.inl x :: .inr (.inr a) :: S) (encA s) r h' := by
  have hn' := Nat.le_of_ble_eq_true hn
  have hw : w32 x = x := w32_id (by omega) (by omega)
  refine x_ald0 (t := 0) hc ha (show enc s a = _ from (enc_at hl).trans rfl) (by rw [hw]; exact hx.1) (by rw [hw]; exact hx.2) ?_
  rw [hw]
  exact kk
theorem x_aldk {a n nx : Nat} {x : Int} (k : Nat) (hc : (mPr mt).2 j = some (opALd 0 nx)) (ha : Nat.ble 10 a = true) (hl : layAt a = some (.inr (.inl (0, n)))) (hx : x = (k : Int)) (hk : Nat.ble (k + 1) n = true) (hn : Nat.ble n 1000 = true) (kk : Run d mt nx L (.inl (s a k) :: S) (encA s) r h') : Run d mt j L (.inl x :: .inr (.inr a) :: S) (encA s) r h' := by
  have h1 := Nat.le_of_ble_eq_true hk
  subst hx
  exact x_ald hc ha hl ⟨by omega, by omega⟩ hn (by rw [Int.toNat_natCast]; exact kk)
theorem x_aldL {a n nx : Nat} {x : Int} (hc : (mPr mt).2 j = some (opALd 1 nx)) (ha : Nat.ble 10 a = true) (hl : layAt a = some (.inr (.inl (1, n)))) (hx : 0 ≤ x ∧ x < n) (hn : Nat.ble n 1000 = true) (kk : Run d mt nx L (.inr (.inl (s a x.toNat)) :: S) (encA s) r h') : Run d mt j L (.inl x :: .inr (.inr a) :: S) (encA s) r h' := by
  have hn' := Nat.le_of_ble_eq_true hn
  have hw : w32 x = x := w32_id (by omega) (by omega)
  refine x_aldL0 (t := 0) hc ha (show enc s a = _ from (enc_at hl).trans rfl) (by rw [hw]; exact hx.1) (by rw [hw]; exact hx.2) ?_
  rw [hw]
  exact kk
theorem x_ast {a n nx : Nat} {x v : Int} (hc : (mPr mt).2 j = some (opASt nx)) (ha : Nat.ble 10 a = true) (hl : layAt a = some (.inr (.inl (0, n)))) (hx : 0 ≤ x ∧ x < n) (hn : Nat.ble n 1000 = true) (kk : Run d mt nx L S (encA (us s a x.toNat v)) r h') : Run d mt j L (.inl v :: .inl x :: .inr (.inr a) :: S) (encA s) r h' := by
  have hn' := Nat.le_of_ble_eq_true hn
  have hw : w32 x = x := w32_id (by omega) (by omega)
  refine x_ast0 hc ha (show enc s a = _ from (enc_at hl).trans rfl) (by rw [hw]; exact hx.1) (by rw [hw]; exact hx.2) ?_
  rw [hw, show ep 0 n (mup (s a) x.toNat v) = fillE (mup (s a) x.toNat v) (.inr (.inl (0, n))) from rfl, encA_ua hl]
  exact kk
theorem x_astk {a n nx : Nat} {x v : Int} (k : Nat) (hc : (mPr mt).2 j = some (opASt nx)) (ha : Nat.ble 10 a = true) (hl : layAt a = some (.inr (.inl (0, n)))) (hx : x = (k : Int)) (hk : Nat.ble (k + 1) n = true) (hn : Nat.ble n 1000 = true) (kk : Run d mt nx L S (encA (us s a k v)) r h') : Run d mt j L (.inl v :: .inl x :: .inr (.inr a) :: S) (encA s) r h' := by
  have h1 := Nat.le_of_ble_eq_true hk
  subst hx
  exact x_ast hc ha hl ⟨by omega, by omega⟩ hn (by rw [Int.toNat_natCast]; exact kk)
theorem x_astL {a n nx : Nat} {x v : Int} (hc : (mPr mt).2 j = some (opAStL nx)) (ha : Nat.ble 10 a = true) (hl : layAt a = some (.inr (.inl (1, n)))) (hx : 0 ≤ x ∧ x < n) (hn : Nat.ble n 1000 = true) (kk : Run d mt nx L S (encA (us s a x.toNat v)) r h') : Run d mt j L (.inr (.inl v) :: .inl x :: .inr (.inr a) :: S) (encA s) r h' := by
  have hn' := Nat.le_of_ble_eq_true hn
  have hw : w32 x = x := w32_id (by omega) (by omega)
  refine x_astL0 hc ha (show enc s a = _ from (enc_at hl).trans rfl) (by rw [hw]; exact hx.1) (by rw [hw]; exact hx.2) ?_
  rw [hw, show ep 1 n (mup (s a) x.toNat v) = fillE (mup (s a) x.toNat v) (.inr (.inl (1, n))) from rfl, encA_ua hl]
  exact kk
/-- a row of fixed references -/
theorem x_rld {a t n nx : Nat} {l : List Nat} {x : Int} (hc : (mPr mt).2 j = some (opRLd t nx)) (ha : Nat.ble 10 a = true) (hl : layAt a = some (.inr (.inr (.inl (t, n, l))))) (hx : 0 ≤ x ∧ x < n) (hn : Nat.ble n 1000 = true) (kk : Run d mt nx L (.inr (.inr (l.getD x.toNat 0)) :: S) (encA s) r h') : Run d mt j L (.inl x :: .inr (.inr a) :: S) (encA s) r h' := by
  have hn' := Nat.le_of_ble_eq_true hn
  have hw : w32 x = x := w32_id (by omega) (by omega)
  refine x_rld0 hc ha (show enc s a = _ from (enc_at hl).trans rfl) (by rw [hw]; exact hx.1) (by rw [hw]; exact hx.2) ?_
  rw [hw]
  exact kk
/-- a row of lamps -/
theorem x_rldL {a t n nx : Nat} {x : Int} (hc : (mPr mt).2 j = some (opRLd t nx)) (ha : Nat.ble 10 a = true) (hl : layAt a = some (.inr (.inr (.inr (t, n))))) (hx : 0 ≤ x ∧ x < n) (hn : Nat.ble n 1000 = true) (kk : Run d mt nx L (.inr (.inr (s a x.toNat).toNat) :: S) (encA s) r h') : Run d mt j L (.inl x :: .inr (.inr a) :: S) (encA s) r h' := by
  have hn' := Nat.le_of_ble_eq_true hn
  have hw : w32 x = x := w32_id (by omega) (by omega)
  refine x_rld0 hc ha (show enc s a = _ from (enc_at hl).trans rfl) (by rw [hw]; exact hx.1) (by rw [hw]; exact hx.2) ?_
  rw [hw]
  exact kk
theorem x_rstL {a t n nx v c : Nat} {cs : List Nat} {fs : List mAV} {x : Int} (hc : (mPr mt).2 j = some (opRSt t cs nx)) (ha : Nat.ble 10 a = true) (hl : layAt a = some (.inr (.inr (.inr (t, n))))) (hv : Nat.ble 10 v = true) (hgv : enc s v = some (.inl (c, fs))) (hcs : cs.contains c = true) (hx : 0 ≤ x ∧ x < n) (hn : Nat.ble n 1000 = true) (kk : Run d mt nx L S (encA (us s a x.toNat v)) r h') : Run d mt j L (.inr (.inr v) :: .inl x :: .inr (.inr a) :: S) (encA s) r h' := by
  have hn' := Nat.le_of_ble_eq_true hn
  have hw : w32 x = x := w32_id (by omega) (by omega)
  refine x_rst0 hc ha hv (show enc s a = _ from (enc_at hl).trans rfl) hgv hcs (by rw [hw]; exact hx.1) (by rw [hw]; exact hx.2) ?_
  rw [hw]
  have he : er t n (mup (fun j => (s a j).toNat) x.toNat v) = fillE (mup (s a) x.toNat v) (.inr (.inr (.inr (t, n)))) := by
    show er t n _ = er t n _
    congr 4
    funext q
    unfold mup
    split <;> simp
  rw [he, encA_ua hl]
  exact kk
theorem x_alen {a n nx : Nat} (hc : (mPr mt).2 j = some (opALen nx)) (ha : Nat.ble 10 a = true) (hl : layAt a = some (.inr (.inl (0, n)))) (kk : Run d mt nx L (.inl (n : Int) :: S) (encA s) r h') : Run d mt j L (.inr (.inr a) :: S) (encA s) r h' :=
  x_alen0 hc ha (show enc s a = _ from (enc_at hl).trans rfl) kk
theorem x_cpy {a b na nb nx : Nat} {n sp dp : Int} (hc : (mPr mt).2 j = some (opCpy nx)) (ha : Nat.ble 10 a = true) (hb : Nat.ble 10 b = true) (hla : layAt a = some (.inr (.inl (0, na)))) (hlb : layAt b = some (.inr (.inl (0, nb)))) (h1 : 0 ≤ n) (h2 : 0 ≤ sp) (h3 : 0 ≤ dp) (h4 : sp + n ≤ na) (h5 : dp + n ≤ nb) (hna : Nat.ble na 1000 = true) (hnb : Nat.ble nb 1000 = true) (hS : Nat.ble (mWs S) 8 = true)
    (kk : Run (d + 1) mt nx L S (encA (ua s b (mcpy (s a) (s b) sp.toNat dp.toNat n.toNat))) r h') : Run (d + 1) mt j L (.inl n :: .inl dp :: .inr (.inr b) :: .inl sp :: .inr (.inr a) :: S) (encA s) r h' := by
  have hn1 := Nat.le_of_ble_eq_true hna
  have hn2 := Nat.le_of_ble_eq_true hnb
  have w1 : w32 n = n := w32_id (by omega) (by omega)
  have w2 : w32 sp = sp := w32_id (by omega) (by omega)
  have w3 : w32 dp = dp := w32_id (by omega) (by omega)
  refine x_cpy0 hc ha hb (show enc s a = _ from (enc_at hla).trans rfl) (show enc s b = _ from (enc_at hlb).trans rfl) (by omega) (by omega) (by omega) (by omega) (by omega) hS ?_
  rw [w1, w2, w3, show ep 0 nb (mcpy (s a) (s b) sp.toNat dp.toNat n.toNat) = fillE (mcpy (s a) (s b) sp.toNat dp.toNat n.toNat) (.inr (.inl (0, nb))) from rfl, encA_ua hlb]
  exact kk
theorem x_callV {tb : List (Nat × Nat)} {mt' na nx a c : Nat} {as : List mAV} {fd : List (Nat ⊕ Nat)} {rv : Option mAV} {h1 : mH} (hc : (mPr mt).2 j = some (opCallV tb na nx)) (hn : Nat.ble na S.length = true) (hS : Nat.ble (mWs (S.drop na)) 8 = true) (hs : (S.take na).reverse = .inr (.inr a) :: as) (ha : Nat.ble 10 a = true) (hl : layAt a = some (.inl (c, fd))) (ht : mTb tb c = some mt') (hk : Call d mt' (.inr (.inr a) :: as) (encA s) rv h1) (k : Run (d + 1) mt nx L (mBack rv (S.drop na)) h1 r h') : Run (d + 1) mt j L S (encA s) r h' :=
  x_callV0 hc hn hS hs ha (show enc s a = _ from (enc_at hl).trans rfl) ht hk k
end RE
