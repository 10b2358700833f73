/-! ===== runs with what is to hold at the end ===== -/
abbrev mQ : Type := Option mAV → mH → Prop
def WP (d mt j : Nat) (L : mL) (S : mS) (h : mH) (Q : mQ) : Prop := ∃ r h', Run d mt j L S h r h' ∧ Q r h'
def QI (P : Int → mSt → Prop) : mQ := fun r h => ∃ v s, r = some (.inl v) ∧ h = encA s ∧ P v s
def QV (P : mSt → Prop) : mQ := fun r h => ∃ s, r = none ∧ h = encA s ∧ P s
def QL (P : Int → mSt → Prop) : mQ := fun r h => ∃ v s, r = some (.inr (.inl v)) ∧ h = encA s ∧ P v s
def QR (P : Nat → mSt → Prop) : mQ := fun r h => ∃ v s, r = some (.inr (.inr v)) ∧ h = encA s ∧ P v s
def CI (d mt : Nat) (as : List mAV) (s : mSt) (P : Int → mSt → Prop) : Prop := ∃ v s1, Call d mt as (encA s) (some (.inl v)) (encA s1) ∧ P v s1
def CV (d mt : Nat) (as : List mAV) (s : mSt) (P : mSt → Prop) : Prop := ∃ s1, Call d mt as (encA s) none (encA s1) ∧ P s1
def CL (d mt : Nat) (as : List mAV) (s : mSt) (P : Int → mSt → Prop) : Prop := ∃ v s1, Call d mt as (encA s) (some (.inr (.inl v))) (encA s1) ∧ P v s1
def CR (d mt : Nat) (as : List mAV) (s : mSt) (P : Nat → mSt → Prop) : Prop := ∃ v s1, Call d mt as (encA s) (some (.inr (.inr v))) (encA s1) ∧ P v s1
theorem CI.mk {d mt : Nat} {as : List mAV} {s : mSt} {P : Int → mSt → Prop} (h : Nat.ble (mArgs as).length (mPr mt).1 = true) (k : WP d mt 0 (mIn (mPr mt).1 as) [] (encA s) (QI P)) : CI d mt as s P := by
  obtain ⟨r, h', kr, v, s1, rfl, rfl, hp⟩ := k
  exact ⟨v, s1, ⟨Nat.le_of_ble_eq_true h, kr⟩, hp⟩
theorem CV.mk {d mt : Nat} {as : List mAV} {s : mSt} {P : mSt → Prop} (h : Nat.ble (mArgs as).length (mPr mt).1 = true) (k : WP d mt 0 (mIn (mPr mt).1 as) [] (encA s) (QV P)) : CV d mt as s P := by
  obtain ⟨r, h', kr, s1, rfl, rfl, hp⟩ := k
  exact ⟨s1, ⟨Nat.le_of_ble_eq_true h, kr⟩, hp⟩
theorem CL.mk {d mt : Nat} {as : List mAV} {s : mSt} {P : Int → mSt → Prop} (h : Nat.ble (mArgs as).length (mPr mt).1 = true) (k : WP d mt 0 (mIn (mPr mt).1 as) [] (encA s) (QL P)) : CL d mt as s P := by
  obtain ⟨r, h', kr, v, s1, rfl, rfl, hp⟩ := k
  exact ⟨v, s1, ⟨Nat.le_of_ble_eq_true h, kr⟩, hp⟩
theorem CR.mk {d mt : Nat} {as : List mAV} {s : mSt} {P : Nat → mSt → Prop} (h : Nat.ble (mArgs as).length (mPr mt).1 = true) (k : WP d mt 0 (mIn (mPr mt).1 as) [] (encA s) (QR P)) : CR d mt as s P := by
  obtain ⟨r, h', kr, v, s1, rfl, rfl, hp⟩ := k
  exact ⟨v, s1, ⟨Nat.le_of_ble_eq_true h, kr⟩, hp⟩
theorem CI.imp {d mt : Nat} {as : List mAV} {s : mSt} {P P1 : Int → mSt → Prop} (k : CI d mt as s P) (h : ∀ v s1, P v s1 → P1 v s1) : CI d mt as s P1 := by
  obtain ⟨v, s1, c, p⟩ := k
  exact ⟨v, s1, c, h v s1 p⟩
theorem CV.imp {d mt : Nat} {as : List mAV} {s : mSt} {P P1 : mSt → Prop} (k : CV d mt as s P) (h : ∀ s1, P s1 → P1 s1) : CV d mt as s P1 := by
  obtain ⟨s1, c, p⟩ := k
  exact ⟨s1, c, h s1 p⟩
theorem WP.pre {d mt j : Nat} {L : mL} {S : mS} {s s1 : mSt} {Q : mQ} (e : s = s1) (k : WP d mt j L S (encA s1) Q) : WP d mt j L S (encA s) Q := e ▸ k
theorem WP.loc {d mt j : Nat} {L L1 : mL} {S : mS} {h : mH} {Q : mQ} (e : L = L1) (k : WP d mt j L1 S h Q) : WP d mt j L S h Q := e ▸ k
theorem WP.stk {d mt j : Nat} {L : mL} {S S1 : mS} {h : mH} {Q : mQ} (e : S = S1) (k : WP d mt j L S1 h Q) : WP d mt j L S h Q := e ▸ k
theorem WP.imp {d mt j : Nat} {L : mL} {S : mS} {h : mH} {Q Q1 : mQ} (k : WP d mt j L S h Q) (e : ∀ r h', Q r h' → Q1 r h') : WP d mt j L S h Q1 := by
  obtain ⟨r, h', k, q⟩ := k
  exact ⟨r, h', k, e r h' q⟩
/-- what has not changed -/
def Fr (A : List Nat) (s s1 : mSt) : Prop := ∀ x, A.contains x = false → s1 x = s x
theorem Fr.rf {A : List Nat} {s : mSt} : Fr A s s := fun _ _ => rfl
theorem Fr.tr {A : List Nat} {s s1 s2 : mSt} (h1 : Fr A s s1) (h2 : Fr A s1 s2) : Fr A s s2 := fun x hx => (h2 x hx).trans (h1 x hx)
theorem Fr.mono {A B : List Nat} {s s1 : mSt} (h : A.all (fun x => B.contains x) = true) (k : Fr A s s1) : Fr B s s1 := fun x hx => k x (by
  cases e : A.contains x
  · rfl
  · have h1 := List.all_eq_true.mp h x (by simpa using e)
    rw [hx] at h1
    cases h1)
theorem Fr.ua {A : List Nat} {s : mSt} {a : Nat} {f : Nat → Int} (h : A.contains a = true) : Fr A s (ua s a f) := fun x hx => ua_ne (by rintro rfl; rw [h] at hx; cases hx)
theorem Fr.us {A : List Nat} {s : mSt} {a i : Nat} {v : Int} (h : A.contains a = true) : Fr A s (us s a i v) := Fr.ua h
theorem Fr.at {A : List Nat} {s s1 : mSt} (k : Fr A s s1) (x : Nat) (h : A.contains x = false) : s1 x = s x := k x h
section WW
variable {d mt j : Nat} {L : mL} {S : mS} {h : mH} {s : mSt} {Q : mQ}
theorem w_push {v : mAV} {nx : Nat} (hc : (mPr mt).2 j = some (opPush v nx)) (k : WP d mt nx L (v :: S) h Q) : WP d mt j L S h Q := by
  obtain ⟨r, h', kr, z⟩ := k
  exact ⟨r, h', x_push hc kr, z⟩
theorem w_ldI {x : Int} {i nx : Nat} (hc : (mPr mt).2 j = some (opLdI i nx)) (hl : L[i]? = some (some (.inl x))) (k : WP d mt nx L (.inl x :: S) h Q) : WP d mt j L S h Q := by
  obtain ⟨r, h', kr, z⟩ := k
  exact ⟨r, h', x_ldI hc hl kr, z⟩
theorem w_ldN {x : Int} {i nx : Nat} (hc : (mPr mt).2 j = some (opLdN i nx)) (hl : L[i]? = some (some (.inl x))) (k : WP d mt nx L (.inl (w32 x) :: S) h Q) : WP d mt j L S h Q := by
  obtain ⟨r, h', kr, z⟩ := k
  exact ⟨r, h', x_ldN hc hl kr, z⟩
theorem w_ldL {x : Int} {i nx : Nat} (hc : (mPr mt).2 j = some (opLdL i nx)) (hl : L[i]? = some (some (.inr (.inl x)))) (k : WP d mt nx L (.inr (.inl x) :: S) h Q) : WP d mt j L S h Q := by
  obtain ⟨r, h', kr, z⟩ := k
  exact ⟨r, h', x_ldL hc hl kr, z⟩
theorem w_ldR {a i nx : Nat} (hc : (mPr mt).2 j = some (opLdR i nx)) (hl : L[i]? = some (some (.inr (.inr a)))) (ha : Nat.ble 1 a = true) (k : WP d mt nx L (.inr (.inr a) :: S) h Q) : WP d mt j L S h Q := by
  obtain ⟨r, h', kr, z⟩ := k
  exact ⟨r, h', x_ldR hc hl ha kr, z⟩
theorem w_un {f : Int → Int} {x : Int} {nx : Nat} (hc : (mPr mt).2 j = some (opUn f nx)) (k : WP d mt nx L (.inl (f x) :: S) h Q) : WP d mt j L (.inl x :: S) h Q := by
  obtain ⟨r, h', kr, z⟩ := k
  exact ⟨r, h', x_un hc kr, z⟩
theorem w_neg {x : Int} {nx : Nat} (hc : (mPr mt).2 j = some (opUn m_neg nx)) (k : WP d mt nx L (.inl (-x) :: S) h Q) : WP d mt j L (.inl x :: S) h Q := by
  obtain ⟨r, h', kr, z⟩ := k
  exact ⟨r, h', x_neg hc kr, z⟩
theorem w_bin {f : Int → Int → Int} {x y : Int} {nx : Nat} (hc : (mPr mt).2 j = some (opBin f nx)) (k : WP d mt nx L (.inl (f x y) :: S) h Q) : WP d mt j L (.inl y :: .inl x :: S) h Q := by
  obtain ⟨r, h', kr, z⟩ := k
  exact ⟨r, h', x_bin hc kr, z⟩
theorem w_add {x y : Int} {nx : Nat} (hc : (mPr mt).2 j = some (opBin m_add nx)) (k : WP d mt nx L (.inl (x + y) :: S) h Q) : WP d mt j L (.inl y :: .inl x :: S) h Q := by
  obtain ⟨r, h', kr, z⟩ := k
  exact ⟨r, h', x_add hc kr, z⟩
theorem w_sub {x y : Int} {nx : Nat} (hc : (mPr mt).2 j = some (opBin m_sub nx)) (k : WP d mt nx L (.inl (x - y) :: S) h Q) : WP d mt j L (.inl y :: .inl x :: S) h Q := by
  obtain ⟨r, h', kr, z⟩ := k
  exact ⟨r, h', x_sub hc kr, z⟩
theorem w_mul {x y : Int} {nx : Nat} (hc : (mPr mt).2 j = some (opBin m_mul nx)) (k : WP d mt nx L (.inl (x * y) :: S) h Q) : WP d mt j L (.inl y :: .inl x :: S) h Q := by
  obtain ⟨r, h', kr, z⟩ := k
  exact ⟨r, h', x_mul hc kr, z⟩
theorem w_div {f : Int → Int → Int} {x y : Int} {nx : Nat} (hc : (mPr mt).2 j = some (opDiv f nx)) (hy : ¬ w32 y = 0) (k : WP d mt nx L (.inl (f x y) :: S) h Q) : WP d mt j L (.inl y :: .inl x :: S) h Q := by
  obtain ⟨r, h', kr, z⟩ := k
  exact ⟨r, h', x_div hc hy kr, z⟩
theorem w_binL {f : Int → Int → Int} {x y : Int} {nx : Nat} (hc : (mPr mt).2 j = some (opBinL f nx)) (k : WP d mt nx L (.inr (.inl (f x y)) :: S) h Q) : WP d mt j L (.inr (.inl y) :: .inr (.inl x) :: S) h Q := by
  obtain ⟨r, h', kr, z⟩ := k
  exact ⟨r, h', x_binL hc kr, z⟩
theorem w_shL {f : Int → Int → Int} {x y : Int} {nx : Nat} (hc : (mPr mt).2 j = some (opShL f nx)) (k : WP d mt nx L (.inr (.inl (f x y)) :: S) h Q) : WP d mt j L (.inl y :: .inr (.inl x) :: S) h Q := by
  obtain ⟨r, h', kr, z⟩ := k
  exact ⟨r, h', x_shL hc kr, z⟩
theorem w_i2l {x : Int} {nx : Nat} (hc : (mPr mt).2 j = some (opI2L nx)) (k : WP d mt nx L (.inr (.inl (w32 x)) :: S) h Q) : WP d mt j L (.inl x :: S) h Q := by
  obtain ⟨r, h', kr, z⟩ := k
  exact ⟨r, h', x_i2l hc kr, z⟩
theorem w_l2i {x : Int} {nx : Nat} (hc : (mPr mt).2 j = some (opL2I nx)) (k : WP d mt nx L (.inl (w32 x) :: S) h Q) : WP d mt j L (.inr (.inl x) :: S) h Q := by
  obtain ⟨r, h', kr, z⟩ := k
  exact ⟨r, h', x_l2i hc kr, z⟩
theorem w_cmpL {x y : Int} {nx : Nat} (hc : (mPr mt).2 j = some (opCmpL nx)) (k : WP d mt nx L (.inl (mCmp x y) :: S) h Q) : WP d mt j L (.inr (.inl y) :: .inr (.inl x) :: S) h Q := by
  obtain ⟨r, h', kr, z⟩ := k
  exact ⟨r, h', x_cmpL hc kr, z⟩
theorem w_dupI {x : Int} {nx : Nat} (hc : (mPr mt).2 j = some (opDup nx)) (k : WP d mt nx L (.inl x :: .inl x :: S) h Q) : WP d mt j L (.inl x :: S) h Q := by
  obtain ⟨r, h', kr, z⟩ := k
  exact ⟨r, h', x_dupI hc kr, z⟩
theorem w_dupR {x : Nat} {nx : Nat} (hc : (mPr mt).2 j = some (opDup nx)) (k : WP d mt nx L (.inr (.inr x) :: .inr (.inr x) :: S) h Q) : WP d mt j L (.inr (.inr x) :: S) h Q := by
  obtain ⟨r, h', kr, z⟩ := k
  exact ⟨r, h', x_dupR hc kr, z⟩
theorem w_dup2 {x : Int} {a : Nat} {nx : Nat} (hc : (mPr mt).2 j = some (opDup2 nx)) (k : WP d mt nx L (.inl x :: .inr (.inr a) :: .inl x :: .inr (.inr a) :: S) h Q) : WP d mt j L (.inl x :: .inr (.inr a) :: S) h Q := by
  obtain ⟨r, h', kr, z⟩ := k
  exact ⟨r, h', x_dup2 hc kr, z⟩
theorem w_popI {x : Int} {nx : Nat} (hc : (mPr mt).2 j = some (opPop nx)) (k : WP d mt nx L S h Q) : WP d mt j L (.inl x :: S) h Q := by
  obtain ⟨r, h', kr, z⟩ := k
  exact ⟨r, h', x_popI hc kr, z⟩
theorem w_go {tg : Nat} (hc : (mPr mt).2 j = some (opGo tg)) (k : WP d mt tg L S h Q) : WP d mt j L S h Q := by
  obtain ⟨r, h', kr, z⟩ := k
  exact ⟨r, h', x_go hc kr, z⟩
theorem w_sw {t : Int → Nat} {x : Int} {tg : Nat} (hc : (mPr mt).2 j = some (opSw t)) (ht : t (w32 x) = tg) (k : WP d mt tg L S h Q) : WP d mt j L (.inl x :: S) h Q := by
  obtain ⟨r, h', kr, z⟩ := k
  exact ⟨r, h', x_sw hc ht kr, z⟩
theorem w_if {c : Int → Bool} {x : Int} {tg nx : Nat} (hc : (mPr mt).2 j = some (opIf c tg nx)) (k1 : c (w32 x) = true → WP d mt tg L S h Q) (k2 : ¬ c (w32 x) = true → WP d mt nx L S h Q) : WP d mt j L (.inl x :: S) h Q := by
  by_cases q : c (w32 x) = true
  · obtain ⟨r, h', kr, z⟩ := k1 q
    exact ⟨r, h', x_if hc (fun _ => kr) (fun n => by exfalso; first | exact n q | exact q n | omega), z⟩
  · have n : ¬ c (w32 x) = true := by first | exact q | (exact Decidable.not_not.mp q) | omega
    obtain ⟨r, h', kr, z⟩ := k2 n
    exact ⟨r, h', x_if hc (fun p => by exfalso; exact q p) (fun _ => kr), z⟩
theorem w_ifc {c : Int → Int → Bool} {x y : Int} {tg nx : Nat} (hc : (mPr mt).2 j = some (opIfc c tg nx)) (k1 : c (w32 x) (w32 y) = true → WP d mt tg L S h Q) (k2 : ¬ c (w32 x) (w32 y) = true → WP d mt nx L S h Q) : WP d mt j L (.inl y :: .inl x :: S) h Q := by
  by_cases q : c (w32 x) (w32 y) = true
  · obtain ⟨r, h', kr, z⟩ := k1 q
    exact ⟨r, h', x_ifc hc (fun _ => kr) (fun n => by exfalso; first | exact n q | exact q n | omega), z⟩
  · have n : ¬ c (w32 x) (w32 y) = true := by first | exact q | (exact Decidable.not_not.mp q) | omega
    obtain ⟨r, h', kr, z⟩ := k2 n
    exact ⟨r, h', x_ifc hc (fun p => by exfalso; exact q p) (fun _ => kr), z⟩
theorem w_ifEq0 {x : Int} {tg nx : Nat} (hc : (mPr mt).2 j = some (opIf jEq0 tg nx)) (k1 : w32 x = 0 → WP d mt tg L S h Q) (k2 : ¬ w32 x = 0 → WP d mt nx L S h Q) : WP d mt j L (.inl x :: S) h Q := by
  by_cases q : w32 x = 0
  · obtain ⟨r, h', kr, z⟩ := k1 q
    exact ⟨r, h', x_ifEq0 hc (fun _ => kr) (fun n => by exfalso; first | exact n q | exact q n | omega), z⟩
  · have n : ¬ w32 x = 0 := by first | exact q | (exact Decidable.not_not.mp q) | omega
    obtain ⟨r, h', kr, z⟩ := k2 n
    exact ⟨r, h', x_ifEq0 hc (fun p => by exfalso; exact q p) (fun _ => kr), z⟩
theorem w_ifNe0 {x : Int} {tg nx : Nat} (hc : (mPr mt).2 j = some (opIf jNe0 tg nx)) (k1 : ¬ w32 x = 0 → WP d mt tg L S h Q) (k2 : w32 x = 0 → WP d mt nx L S h Q) : WP d mt j L (.inl x :: S) h Q := by
  by_cases q : ¬ w32 x = 0
  · obtain ⟨r, h', kr, z⟩ := k1 q
    exact ⟨r, h', x_ifNe0 hc (fun _ => kr) (fun n => by exfalso; first | exact n q | exact q n | omega), z⟩
  · have n : w32 x = 0 := by first | exact q | (exact Decidable.not_not.mp q) | omega
    obtain ⟨r, h', kr, z⟩ := k2 n
    exact ⟨r, h', x_ifNe0 hc (fun p => by exfalso; exact q p) (fun _ => kr), z⟩
theorem w_ifLt0 {x : Int} {tg nx : Nat} (hc : (mPr mt).2 j = some (opIf jLt0 tg nx)) (k1 : w32 x < 0 → WP d mt tg L S h Q) (k2 : 0 ≤ w32 x → WP d mt nx L S h Q) : WP d mt j L (.inl x :: S) h Q := by
  by_cases q : w32 x < 0
  · obtain ⟨r, h', kr, z⟩ := k1 q
    exact ⟨r, h', x_ifLt0 hc (fun _ => kr) (fun n => by exfalso; first | exact n q | exact q n | omega), z⟩
  · have n : 0 ≤ w32 x := by first | exact q | (exact Decidable.not_not.mp q) | omega
    obtain ⟨r, h', kr, z⟩ := k2 n
    exact ⟨r, h', x_ifLt0 hc (fun p => by exfalso; exact q p) (fun _ => kr), z⟩
theorem w_ifGe0 {x : Int} {tg nx : Nat} (hc : (mPr mt).2 j = some (opIf jGe0 tg nx)) (k1 : 0 ≤ w32 x → WP d mt tg L S h Q) (k2 : w32 x < 0 → WP d mt nx L S h Q) : WP d mt j L (.inl x :: S) h Q := by
  by_cases q : 0 ≤ w32 x
  · obtain ⟨r, h', kr, z⟩ := k1 q
    exact ⟨r, h', x_ifGe0 hc (fun _ => kr) (fun n => by exfalso; first | exact n q | exact q n | omega), z⟩
  · have n : w32 x < 0 := by first | exact q | (exact Decidable.not_not.mp q) | omega
    obtain ⟨r, h', kr, z⟩ := k2 n
    exact ⟨r, h', x_ifGe0 hc (fun p => by exfalso; exact q p) (fun _ => kr), z⟩
theorem w_ifGt0 {x : Int} {tg nx : Nat} (hc : (mPr mt).2 j = some (opIf jGt0 tg nx)) (k1 : 0 < w32 x → WP d mt tg L S h Q) (k2 : w32 x ≤ 0 → WP d mt nx L S h Q) : WP d mt j L (.inl x :: S) h Q := by
  by_cases q : 0 < w32 x
  · obtain ⟨r, h', kr, z⟩ := k1 q
    exact ⟨r, h', x_ifGt0 hc (fun _ => kr) (fun n => by exfalso; first | exact n q | exact q n | omega), z⟩
  · have n : w32 x ≤ 0 := by first | exact q | (exact Decidable.not_not.mp q) | omega
    obtain ⟨r, h', kr, z⟩ := k2 n
    exact ⟨r, h', x_ifGt0 hc (fun p => by exfalso; exact q p) (fun _ => kr), z⟩
theorem w_ifLe0 {x : Int} {tg nx : Nat} (hc : (mPr mt).2 j = some (opIf jLe0 tg nx)) (k1 : w32 x ≤ 0 → WP d mt tg L S h Q) (k2 : 0 < w32 x → WP d mt nx L S h Q) : WP d mt j L (.inl x :: S) h Q := by
  by_cases q : w32 x ≤ 0
  · obtain ⟨r, h', kr, z⟩ := k1 q
    exact ⟨r, h', x_ifLe0 hc (fun _ => kr) (fun n => by exfalso; first | exact n q | exact q n | omega), z⟩
  · have n : 0 < w32 x := by first | exact q | (exact Decidable.not_not.mp q) | omega
    obtain ⟨r, h', kr, z⟩ := k2 n
    exact ⟨r, h', x_ifLe0 hc (fun p => by exfalso; exact q p) (fun _ => kr), z⟩
theorem w_icEq {x y : Int} {tg nx : Nat} (hc : (mPr mt).2 j = some (opIfc jEq tg nx)) (k1 : w32 x = w32 y → WP d mt tg L S h Q) (k2 : ¬ w32 x = w32 y → WP d mt nx L S h Q) : WP d mt j L (.inl y :: .inl x :: S) h Q := by
  by_cases q : w32 x = w32 y
  · obtain ⟨r, h', kr, z⟩ := k1 q
    exact ⟨r, h', x_icEq hc (fun _ => kr) (fun n => by exfalso; first | exact n q | exact q n | omega), z⟩
  · have n : ¬ w32 x = w32 y := by first | exact q | (exact Decidable.not_not.mp q) | omega
    obtain ⟨r, h', kr, z⟩ := k2 n
    exact ⟨r, h', x_icEq hc (fun p => by exfalso; exact q p) (fun _ => kr), z⟩
theorem w_icNe {x y : Int} {tg nx : Nat} (hc : (mPr mt).2 j = some (opIfc jNe tg nx)) (k1 : ¬ w32 x = w32 y → WP d mt tg L S h Q) (k2 : w32 x = w32 y → WP d mt nx L S h Q) : WP d mt j L (.inl y :: .inl x :: S) h Q := by
  by_cases q : ¬ w32 x = w32 y
  · obtain ⟨r, h', kr, z⟩ := k1 q
    exact ⟨r, h', x_icNe hc (fun _ => kr) (fun n => by exfalso; first | exact n q | exact q n | omega), z⟩
  · have n : w32 x = w32 y := by first | exact q | (exact Decidable.not_not.mp q) | omega
    obtain ⟨r, h', kr, z⟩ := k2 n
    exact ⟨r, h', x_icNe hc (fun p => by exfalso; exact q p) (fun _ => kr), z⟩
theorem w_icLt {x y : Int} {tg nx : Nat} (hc : (mPr mt).2 j = some (opIfc jLt tg nx)) (k1 : w32 x < w32 y → WP d mt tg L S h Q) (k2 : w32 y ≤ w32 x → WP d mt nx L S h Q) : WP d mt j L (.inl y :: .inl x :: S) h Q := by
  by_cases q : w32 x < w32 y
  · obtain ⟨r, h', kr, z⟩ := k1 q
    exact ⟨r, h', x_icLt hc (fun _ => kr) (fun n => by exfalso; first | exact n q | exact q n | omega), z⟩
  · have n : w32 y ≤ w32 x := by first | exact q | (exact Decidable.not_not.mp q) | omega
    obtain ⟨r, h', kr, z⟩ := k2 n
    exact ⟨r, h', x_icLt hc (fun p => by exfalso; exact q p) (fun _ => kr), z⟩
theorem w_icGe {x y : Int} {tg nx : Nat} (hc : (mPr mt).2 j = some (opIfc jGe tg nx)) (k1 : w32 y ≤ w32 x → WP d mt tg L S h Q) (k2 : w32 x < w32 y → WP d mt nx L S h Q) : WP d mt j L (.inl y :: .inl x :: S) h Q := by
  by_cases q : w32 y ≤ w32 x
  · obtain ⟨r, h', kr, z⟩ := k1 q
    exact ⟨r, h', x_icGe hc (fun _ => kr) (fun n => by exfalso; first | exact n q | exact q n | omega), z⟩
  · have n : w32 x < w32 y := by first | exact q | (exact Decidable.not_not.mp q) | omega
    obtain ⟨r, h', kr, z⟩ := k2 n
    exact ⟨r, h', x_icGe hc (fun p => by exfalso; exact q p) (fun _ => kr), z⟩
theorem w_icGt {x y : Int} {tg nx : Nat} (hc : (mPr mt).2 j = some (opIfc jGt tg nx)) (k1 : w32 y < w32 x → WP d mt tg L S h Q) (k2 : w32 x ≤ w32 y → WP d mt nx L S h Q) : WP d mt j L (.inl y :: .inl x :: S) h Q := by
  by_cases q : w32 y < w32 x
  · obtain ⟨r, h', kr, z⟩ := k1 q
    exact ⟨r, h', x_icGt hc (fun _ => kr) (fun n => by exfalso; first | exact n q | exact q n | omega), z⟩
  · have n : w32 x ≤ w32 y := by first | exact q | (exact Decidable.not_not.mp q) | omega
    obtain ⟨r, h', kr, z⟩ := k2 n
    exact ⟨r, h', x_icGt hc (fun p => by exfalso; exact q p) (fun _ => kr), z⟩
theorem w_icLe {x y : Int} {tg nx : Nat} (hc : (mPr mt).2 j = some (opIfc jLe tg nx)) (k1 : w32 x ≤ w32 y → WP d mt tg L S h Q) (k2 : w32 y < w32 x → WP d mt nx L S h Q) : WP d mt j L (.inl y :: .inl x :: S) h Q := by
  by_cases q : w32 x ≤ w32 y
  · obtain ⟨r, h', kr, z⟩ := k1 q
    exact ⟨r, h', x_icLe hc (fun _ => kr) (fun n => by exfalso; first | exact n q | exact q n | omega), z⟩
  · have n : w32 y < w32 x := by first | exact q | (exact Decidable.not_not.mp q) | omega
    obtain ⟨r, h', kr, z⟩ := k2 n
    exact ⟨r, h', x_icLe hc (fun p => by exfalso; exact q p) (fun _ => kr), z⟩
theorem w_irEq0 {x : Int} {tg nx : Nat} (hc : (mPr mt).2 j = some (opIf jEq0 tg nx)) (hx : -2147483648 ≤ x ∧ x < 2147483648) (k1 : x = 0 → WP d mt tg L S h Q) (k2 : ¬ x = 0 → WP d mt nx L S h Q) : WP d mt j L (.inl x :: S) h Q := by
  by_cases q : x = 0
  · obtain ⟨r, h', kr, z⟩ := k1 q
    exact ⟨r, h', x_irEq0 hc hx (fun _ => kr) (fun n => by exfalso; first | exact n q | exact q n | omega), z⟩
  · have n : ¬ x = 0 := by first | exact q | (exact Decidable.not_not.mp q) | omega
    obtain ⟨r, h', kr, z⟩ := k2 n
    exact ⟨r, h', x_irEq0 hc hx (fun p => by exfalso; exact q p) (fun _ => kr), z⟩
theorem w_irNe0 {x : Int} {tg nx : Nat} (hc : (mPr mt).2 j = some (opIf jNe0 tg nx)) (hx : -2147483648 ≤ x ∧ x < 2147483648) (k1 : ¬ x = 0 → WP d mt tg L S h Q) (k2 : x = 0 → WP d mt nx L S h Q) : WP d mt j L (.inl x :: S) h Q := by
  by_cases q : ¬ x = 0
  · obtain ⟨r, h', kr, z⟩ := k1 q
    exact ⟨r, h', x_irNe0 hc hx (fun _ => kr) (fun n => by exfalso; first | exact n q | exact q n | omega), z⟩
  · have n : x = 0 := by first | exact q | (exact Decidable.not_not.mp q) | omega
    obtain ⟨r, h', kr, z⟩ := k2 n
    exact ⟨r, h', x_irNe0 hc hx (fun p => by exfalso; exact q p) (fun _ => kr), z⟩
theorem w_irLt0 {x : Int} {tg nx : Nat} (hc : (mPr mt).2 j = some (opIf jLt0 tg nx)) (hx : -2147483648 ≤ x ∧ x < 2147483648) (k1 : x < 0 → WP d mt tg L S h Q) (k2 : 0 ≤ x → WP d mt nx L S h Q) : WP d mt j L (.inl x :: S) h Q := by
  by_cases q : x < 0
  · obtain ⟨r, h', kr, z⟩ := k1 q
    exact ⟨r, h', x_irLt0 hc hx (fun _ => kr) (fun n => by exfalso; first | exact n q | exact q n | omega), z⟩
  · have n : 0 ≤ x := by first | exact q | (exact Decidable.not_not.mp q) | omega
    obtain ⟨r, h', kr, z⟩ := k2 n
    exact ⟨r, h', x_irLt0 hc hx (fun p => by exfalso; exact q p) (fun _ => kr), z⟩
theorem w_irGe0 {x : Int} {tg nx : Nat} (hc : (mPr mt).2 j = some (opIf jGe0 tg nx)) (hx : -2147483648 ≤ x ∧ x < 2147483648) (k1 : 0 ≤ x → WP d mt tg L S h Q) (k2 : x < 0 → WP d mt nx L S h Q) : WP d mt j L (.inl x :: S) h Q := by
  by_cases q : 0 ≤ x
  · obtain ⟨r, h', kr, z⟩ := k1 q
    exact ⟨r, h', x_irGe0 hc hx (fun _ => kr) (fun n => by exfalso; first | exact n q | exact q n | omega), z⟩
  · have n : x < 0 := by first | exact q | (exact Decidable.not_not.mp q) | omega
    obtain ⟨r, h', kr, z⟩ := k2 n
    exact ⟨r, h', x_irGe0 hc hx (fun p => by exfalso; exact q p) (fun _ => kr), z⟩
theorem w_irGt0 {x : Int} {tg nx : Nat} (hc : (mPr mt).2 j = some (opIf jGt0 tg nx)) (hx : -2147483648 ≤ x ∧ x < 2147483648) (k1 : 0 < x → WP d mt tg L S h Q) (k2 : x ≤ 0 → WP d mt nx L S h Q) : WP d mt j L (.inl x :: S) h Q := by
  by_cases q : 0 < x
  · obtain ⟨r, h', kr, z⟩ := k1 q
    exact ⟨r, h', x_irGt0 hc hx (fun _ => kr) (fun n => by exfalso; first | exact n q | exact q n | omega), z⟩
  · have n : x ≤ 0 := by first | exact q | (exact Decidable.not_not.mp q) | omega
    obtain ⟨r, h', kr, z⟩ := k2 n
    exact ⟨r, h', x_irGt0 hc hx (fun p => by exfalso; exact q p) (fun _ => kr), z⟩
theorem w_irLe0 {x : Int} {tg nx : Nat} (hc : (mPr mt).2 j = some (opIf jLe0 tg nx)) (hx : -2147483648 ≤ x ∧ x < 2147483648) (k1 : x ≤ 0 → WP d mt tg L S h Q) (k2 : 0 < x → WP d mt nx L S h Q) : WP d mt j L (.inl x :: S) h Q := by
  by_cases q : x ≤ 0
  · obtain ⟨r, h', kr, z⟩ := k1 q
    exact ⟨r, h', x_irLe0 hc hx (fun _ => kr) (fun n => by exfalso; first | exact n q | exact q n | omega), z⟩
  · have n : 0 < x := by first | exact q | (exact Decidable.not_not.mp q) | omega
    obtain ⟨r, h', kr, z⟩ := k2 n
    exact ⟨r, h', x_irLe0 hc hx (fun p => by exfalso; exact q p) (fun _ => kr), z⟩
theorem w_crEq {x y : Int} {tg nx : Nat} (hc : (mPr mt).2 j = some (opIfc jEq tg nx)) (hx : -2147483648 ≤ x ∧ x < 2147483648) (hy : -2147483648 ≤ y ∧ y < 2147483648) (k1 : x = y → WP d mt tg L S h Q) (k2 : ¬ x = y → WP d mt nx L S h Q) : WP d mt j L (.inl y :: .inl x :: S) h Q := by
  by_cases q : x = y
  · obtain ⟨r, h', kr, z⟩ := k1 q
    exact ⟨r, h', x_crEq hc hx hy (fun _ => kr) (fun n => by exfalso; first | exact n q | exact q n | omega), z⟩
  · have n : ¬ x = y := by first | exact q | (exact Decidable.not_not.mp q) | omega
    obtain ⟨r, h', kr, z⟩ := k2 n
    exact ⟨r, h', x_crEq hc hx hy (fun p => by exfalso; exact q p) (fun _ => kr), z⟩
theorem w_crNe {x y : Int} {tg nx : Nat} (hc : (mPr mt).2 j = some (opIfc jNe tg nx)) (hx : -2147483648 ≤ x ∧ x < 2147483648) (hy : -2147483648 ≤ y ∧ y < 2147483648) (k1 : ¬ x = y → WP d mt tg L S h Q) (k2 : x = y → WP d mt nx L S h Q) : WP d mt j L (.inl y :: .inl x :: S) h Q := by
  by_cases q : ¬ x = y
  · obtain ⟨r, h', kr, z⟩ := k1 q
    exact ⟨r, h', x_crNe hc hx hy (fun _ => kr) (fun n => by exfalso; first | exact n q | exact q n | omega), z⟩
  · have n : x = y := by first | exact q | (exact Decidable.not_not.mp q) | omega
    obtain ⟨r, h', kr, z⟩ := k2 n
    exact ⟨r, h', x_crNe hc hx hy (fun p => by exfalso; exact q p) (fun _ => kr), z⟩
theorem w_crLt {x y : Int} {tg nx : Nat} (hc : (mPr mt).2 j = some (opIfc jLt tg nx)) (hx : -2147483648 ≤ x ∧ x < 2147483648) (hy : -2147483648 ≤ y ∧ y < 2147483648) (k1 : x < y → WP d mt tg L S h Q) (k2 : y ≤ x → WP d mt nx L S h Q) : WP d mt j L (.inl y :: .inl x :: S) h Q := by
  by_cases q : x < y
  · obtain ⟨r, h', kr, z⟩ := k1 q
    exact ⟨r, h', x_crLt hc hx hy (fun _ => kr) (fun n => by exfalso; first | exact n q | exact q n | omega), z⟩
  · have n : y ≤ x := by first | exact q | (exact Decidable.not_not.mp q) | omega
    obtain ⟨r, h', kr, z⟩ := k2 n
    exact ⟨r, h', x_crLt hc hx hy (fun p => by exfalso; exact q p) (fun _ => kr), z⟩
theorem w_crGe {x y : Int} {tg nx : Nat} (hc : (mPr mt).2 j = some (opIfc jGe tg nx)) (hx : -2147483648 ≤ x ∧ x < 2147483648) (hy : -2147483648 ≤ y ∧ y < 2147483648) (k1 : y ≤ x → WP d mt tg L S h Q) (k2 : x < y → WP d mt nx L S h Q) : WP d mt j L (.inl y :: .inl x :: S) h Q := by
  by_cases q : y ≤ x
  · obtain ⟨r, h', kr, z⟩ := k1 q
    exact ⟨r, h', x_crGe hc hx hy (fun _ => kr) (fun n => by exfalso; first | exact n q | exact q n | omega), z⟩
  · have n : x < y := by first | exact q | (exact Decidable.not_not.mp q) | omega
    obtain ⟨r, h', kr, z⟩ := k2 n
    exact ⟨r, h', x_crGe hc hx hy (fun p => by exfalso; exact q p) (fun _ => kr), z⟩
theorem w_crGt {x y : Int} {tg nx : Nat} (hc : (mPr mt).2 j = some (opIfc jGt tg nx)) (hx : -2147483648 ≤ x ∧ x < 2147483648) (hy : -2147483648 ≤ y ∧ y < 2147483648) (k1 : y < x → WP d mt tg L S h Q) (k2 : x ≤ y → WP d mt nx L S h Q) : WP d mt j L (.inl y :: .inl x :: S) h Q := by
  by_cases q : y < x
  · obtain ⟨r, h', kr, z⟩ := k1 q
    exact ⟨r, h', x_crGt hc hx hy (fun _ => kr) (fun n => by exfalso; first | exact n q | exact q n | omega), z⟩
  · have n : x ≤ y := by first | exact q | (exact Decidable.not_not.mp q) | omega
    obtain ⟨r, h', kr, z⟩ := k2 n
    exact ⟨r, h', x_crGt hc hx hy (fun p => by exfalso; exact q p) (fun _ => kr), z⟩
theorem w_crLe {x y : Int} {tg nx : Nat} (hc : (mPr mt).2 j = some (opIfc jLe tg nx)) (hx : -2147483648 ≤ x ∧ x < 2147483648) (hy : -2147483648 ≤ y ∧ y < 2147483648) (k1 : x ≤ y → WP d mt tg L S h Q) (k2 : y < x → WP d mt nx L S h Q) : WP d mt j L (.inl y :: .inl x :: S) h Q := by
  by_cases q : x ≤ y
  · obtain ⟨r, h', kr, z⟩ := k1 q
    exact ⟨r, h', x_crLe hc hx hy (fun _ => kr) (fun n => by exfalso; first | exact n q | exact q n | omega), z⟩
  · have n : y < x := by first | exact q | (exact Decidable.not_not.mp q) | omega
    obtain ⟨r, h', kr, z⟩ := k2 n
    exact ⟨r, h', x_crLe hc hx hy (fun p => by exfalso; exact q p) (fun _ => kr), z⟩
theorem w_i2lr {x : Int} {nx : Nat} (hc : (mPr mt).2 j = some (opI2L nx)) (hx : -2147483648 ≤ x ∧ x < 2147483648) (k : WP d mt nx L (.inr (.inl x) :: S) h Q) : WP d mt j L (.inl x :: S) h Q := by
  obtain ⟨r, h', kr, z⟩ := k
  exact ⟨r, h', x_i2lr hc hx kr, z⟩
theorem w_m2 {f : Int → Int → Int} {x y : Int} {nx : Nat} (hc : (mPr mt).2 j = some (opM2 f nx)) (hS : Nat.ble (mWs S) 8 = true) (k : WP (d + 1) mt nx L (.inl (f x y) :: S) h Q) : WP (d + 1) mt j L (.inl y :: .inl x :: S) h Q := by
  obtain ⟨r, h', kr, z⟩ := k
  exact ⟨r, h', x_m2 hc hS kr, z⟩
theorem w_objI {a : Nat} {nx : Nat} (hc : (mPr mt).2 j = some (opObjI nx)) (ha : Nat.ble 1 a = true) (hS : Nat.ble (mWs S) 8 = true) (k : WP (d + 1) mt nx L S h Q) : WP (d + 1) mt j L (.inr (.inr a) :: S) h Q := by
  obtain ⟨r, h', kr, z⟩ := k
  exact ⟨r, h', x_objI hc ha hS kr, z⟩
theorem w_get0 {cs : List Nat} {a c k nx : Nat} {fs : List mAV} {v : mAV} (hc : (mPr mt).2 j = some (opGet cs k nx)) (ha : Nat.ble 10 a = true) (hg : h.2.2 a = some (.inl (c, fs))) (hcs : cs.contains c = true) (hv : fs[k]? = some v) (kk : WP d mt nx L (v :: S) h Q) : WP d mt j L (.inr (.inr a) :: S) h Q := by
  obtain ⟨r, h', kr, z⟩ := kk
  exact ⟨r, h', x_get0 hc ha hg hcs hv kr, z⟩
theorem w_put0 {cs : List Nat} {a c t k nx : Nat} {fs : List mAV} {v : mAV} (hc : (mPr mt).2 j = some (opPut cs t k nx)) (ha : Nat.ble 10 a = true) (hg : h.2.2 a = some (.inl (c, fs))) (hcs : cs.contains c = true) (hk : k < fs.length) (hf : mFit t v = true) (kk : WP d mt nx L S (h.1, h.2.1, mup h.2.2 a (eo c (fs.set k v))) Q) : WP d mt j L (v :: .inr (.inr a) :: S) h Q := by
  obtain ⟨r, h', kr, z⟩ := kk
  exact ⟨r, h', x_put0 hc ha hg hcs hk hf kr, z⟩
theorem w_ald0 {a t nx n : Nat} {f : Nat → Int} {x : Int} (hc : (mPr mt).2 j = some (opALd 0 nx)) (ha : Nat.ble 10 a = true) (hg : h.2.2 a = some (.inr (.inl (0, n, f)))) (h1 : 0 ≤ w32 x) (h2 : w32 x < n) (kk : WP d mt nx L (.inl (f (w32 x).toNat) :: S) h Q) : WP d mt j L (.inl x :: .inr (.inr a) :: S) h Q := by
  obtain ⟨r, h', kr, z⟩ := kk
  exact ⟨r, h', x_ald0 (t := t) hc ha hg h1 h2 kr, z⟩
theorem w_aldL0 {a t nx n : Nat} {f : Nat → Int} {x : Int} (hc : (mPr mt).2 j = some (opALd 1 nx)) (ha : Nat.ble 10 a = true) (hg : h.2.2 a = some (.inr (.inl (1, n, f)))) (h1 : 0 ≤ w32 x) (h2 : w32 x < n) (kk : WP d mt nx L (.inr (.inl (f (w32 x).toNat)) :: S) h Q) : WP d mt j L (.inl x :: .inr (.inr a) :: S) h Q := by
  obtain ⟨r, h', kr, z⟩ := kk
  exact ⟨r, h', x_aldL0 (t := t) hc ha hg h1 h2 kr, z⟩
theorem w_ast0 {a nx n : Nat} {f : Nat → Int} {x v : Int} (hc : (mPr mt).2 j = some (opASt nx)) (ha : Nat.ble 10 a = true) (hg : h.2.2 a = some (.inr (.inl (0, n, f)))) (h1 : 0 ≤ w32 x) (h2 : w32 x < n) (kk : WP d mt nx L S (h.1, h.2.1, mup h.2.2 a (ep 0 n (mup f (w32 x).toNat v))) Q) : WP d mt j L (.inl v :: .inl x :: .inr (.inr a) :: S) h Q := by
  obtain ⟨r, h', kr, z⟩ := kk
  exact ⟨r, h', x_ast0 hc ha hg h1 h2 kr, z⟩
theorem w_astL0 {a nx n : Nat} {f : Nat → Int} {x v : Int} (hc : (mPr mt).2 j = some (opAStL nx)) (ha : Nat.ble 10 a = true) (hg : h.2.2 a = some (.inr (.inl (1, n, f)))) (h1 : 0 ≤ w32 x) (h2 : w32 x < n) (kk : WP d mt nx L S (h.1, h.2.1, mup h.2.2 a (ep 1 n (mup f (w32 x).toNat v))) Q) : WP d mt j L (.inr (.inl v) :: .inl x :: .inr (.inr a) :: S) h Q := by
  obtain ⟨r, h', kr, z⟩ := kk
  exact ⟨r, h', x_astL0 hc ha hg h1 h2 kr, z⟩
theorem w_rld0 {a t nx n : Nat} {f : Nat → Nat} {x : Int} (hc : (mPr mt).2 j = some (opRLd t nx)) (ha : Nat.ble 10 a = true) (hg : h.2.2 a = some (.inr (.inr (t, n, f)))) (h1 : 0 ≤ w32 x) (h2 : w32 x < n) (kk : WP d mt nx L (.inr (.inr (f (w32 x).toNat)) :: S) h Q) : WP d mt j L (.inl x :: .inr (.inr a) :: S) h Q := by
  obtain ⟨r, h', kr, z⟩ := kk
  exact ⟨r, h', x_rld0 hc ha hg h1 h2 kr, z⟩
theorem w_rst0 {a t nx n v c : Nat} {cs : List Nat} {fs : List mAV} {f : Nat → Nat} {x : Int} (hc : (mPr mt).2 j = some (opRSt t cs nx)) (ha : Nat.ble 10 a = true) (hv : Nat.ble 10 v = true) (hg : h.2.2 a = some (.inr (.inr (t, n, f)))) (hgv : h.2.2 v = some (.inl (c, fs))) (hcs : cs.contains c = true) (h1 : 0 ≤ w32 x) (h2 : w32 x < n) (kk : WP d mt nx L S (h.1, h.2.1, mup h.2.2 a (er t n (mup f (w32 x).toNat v))) Q) : WP d mt j L (.inr (.inr v) :: .inl x :: .inr (.inr a) :: S) h Q := by
  obtain ⟨r, h', kr, z⟩ := kk
  exact ⟨r, h', x_rst0 hc ha hv hg hgv hcs h1 h2 kr, z⟩
theorem w_alen0 {a nx n : Nat} {f : Nat → Int} (hc : (mPr mt).2 j = some (opALen nx)) (ha : Nat.ble 10 a = true) (hg : h.2.2 a = some (.inr (.inl (0, n, f)))) (kk : WP d mt nx L (.inl (n : Int) :: S) h Q) : WP d mt j L (.inr (.inr a) :: S) h Q := by
  obtain ⟨r, h', kr, z⟩ := kk
  exact ⟨r, h', x_alen0 hc ha hg kr, z⟩
theorem w_cpy0 {a b nx na nb : Nat} {f g : Nat → Int} {n sp dp : Int} (hc : (mPr mt).2 j = some (opCpy nx)) (ha : Nat.ble 10 a = true) (hb : Nat.ble 10 b = true) (hga : h.2.2 a = some (.inr (.inl (0, na, f)))) (hgb : h.2.2 b = some (.inr (.inl (0, nb, g)))) (h1 : 0 ≤ w32 n) (h2 : 0 ≤ w32 sp) (h3 : 0 ≤ w32 dp) (h4 : (w32 sp).toNat + (w32 n).toNat ≤ na) (h5 : (w32 dp).toNat + (w32 n).toNat ≤ nb) (hS : Nat.ble (mWs S) 8 = true) (kk : WP (d + 1) mt nx L S (h.1, h.2.1, mup h.2.2 b (ep 0 nb (mcpy f g (w32 sp).toNat (w32 dp).toNat (w32 n).toNat))) Q) : WP (d + 1) mt j L (.inl n :: .inl dp :: .inr (.inr b) :: .inl sp :: .inr (.inr a) :: S) h Q := by
  obtain ⟨r, h', kr, z⟩ := kk
  exact ⟨r, h', x_cpy0 hc ha hb hga hgb h1 h2 h3 h4 h5 hS kr, z⟩
theorem w_call {mt' na nx : Nat} {rv : Option mAV} {h1 : mH} (hc : (mPr mt).2 j = some (opCall mt' na nx)) (hn : Nat.ble na S.length = true) (hS : Nat.ble (mWs (S.drop na)) 8 = true) (hk : Call d mt' (S.take na).reverse h rv h1) (k : WP (d + 1) mt nx L (mBack rv (S.drop na)) h1 Q) : WP (d + 1) mt j L S h Q := by
  obtain ⟨r, h', kr, z⟩ := k
  exact ⟨r, h', x_call hc hn hS hk kr, z⟩
theorem w_callV0 {tb : List (Nat × Nat)} {mt' na nx a c : Nat} {as : List mAV} {fs : List mAV} {rv : Option mAV} {h1 : mH} (hc : (mPr mt).2 j = some (opCallV tb na nx)) (hn : Nat.ble na S.length = true) (hS : Nat.ble (mWs (S.drop na)) 8 = true) (hs : (S.take na).reverse = .inr (.inr a) :: as) (ha : Nat.ble 10 a = true) (hg : h.2.2 a = some (.inl (c, fs))) (ht : mTb tb c = some mt') (hk : Call d mt' (.inr (.inr a) :: as) h rv h1) (k : WP (d + 1) mt nx L (mBack rv (S.drop na)) h1 Q) : WP (d + 1) mt j L S h Q := by
  obtain ⟨r, h', kr, z⟩ := k
  exact ⟨r, h', x_callV0 hc hn hS hs ha hg ht hk kr, z⟩
theorem w_callT {mt' na nx a : Nat} {as : List mAV} {rv : Option mAV} {h1 : mH} (hc : (mPr mt).2 j = some (opCallT mt' na nx)) (hn : Nat.ble na S.length = true) (hS : Nat.ble (mWs (S.drop na)) 8 = true) (hs : (S.take na).reverse = .inr (.inr a) :: as) (ha : a = 2 ∨ a = 4) (hk : Call d mt' (.inr (.inr a) :: as) h rv h1) (k : WP (d + 1) mt nx L (mBack rv (S.drop na)) h1 Q) : WP (d + 1) mt j L S h Q := by
  obtain ⟨r, h', kr, z⟩ := k
  exact ⟨r, h', x_callT hc hn hS hs ha hk kr, z⟩
theorem w_StI_1_0 {a0 : Option mAV} {x : Int} {nx : Nat} (hc : (mPr mt).2 j = some (opStI 0 nx)) (k : WP d mt nx [some (.inl x)] S h Q) : WP d mt j [a0] (.inl x :: S) h Q := by
  obtain ⟨r, h', kr, z⟩ := k
  exact ⟨r, h', x_StI_1_0 hc kr, z⟩
theorem w_StI_2_1 {a0 a1 : Option mAV} {x : Int} {nx : Nat} (hc : (mPr mt).2 j = some (opStI 1 nx)) (hn : mNotLong (some a0) = true) (k : WP d mt nx [a0, some (.inl x)] S h Q) : WP d mt j [a0, a1] (.inl x :: S) h Q := by
  obtain ⟨r, h', kr, z⟩ := k
  exact ⟨r, h', x_StI_2_1 hc hn kr, z⟩
theorem w_StI_3_1 {a0 a1 a2 : Option mAV} {x : Int} {nx : Nat} (hc : (mPr mt).2 j = some (opStI 1 nx)) (hn : mNotLong (some a0) = true) (k : WP d mt nx [a0, some (.inl x), a2] S h Q) : WP d mt j [a0, a1, a2] (.inl x :: S) h Q := by
  obtain ⟨r, h', kr, z⟩ := k
  exact ⟨r, h', x_StI_3_1 hc hn kr, z⟩
theorem w_StI_3_2 {a0 a1 a2 : Option mAV} {x : Int} {nx : Nat} (hc : (mPr mt).2 j = some (opStI 2 nx)) (hn : mNotLong (some a1) = true) (k : WP d mt nx [a0, a1, some (.inl x)] S h Q) : WP d mt j [a0, a1, a2] (.inl x :: S) h Q := by
  obtain ⟨r, h', kr, z⟩ := k
  exact ⟨r, h', x_StI_3_2 hc hn kr, z⟩
theorem w_StI_4_1 {a0 a1 a2 a3 : Option mAV} {x : Int} {nx : Nat} (hc : (mPr mt).2 j = some (opStI 1 nx)) (hn : mNotLong (some a0) = true) (k : WP d mt nx [a0, some (.inl x), a2, a3] S h Q) : WP d mt j [a0, a1, a2, a3] (.inl x :: S) h Q := by
  obtain ⟨r, h', kr, z⟩ := k
  exact ⟨r, h', x_StI_4_1 hc hn kr, z⟩
theorem w_StI_4_2 {a0 a1 a2 a3 : Option mAV} {x : Int} {nx : Nat} (hc : (mPr mt).2 j = some (opStI 2 nx)) (hn : mNotLong (some a1) = true) (k : WP d mt nx [a0, a1, some (.inl x), a3] S h Q) : WP d mt j [a0, a1, a2, a3] (.inl x :: S) h Q := by
  obtain ⟨r, h', kr, z⟩ := k
  exact ⟨r, h', x_StI_4_2 hc hn kr, z⟩
theorem w_StI_4_3 {a0 a1 a2 a3 : Option mAV} {x : Int} {nx : Nat} (hc : (mPr mt).2 j = some (opStI 3 nx)) (hn : mNotLong (some a2) = true) (k : WP d mt nx [a0, a1, a2, some (.inl x)] S h Q) : WP d mt j [a0, a1, a2, a3] (.inl x :: S) h Q := by
  obtain ⟨r, h', kr, z⟩ := k
  exact ⟨r, h', x_StI_4_3 hc hn kr, z⟩
theorem w_StI_5_1 {a0 a1 a2 a3 a4 : Option mAV} {x : Int} {nx : Nat} (hc : (mPr mt).2 j = some (opStI 1 nx)) (hn : mNotLong (some a0) = true) (k : WP d mt nx [a0, some (.inl x), a2, a3, a4] S h Q) : WP d mt j [a0, a1, a2, a3, a4] (.inl x :: S) h Q := by
  obtain ⟨r, h', kr, z⟩ := k
  exact ⟨r, h', x_StI_5_1 hc hn kr, z⟩
theorem w_StI_5_2 {a0 a1 a2 a3 a4 : Option mAV} {x : Int} {nx : Nat} (hc : (mPr mt).2 j = some (opStI 2 nx)) (hn : mNotLong (some a1) = true) (k : WP d mt nx [a0, a1, some (.inl x), a3, a4] S h Q) : WP d mt j [a0, a1, a2, a3, a4] (.inl x :: S) h Q := by
  obtain ⟨r, h', kr, z⟩ := k
  exact ⟨r, h', x_StI_5_2 hc hn kr, z⟩
theorem w_StI_5_3 {a0 a1 a2 a3 a4 : Option mAV} {x : Int} {nx : Nat} (hc : (mPr mt).2 j = some (opStI 3 nx)) (hn : mNotLong (some a2) = true) (k : WP d mt nx [a0, a1, a2, some (.inl x), a4] S h Q) : WP d mt j [a0, a1, a2, a3, a4] (.inl x :: S) h Q := by
  obtain ⟨r, h', kr, z⟩ := k
  exact ⟨r, h', x_StI_5_3 hc hn kr, z⟩
theorem w_StI_5_4 {a0 a1 a2 a3 a4 : Option mAV} {x : Int} {nx : Nat} (hc : (mPr mt).2 j = some (opStI 4 nx)) (hn : mNotLong (some a3) = true) (k : WP d mt nx [a0, a1, a2, a3, some (.inl x)] S h Q) : WP d mt j [a0, a1, a2, a3, a4] (.inl x :: S) h Q := by
  obtain ⟨r, h', kr, z⟩ := k
  exact ⟨r, h', x_StI_5_4 hc hn kr, z⟩
theorem w_StI_6_1 {a0 a1 a2 a3 a4 a5 : Option mAV} {x : Int} {nx : Nat} (hc : (mPr mt).2 j = some (opStI 1 nx)) (hn : mNotLong (some a0) = true) (k : WP d mt nx [a0, some (.inl x), a2, a3, a4, a5] S h Q) : WP d mt j [a0, a1, a2, a3, a4, a5] (.inl x :: S) h Q := by
  obtain ⟨r, h', kr, z⟩ := k
  exact ⟨r, h', x_StI_6_1 hc hn kr, z⟩
theorem w_StI_6_2 {a0 a1 a2 a3 a4 a5 : Option mAV} {x : Int} {nx : Nat} (hc : (mPr mt).2 j = some (opStI 2 nx)) (hn : mNotLong (some a1) = true) (k : WP d mt nx [a0, a1, some (.inl x), a3, a4, a5] S h Q) : WP d mt j [a0, a1, a2, a3, a4, a5] (.inl x :: S) h Q := by
  obtain ⟨r, h', kr, z⟩ := k
  exact ⟨r, h', x_StI_6_2 hc hn kr, z⟩
theorem w_StI_6_3 {a0 a1 a2 a3 a4 a5 : Option mAV} {x : Int} {nx : Nat} (hc : (mPr mt).2 j = some (opStI 3 nx)) (hn : mNotLong (some a2) = true) (k : WP d mt nx [a0, a1, a2, some (.inl x), a4, a5] S h Q) : WP d mt j [a0, a1, a2, a3, a4, a5] (.inl x :: S) h Q := by
  obtain ⟨r, h', kr, z⟩ := k
  exact ⟨r, h', x_StI_6_3 hc hn kr, z⟩
theorem w_StI_6_4 {a0 a1 a2 a3 a4 a5 : Option mAV} {x : Int} {nx : Nat} (hc : (mPr mt).2 j = some (opStI 4 nx)) (hn : mNotLong (some a3) = true) (k : WP d mt nx [a0, a1, a2, a3, some (.inl x), a5] S h Q) : WP d mt j [a0, a1, a2, a3, a4, a5] (.inl x :: S) h Q := by
  obtain ⟨r, h', kr, z⟩ := k
  exact ⟨r, h', x_StI_6_4 hc hn kr, z⟩
theorem w_StI_6_5 {a0 a1 a2 a3 a4 a5 : Option mAV} {x : Int} {nx : Nat} (hc : (mPr mt).2 j = some (opStI 5 nx)) (hn : mNotLong (some a4) = true) (k : WP d mt nx [a0, a1, a2, a3, a4, some (.inl x)] S h Q) : WP d mt j [a0, a1, a2, a3, a4, a5] (.inl x :: S) h Q := by
  obtain ⟨r, h', kr, z⟩ := k
  exact ⟨r, h', x_StI_6_5 hc hn kr, z⟩
theorem w_StI_7_1 {a0 a1 a2 a3 a4 a5 a6 : Option mAV} {x : Int} {nx : Nat} (hc : (mPr mt).2 j = some (opStI 1 nx)) (hn : mNotLong (some a0) = true) (k : WP d mt nx [a0, some (.inl x), a2, a3, a4, a5, a6] S h Q) : WP d mt j [a0, a1, a2, a3, a4, a5, a6] (.inl x :: S) h Q := by
  obtain ⟨r, h', kr, z⟩ := k
  exact ⟨r, h', x_StI_7_1 hc hn kr, z⟩
theorem w_StI_7_2 {a0 a1 a2 a3 a4 a5 a6 : Option mAV} {x : Int} {nx : Nat} (hc : (mPr mt).2 j = some (opStI 2 nx)) (hn : mNotLong (some a1) = true) (k : WP d mt nx [a0, a1, some (.inl x), a3, a4, a5, a6] S h Q) : WP d mt j [a0, a1, a2, a3, a4, a5, a6] (.inl x :: S) h Q := by
  obtain ⟨r, h', kr, z⟩ := k
  exact ⟨r, h', x_StI_7_2 hc hn kr, z⟩
theorem w_StI_7_3 {a0 a1 a2 a3 a4 a5 a6 : Option mAV} {x : Int} {nx : Nat} (hc : (mPr mt).2 j = some (opStI 3 nx)) (hn : mNotLong (some a2) = true) (k : WP d mt nx [a0, a1, a2, some (.inl x), a4, a5, a6] S h Q) : WP d mt j [a0, a1, a2, a3, a4, a5, a6] (.inl x :: S) h Q := by
  obtain ⟨r, h', kr, z⟩ := k
  exact ⟨r, h', x_StI_7_3 hc hn kr, z⟩
theorem w_StI_7_4 {a0 a1 a2 a3 a4 a5 a6 : Option mAV} {x : Int} {nx : Nat} (hc : (mPr mt).2 j = some (opStI 4 nx)) (hn : mNotLong (some a3) = true) (k : WP d mt nx [a0, a1, a2, a3, some (.inl x), a5, a6] S h Q) : WP d mt j [a0, a1, a2, a3, a4, a5, a6] (.inl x :: S) h Q := by
  obtain ⟨r, h', kr, z⟩ := k
  exact ⟨r, h', x_StI_7_4 hc hn kr, z⟩
theorem w_StI_7_5 {a0 a1 a2 a3 a4 a5 a6 : Option mAV} {x : Int} {nx : Nat} (hc : (mPr mt).2 j = some (opStI 5 nx)) (hn : mNotLong (some a4) = true) (k : WP d mt nx [a0, a1, a2, a3, a4, some (.inl x), a6] S h Q) : WP d mt j [a0, a1, a2, a3, a4, a5, a6] (.inl x :: S) h Q := by
  obtain ⟨r, h', kr, z⟩ := k
  exact ⟨r, h', x_StI_7_5 hc hn kr, z⟩
theorem w_StI_7_6 {a0 a1 a2 a3 a4 a5 a6 : Option mAV} {x : Int} {nx : Nat} (hc : (mPr mt).2 j = some (opStI 6 nx)) (hn : mNotLong (some a5) = true) (k : WP d mt nx [a0, a1, a2, a3, a4, a5, some (.inl x)] S h Q) : WP d mt j [a0, a1, a2, a3, a4, a5, a6] (.inl x :: S) h Q := by
  obtain ⟨r, h', kr, z⟩ := k
  exact ⟨r, h', x_StI_7_6 hc hn kr, z⟩
theorem w_StI_8_3 {a0 a1 a2 a3 a4 a5 a6 a7 : Option mAV} {x : Int} {nx : Nat} (hc : (mPr mt).2 j = some (opStI 3 nx)) (hn : mNotLong (some a2) = true) (k : WP d mt nx [a0, a1, a2, some (.inl x), a4, a5, a6, a7] S h Q) : WP d mt j [a0, a1, a2, a3, a4, a5, a6, a7] (.inl x :: S) h Q := by
  obtain ⟨r, h', kr, z⟩ := k
  exact ⟨r, h', x_StI_8_3 hc hn kr, z⟩
theorem w_StI_8_4 {a0 a1 a2 a3 a4 a5 a6 a7 : Option mAV} {x : Int} {nx : Nat} (hc : (mPr mt).2 j = some (opStI 4 nx)) (hn : mNotLong (some a3) = true) (k : WP d mt nx [a0, a1, a2, a3, some (.inl x), a5, a6, a7] S h Q) : WP d mt j [a0, a1, a2, a3, a4, a5, a6, a7] (.inl x :: S) h Q := by
  obtain ⟨r, h', kr, z⟩ := k
  exact ⟨r, h', x_StI_8_4 hc hn kr, z⟩
theorem w_StI_8_5 {a0 a1 a2 a3 a4 a5 a6 a7 : Option mAV} {x : Int} {nx : Nat} (hc : (mPr mt).2 j = some (opStI 5 nx)) (hn : mNotLong (some a4) = true) (k : WP d mt nx [a0, a1, a2, a3, a4, some (.inl x), a6, a7] S h Q) : WP d mt j [a0, a1, a2, a3, a4, a5, a6, a7] (.inl x :: S) h Q := by
  obtain ⟨r, h', kr, z⟩ := k
  exact ⟨r, h', x_StI_8_5 hc hn kr, z⟩
theorem w_StI_8_6 {a0 a1 a2 a3 a4 a5 a6 a7 : Option mAV} {x : Int} {nx : Nat} (hc : (mPr mt).2 j = some (opStI 6 nx)) (hn : mNotLong (some a5) = true) (k : WP d mt nx [a0, a1, a2, a3, a4, a5, some (.inl x), a7] S h Q) : WP d mt j [a0, a1, a2, a3, a4, a5, a6, a7] (.inl x :: S) h Q := by
  obtain ⟨r, h', kr, z⟩ := k
  exact ⟨r, h', x_StI_8_6 hc hn kr, z⟩
theorem w_StI_8_7 {a0 a1 a2 a3 a4 a5 a6 a7 : Option mAV} {x : Int} {nx : Nat} (hc : (mPr mt).2 j = some (opStI 7 nx)) (hn : mNotLong (some a6) = true) (k : WP d mt nx [a0, a1, a2, a3, a4, a5, a6, some (.inl x)] S h Q) : WP d mt j [a0, a1, a2, a3, a4, a5, a6, a7] (.inl x :: S) h Q := by
  obtain ⟨r, h', kr, z⟩ := k
  exact ⟨r, h', x_StI_8_7 hc hn kr, z⟩
theorem w_StI_10_6 {a0 a1 a2 a3 a4 a5 a6 a7 a8 a9 : Option mAV} {x : Int} {nx : Nat} (hc : (mPr mt).2 j = some (opStI 6 nx)) (hn : mNotLong (some a5) = true) (k : WP d mt nx [a0, a1, a2, a3, a4, a5, some (.inl x), a7, a8, a9] S h Q) : WP d mt j [a0, a1, a2, a3, a4, a5, a6, a7, a8, a9] (.inl x :: S) h Q := by
  obtain ⟨r, h', kr, z⟩ := k
  exact ⟨r, h', x_StI_10_6 hc hn kr, z⟩
theorem w_StI_10_7 {a0 a1 a2 a3 a4 a5 a6 a7 a8 a9 : Option mAV} {x : Int} {nx : Nat} (hc : (mPr mt).2 j = some (opStI 7 nx)) (hn : mNotLong (some a6) = true) (k : WP d mt nx [a0, a1, a2, a3, a4, a5, a6, some (.inl x), a8, a9] S h Q) : WP d mt j [a0, a1, a2, a3, a4, a5, a6, a7, a8, a9] (.inl x :: S) h Q := by
  obtain ⟨r, h', kr, z⟩ := k
  exact ⟨r, h', x_StI_10_7 hc hn kr, z⟩
theorem w_StI_10_8 {a0 a1 a2 a3 a4 a5 a6 a7 a8 a9 : Option mAV} {x : Int} {nx : Nat} (hc : (mPr mt).2 j = some (opStI 8 nx)) (hn : mNotLong (some a7) = true) (k : WP d mt nx [a0, a1, a2, a3, a4, a5, a6, a7, some (.inl x), a9] S h Q) : WP d mt j [a0, a1, a2, a3, a4, a5, a6, a7, a8, a9] (.inl x :: S) h Q := by
  obtain ⟨r, h', kr, z⟩ := k
  exact ⟨r, h', x_StI_10_8 hc hn kr, z⟩
theorem w_StI_10_9 {a0 a1 a2 a3 a4 a5 a6 a7 a8 a9 : Option mAV} {x : Int} {nx : Nat} (hc : (mPr mt).2 j = some (opStI 9 nx)) (hn : mNotLong (some a8) = true) (k : WP d mt nx [a0, a1, a2, a3, a4, a5, a6, a7, a8, some (.inl x)] S h Q) : WP d mt j [a0, a1, a2, a3, a4, a5, a6, a7, a8, a9] (.inl x :: S) h Q := by
  obtain ⟨r, h', kr, z⟩ := k
  exact ⟨r, h', x_StI_10_9 hc hn kr, z⟩
theorem w_StL_4_1 {a0 a1 a2 a3 : Option mAV} {x : Int} {nx : Nat} (hc : (mPr mt).2 j = some (opStL 1 nx)) (hn : mNotLong (some a0) = true) (k : WP d mt nx [a0, some (.inr (.inl x)), none, a3] S h Q) : WP d mt j [a0, a1, a2, a3] (.inr (.inl x) :: S) h Q := by
  obtain ⟨r, h', kr, z⟩ := k
  exact ⟨r, h', x_StL_4_1 hc hn kr, z⟩
theorem w_StL_10_4 {a0 a1 a2 a3 a4 a5 a6 a7 a8 a9 : Option mAV} {x : Int} {nx : Nat} (hc : (mPr mt).2 j = some (opStL 4 nx)) (hn : mNotLong (some a3) = true) (k : WP d mt nx [a0, a1, a2, a3, some (.inr (.inl x)), none, a6, a7, a8, a9] S h Q) : WP d mt j [a0, a1, a2, a3, a4, a5, a6, a7, a8, a9] (.inr (.inl x) :: S) h Q := by
  obtain ⟨r, h', kr, z⟩ := k
  exact ⟨r, h', x_StL_10_4 hc hn kr, z⟩
theorem w_StR_4_1 {a0 a1 a2 a3 : Option mAV} {x : Nat} {nx : Nat} (hc : (mPr mt).2 j = some (opStR 1 nx)) (hn : mNotLong (some a0) = true) (hx : Nat.ble 1 x = true) (k : WP d mt nx [a0, some (.inr (.inr x)), a2, a3] S h Q) : WP d mt j [a0, a1, a2, a3] (.inr (.inr x) :: S) h Q := by
  obtain ⟨r, h', kr, z⟩ := k
  exact ⟨r, h', x_StR_4_1 hc hn hx kr, z⟩
theorem w_StR_4_2 {a0 a1 a2 a3 : Option mAV} {x : Nat} {nx : Nat} (hc : (mPr mt).2 j = some (opStR 2 nx)) (hn : mNotLong (some a1) = true) (hx : Nat.ble 1 x = true) (k : WP d mt nx [a0, a1, some (.inr (.inr x)), a3] S h Q) : WP d mt j [a0, a1, a2, a3] (.inr (.inr x) :: S) h Q := by
  obtain ⟨r, h', kr, z⟩ := k
  exact ⟨r, h', x_StR_4_2 hc hn hx kr, z⟩
theorem w_StR_5_2 {a0 a1 a2 a3 a4 : Option mAV} {x : Nat} {nx : Nat} (hc : (mPr mt).2 j = some (opStR 2 nx)) (hn : mNotLong (some a1) = true) (hx : Nat.ble 1 x = true) (k : WP d mt nx [a0, a1, some (.inr (.inr x)), a3, a4] S h Q) : WP d mt j [a0, a1, a2, a3, a4] (.inr (.inr x) :: S) h Q := by
  obtain ⟨r, h', kr, z⟩ := k
  exact ⟨r, h', x_StR_5_2 hc hn hx kr, z⟩
theorem w_StR_5_4 {a0 a1 a2 a3 a4 : Option mAV} {x : Nat} {nx : Nat} (hc : (mPr mt).2 j = some (opStR 4 nx)) (hn : mNotLong (some a3) = true) (hx : Nat.ble 1 x = true) (k : WP d mt nx [a0, a1, a2, a3, some (.inr (.inr x))] S h Q) : WP d mt j [a0, a1, a2, a3, a4] (.inr (.inr x) :: S) h Q := by
  obtain ⟨r, h', kr, z⟩ := k
  exact ⟨r, h', x_StR_5_4 hc hn hx kr, z⟩
theorem w_StR_6_3 {a0 a1 a2 a3 a4 a5 : Option mAV} {x : Nat} {nx : Nat} (hc : (mPr mt).2 j = some (opStR 3 nx)) (hn : mNotLong (some a2) = true) (hx : Nat.ble 1 x = true) (k : WP d mt nx [a0, a1, a2, some (.inr (.inr x)), a4, a5] S h Q) : WP d mt j [a0, a1, a2, a3, a4, a5] (.inr (.inr x) :: S) h Q := by
  obtain ⟨r, h', kr, z⟩ := k
  exact ⟨r, h', x_StR_6_3 hc hn hx kr, z⟩
theorem w_inc_2_1 {a0 : Option mAV} {x c : Int} {nx : Nat} (hc : (mPr mt).2 j = some (opInc 1 c nx)) (hn : mNotLong (some a0) = true) (k : WP d mt nx [a0, some (.inl (x + c))] S h Q) : WP d mt j [a0, some (.inl x)] S h Q := by
  obtain ⟨r, h', kr, z⟩ := k
  exact ⟨r, h', x_inc_2_1 hc hn kr, z⟩
theorem w_inc_3_2 {a0 a1 : Option mAV} {x c : Int} {nx : Nat} (hc : (mPr mt).2 j = some (opInc 2 c nx)) (hn : mNotLong (some a1) = true) (k : WP d mt nx [a0, a1, some (.inl (x + c))] S h Q) : WP d mt j [a0, a1, some (.inl x)] S h Q := by
  obtain ⟨r, h', kr, z⟩ := k
  exact ⟨r, h', x_inc_3_2 hc hn kr, z⟩
theorem w_inc_4_2 {a0 a1 a3 : Option mAV} {x c : Int} {nx : Nat} (hc : (mPr mt).2 j = some (opInc 2 c nx)) (hn : mNotLong (some a1) = true) (k : WP d mt nx [a0, a1, some (.inl (x + c)), a3] S h Q) : WP d mt j [a0, a1, some (.inl x), a3] S h Q := by
  obtain ⟨r, h', kr, z⟩ := k
  exact ⟨r, h', x_inc_4_2 hc hn kr, z⟩
theorem w_inc_4_3 {a0 a1 a2 : Option mAV} {x c : Int} {nx : Nat} (hc : (mPr mt).2 j = some (opInc 3 c nx)) (hn : mNotLong (some a2) = true) (k : WP d mt nx [a0, a1, a2, some (.inl (x + c))] S h Q) : WP d mt j [a0, a1, a2, some (.inl x)] S h Q := by
  obtain ⟨r, h', kr, z⟩ := k
  exact ⟨r, h', x_inc_4_3 hc hn kr, z⟩
theorem w_inc_5_3 {a0 a1 a2 a4 : Option mAV} {x c : Int} {nx : Nat} (hc : (mPr mt).2 j = some (opInc 3 c nx)) (hn : mNotLong (some a2) = true) (k : WP d mt nx [a0, a1, a2, some (.inl (x + c)), a4] S h Q) : WP d mt j [a0, a1, a2, some (.inl x), a4] S h Q := by
  obtain ⟨r, h', kr, z⟩ := k
  exact ⟨r, h', x_inc_5_3 hc hn kr, z⟩
theorem w_inc_5_4 {a0 a1 a2 a3 : Option mAV} {x c : Int} {nx : Nat} (hc : (mPr mt).2 j = some (opInc 4 c nx)) (hn : mNotLong (some a3) = true) (k : WP d mt nx [a0, a1, a2, a3, some (.inl (x + c))] S h Q) : WP d mt j [a0, a1, a2, a3, some (.inl x)] S h Q := by
  obtain ⟨r, h', kr, z⟩ := k
  exact ⟨r, h', x_inc_5_4 hc hn kr, z⟩
theorem w_inc_6_2 {a0 a1 a3 a4 a5 : Option mAV} {x c : Int} {nx : Nat} (hc : (mPr mt).2 j = some (opInc 2 c nx)) (hn : mNotLong (some a1) = true) (k : WP d mt nx [a0, a1, some (.inl (x + c)), a3, a4, a5] S h Q) : WP d mt j [a0, a1, some (.inl x), a3, a4, a5] S h Q := by
  obtain ⟨r, h', kr, z⟩ := k
  exact ⟨r, h', x_inc_6_2 hc hn kr, z⟩
theorem w_inc_6_3 {a0 a1 a2 a4 a5 : Option mAV} {x c : Int} {nx : Nat} (hc : (mPr mt).2 j = some (opInc 3 c nx)) (hn : mNotLong (some a2) = true) (k : WP d mt nx [a0, a1, a2, some (.inl (x + c)), a4, a5] S h Q) : WP d mt j [a0, a1, a2, some (.inl x), a4, a5] S h Q := by
  obtain ⟨r, h', kr, z⟩ := k
  exact ⟨r, h', x_inc_6_3 hc hn kr, z⟩
theorem w_inc_6_4 {a0 a1 a2 a3 a5 : Option mAV} {x c : Int} {nx : Nat} (hc : (mPr mt).2 j = some (opInc 4 c nx)) (hn : mNotLong (some a3) = true) (k : WP d mt nx [a0, a1, a2, a3, some (.inl (x + c)), a5] S h Q) : WP d mt j [a0, a1, a2, a3, some (.inl x), a5] S h Q := by
  obtain ⟨r, h', kr, z⟩ := k
  exact ⟨r, h', x_inc_6_4 hc hn kr, z⟩
theorem w_inc_6_5 {a0 a1 a2 a3 a4 : Option mAV} {x c : Int} {nx : Nat} (hc : (mPr mt).2 j = some (opInc 5 c nx)) (hn : mNotLong (some a4) = true) (k : WP d mt nx [a0, a1, a2, a3, a4, some (.inl (x + c))] S h Q) : WP d mt j [a0, a1, a2, a3, a4, some (.inl x)] S h Q := by
  obtain ⟨r, h', kr, z⟩ := k
  exact ⟨r, h', x_inc_6_5 hc hn kr, z⟩
theorem w_inc_7_3 {a0 a1 a2 a4 a5 a6 : Option mAV} {x c : Int} {nx : Nat} (hc : (mPr mt).2 j = some (opInc 3 c nx)) (hn : mNotLong (some a2) = true) (k : WP d mt nx [a0, a1, a2, some (.inl (x + c)), a4, a5, a6] S h Q) : WP d mt j [a0, a1, a2, some (.inl x), a4, a5, a6] S h Q := by
  obtain ⟨r, h', kr, z⟩ := k
  exact ⟨r, h', x_inc_7_3 hc hn kr, z⟩
theorem w_inc_7_4 {a0 a1 a2 a3 a5 a6 : Option mAV} {x c : Int} {nx : Nat} (hc : (mPr mt).2 j = some (opInc 4 c nx)) (hn : mNotLong (some a3) = true) (k : WP d mt nx [a0, a1, a2, a3, some (.inl (x + c)), a5, a6] S h Q) : WP d mt j [a0, a1, a2, a3, some (.inl x), a5, a6] S h Q := by
  obtain ⟨r, h', kr, z⟩ := k
  exact ⟨r, h', x_inc_7_4 hc hn kr, z⟩
theorem w_inc_7_5 {a0 a1 a2 a3 a4 a6 : Option mAV} {x c : Int} {nx : Nat} (hc : (mPr mt).2 j = some (opInc 5 c nx)) (hn : mNotLong (some a4) = true) (k : WP d mt nx [a0, a1, a2, a3, a4, some (.inl (x + c)), a6] S h Q) : WP d mt j [a0, a1, a2, a3, a4, some (.inl x), a6] S h Q := by
  obtain ⟨r, h', kr, z⟩ := k
  exact ⟨r, h', x_inc_7_5 hc hn kr, z⟩
theorem w_inc_7_6 {a0 a1 a2 a3 a4 a5 : Option mAV} {x c : Int} {nx : Nat} (hc : (mPr mt).2 j = some (opInc 6 c nx)) (hn : mNotLong (some a5) = true) (k : WP d mt nx [a0, a1, a2, a3, a4, a5, some (.inl (x + c))] S h Q) : WP d mt j [a0, a1, a2, a3, a4, a5, some (.inl x)] S h Q := by
  obtain ⟨r, h', kr, z⟩ := k
  exact ⟨r, h', x_inc_7_6 hc hn kr, z⟩
theorem w_inc_8_5 {a0 a1 a2 a3 a4 a6 a7 : Option mAV} {x c : Int} {nx : Nat} (hc : (mPr mt).2 j = some (opInc 5 c nx)) (hn : mNotLong (some a4) = true) (k : WP d mt nx [a0, a1, a2, a3, a4, some (.inl (x + c)), a6, a7] S h Q) : WP d mt j [a0, a1, a2, a3, a4, some (.inl x), a6, a7] S h Q := by
  obtain ⟨r, h', kr, z⟩ := k
  exact ⟨r, h', x_inc_8_5 hc hn kr, z⟩
theorem w_inc_8_6 {a0 a1 a2 a3 a4 a5 a7 : Option mAV} {x c : Int} {nx : Nat} (hc : (mPr mt).2 j = some (opInc 6 c nx)) (hn : mNotLong (some a5) = true) (k : WP d mt nx [a0, a1, a2, a3, a4, a5, some (.inl (x + c)), a7] S h Q) : WP d mt j [a0, a1, a2, a3, a4, a5, some (.inl x), a7] S h Q := by
  obtain ⟨r, h', kr, z⟩ := k
  exact ⟨r, h', x_inc_8_6 hc hn kr, z⟩
theorem w_inc_8_7 {a0 a1 a2 a3 a4 a5 a6 : Option mAV} {x c : Int} {nx : Nat} (hc : (mPr mt).2 j = some (opInc 7 c nx)) (hn : mNotLong (some a6) = true) (k : WP d mt nx [a0, a1, a2, a3, a4, a5, a6, some (.inl (x + c))] S h Q) : WP d mt j [a0, a1, a2, a3, a4, a5, a6, some (.inl x)] S h Q := by
  obtain ⟨r, h', kr, z⟩ := k
  exact ⟨r, h', x_inc_8_7 hc hn kr, z⟩
theorem w_inc_10_6 {a0 a1 a2 a3 a4 a5 a7 a8 a9 : Option mAV} {x c : Int} {nx : Nat} (hc : (mPr mt).2 j = some (opInc 6 c nx)) (hn : mNotLong (some a5) = true) (k : WP d mt nx [a0, a1, a2, a3, a4, a5, some (.inl (x + c)), a7, a8, a9] S h Q) : WP d mt j [a0, a1, a2, a3, a4, a5, some (.inl x), a7, a8, a9] S h Q := by
  obtain ⟨r, h', kr, z⟩ := k
  exact ⟨r, h', x_inc_10_6 hc hn kr, z⟩
theorem w_inc_10_8 {a0 a1 a2 a3 a4 a5 a6 a7 a9 : Option mAV} {x c : Int} {nx : Nat} (hc : (mPr mt).2 j = some (opInc 8 c nx)) (hn : mNotLong (some a7) = true) (k : WP d mt nx [a0, a1, a2, a3, a4, a5, a6, a7, some (.inl (x + c)), a9] S h Q) : WP d mt j [a0, a1, a2, a3, a4, a5, a6, a7, some (.inl x), a9] S h Q := by
  obtain ⟨r, h', kr, z⟩ := k
  exact ⟨r, h', x_inc_10_8 hc hn kr, z⟩
theorem w_getI {cs : List Nat} {a c k i nx : Nat} {fd : List (Nat ⊕ Nat)} (hc : (mPr mt).2 j = some (opGet cs k nx)) (ha : Nat.ble 10 a = true) (hl : layAt a = some (.inl (c, fd))) (hcs : cs.contains c = true) (hk : fd[k]? = some (.inr i)) (kk : WP d mt nx L (.inl (s a i) :: S) (encA s) Q) : WP d mt j L (.inr (.inr a) :: S) (encA s) Q := by
  obtain ⟨r, h', kr, z⟩ := kk
  exact ⟨r, h', x_getI hc ha hl hcs hk kr, z⟩
theorem w_getR {cs : List Nat} {a c k q nx : Nat} {fd : List (Nat ⊕ Nat)} (hc : (mPr mt).2 j = some (opGet cs k nx)) (ha : Nat.ble 10 a = true) (hl : layAt a = some (.inl (c, fd))) (hcs : cs.contains c = true) (hk : fd[k]? = some (.inl q)) (kk : WP d mt nx L (.inr (.inr q) :: S) (encA s) Q) : WP d mt j L (.inr (.inr a) :: S) (encA s) Q := by
  obtain ⟨r, h', kr, z⟩ := kk
  exact ⟨r, h', x_getR hc ha hl hcs hk kr, z⟩
theorem w_putI {cs : List Nat} {a c t k i nx : Nat} {fd : List (Nat ⊕ Nat)} {x : Int} (hc : (mPr mt).2 j = some (opPut cs t k nx)) (ha : Nat.ble 10 a = true) (hl : layAt a = some (.inl (c, fd))) (hcs : cs.contains c = true) (hk : fd[k]? = some (.inr i)) (ho : layOwn fd 0 = true) (ht : mFit t (.inl x) = true) (kk : WP d mt nx L S (encA (us s a i x)) Q) : WP d mt j L (.inl x :: .inr (.inr a) :: S) (encA s) Q := by
  obtain ⟨r, h', kr, z⟩ := kk
  exact ⟨r, h', x_putI hc ha hl hcs hk ho ht kr, z⟩
theorem w_ald {a n nx : Nat} {x : Int} (hc : (mPr mt).2 j = some (opALd 0 nx)) (ha : Nat.ble 10 a = true) (hl : layAt a = some (.inr (.inl (0, n)))) (hx : 0 ≤ x ∧ x < n) (hn : Nat.ble n 1000 = true) (kk : WP d mt nx L (.inl (s a x.toNat) :: S) (encA s) Q) : WP d mt j L (.inl x :: .inr (.inr a) :: S) (encA s) Q := by
  obtain ⟨r, h', kr, z⟩ := kk
  exact ⟨r, h', x_ald hc ha hl hx hn kr, z⟩
theorem w_aldk {a n nx : Nat} {x : Int} (k : Nat) (hc : (mPr mt).2 j = some (opALd 0 nx)) (ha : Nat.ble 10 a = true) (hl : layAt a = some (.inr (.inl (0, n)))) (hx : x = (k : Int)) (hk : Nat.ble (k + 1) n = true) (hn : Nat.ble n 1000 = true) (kk : WP d mt nx L (.inl (s a k) :: S) (encA s) Q) : WP d mt j L (.inl x :: .inr (.inr a) :: S) (encA s) Q := by
  obtain ⟨r, h', kr, z⟩ := kk
  exact ⟨r, h', x_aldk k hc ha hl hx hk hn kr, z⟩
theorem w_aldL {a n nx : Nat} {x : Int} (hc : (mPr mt).2 j = some (opALd 1 nx)) (ha : Nat.ble 10 a = true) (hl : layAt a = some (.inr (.inl (1, n)))) (hx : 0 ≤ x ∧ x < n) (hn : Nat.ble n 1000 = true) (kk : WP d mt nx L (.inr (.inl (s a x.toNat)) :: S) (encA s) Q) : WP d mt j L (.inl x :: .inr (.inr a) :: S) (encA s) Q := by
  obtain ⟨r, h', kr, z⟩ := kk
  exact ⟨r, h', x_aldL hc ha hl hx hn kr, z⟩
theorem w_ast {a n nx : Nat} {x v : Int} (hc : (mPr mt).2 j = some (opASt nx)) (ha : Nat.ble 10 a = true) (hl : layAt a = some (.inr (.inl (0, n)))) (hx : 0 ≤ x ∧ x < n) (hn : Nat.ble n 1000 = true) (kk : WP d mt nx L S (encA (us s a x.toNat v)) Q) : WP d mt j L (.inl v :: .inl x :: .inr (.inr a) :: S) (encA s) Q := by
  obtain ⟨r, h', kr, z⟩ := kk
  exact ⟨r, h', x_ast hc ha hl hx hn kr, z⟩
theorem w_astk {a n nx : Nat} {x v : Int} (k : Nat) (hc : (mPr mt).2 j = some (opASt nx)) (ha : Nat.ble 10 a = true) (hl : layAt a = some (.inr (.inl (0, n)))) (hx : x = (k : Int)) (hk : Nat.ble (k + 1) n = true) (hn : Nat.ble n 1000 = true) (kk : WP d mt nx L S (encA (us s a k v)) Q) : WP d mt j L (.inl v :: .inl x :: .inr (.inr a) :: S) (encA s) Q := by
  obtain ⟨r, h', kr, z⟩ := kk
  exact ⟨r, h', x_astk k hc ha hl hx hk hn kr, z⟩
theorem w_astL {a n nx : Nat} {x v : Int} (hc : (mPr mt).2 j = some (opAStL nx)) (ha : Nat.ble 10 a = true) (hl : layAt a = some (.inr (.inl (1, n)))) (hx : 0 ≤ x ∧ x < n) (hn : Nat.ble n 1000 = true) (kk : WP d mt nx L S (encA (us s a x.toNat v)) Q) : WP d mt j L (.inr (.inl v) :: .inl x :: .inr (.inr a) :: S) (encA s) Q := by
  obtain ⟨r, h', kr, z⟩ := kk
  exact ⟨r, h', x_astL hc ha hl hx hn kr, z⟩
theorem w_rld {a t n nx : Nat} {l : List Nat} {x : Int} (hc : (mPr mt).2 j = some (opRLd t nx)) (ha : Nat.ble 10 a = true) (hl : layAt a = some (.inr (.inr (.inl (t, n, l))))) (hx : 0 ≤ x ∧ x < n) (hn : Nat.ble n 1000 = true) (kk : WP d mt nx L (.inr (.inr (l.getD x.toNat 0)) :: S) (encA s) Q) : WP d mt j L (.inl x :: .inr (.inr a) :: S) (encA s) Q := by
  obtain ⟨r, h', kr, z⟩ := kk
  exact ⟨r, h', x_rld hc ha hl hx hn kr, z⟩
theorem w_rldL {a t n nx : Nat} {x : Int} (hc : (mPr mt).2 j = some (opRLd t nx)) (ha : Nat.ble 10 a = true) (hl : layAt a = some (.inr (.inr (.inr (t, n))))) (hx : 0 ≤ x ∧ x < n) (hn : Nat.ble n 1000 = true) (kk : WP d mt nx L (.inr (.inr (s a x.toNat).toNat) :: S) (encA s) Q) : WP d mt j L (.inl x :: .inr (.inr a) :: S) (encA s) Q := by
  obtain ⟨r, h', kr, z⟩ := kk
  exact ⟨r, h', x_rldL hc ha hl hx hn kr, z⟩
theorem w_rstL {a t n nx v c : Nat} {cs : List Nat} {fs : List mAV} {x : Int} (hc : (mPr mt).2 j = some (opRSt t cs nx)) (ha : Nat.ble 10 a = true) (hl : layAt a = some (.inr (.inr (.inr (t, n))))) (hv : Nat.ble 10 v = true) (hgv : enc s v = some (.inl (c, fs))) (hcs : cs.contains c = true) (hx : 0 ≤ x ∧ x < n) (hn : Nat.ble n 1000 = true) (kk : WP d mt nx L S (encA (us s a x.toNat v)) Q) : WP d mt j L (.inr (.inr v) :: .inl x :: .inr (.inr a) :: S) (encA s) Q := by
  obtain ⟨r, h', kr, z⟩ := kk
  exact ⟨r, h', x_rstL hc ha hl hv hgv hcs hx hn kr, z⟩
theorem w_alen {a n nx : Nat} (hc : (mPr mt).2 j = some (opALen nx)) (ha : Nat.ble 10 a = true) (hl : layAt a = some (.inr (.inl (0, n)))) (kk : WP d mt nx L (.inl (n : Int) :: S) (encA s) Q) : WP d mt j L (.inr (.inr a) :: S) (encA s) Q := by
  obtain ⟨r, h', kr, z⟩ := kk
  exact ⟨r, h', x_alen hc ha hl kr, z⟩
theorem w_cpy {a b na nb nx : Nat} {n sp dp : Int} (hc : (mPr mt).2 j = some (opCpy nx)) (ha : Nat.ble 10 a = true) (hb : Nat.ble 10 b = true) (hla : layAt a = some (.inr (.inl (0, na)))) (hlb : layAt b = some (.inr (.inl (0, nb)))) (h1 : 0 ≤ n) (h2 : 0 ≤ sp) (h3 : 0 ≤ dp) (h4 : sp + n ≤ na) (h5 : dp + n ≤ nb) (hna : Nat.ble na 1000 = true) (hnb : Nat.ble nb 1000 = true) (hS : Nat.ble (mWs S) 8 = true) (kk : WP (d + 1) mt nx L S (encA (ua s b (mcpy (s a) (s b) sp.toNat dp.toNat n.toNat))) Q) : WP (d + 1) mt j L (.inl n :: .inl dp :: .inr (.inr b) :: .inl sp :: .inr (.inr a) :: S) (encA s) Q := by
  obtain ⟨r, h', kr, z⟩ := kk
  exact ⟨r, h', x_cpy hc ha hb hla hlb h1 h2 h3 h4 h5 hna hnb hS kr, z⟩
theorem w_callV {tb : List (Nat × Nat)} {mt' na nx a c : Nat} {as : List mAV} {fd : List (Nat ⊕ Nat)} {rv : Option mAV} {h1 : mH} (hc : (mPr mt).2 j = some (opCallV tb na nx)) (hn : Nat.ble na S.length = true) (hS : Nat.ble (mWs (S.drop na)) 8 = true) (hs : (S.take na).reverse = .inr (.inr a) :: as) (ha : Nat.ble 10 a = true) (hl : layAt a = some (.inl (c, fd))) (ht : mTb tb c = some mt') (hk : Call d mt' (.inr (.inr a) :: as) (encA s) rv h1) (k : WP (d + 1) mt nx L (mBack rv (S.drop na)) h1 Q) : WP (d + 1) mt j L S (encA s) Q := by
  obtain ⟨r, h', kr, z⟩ := k
  exact ⟨r, h', x_callV hc hn hS hs ha hl ht hk kr, z⟩
theorem w_bEq0 {p : Prop} [Decidable p] {tg nx : Nat} (hc : (mPr mt).2 j = some (opIf jEq0 tg nx)) (k1 : ¬ p → WP d mt tg L S h Q) (k2 : p → WP d mt nx L S h Q) : WP d mt j L (.inl (bI p) :: S) h Q := by
  by_cases q : ¬ p
  · obtain ⟨r, h', kr, z⟩ := k1 q
    exact ⟨r, h', x_bEq0 hc (fun _ => kr) (fun n => by exfalso; first | exact n q | exact q n | omega), z⟩
  · have n : p := by first | exact q | (exact Decidable.not_not.mp q) | omega
    obtain ⟨r, h', kr, z⟩ := k2 n
    exact ⟨r, h', x_bEq0 hc (fun p => by exfalso; exact q p) (fun _ => kr), z⟩
theorem w_bNe0 {p : Prop} [Decidable p] {tg nx : Nat} (hc : (mPr mt).2 j = some (opIf jNe0 tg nx)) (k1 : p → WP d mt tg L S h Q) (k2 : ¬ p → WP d mt nx L S h Q) : WP d mt j L (.inl (bI p) :: S) h Q := by
  by_cases q : p
  · obtain ⟨r, h', kr, z⟩ := k1 q
    exact ⟨r, h', x_bNe0 hc (fun _ => kr) (fun n => by exfalso; first | exact n q | exact q n | omega), z⟩
  · have n : ¬ p := by first | exact q | (exact Decidable.not_not.mp q) | omega
    obtain ⟨r, h', kr, z⟩ := k2 n
    exact ⟨r, h', x_bNe0 hc (fun p => by exfalso; exact q p) (fun _ => kr), z⟩
theorem w_callI {mt' na nx : Nat} {P : Int → mSt → Prop} (hc : (mPr mt).2 j = some (opCall mt' na nx)) (hn : Nat.ble na S.length = true) (hS : Nat.ble (mWs (S.drop na)) 8 = true) (hk : CI d mt' (S.take na).reverse s P) (k : ∀ v s1, P v s1 → WP (d + 1) mt nx L (.inl v :: S.drop na) (encA s1) Q) : WP (d + 1) mt j L S (encA s) Q := by
  obtain ⟨v, s1, hk, hp⟩ := hk
  exact w_call hc hn hS hk (k v s1 hp)
theorem w_callVI {tb : List (Nat × Nat)} {mt' na nx a c : Nat} {as : List mAV} {fs : List mAV} {P : Int → mSt → Prop} (hc : (mPr mt).2 j = some (opCallV tb na nx)) (hn : Nat.ble na S.length = true) (hS : Nat.ble (mWs (S.drop na)) 8 = true) (hs : (S.take na).reverse = .inr (.inr a) :: as) (ha : Nat.ble 10 a = true) (hg : enc s a = some (.inl (c, fs))) (ht : mTb tb c = some mt') (hk : CI d mt' (.inr (.inr a) :: as) s P) (k : ∀ v s1, P v s1 → WP (d + 1) mt nx L (.inl v :: S.drop na) (encA s1) Q) : WP (d + 1) mt j L S (encA s) Q := by
  obtain ⟨v, s1, hk, hp⟩ := hk
  exact w_callV0 hc hn hS hs ha hg ht hk (k v s1 hp)
theorem w_callTI {mt' na nx a : Nat} {as : List mAV} {P : Int → mSt → Prop} (hc : (mPr mt).2 j = some (opCallT mt' na nx)) (hn : Nat.ble na S.length = true) (hS : Nat.ble (mWs (S.drop na)) 8 = true) (hs : (S.take na).reverse = .inr (.inr a) :: as) (ha : a = 2 ∨ a = 4) (hk : CI d mt' (.inr (.inr a) :: as) s P) (k : ∀ v s1, P v s1 → WP (d + 1) mt nx L (.inl v :: S.drop na) (encA s1) Q) : WP (d + 1) mt j L S (encA s) Q := by
  obtain ⟨v, s1, hk, hp⟩ := hk
  exact w_callT hc hn hS hs ha hk (k v s1 hp)
theorem w_callWI {tb : List (Nat × Nat)} {mt' na nx a c : Nat} {as : List mAV} {fd : List (Nat ⊕ Nat)} {P : Int → mSt → Prop} (hc : (mPr mt).2 j = some (opCallV tb na nx)) (hn : Nat.ble na S.length = true) (hS : Nat.ble (mWs (S.drop na)) 8 = true) (hs : (S.take na).reverse = .inr (.inr a) :: as) (ha : Nat.ble 10 a = true) (hl : layAt a = some (.inl (c, fd))) (ht : mTb tb c = some mt') (hk : CI d mt' (.inr (.inr a) :: as) s P) (k : ∀ v s1, P v s1 → WP (d + 1) mt nx L (.inl v :: S.drop na) (encA s1) Q) : WP (d + 1) mt j L S (encA s) Q := by
  obtain ⟨v, s1, hk, hp⟩ := hk
  exact w_callV hc hn hS hs ha hl ht hk (k v s1 hp)
theorem w_callL {mt' na nx : Nat} {P : Int → mSt → Prop} (hc : (mPr mt).2 j = some (opCall mt' na nx)) (hn : Nat.ble na S.length = true) (hS : Nat.ble (mWs (S.drop na)) 8 = true) (hk : CL d mt' (S.take na).reverse s P) (k : ∀ v s1, P v s1 → WP (d + 1) mt nx L (.inr (.inl v) :: S.drop na) (encA s1) Q) : WP (d + 1) mt j L S (encA s) Q := by
  obtain ⟨v, s1, hk, hp⟩ := hk
  exact w_call hc hn hS hk (k v s1 hp)
theorem w_callVL {tb : List (Nat × Nat)} {mt' na nx a c : Nat} {as : List mAV} {fs : List mAV} {P : Int → mSt → Prop} (hc : (mPr mt).2 j = some (opCallV tb na nx)) (hn : Nat.ble na S.length = true) (hS : Nat.ble (mWs (S.drop na)) 8 = true) (hs : (S.take na).reverse = .inr (.inr a) :: as) (ha : Nat.ble 10 a = true) (hg : enc s a = some (.inl (c, fs))) (ht : mTb tb c = some mt') (hk : CL d mt' (.inr (.inr a) :: as) s P) (k : ∀ v s1, P v s1 → WP (d + 1) mt nx L (.inr (.inl v) :: S.drop na) (encA s1) Q) : WP (d + 1) mt j L S (encA s) Q := by
  obtain ⟨v, s1, hk, hp⟩ := hk
  exact w_callV0 hc hn hS hs ha hg ht hk (k v s1 hp)
theorem w_callTL {mt' na nx a : Nat} {as : List mAV} {P : Int → mSt → Prop} (hc : (mPr mt).2 j = some (opCallT mt' na nx)) (hn : Nat.ble na S.length = true) (hS : Nat.ble (mWs (S.drop na)) 8 = true) (hs : (S.take na).reverse = .inr (.inr a) :: as) (ha : a = 2 ∨ a = 4) (hk : CL d mt' (.inr (.inr a) :: as) s P) (k : ∀ v s1, P v s1 → WP (d + 1) mt nx L (.inr (.inl v) :: S.drop na) (encA s1) Q) : WP (d + 1) mt j L S (encA s) Q := by
  obtain ⟨v, s1, hk, hp⟩ := hk
  exact w_callT hc hn hS hs ha hk (k v s1 hp)
theorem w_callWL {tb : List (Nat × Nat)} {mt' na nx a c : Nat} {as : List mAV} {fd : List (Nat ⊕ Nat)} {P : Int → mSt → Prop} (hc : (mPr mt).2 j = some (opCallV tb na nx)) (hn : Nat.ble na S.length = true) (hS : Nat.ble (mWs (S.drop na)) 8 = true) (hs : (S.take na).reverse = .inr (.inr a) :: as) (ha : Nat.ble 10 a = true) (hl : layAt a = some (.inl (c, fd))) (ht : mTb tb c = some mt') (hk : CL d mt' (.inr (.inr a) :: as) s P) (k : ∀ v s1, P v s1 → WP (d + 1) mt nx L (.inr (.inl v) :: S.drop na) (encA s1) Q) : WP (d + 1) mt j L S (encA s) Q := by
  obtain ⟨v, s1, hk, hp⟩ := hk
  exact w_callV hc hn hS hs ha hl ht hk (k v s1 hp)
theorem w_callR {mt' na nx : Nat} {P : Nat → mSt → Prop} (hc : (mPr mt).2 j = some (opCall mt' na nx)) (hn : Nat.ble na S.length = true) (hS : Nat.ble (mWs (S.drop na)) 8 = true) (hk : CR d mt' (S.take na).reverse s P) (k : ∀ v s1, P v s1 → WP (d + 1) mt nx L (.inr (.inr v) :: S.drop na) (encA s1) Q) : WP (d + 1) mt j L S (encA s) Q := by
  obtain ⟨v, s1, hk, hp⟩ := hk
  exact w_call hc hn hS hk (k v s1 hp)
theorem w_callVR {tb : List (Nat × Nat)} {mt' na nx a c : Nat} {as : List mAV} {fs : List mAV} {P : Nat → mSt → Prop} (hc : (mPr mt).2 j = some (opCallV tb na nx)) (hn : Nat.ble na S.length = true) (hS : Nat.ble (mWs (S.drop na)) 8 = true) (hs : (S.take na).reverse = .inr (.inr a) :: as) (ha : Nat.ble 10 a = true) (hg : enc s a = some (.inl (c, fs))) (ht : mTb tb c = some mt') (hk : CR d mt' (.inr (.inr a) :: as) s P) (k : ∀ v s1, P v s1 → WP (d + 1) mt nx L (.inr (.inr v) :: S.drop na) (encA s1) Q) : WP (d + 1) mt j L S (encA s) Q := by
  obtain ⟨v, s1, hk, hp⟩ := hk
  exact w_callV0 hc hn hS hs ha hg ht hk (k v s1 hp)
theorem w_callTR {mt' na nx a : Nat} {as : List mAV} {P : Nat → mSt → Prop} (hc : (mPr mt).2 j = some (opCallT mt' na nx)) (hn : Nat.ble na S.length = true) (hS : Nat.ble (mWs (S.drop na)) 8 = true) (hs : (S.take na).reverse = .inr (.inr a) :: as) (ha : a = 2 ∨ a = 4) (hk : CR d mt' (.inr (.inr a) :: as) s P) (k : ∀ v s1, P v s1 → WP (d + 1) mt nx L (.inr (.inr v) :: S.drop na) (encA s1) Q) : WP (d + 1) mt j L S (encA s) Q := by
  obtain ⟨v, s1, hk, hp⟩ := hk
  exact w_callT hc hn hS hs ha hk (k v s1 hp)
theorem w_callWR {tb : List (Nat × Nat)} {mt' na nx a c : Nat} {as : List mAV} {fd : List (Nat ⊕ Nat)} {P : Nat → mSt → Prop} (hc : (mPr mt).2 j = some (opCallV tb na nx)) (hn : Nat.ble na S.length = true) (hS : Nat.ble (mWs (S.drop na)) 8 = true) (hs : (S.take na).reverse = .inr (.inr a) :: as) (ha : Nat.ble 10 a = true) (hl : layAt a = some (.inl (c, fd))) (ht : mTb tb c = some mt') (hk : CR d mt' (.inr (.inr a) :: as) s P) (k : ∀ v s1, P v s1 → WP (d + 1) mt nx L (.inr (.inr v) :: S.drop na) (encA s1) Q) : WP (d + 1) mt j L S (encA s) Q := by
  obtain ⟨v, s1, hk, hp⟩ := hk
  exact w_callV hc hn hS hs ha hl ht hk (k v s1 hp)
theorem w_callN {mt' na nx : Nat} {P : mSt → Prop} (hc : (mPr mt).2 j = some (opCall mt' na nx)) (hn : Nat.ble na S.length = true) (hS : Nat.ble (mWs (S.drop na)) 8 = true) (hk : CV d mt' (S.take na).reverse s P) (k : ∀ s1, P s1 → WP (d + 1) mt nx L (S.drop na) (encA s1) Q) : WP (d + 1) mt j L S (encA s) Q := by
  obtain ⟨s1, hk, hp⟩ := hk
  exact w_call hc hn hS hk (k s1 hp)
theorem w_callVN {tb : List (Nat × Nat)} {mt' na nx a c : Nat} {as : List mAV} {fs : List mAV} {P : mSt → Prop} (hc : (mPr mt).2 j = some (opCallV tb na nx)) (hn : Nat.ble na S.length = true) (hS : Nat.ble (mWs (S.drop na)) 8 = true) (hs : (S.take na).reverse = .inr (.inr a) :: as) (ha : Nat.ble 10 a = true) (hg : enc s a = some (.inl (c, fs))) (ht : mTb tb c = some mt') (hk : CV d mt' (.inr (.inr a) :: as) s P) (k : ∀ s1, P s1 → WP (d + 1) mt nx L (S.drop na) (encA s1) Q) : WP (d + 1) mt j L S (encA s) Q := by
  obtain ⟨s1, hk, hp⟩ := hk
  exact w_callV0 hc hn hS hs ha hg ht hk (k s1 hp)
theorem w_callTN {mt' na nx a : Nat} {as : List mAV} {P : mSt → Prop} (hc : (mPr mt).2 j = some (opCallT mt' na nx)) (hn : Nat.ble na S.length = true) (hS : Nat.ble (mWs (S.drop na)) 8 = true) (hs : (S.take na).reverse = .inr (.inr a) :: as) (ha : a = 2 ∨ a = 4) (hk : CV d mt' (.inr (.inr a) :: as) s P) (k : ∀ s1, P s1 → WP (d + 1) mt nx L (S.drop na) (encA s1) Q) : WP (d + 1) mt j L S (encA s) Q := by
  obtain ⟨s1, hk, hp⟩ := hk
  exact w_callT hc hn hS hs ha hk (k s1 hp)
theorem w_callWN {tb : List (Nat × Nat)} {mt' na nx a c : Nat} {as : List mAV} {fd : List (Nat ⊕ Nat)} {P : mSt → Prop} (hc : (mPr mt).2 j = some (opCallV tb na nx)) (hn : Nat.ble na S.length = true) (hS : Nat.ble (mWs (S.drop na)) 8 = true) (hs : (S.take na).reverse = .inr (.inr a) :: as) (ha : Nat.ble 10 a = true) (hl : layAt a = some (.inl (c, fd))) (ht : mTb tb c = some mt') (hk : CV d mt' (.inr (.inr a) :: as) s P) (k : ∀ s1, P s1 → WP (d + 1) mt nx L (S.drop na) (encA s1) Q) : WP (d + 1) mt j L S (encA s) Q := by
  obtain ⟨s1, hk, hp⟩ := hk
  exact w_callV hc hn hS hs ha hl ht hk (k s1 hp)
theorem w_retV {P : mSt → Prop} (hc : (mPr mt).2 j = some opRetV) (hp : P s) : WP d mt j L [] (encA s) (QV P) := ⟨_, _, x_retV hc rfl, s, rfl, rfl, hp⟩
theorem w_retI {x : Int} {P : Int → mSt → Prop} (hc : (mPr mt).2 j = some (opRetI false)) (hp : P x s) : WP d mt j L [.inl x] (encA s) (QI P) := ⟨_, _, x_retI hc rfl rfl, x, s, rfl, rfl, hp⟩
theorem w_retB {x : Int} {P : Int → mSt → Prop} (hc : (mPr mt).2 j = some (opRetI true)) (hx : x = 0 ∨ x = 1) (hp : P x s) : WP d mt j L [.inl x] (encA s) (QI P) := ⟨_, _, x_retB hc hx rfl rfl, x, s, rfl, rfl, hp⟩
theorem w_retL {x : Int} {P : Int → mSt → Prop} (hc : (mPr mt).2 j = some opRetL) (hp : P x s) : WP d mt j L [.inr (.inl x)] (encA s) (QL P) := ⟨_, _, x_retL hc rfl rfl, x, s, rfl, rfl, hp⟩
theorem w_retR {x : Nat} {P : Nat → mSt → Prop} (hc : (mPr mt).2 j = some opRetR) (hx : Nat.ble 1 x = true) (hp : P x s) : WP d mt j L [.inr (.inr x)] (encA s) (QR P) := ⟨_, _, x_retR hc hx rfl rfl, x, s, rfl, rfl, hp⟩
end WW
