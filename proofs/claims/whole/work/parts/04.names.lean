/-! ===== names of the classes, their fields (written by program) ===== -/
/-- the words of the tables that go with every call -/
def m_tbl : List Cond := lw_tbl.filter goodWord
/-- links between nest mates: they go with a call by its world -/
def m_isN : Cond → Bool
  | .fieldLinkNest _ _ _ _ _ _ => true
  | .methodLinkNest _ _ _ _ => true
  | .castable _ _ => true
  | _ => false
def m_nst : List Cond := lw_tbl.filter m_isN
theorem m_ofT {w : Cond} (h : w ∈ tables_1) (hg : goodWord w = true) : w ∈ m_tbl := List.mem_filter.mpr ⟨List.mem_append_right _ h, hg⟩
theorem m_ofN {w : Cond} (h : w ∈ tables_1) (hg : m_isN w = true) : w ∈ m_nst := List.mem_filter.mpr ⟨List.mem_append_right _ h, hg⟩
theorem m_nstW {s U : State} (hW : s.WarmedH U.vm) (h : ∀ w ∈ m_nst, va_Nw w s) : ∀ w ∈ m_nst, va_Nw w U := by
  intro w hw
  have h1 := h w hw
  have h2 := (List.mem_filter.mp hw).2
  cases w <;> simp only [m_isN] at h2 <;> first | exact va_Nw.warmF hW h1 | exact va_Nw.warmM hW h1 | exact va_Nw.warmC hW h1 | cases h2
theorem m_nstO {w : Cond} (hw : w ∈ m_nst) : w.onTables = true := by
  have h2 := (List.mem_filter.mp hw).2
  cases w <;> simp only [m_isN] at h2 <;> first | rfl | cases h2
theorem m_nstS {u U : State} (hv : U.vm = u.vm) (h : ∀ w ∈ m_nst, va_Nw w u) : ∀ w ∈ m_nst, va_Nw w U := fun w hw => va_Nw.same (m_nstO hw) hv.symm (h w hw)
theorem m_in {w : Cond} (i : Nat) (h : lw_tbl[i]? = some w) (hg : goodWord w = true) : w ∈ m_tbl := List.mem_filter.mpr ⟨List.mem_of_getElem? h, hg⟩
theorem m_t1 {w : Cond} (i : Nat) (h : tables_1_1[i]? = some w) (hg : goodWord w = true) : w ∈ m_tbl := m_ofT (by unfold tables_1; simp only [List.mem_append]; have := List.mem_of_getElem? h; simp only [this, true_or, or_true]) hg
theorem m_n1 {w : Cond} (i : Nat) (h : tables_1_1[i]? = some w) (hg : m_isN w = true) : w ∈ m_nst := m_ofN (by unfold tables_1; simp only [List.mem_append]; have := List.mem_of_getElem? h; simp only [this, true_or, or_true]) hg
theorem m_p1 {q : MethodName × Nat} (i : Nat) (h : lw_privs_1[i]? = some q) (hg : goodWord (Cond.selects q.1.cls q.1 q.1) = true) : Cond.selects q.1.cls q.1 q.1 ∈ m_tbl := List.mem_filter.mpr ⟨List.mem_append_left _ (List.mem_map.mpr ⟨q, by unfold lw_privs; simp only [List.mem_append]; have := List.mem_of_getElem? h; simp only [this, true_or, or_true], rfl⟩), hg⟩
theorem m_t2 {w : Cond} (i : Nat) (h : tables_1_2[i]? = some w) (hg : goodWord w = true) : w ∈ m_tbl := m_ofT (by unfold tables_1; simp only [List.mem_append]; have := List.mem_of_getElem? h; simp only [this, true_or, or_true]) hg
theorem m_n2 {w : Cond} (i : Nat) (h : tables_1_2[i]? = some w) (hg : m_isN w = true) : w ∈ m_nst := m_ofN (by unfold tables_1; simp only [List.mem_append]; have := List.mem_of_getElem? h; simp only [this, true_or, or_true]) hg
theorem m_p2 {q : MethodName × Nat} (i : Nat) (h : lw_privs_2[i]? = some q) (hg : goodWord (Cond.selects q.1.cls q.1 q.1) = true) : Cond.selects q.1.cls q.1 q.1 ∈ m_tbl := List.mem_filter.mpr ⟨List.mem_append_left _ (List.mem_map.mpr ⟨q, by unfold lw_privs; simp only [List.mem_append]; have := List.mem_of_getElem? h; simp only [this, true_or, or_true], rfl⟩), hg⟩
theorem m_t3 {w : Cond} (i : Nat) (h : tables_1_3[i]? = some w) (hg : goodWord w = true) : w ∈ m_tbl := m_ofT (by unfold tables_1; simp only [List.mem_append]; have := List.mem_of_getElem? h; simp only [this, true_or, or_true]) hg
theorem m_n3 {w : Cond} (i : Nat) (h : tables_1_3[i]? = some w) (hg : m_isN w = true) : w ∈ m_nst := m_ofN (by unfold tables_1; simp only [List.mem_append]; have := List.mem_of_getElem? h; simp only [this, true_or, or_true]) hg
theorem m_p3 {q : MethodName × Nat} (i : Nat) (h : lw_privs_3[i]? = some q) (hg : goodWord (Cond.selects q.1.cls q.1 q.1) = true) : Cond.selects q.1.cls q.1 q.1 ∈ m_tbl := List.mem_filter.mpr ⟨List.mem_append_left _ (List.mem_map.mpr ⟨q, by unfold lw_privs; simp only [List.mem_append]; have := List.mem_of_getElem? h; simp only [this, true_or, or_true], rfl⟩), hg⟩
theorem m_t4 {w : Cond} (i : Nat) (h : tables_1_4[i]? = some w) (hg : goodWord w = true) : w ∈ m_tbl := m_ofT (by unfold tables_1; simp only [List.mem_append]; have := List.mem_of_getElem? h; simp only [this, true_or, or_true]) hg
theorem m_n4 {w : Cond} (i : Nat) (h : tables_1_4[i]? = some w) (hg : m_isN w = true) : w ∈ m_nst := m_ofN (by unfold tables_1; simp only [List.mem_append]; have := List.mem_of_getElem? h; simp only [this, true_or, or_true]) hg
theorem m_p4 {q : MethodName × Nat} (i : Nat) (h : lw_privs_4[i]? = some q) (hg : goodWord (Cond.selects q.1.cls q.1 q.1) = true) : Cond.selects q.1.cls q.1 q.1 ∈ m_tbl := List.mem_filter.mpr ⟨List.mem_append_left _ (List.mem_map.mpr ⟨q, by unfold lw_privs; simp only [List.mem_append]; have := List.mem_of_getElem? h; simp only [this, true_or, or_true], rfl⟩), hg⟩
theorem m_t5 {w : Cond} (i : Nat) (h : tables_1_5[i]? = some w) (hg : goodWord w = true) : w ∈ m_tbl := m_ofT (by unfold tables_1; simp only [List.mem_append]; have := List.mem_of_getElem? h; simp only [this, true_or, or_true]) hg
theorem m_n5 {w : Cond} (i : Nat) (h : tables_1_5[i]? = some w) (hg : m_isN w = true) : w ∈ m_nst := m_ofN (by unfold tables_1; simp only [List.mem_append]; have := List.mem_of_getElem? h; simp only [this, true_or, or_true]) hg
theorem m_p5 {q : MethodName × Nat} (i : Nat) (h : lw_privs_5[i]? = some q) (hg : goodWord (Cond.selects q.1.cls q.1 q.1) = true) : Cond.selects q.1.cls q.1 q.1 ∈ m_tbl := List.mem_filter.mpr ⟨List.mem_append_left _ (List.mem_map.mpr ⟨q, by unfold lw_privs; simp only [List.mem_append]; have := List.mem_of_getElem? h; simp only [this, true_or, or_true], rfl⟩), hg⟩
theorem m_t6 {w : Cond} (i : Nat) (h : tables_1_6[i]? = some w) (hg : goodWord w = true) : w ∈ m_tbl := m_ofT (by unfold tables_1; simp only [List.mem_append]; have := List.mem_of_getElem? h; simp only [this, true_or, or_true]) hg
theorem m_n6 {w : Cond} (i : Nat) (h : tables_1_6[i]? = some w) (hg : m_isN w = true) : w ∈ m_nst := m_ofN (by unfold tables_1; simp only [List.mem_append]; have := List.mem_of_getElem? h; simp only [this, true_or, or_true]) hg
theorem m_t7 {w : Cond} (i : Nat) (h : tables_1_7[i]? = some w) (hg : goodWord w = true) : w ∈ m_tbl := m_ofT (by unfold tables_1; simp only [List.mem_append]; have := List.mem_of_getElem? h; simp only [this, true_or, or_true]) hg
theorem m_n7 {w : Cond} (i : Nat) (h : tables_1_7[i]? = some w) (hg : m_isN w = true) : w ∈ m_nst := m_ofN (by unfold tables_1; simp only [List.mem_append]; have := List.mem_of_getElem? h; simp only [this, true_or, or_true]) hg
theorem m_in0 {ws : List Cond} (h : ∀ w ∈ ws, w ∈ lw_tbl ∧ goodWord w = true) : ∀ w ∈ ws, w ∈ m_tbl := fun w hw => List.mem_filter.mpr (h w hw)
def kR0 : String := "OneWindow$Borrowed"
def kT0 : u_T := fun k => match k with
  | 0 => ("OneWindow$Lamp", "n", "I", true)
  | 1 => ("OneWindow$Lamp", "m", "I", true)
  | _ => ("OneWindow$Lamp", "begun", "LOneWindow$Row;", true)
def ky0 : Nat → FieldType := fun k => match k with
  | 0 => .int
  | 1 => .int
  | _ => .object "OneWindow$Row"
theorem kn0 : ∀ a, a < 3 → ∀ b, b < 3 → a ≠ b → (kT0 a).2.1 ≠ (kT0 b).2.1 := by decide +kernel
theorem ko0 : ∀ k, k < 3 → parseFieldDescriptor (kT0 k).2.2.1 = some (ky0 k) := by decide +kernel
theorem ki0 : ∀ w ∈ u_ws kR0 kT0 3, w ∈ m_tbl := m_in0 (by decide +kernel)
def kR1 : String := "OneWindow$Coloured"
def kT1 : u_T := fun k => match k with
  | 0 => ("OneWindow$Lamp", "n", "I", true)
  | 1 => ("OneWindow$Lamp", "m", "I", true)
  | _ => ("OneWindow$Lamp", "begun", "LOneWindow$Row;", true)
def ky1 : Nat → FieldType := fun k => match k with
  | 0 => .int
  | 1 => .int
  | _ => .object "OneWindow$Row"
theorem kn1 : ∀ a, a < 3 → ∀ b, b < 3 → a ≠ b → (kT1 a).2.1 ≠ (kT1 b).2.1 := by decide +kernel
theorem ko1 : ∀ k, k < 3 → parseFieldDescriptor (kT1 k).2.2.1 = some (ky1 k) := by decide +kernel
theorem ki1 : ∀ w ∈ u_ws kR1 kT1 3, w ∈ m_tbl := m_in0 (by decide +kernel)
def kR2 : String := "OneWindow$Feigned"
def kT2 : u_T := fun k => match k with
  | 0 => ("OneWindow$Lamp", "n", "I", true)
  | 1 => ("OneWindow$Lamp", "m", "I", true)
  | _ => ("OneWindow$Lamp", "begun", "LOneWindow$Row;", true)
def ky2 : Nat → FieldType := fun k => match k with
  | 0 => .int
  | 1 => .int
  | _ => .object "OneWindow$Row"
theorem kn2 : ∀ a, a < 3 → ∀ b, b < 3 → a ≠ b → (kT2 a).2.1 ≠ (kT2 b).2.1 := by decide +kernel
theorem ko2 : ∀ k, k < 3 → parseFieldDescriptor (kT2 k).2.2.1 = some (ky2 k) := by decide +kernel
theorem ki2 : ∀ w ∈ u_ws kR2 kT2 3, w ∈ m_tbl := m_in0 (by decide +kernel)
def kR3 : String := "OneWindow$Lamp"
def kT3 : u_T := fun k => match k with
  | 0 => ("OneWindow$Lamp", "n", "I", true)
  | 1 => ("OneWindow$Lamp", "m", "I", true)
  | _ => ("OneWindow$Lamp", "begun", "LOneWindow$Row;", true)
def ky3 : Nat → FieldType := fun k => match k with
  | 0 => .int
  | 1 => .int
  | _ => .object "OneWindow$Row"
theorem kn3 : ∀ a, a < 3 → ∀ b, b < 3 → a ≠ b → (kT3 a).2.1 ≠ (kT3 b).2.1 := by decide +kernel
theorem ko3 : ∀ k, k < 3 → parseFieldDescriptor (kT3 k).2.2.1 = some (ky3 k) := by decide +kernel
theorem ki3 : ∀ w ∈ u_ws kR3 kT3 3, w ∈ m_tbl := m_in0 (by decide +kernel)
def kR4 : String := "OneWindow$Law"
def kT4 : u_T := fun k => match k with
  | 0 => ("OneWindow$Law", "use", "I", true)
  | 1 => ("OneWindow$Law", "code", "LOneWindow$Row;", true)
  | 2 => ("OneWindow$Law", "stack", "[I", true)
  | 3 => ("OneWindow$Law", "draft", "LOneWindow$Row;", true)
  | 4 => ("OneWindow$Law", "pending", "LOneWindow$Row;", true)
  | 5 => ("OneWindow$Law", "open", "I", false)
  | 6 => ("OneWindow$Law", "depth", "I", false)
  | _ => ("OneWindow$Law", "compared", "I", false)
def ky4 : Nat → FieldType := fun k => match k with
  | 0 => .int
  | 1 => .object "OneWindow$Row"
  | 2 => .array .int
  | 3 => .object "OneWindow$Row"
  | 4 => .object "OneWindow$Row"
  | 5 => .int
  | 6 => .int
  | _ => .int
theorem kn4 : ∀ a, a < 8 → ∀ b, b < 8 → a ≠ b → (kT4 a).2.1 ≠ (kT4 b).2.1 := by decide +kernel
theorem ko4 : ∀ k, k < 8 → parseFieldDescriptor (kT4 k).2.2.1 = some (ky4 k) := by decide +kernel
theorem ki4 : ∀ w ∈ u_ws kR4 kT4 8, w ∈ m_tbl := m_in0 (by decide +kernel)
def kR5 : String := "OneWindow$Rays"
def kT5 : u_T := fun k => match k with
  | 0 => ("OneWindow$Rays", "left", "[I", true)
  | _ => ("OneWindow$Rays", "lights", "[I", true)
def ky5 : Nat → FieldType := fun k => match k with
  | 0 => .array .int
  | _ => .array .int
theorem kn5 : ∀ a, a < 2 → ∀ b, b < 2 → a ≠ b → (kT5 a).2.1 ≠ (kT5 b).2.1 := by decide +kernel
theorem ko5 : ∀ k, k < 2 → parseFieldDescriptor (kT5 k).2.2.1 = some (ky5 k) := by decide +kernel
theorem ki5 : ∀ w ∈ u_ws kR5 kT5 2, w ∈ m_tbl := m_in0 (by decide +kernel)
def kR6 : String := "OneWindow$Row"
def kT6 : u_T := fun k => match k with
  | 0 => ("OneWindow$Row", "numbers", "[I", true)
  | _ => ("OneWindow$Row", "size", "I", false)
def ky6 : Nat → FieldType := fun k => match k with
  | 0 => .array .int
  | _ => .int
theorem kn6 : ∀ a, a < 2 → ∀ b, b < 2 → a ≠ b → (kT6 a).2.1 ≠ (kT6 b).2.1 := by decide +kernel
theorem ko6 : ∀ k, k < 2 → parseFieldDescriptor (kT6 k).2.2.1 = some (ky6 k) := by decide +kernel
theorem ki6 : ∀ w ∈ u_ws kR6 kT6 2, w ∈ m_tbl := m_in0 (by decide +kernel)
def kR7 : String := "OneWindow$Stained"
def kT7 : u_T := fun k => match k with
  | 0 => ("OneWindow$Lamp", "n", "I", true)
  | 1 => ("OneWindow$Lamp", "m", "I", true)
  | _ => ("OneWindow$Lamp", "begun", "LOneWindow$Row;", true)
def ky7 : Nat → FieldType := fun k => match k with
  | 0 => .int
  | 1 => .int
  | _ => .object "OneWindow$Row"
theorem kn7 : ∀ a, a < 3 → ∀ b, b < 3 → a ≠ b → (kT7 a).2.1 ≠ (kT7 b).2.1 := by decide +kernel
theorem ko7 : ∀ k, k < 3 → parseFieldDescriptor (kT7 k).2.2.1 = some (ky7 k) := by decide +kernel
theorem ki7 : ∀ w ∈ u_ws kR7 kT7 3, w ∈ m_tbl := m_in0 (by decide +kernel)
def kR8 : String := "OneWindow$Twofold"
def kT8 : u_T := fun k => match k with
  | 0 => ("OneWindow$Lamp", "n", "I", true)
  | 1 => ("OneWindow$Lamp", "m", "I", true)
  | _ => ("OneWindow$Lamp", "begun", "LOneWindow$Row;", true)
def ky8 : Nat → FieldType := fun k => match k with
  | 0 => .int
  | 1 => .int
  | _ => .object "OneWindow$Row"
theorem kn8 : ∀ a, a < 3 → ∀ b, b < 3 → a ≠ b → (kT8 a).2.1 ≠ (kT8 b).2.1 := by decide +kernel
theorem ko8 : ∀ k, k < 3 → parseFieldDescriptor (kT8 k).2.2.1 = some (ky8 k) := by decide +kernel
theorem ki8 : ∀ w ∈ u_ws kR8 kT8 3, w ∈ m_tbl := m_in0 (by decide +kernel)
def kR9 : String := "OneWindow$Village"
def kT9 : u_T := fun k => match k with
  | 0 => ("OneWindow$Village", "ground", "[I", true)
  | 1 => ("OneWindow$Village", "night", "I", false)
  | 2 => ("OneWindow$Village", "fog", "I", false)
  | 3 => ("OneWindow$Village", "rent", "I", false)
  | 4 => ("OneWindow$Village", "z", "I", false)
  | 5 => ("OneWindow$Village", "windows", "I", false)
  | 6 => ("OneWindow$Village", "lamps", "[LOneWindow$Lamp;", true)
  | 7 => ("OneWindow$Village", "places", "[I", true)
  | 8 => ("OneWindow$Village", "gains", "[I", true)
  | 9 => ("OneWindow$Village", "people", "I", false)
  | 10 => ("OneWindow$Village", "seats", "[I", true)
  | 11 => ("OneWindow$Village", "needs", "[I", true)
  | 12 => ("OneWindow$Village", "eggs", "[I", true)
  | 13 => ("OneWindow$Village", "reads", "[I", true)
  | 14 => ("OneWindow$Village", "turns", "LOneWindow$Row;", true)
  | 15 => ("OneWindow$Village", "tape", "LOneWindow$Row;", true)
  | 16 => ("OneWindow$Village", "waits", "LOneWindow$Row;", true)
  | _ => ("OneWindow$Village", "laws", "[LOneWindow$Law;", true)
def ky9 : Nat → FieldType := fun k => match k with
  | 0 => .array .int
  | 1 => .int
  | 2 => .int
  | 3 => .int
  | 4 => .int
  | 5 => .int
  | 6 => .array (.object "OneWindow$Lamp")
  | 7 => .array .int
  | 8 => .array .int
  | 9 => .int
  | 10 => .array .int
  | 11 => .array .int
  | 12 => .array .int
  | 13 => .array .int
  | 14 => .object "OneWindow$Row"
  | 15 => .object "OneWindow$Row"
  | 16 => .object "OneWindow$Row"
  | _ => .array (.object "OneWindow$Law")
theorem kn9 : ∀ a, a < 18 → ∀ b, b < 18 → a ≠ b → (kT9 a).2.1 ≠ (kT9 b).2.1 := by decide +kernel
theorem ko9 : ∀ k, k < 18 → parseFieldDescriptor (kT9 k).2.2.1 = some (ky9 k) := by decide +kernel
theorem ki9 : ∀ w ∈ u_ws kR9 kT9 18, w ∈ m_tbl := m_in0 (by decide +kernel)
def kR10 : String := "OneWindow$Weak"
def kT10 : u_T := fun k => match k with
  | 0 => ("OneWindow$Lamp", "n", "I", true)
  | 1 => ("OneWindow$Lamp", "m", "I", true)
  | _ => ("OneWindow$Lamp", "begun", "LOneWindow$Row;", true)
def ky10 : Nat → FieldType := fun k => match k with
  | 0 => .int
  | 1 => .int
  | _ => .object "OneWindow$Row"
theorem kn10 : ∀ a, a < 3 → ∀ b, b < 3 → a ≠ b → (kT10 a).2.1 ≠ (kT10 b).2.1 := by decide +kernel
theorem ko10 : ∀ k, k < 3 → parseFieldDescriptor (kT10 k).2.2.1 = some (ky10 k) := by decide +kernel
theorem ki10 : ∀ w ∈ u_ws kR10 kT10 3, w ∈ m_tbl := m_in0 (by decide +kernel)
def kR11 : String := "OneWindow"
def kT11 : u_T := fun k => match k with
  | 0 => ("OneWindow", "begun", "LOneWindow$Row;", true)
  | 1 => ("OneWindow", "now", "LOneWindow$Village;", true)
  | 2 => ("OneWindow", "kept", "LOneWindow$Village;", true)
  | 3 => ("OneWindow", "ahead", "LOneWindow$Village;", true)
  | 4 => ("OneWindow", "rays", "LOneWindow$Rays;", true)
  | 5 => ("OneWindow", "sheets", "[LOneWindow$Row;", true)
  | 6 => ("OneWindow", "bitsOfSheet", "[I", true)
  | 7 => ("OneWindow", "errors", "[I", true)
  | 8 => ("OneWindow", "images", "I", false)
  | 9 => ("OneWindow", "metOnNight", "[I", true)
  | 10 => ("OneWindow", "mostBehind", "[I", true)
  | 11 => ("OneWindow", "foundMirrors", "LOneWindow$Row;", true)
  | _ => ("OneWindow", "litWithMirror", "[J", true)
def ky11 : Nat → FieldType := fun k => match k with
  | 0 => .object "OneWindow$Row"
  | 1 => .object "OneWindow$Village"
  | 2 => .object "OneWindow$Village"
  | 3 => .object "OneWindow$Village"
  | 4 => .object "OneWindow$Rays"
  | 5 => .array (.object "OneWindow$Row")
  | 6 => .array .int
  | 7 => .array .int
  | 8 => .int
  | 9 => .array .int
  | 10 => .array .int
  | 11 => .object "OneWindow$Row"
  | _ => .array .long
theorem kn11 : ∀ a, a < 13 → ∀ b, b < 13 → a ≠ b → (kT11 a).2.1 ≠ (kT11 b).2.1 := by decide +kernel
theorem ko11 : ∀ k, k < 13 → parseFieldDescriptor (kT11 k).2.2.1 = some (ky11 k) := by decide +kernel
theorem ki11 : ∀ w ∈ u_ws kR11 kT11 13, w ∈ m_tbl := m_in0 (by decide +kernel)
def kR12 : String := "OneWindowModel"
def kT12 : u_T := fun k => match k with
  | 0 => ("OneWindowModel", "d", "[I", true)
  | 1 => ("OneWindowModel", "e", "[I", true)
  | 2 => ("OneWindowModel", "kept", "[I", true)
  | 3 => ("OneWindowModel", "images", "I", false)
  | 4 => ("OneWindowModel", "found", "[I", true)
  | 5 => ("OneWindowModel", "base", "I", false)
  | 6 => ("OneWindowModel", "at", "I", false)
  | 7 => ("OneWindowModel", "size", "I", false)
  | 8 => ("OneWindowModel", "fault", "I", false)
  | 9 => ("OneWindowModel", "opened", "I", false)
  | 10 => ("OneWindowModel", "isWant", "Z", false)
  | 11 => ("OneWindowModel", "names", "[I", true)
  | 12 => ("OneWindowModel", "code", "[I", true)
  | 13 => ("OneWindowModel", "coded", "I", false)
  | 14 => ("OneWindowModel", "pile", "[I", true)
  | 15 => ("OneWindowModel", "lights", "[I", true)
  | 16 => ("OneWindowModel", "metOn", "[I", true)
  | 17 => ("OneWindowModel", "mostOf", "[I", true)
  | 18 => ("OneWindowModel", "row", "[I", true)
  | 19 => ("OneWindowModel", "mirror", "[I", true)
  | 20 => ("OneWindowModel", "traced", "[I", true)
  | 21 => ("OneWindowModel", "traceMany", "I", false)
  | 22 => ("OneWindowModel", "who", "I", false)
  | 23 => ("OneWindowModel", "bitsOf", "[I", true)
  | 24 => ("OneWindowModel", "sizeOf", "[I", true)
  | 25 => ("OneWindowModel", "number", "[I", true)
  | _ => ("OneWindowModel", "lifted", "[I", true)
def ky12 : Nat → FieldType := fun k => match k with
  | 0 => .array .int
  | 1 => .array .int
  | 2 => .array .int
  | 3 => .int
  | 4 => .array .int
  | 5 => .int
  | 6 => .int
  | 7 => .int
  | 8 => .int
  | 9 => .int
  | 10 => .boolean
  | 11 => .array .int
  | 12 => .array .int
  | 13 => .int
  | 14 => .array .int
  | 15 => .array .int
  | 16 => .array .int
  | 17 => .array .int
  | 18 => .array .int
  | 19 => .array .int
  | 20 => .array .int
  | 21 => .int
  | 22 => .int
  | 23 => .array .int
  | 24 => .array .int
  | 25 => .array .int
  | _ => .array .int
theorem kn12 : ∀ a, a < 27 → ∀ b, b < 27 → a ≠ b → (kT12 a).2.1 ≠ (kT12 b).2.1 := by decide +kernel
theorem ko12 : ∀ k, k < 27 → parseFieldDescriptor (kT12 k).2.2.1 = some (ky12 k) := by decide +kernel
theorem ki12 : ∀ w ∈ u_ws kR12 kT12 27, w ∈ m_tbl := m_in0 (by decide +kernel)
def m_cl : List vw_C := [(kR0, kT0, 3), (kR1, kT1, 3), (kR2, kT2, 3), (kR3, kT3, 3), (kR4, kT4, 8), (kR5, kT5, 2), (kR6, kT6, 2), (kR7, kT7, 3), (kR8, kT8, 3), (kR9, kT9, 18), (kR10, kT10, 3), (kR11, kT11, 13), (kR12, kT12, 27)]
def m_ty : List (Nat → FieldType) := [ky0, ky1, ky2, ky3, ky4, ky5, ky6, ky7, ky8, ky9, ky10, ky11, ky12]
/-- what the tables say of each class -/
theorem m_cl_ok : ∀ (c : Nat) (r : vw_C), m_cl[c]? = some r → (∀ w ∈ u_ws r.1 r.2.1 r.2.2, w ∈ m_tbl) ∧ (∀ a, a < r.2.2 → ∀ b, b < r.2.2 → a ≠ b → (r.2.1 a).2.1 ≠ (r.2.1 b).2.1) ∧ ∃ ty0, m_ty[c]? = some ty0 ∧ ∀ k, k < r.2.2 → parseFieldDescriptor (r.2.1 k).2.2.1 = some (ty0 k)
  | 0, _, rfl => ⟨ki0, kn0, ky0, rfl, ko0⟩
  | 1, _, rfl => ⟨ki1, kn1, ky1, rfl, ko1⟩
  | 2, _, rfl => ⟨ki2, kn2, ky2, rfl, ko2⟩
  | 3, _, rfl => ⟨ki3, kn3, ky3, rfl, ko3⟩
  | 4, _, rfl => ⟨ki4, kn4, ky4, rfl, ko4⟩
  | 5, _, rfl => ⟨ki5, kn5, ky5, rfl, ko5⟩
  | 6, _, rfl => ⟨ki6, kn6, ky6, rfl, ko6⟩
  | 7, _, rfl => ⟨ki7, kn7, ky7, rfl, ko7⟩
  | 8, _, rfl => ⟨ki8, kn8, ky8, rfl, ko8⟩
  | 9, _, rfl => ⟨ki9, kn9, ky9, rfl, ko9⟩
  | 10, _, rfl => ⟨ki10, kn10, ky10, rfl, ko10⟩
  | 11, _, rfl => ⟨ki11, kn11, ky11, rfl, ko11⟩
  | 12, _, rfl => ⟨ki12, kn12, ky12, rfl, ko12⟩
  | n + 13, r, h => by simp [m_cl] at h
theorem m_good : ∀ w ∈ m_tbl, goodWord w = true := fun w hw => (List.mem_filter.mp hw).2
theorem m_goodIn {ws : List Cond} (h : ∀ w ∈ ws, w ∈ m_tbl) : GoodIn m_tbl ws := fun w hw => ⟨h w hw, good_of_word (m_good w (h w hw))⟩
