/-! ===== which operations are plain steps; the dead one (written by program) ===== -/
def opNone : mOp := fun _ _ _ _ => none
theorem no_opNone : m_no opNone := by
  intro d L S h r he
  cases he
theorem c_none {own : String} {cc : ByteArray} {nL : Nat} {ret : Option FieldType} {ini : Bool} {pcs : Nat → Nat} {j : Nat} : m_Cert own cc nL ret ini pcs j opNone := fun d L S h j' L' S' h' he => by cases he
theorem no_opPush (a0 : mAV) (a1 : Nat) : m_no (opPush a0 a1) := by
  intro d L S h r he
  unfold opPush at he
  repeat' split at he
  all_goals cases he
theorem no_opLdI (a0 : Nat) (a1 : Nat) : m_no (opLdI a0 a1) := by
  intro d L S h r he
  unfold opLdI at he
  repeat' split at he
  all_goals cases he
theorem no_opLdN (a0 : Nat) (a1 : Nat) : m_no (opLdN a0 a1) := by
  intro d L S h r he
  unfold opLdN at he
  repeat' split at he
  all_goals cases he
theorem no_opLdL (a0 : Nat) (a1 : Nat) : m_no (opLdL a0 a1) := by
  intro d L S h r he
  unfold opLdL at he
  repeat' split at he
  all_goals cases he
theorem no_opLdR (a0 : Nat) (a1 : Nat) : m_no (opLdR a0 a1) := by
  intro d L S h r he
  unfold opLdR at he
  repeat' split at he
  all_goals cases he
theorem no_opStI (a0 : Nat) (a1 : Nat) : m_no (opStI a0 a1) := by
  intro d L S h r he
  unfold opStI at he
  repeat' split at he
  all_goals cases he
theorem no_opStL (a0 : Nat) (a1 : Nat) : m_no (opStL a0 a1) := by
  intro d L S h r he
  unfold opStL at he
  repeat' split at he
  all_goals cases he
theorem no_opStR (a0 : Nat) (a1 : Nat) : m_no (opStR a0 a1) := by
  intro d L S h r he
  unfold opStR at he
  repeat' split at he
  all_goals cases he
theorem no_opInc (a0 : Nat) (a1 : Int) (a2 : Nat) : m_no (opInc a0 a1 a2) := by
  intro d L S h r he
  unfold opInc at he
  repeat' split at he
  all_goals cases he
theorem no_opUn (a0 : (Int → Int)) (a1 : Nat) : m_no (opUn a0 a1) := by
  intro d L S h r he
  unfold opUn at he
  repeat' split at he
  all_goals cases he
theorem no_opBin (a0 : (Int → Int → Int)) (a1 : Nat) : m_no (opBin a0 a1) := by
  intro d L S h r he
  unfold opBin at he
  repeat' split at he
  all_goals cases he
theorem no_opDiv (a0 : (Int → Int → Int)) (a1 : Nat) : m_no (opDiv a0 a1) := by
  intro d L S h r he
  unfold opDiv at he
  repeat' split at he
  all_goals cases he
theorem no_opBinL (a0 : (Int → Int → Int)) (a1 : Nat) : m_no (opBinL a0 a1) := by
  intro d L S h r he
  unfold opBinL at he
  repeat' split at he
  all_goals cases he
theorem no_opShL (a0 : (Int → Int → Int)) (a1 : Nat) : m_no (opShL a0 a1) := by
  intro d L S h r he
  unfold opShL at he
  repeat' split at he
  all_goals cases he
theorem no_opI2L (a0 : Nat) : m_no (opI2L a0) := by
  intro d L S h r he
  unfold opI2L at he
  repeat' split at he
  all_goals cases he
theorem no_opL2I (a0 : Nat) : m_no (opL2I a0) := by
  intro d L S h r he
  unfold opL2I at he
  repeat' split at he
  all_goals cases he
theorem no_opCmpL (a0 : Nat) : m_no (opCmpL a0) := by
  intro d L S h r he
  unfold opCmpL at he
  repeat' split at he
  all_goals cases he
theorem no_opDup (a0 : Nat) : m_no (opDup a0) := by
  intro d L S h r he
  unfold opDup at he
  repeat' split at he
  all_goals cases he
theorem no_opDup2 (a0 : Nat) : m_no (opDup2 a0) := by
  intro d L S h r he
  unfold opDup2 at he
  repeat' split at he
  all_goals cases he
theorem no_opPop (a0 : Nat) : m_no (opPop a0) := by
  intro d L S h r he
  unfold opPop at he
  repeat' split at he
  all_goals cases he
theorem no_opIf (a0 : (Int → Bool)) (a1 : Nat) (a2 : Nat) : m_no (opIf a0 a1 a2) := by
  intro d L S h r he
  unfold opIf at he
  repeat' split at he
  all_goals cases he
theorem no_opIfc (a0 : (Int → Int → Bool)) (a1 : Nat) (a2 : Nat) : m_no (opIfc a0 a1 a2) := by
  intro d L S h r he
  unfold opIfc at he
  repeat' split at he
  all_goals cases he
theorem no_opGo (a0 : Nat) : m_no (opGo a0) := by
  intro d L S h r he
  unfold opGo at he
  repeat' split at he
  all_goals cases he
theorem no_opSw (a0 : (Int → Nat)) : m_no (opSw a0) := by
  intro d L S h r he
  unfold opSw at he
  repeat' split at he
  all_goals cases he
theorem no_opGet (a0 : (List Nat)) (a1 : Nat) (a2 : Nat) : m_no (opGet a0 a1 a2) := by
  intro d L S h r he
  unfold opGet at he
  repeat' split at he
  all_goals cases he
theorem no_opPut (a0 : (List Nat)) (a1 : Nat) (a2 : Nat) (a3 : Nat) : m_no (opPut a0 a1 a2 a3) := by
  intro d L S h r he
  unfold opPut at he
  repeat' split at he
  all_goals cases he
theorem no_opALd (a0 : Nat) (a1 : Nat) : m_no (opALd a0 a1) := by
  intro d L S h r he
  unfold opALd at he
  repeat' split at he
  all_goals cases he
theorem no_opASt (a0 : Nat) : m_no (opASt a0) := by
  intro d L S h r he
  unfold opASt at he
  repeat' split at he
  all_goals cases he
theorem no_opAStL (a0 : Nat) : m_no (opAStL a0) := by
  intro d L S h r he
  unfold opAStL at he
  repeat' split at he
  all_goals cases he
theorem no_opRLd (a0 : Nat) (a1 : Nat) : m_no (opRLd a0 a1) := by
  intro d L S h r he
  unfold opRLd at he
  repeat' split at he
  all_goals cases he
theorem no_opRSt (a0 : Nat) (a1 : (List Nat)) (a2 : Nat) : m_no (opRSt a0 a1 a2) := by
  intro d L S h r he
  unfold opRSt at he
  repeat' split at he
  all_goals cases he
theorem no_opALen (a0 : Nat) : m_no (opALen a0) := by
  intro d L S h r he
  unfold opALen at he
  repeat' split at he
  all_goals cases he
theorem no_opNew (a0 : Nat) (a1 : (List mAV)) (a2 : Nat) : m_no (opNew a0 a1 a2) := by
  intro d L S h r he
  unfold opNew at he
  repeat' split at he
  all_goals cases he
theorem no_opNewA (a0 : Nat) (a1 : Nat) : m_no (opNewA a0 a1) := by
  intro d L S h r he
  unfold opNewA at he
  repeat' split at he
  all_goals cases he
theorem no_opNewR (a0 : Nat) (a1 : Nat) : m_no (opNewR a0 a1) := by
  intro d L S h r he
  unfold opNewR at he
  repeat' split at he
  all_goals cases he
theorem no_opCpy (a0 : Nat) : m_no (opCpy a0) := by
  intro d L S h r he
  unfold opCpy at he
  repeat' split at he
  all_goals cases he
theorem no_opStrV (a0 : Nat) : m_no (opStrV a0) := by
  intro d L S h r he
  unfold opStrV at he
  repeat' split at he
  all_goals cases he
theorem no_opStrC (a0 : Nat) : m_no (opStrC a0) := by
  intro d L S h r he
  unfold opStrC at he
  repeat' split at he
  all_goals cases he
theorem no_opStrL (a0 : Nat) : m_no (opStrL a0) := by
  intro d L S h r he
  unfold opStrL at he
  repeat' split at he
  all_goals cases he
theorem no_opStrB (a0 : Nat) : m_no (opStrB a0) := by
  intro d L S h r he
  unfold opStrB at he
  repeat' split at he
  all_goals cases he
theorem no_opScLen (a0 : Nat) : m_no (opScLen a0) := by
  intro d L S h r he
  unfold opScLen at he
  repeat' split at he
  all_goals cases he
theorem no_opScLd (a0 : Nat) : m_no (opScLd a0) := by
  intro d L S h r he
  unfold opScLd at he
  repeat' split at he
  all_goals cases he
theorem no_opObjI (a0 : Nat) : m_no (opObjI a0) := by
  intro d L S h r he
  unfold opObjI at he
  repeat' split at he
  all_goals cases he
theorem no_opM2 (a0 : (Int → Int → Int)) (a1 : Nat) : m_no (opM2 a0 a1) := by
  intro d L S h r he
  unfold opM2 at he
  repeat' split at he
  all_goals cases he
theorem mr10 : mRow 10 2 "OneWindow$Lamp" := fun _ => rfl
theorem mr11 : mRow 11 3 "OneWindow$Law" := fun _ => rfl
theorem mr12 : mRow 12 4 "OneWindow$Row" := fun _ => rfl
def mVallP (f : Nat → Nat → Prop) : List (Nat × Nat) → Prop
  | [] => True
  | q :: r => f q.1 q.2 ∧ mVallP f r
theorem mVall {f : Nat → Nat → Prop} : ∀ {tb : List (Nat × Nat)}, mVallP f tb → ∀ q ∈ tb, f q.1 q.2
  | [], _, q, hq => by cases hq
  | _ :: _, h, q, hq => by
    rcases List.mem_cons.mp hq with rfl | hq
    · exact h.1
    · exact mVall h.2 q hq
/-- operations j, j+1, .. -/
def m_AllL (f : Nat → mOp → Prop) : Nat → List mOp → Prop
  | _, [] => True
  | j, op :: r => f j op ∧ m_AllL f (j + 1) r
theorem m_AllL.get {f : Nat → mOp → Prop} : ∀ {k : Nat} {l : List mOp}, m_AllL f k l → ∀ (j : Nat) (op : mOp), l[j]? = some op → f (k + j) op
  | _, [], _, j, op, h => by simp at h
  | k, _ :: _, hl, 0, op, h => by cases h; exact hl.1
  | k, _ :: r, hl, j + 1, op, h => by
    have := m_AllL.get hl.2 j op (by simpa using h)
    rwa [show k + 1 + j = k + (j + 1) by omega] at this
/-- a code in rows of 32 -/
def m_rows {α : Type} (l : List (List α)) (j : Nat) : Option α := match l[j / 32]? with
  | some r => r[j % 32]?
  | none => none
theorem m_decL {cc : ByteArray} {l : List (Nat × Instr × Nat)} (h : ∀ q ∈ l, decode cc q.1 = .ok (q.2.1, q.2.2)) (j : Nat) (q : Nat × Instr × Nat) (hj : l[j]? = some q) : decode cc q.1 = .ok (q.2.1, q.2.2) := h q (List.mem_of_getElem? hj)
theorem m_rowsAll {f : Nat → mOp → Prop} {l : List (List mOp)} (h : ∀ (k : Nat) (r : List mOp), l[k]? = some r → m_AllL f (32 * k) r) (j : Nat) (op : mOp) (hj : m_rows l j = some op) : f j op := by
  unfold m_rows at hj
  split at hj
  · rename_i r hr
    have := (h _ _ hr).get _ _ hj
    rwa [show 32 * (j / 32) + j % 32 = j by omega] at this
  · cases hj
theorem kd0 : ∀ (E : mEnv) (j : Nat), j < 3 → defaultValue (ky0 j) = vp_V (([vi 0, vi 0, vr 0] : List mAV).map (m_v E)) j
  | _, 0, _ => rfl
  | _, 1, _ => rfl
  | _, 2, _ => rfl
  | _, n + 3, h => by omega
theorem kd1 : ∀ (E : mEnv) (j : Nat), j < 3 → defaultValue (ky1 j) = vp_V (([vi 0, vi 0, vr 0] : List mAV).map (m_v E)) j
  | _, 0, _ => rfl
  | _, 1, _ => rfl
  | _, 2, _ => rfl
  | _, n + 3, h => by omega
theorem kd2 : ∀ (E : mEnv) (j : Nat), j < 3 → defaultValue (ky2 j) = vp_V (([vi 0, vi 0, vr 0] : List mAV).map (m_v E)) j
  | _, 0, _ => rfl
  | _, 1, _ => rfl
  | _, 2, _ => rfl
  | _, n + 3, h => by omega
theorem kd3 : ∀ (E : mEnv) (j : Nat), j < 3 → defaultValue (ky3 j) = vp_V (([vi 0, vi 0, vr 0] : List mAV).map (m_v E)) j
  | _, 0, _ => rfl
  | _, 1, _ => rfl
  | _, 2, _ => rfl
  | _, n + 3, h => by omega
theorem kd4 : ∀ (E : mEnv) (j : Nat), j < 8 → defaultValue (ky4 j) = vp_V (([vi 0, vr 0, vr 0, vr 0, vr 0, vi 0, vi 0, vi 0] : List mAV).map (m_v E)) j
  | _, 0, _ => rfl
  | _, 1, _ => rfl
  | _, 2, _ => rfl
  | _, 3, _ => rfl
  | _, 4, _ => rfl
  | _, 5, _ => rfl
  | _, 6, _ => rfl
  | _, 7, _ => rfl
  | _, n + 8, h => by omega
theorem kd5 : ∀ (E : mEnv) (j : Nat), j < 2 → defaultValue (ky5 j) = vp_V (([vr 0, vr 0] : List mAV).map (m_v E)) j
  | _, 0, _ => rfl
  | _, 1, _ => rfl
  | _, n + 2, h => by omega
theorem kd6 : ∀ (E : mEnv) (j : Nat), j < 2 → defaultValue (ky6 j) = vp_V (([vr 0, vi 0] : List mAV).map (m_v E)) j
  | _, 0, _ => rfl
  | _, 1, _ => rfl
  | _, n + 2, h => by omega
theorem kd7 : ∀ (E : mEnv) (j : Nat), j < 3 → defaultValue (ky7 j) = vp_V (([vi 0, vi 0, vr 0] : List mAV).map (m_v E)) j
  | _, 0, _ => rfl
  | _, 1, _ => rfl
  | _, 2, _ => rfl
  | _, n + 3, h => by omega
theorem kd8 : ∀ (E : mEnv) (j : Nat), j < 3 → defaultValue (ky8 j) = vp_V (([vi 0, vi 0, vr 0] : List mAV).map (m_v E)) j
  | _, 0, _ => rfl
  | _, 1, _ => rfl
  | _, 2, _ => rfl
  | _, n + 3, h => by omega
theorem kd9 : ∀ (E : mEnv) (j : Nat), j < 18 → defaultValue (ky9 j) = vp_V (([vr 0, vi 0, vi 0, vi 0, vi 0, vi 0, vr 0, vr 0, vr 0, vi 0, vr 0, vr 0, vr 0, vr 0, vr 0, vr 0, vr 0, vr 0] : List mAV).map (m_v E)) j
  | _, 0, _ => rfl
  | _, 1, _ => rfl
  | _, 2, _ => rfl
  | _, 3, _ => rfl
  | _, 4, _ => rfl
  | _, 5, _ => rfl
  | _, 6, _ => rfl
  | _, 7, _ => rfl
  | _, 8, _ => rfl
  | _, 9, _ => rfl
  | _, 10, _ => rfl
  | _, 11, _ => rfl
  | _, 12, _ => rfl
  | _, 13, _ => rfl
  | _, 14, _ => rfl
  | _, 15, _ => rfl
  | _, 16, _ => rfl
  | _, 17, _ => rfl
  | _, n + 18, h => by omega
theorem kd10 : ∀ (E : mEnv) (j : Nat), j < 3 → defaultValue (ky10 j) = vp_V (([vi 0, vi 0, vr 0] : List mAV).map (m_v E)) j
  | _, 0, _ => rfl
  | _, 1, _ => rfl
  | _, 2, _ => rfl
  | _, n + 3, h => by omega
theorem kd11 : ∀ (E : mEnv) (j : Nat), j < 13 → defaultValue (ky11 j) = vp_V (([vr 0, vr 0, vr 0, vr 0, vr 0, vr 0, vr 0, vr 0, vi 0, vr 0, vr 0, vr 0, vr 0] : List mAV).map (m_v E)) j
  | _, 0, _ => rfl
  | _, 1, _ => rfl
  | _, 2, _ => rfl
  | _, 3, _ => rfl
  | _, 4, _ => rfl
  | _, 5, _ => rfl
  | _, 6, _ => rfl
  | _, 7, _ => rfl
  | _, 8, _ => rfl
  | _, 9, _ => rfl
  | _, 10, _ => rfl
  | _, 11, _ => rfl
  | _, 12, _ => rfl
  | _, n + 13, h => by omega
theorem kd12 : ∀ (E : mEnv) (j : Nat), j < 27 → defaultValue (ky12 j) = vp_V (([vr 0, vr 0, vr 0, vi 0, vr 0, vi 0, vi 0, vi 0, vi 0, vi 0, vi 0, vr 0, vr 0, vi 0, vr 0, vr 0, vr 0, vr 0, vr 0, vr 0, vr 0, vi 0, vi 0, vr 0, vr 0, vr 0, vr 0] : List mAV).map (m_v E)) j
  | _, 0, _ => rfl
  | _, 1, _ => rfl
  | _, 2, _ => rfl
  | _, 3, _ => rfl
  | _, 4, _ => rfl
  | _, 5, _ => rfl
  | _, 6, _ => rfl
  | _, 7, _ => rfl
  | _, 8, _ => rfl
  | _, 9, _ => rfl
  | _, 10, _ => rfl
  | _, 11, _ => rfl
  | _, 12, _ => rfl
  | _, 13, _ => rfl
  | _, 14, _ => rfl
  | _, 15, _ => rfl
  | _, 16, _ => rfl
  | _, 17, _ => rfl
  | _, 18, _ => rfl
  | _, 19, _ => rfl
  | _, 20, _ => rfl
  | _, 21, _ => rfl
  | _, 22, _ => rfl
  | _, 23, _ => rfl
  | _, 24, _ => rfl
  | _, 25, _ => rfl
  | _, 26, _ => rfl
  | _, n + 27, h => by omega
