/-! ===== certificates: locals, arithmetic, jumps (written by program) ===== -/
theorem m_F.at {E : mEnv} {L : mL} {ls : Array Slot} (hF : m_F E L ls) {i : Nat} {v : mAV} (h : L[i]? = some (some v)) : ls[i]? = some (.val (m_v E v)) := by
  obtain ⟨lv, h1, h2⟩ := hF
  exact h1.2.2 _ (h2 i v h)
theorem m_cat (E : mEnv) (v : mAV) : (m_v E v).category = mW v := by
  match v with
  | .inl x => rfl
  | .inr (.inl x) => rfl
  | .inr (.inr a) =>
    simp only [m_v, mW]
    split <;> rfl
theorem m_cat1 (E : mEnv) {v : mAV} (h : mTag v ≠ 1) : (m_v E v).category = 1 := by
  rw [m_cat]
  match v with
  | .inl x => rfl
  | .inr (.inl x) => exact absurd rfl h
  | .inr (.inr a) => rfl
theorem m_setLen (L : mL) (i : Nat) (v : mAV) : (mSet L i v).length = L.length := by
  unfold mSet
  split <;> simp
theorem m_F.st1 {E : mEnv} {L : mL} {ls' : Array Slot} {i : Nat} {v : mAV} {lv : List (Nat × Value)} (hF : lv_has ls' L.length ((i, m_v E v) :: lv.filter (fun q => !(q.1 == i) && !(q.1 + 1 == i && q.2.category == 2))))
    (hl : ∀ (i : Nat) (v : mAV), L[i]? = some (some v) → (i, m_v E v) ∈ lv) (ht : mTag v ≠ 1) (hok : mStOk L i (mTag v) = true) : m_F E (mSet L i v) ls' := by
  refine ⟨_, by rw [m_setLen]; exact hF, fun k w hk => ?_⟩
  unfold mSet at hk
  rw [if_neg ht] at hk
  by_cases hki : k = i
  · subst hki
    have hkl : k < L.length := by
      have := (List.getElem?_eq_some_iff.mp hk).1
      rwa [List.length_set] at this
    rw [List.getElem?_set_self hkl] at hk
    cases hk
    exact List.mem_cons_self
  · rw [List.getElem?_set_ne (Ne.symm hki)] at hk
    refine List.mem_cons_of_mem _ (List.mem_filter.mpr ⟨hl k w hk, ?_⟩)
    have h1 : (k == i) = false := by simp [hki]
    simp only [h1, Bool.not_false, Bool.true_and, Bool.not_eq_true', Bool.and_eq_false_iff]
    by_cases h2 : k + 1 = i
    · right
      subst h2
      unfold mStOk at hok
      simp only [Bool.and_eq_true] at hok
      have h3 := hok.2
      rw [hk] at h3
      have h4 : mTag w ≠ 1 := by simpa [mNotLong] using h3
      rw [m_cat1 E h4]; rfl
    · left; simp [h2]
theorem m_F.st2 {E : mEnv} {L : mL} {ls' : Array Slot} {i : Nat} {x : Int} {lv : List (Nat × Value)} (hF : lv_has ls' L.length ((i, m_v E (vl x)) :: lv.filter (fun q => !(q.1 == i) && (!(q.1 == i + 1) && !(q.1 + 1 == i && q.2.category == 2)))))
    (hl : ∀ (i : Nat) (v : mAV), L[i]? = some (some v) → (i, m_v E v) ∈ lv) (hok : mStOk L i 1 = true) : m_F E (mSet L i (vl x)) ls' := by
  refine ⟨_, by rw [m_setLen]; exact hF, fun k w hk => ?_⟩
  unfold mSet at hk
  rw [if_pos (show mTag (vl x) = 1 from rfl)] at hk
  by_cases hk1 : k = i + 1
  · subst hk1
    have hkl := (List.getElem?_eq_some_iff.mp hk).1
    rw [List.length_set] at hkl
    rw [List.getElem?_set_self hkl] at hk
    cases hk
  · rw [List.getElem?_set_ne (Ne.symm hk1)] at hk
    by_cases hki : k = i
    · subst hki
      have hkl : k < L.length := by
        have := (List.getElem?_eq_some_iff.mp hk).1
        rwa [List.length_set] at this
      rw [List.getElem?_set_self hkl] at hk
      cases hk
      exact List.mem_cons_self
    · rw [List.getElem?_set_ne (Ne.symm hki)] at hk
      refine List.mem_cons_of_mem _ (List.mem_filter.mpr ⟨hl k w hk, ?_⟩)
      have h1 : (k == i) = false := by simp [hki]
      have h0 : (k == i + 1) = false := by simp [hk1]
      simp only [h1, h0, Bool.not_false, Bool.true_and, Bool.not_eq_true', Bool.and_eq_false_iff]
      by_cases h2 : k + 1 = i
      · right
        subst h2
        unfold mStOk at hok
        simp only [Bool.and_eq_true] at hok
        have h3 := hok.2
        rw [hk] at h3
        have h4 : mTag w ≠ 1 := by simpa [mNotLong] using h3
        rw [m_cat1 E h4]; rfl
      · left; simp [h2]
section OPS2
variable {own : String} {cc : ByteArray} {nL : Nat} {ret : Option FieldType} {ini : Bool} {pcs : Nat → Nat} {j : Nat}
theorem c_iload_n {k0 : Fin 4} {i nx pc : Nat} (hp : pcs j = pc) (hn : pcs nx = pc + 1) (hi : k0.val = i) (hd : decode cc pc = .ok (.iload_n k0, 1)) : m_Cert own cc nL ret ini pcs j (opLdI i nx) := by
  refine c_pure fun d L S h j' L' S' h' he => ?_
  unfold opLdI at he
  split at he
  · rename_i x hx
    cases he
    refine ⟨rfl, rfl, fun p l e R s m args below meth c Q E h0 H locs ls cells slots hX hF k => ?_⟩
    rw [hp]; rw [hn] at k
    exact lv_iload_n hX.1 hX.2.1 hd hi (hF.at hx) k
  · cases he
theorem c_iload {i nx pc : Nat} (hp : pcs j = pc) (hn : pcs nx = pc + 2) (hd : decode cc pc = .ok (.iload i, 2)) : m_Cert own cc nL ret ini pcs j (opLdI i nx) := by
  refine c_pure fun d L S h j' L' S' h' he => ?_
  unfold opLdI at he
  split at he
  · rename_i x hx
    cases he
    refine ⟨rfl, rfl, fun p l e R s m args below meth c Q E h0 H locs ls cells slots hX hF k => ?_⟩
    rw [hp]; rw [hn] at k
    exact lv_iload hX.1 hX.2.1 hd (hF.at hx) k
  · cases he
theorem c_lload_n {k0 : Fin 4} {i nx pc : Nat} (hp : pcs j = pc) (hn : pcs nx = pc + 1) (hi : k0.val = i) (hd : decode cc pc = .ok (.lload_n k0, 1)) : m_Cert own cc nL ret ini pcs j (opLdL i nx) := by
  refine c_pure fun d L S h j' L' S' h' he => ?_
  unfold opLdL at he
  split at he
  · rename_i x hx
    cases he
    refine ⟨rfl, rfl, fun p l e R s m args below meth c Q E h0 H locs ls cells slots hX hF k => ?_⟩
    rw [hp]; rw [hn] at k
    exact lv_lload_n hX.1 hX.2.1 hd hi (hF.at hx) k
  · cases he
theorem c_lload {i nx pc : Nat} (hp : pcs j = pc) (hn : pcs nx = pc + 2) (hd : decode cc pc = .ok (.lload i, 2)) : m_Cert own cc nL ret ini pcs j (opLdL i nx) := by
  refine c_pure fun d L S h j' L' S' h' he => ?_
  unfold opLdL at he
  split at he
  · rename_i x hx
    cases he
    refine ⟨rfl, rfl, fun p l e R s m args below meth c Q E h0 H locs ls cells slots hX hF k => ?_⟩
    rw [hp]; rw [hn] at k
    exact lv_lload hX.1 hX.2.1 hd (hF.at hx) k
  · cases he
theorem c_aload_n {k0 : Fin 4} {i nx pc : Nat} (hp : pcs j = pc) (hn : pcs nx = pc + 1) (hi : k0.val = i) (hd : decode cc pc = .ok (.aload_n k0, 1)) : m_Cert own cc nL ret ini pcs j (opLdR i nx) := by
  refine c_pure fun d L S h j' L' S' h' he => ?_
  unfold opLdR at he
  split at he
  · rename_i x hx
    cases he
    refine ⟨rfl, rfl, fun p l e R s m args below meth c Q E h0 H locs ls cells slots hX hF k => ?_⟩
    rw [hp]; rw [hn] at k
    exact lv_aload_n hX.1 hX.2.1 hd hi (hF.at hx) k
  · cases he
theorem c_aload {i nx pc : Nat} (hp : pcs j = pc) (hn : pcs nx = pc + 2) (hd : decode cc pc = .ok (.aload i, 2)) : m_Cert own cc nL ret ini pcs j (opLdR i nx) := by
  refine c_pure fun d L S h j' L' S' h' he => ?_
  unfold opLdR at he
  split at he
  · rename_i x hx
    cases he
    refine ⟨rfl, rfl, fun p l e R s m args below meth c Q E h0 H locs ls cells slots hX hF k => ?_⟩
    rw [hp]; rw [hn] at k
    exact lv_aload hX.1 hX.2.1 hd (hF.at hx) k
  · cases he
theorem c_iloadN_n {k0 : Fin 4} {i nx pc : Nat} (hp : pcs j = pc) (hn : pcs nx = pc + 1) (hi : k0.val = i) (hd : decode cc pc = .ok (.iload_n k0, 1)) : m_Cert own cc nL ret ini pcs j (opLdN i nx) := by
  refine c_pure fun d L S h j' L' S' h' he => ?_
  unfold opLdN at he
  split at he
  · rename_i x hx
    cases he
    refine ⟨rfl, rfl, fun p l e R s m args below meth c Q E h0 H locs ls cells slots hX hF k => ?_⟩
    rw [hp]; rw [hn] at k
    have e1 : m_v E (.inl (w32 x)) = m_v E (.inl x) := congrArg Value.int (Int32.ofInt_toInt _)
    exact lv_iload_n hX.1 hX.2.1 hd hi (by first | (rw [show Int32.ofInt (w32 x) = Int32.ofInt x from Int32.ofInt_toInt _]; exact hF.at hx) | exact (hF.at hx).trans (congrArg some e1.symm)) k
  · cases he
theorem c_istore_n {k0 : Fin 4} {i nx pc : Nat} (hp : pcs j = pc) (hn : pcs nx = pc + 1) (hi : k0.val = i) (hd : decode cc pc = .ok (.istore_n k0, 1)) : m_Cert own cc nL ret ini pcs j (opStI i nx) := by
  intro d L S h j' L' S' h' he
  unfold opStI at he
  split at he
  · rename_i x S1
    split at he
    · rename_i hok
      cases he
      refine ⟨⟨Nat.le_refl _, Nat.le_refl _, m_setLen _ _ _⟩, ?_⟩
      intro p l e R s m args below meth c Q E h0 hX hL h1 h2 h3 h4 hgo H locs ls hW hS hF
      obtain ⟨lv, hv1, hv2⟩ := hF
      rw [hp]
      have hlt : i < L.length := by
        have := hok
        unfold mStOk at this
        simp only [Bool.and_eq_true] at this
        simpa using this.1
      refine lv_istore_n hX.1 hX.2.1 hd hi hv1 hlt rfl fun ls' hl' => ?_
      have := hgo H locs ls' hW hS (m_F.st1 hl' hv2 (by show (0 : Nat) ≠ 1; decide) hok)
      rw [hn] at this
      exact this
    · cases he
  · cases he
theorem c_istore {i nx pc : Nat} (hp : pcs j = pc) (hn : pcs nx = pc + 2) (hd : decode cc pc = .ok (.istore i, 2)) : m_Cert own cc nL ret ini pcs j (opStI i nx) := by
  intro d L S h j' L' S' h' he
  unfold opStI at he
  split at he
  · rename_i x S1
    split at he
    · rename_i hok
      cases he
      refine ⟨⟨Nat.le_refl _, Nat.le_refl _, m_setLen _ _ _⟩, ?_⟩
      intro p l e R s m args below meth c Q E h0 hX hL h1 h2 h3 h4 hgo H locs ls hW hS hF
      obtain ⟨lv, hv1, hv2⟩ := hF
      rw [hp]
      have hlt : i < L.length := by
        have := hok
        unfold mStOk at this
        simp only [Bool.and_eq_true] at this
        simpa using this.1
      refine lv_istore hX.1 hX.2.1 hd hv1 hlt rfl fun ls' hl' => ?_
      have := hgo H locs ls' hW hS (m_F.st1 hl' hv2 (by show (0 : Nat) ≠ 1; decide) hok)
      rw [hn] at this
      exact this
    · cases he
  · cases he
theorem c_lstore_n {k0 : Fin 4} {i nx pc : Nat} (hp : pcs j = pc) (hn : pcs nx = pc + 1) (hi : k0.val = i) (hd : decode cc pc = .ok (.lstore_n k0, 1)) : m_Cert own cc nL ret ini pcs j (opStL i nx) := by
  intro d L S h j' L' S' h' he
  unfold opStL at he
  split at he
  · rename_i x S1
    split at he
    · rename_i hok
      cases he
      refine ⟨⟨Nat.le_refl _, Nat.le_refl _, m_setLen _ _ _⟩, ?_⟩
      intro p l e R s m args below meth c Q E h0 hX hL h1 h2 h3 h4 hgo H locs ls hW hS hF
      obtain ⟨lv, hv1, hv2⟩ := hF
      rw [hp]
      have hlt : i + 1 < L.length := by
        have := hok
        unfold mStOk at this
        simp only [Bool.and_eq_true] at this
        simpa using this.1
      refine lv_lstore_n hX.1 hX.2.1 hd hi hv1 hlt rfl fun ls' hl' => ?_
      have := hgo H locs ls' hW hS (m_F.st2 hl' hv2 hok)
      rw [hn] at this
      exact this
    · cases he
  · cases he
theorem c_lstore {i nx pc : Nat} (hp : pcs j = pc) (hn : pcs nx = pc + 2) (hd : decode cc pc = .ok (.lstore i, 2)) : m_Cert own cc nL ret ini pcs j (opStL i nx) := by
  intro d L S h j' L' S' h' he
  unfold opStL at he
  split at he
  · rename_i x S1
    split at he
    · rename_i hok
      cases he
      refine ⟨⟨Nat.le_refl _, Nat.le_refl _, m_setLen _ _ _⟩, ?_⟩
      intro p l e R s m args below meth c Q E h0 hX hL h1 h2 h3 h4 hgo H locs ls hW hS hF
      obtain ⟨lv, hv1, hv2⟩ := hF
      rw [hp]
      have hlt : i + 1 < L.length := by
        have := hok
        unfold mStOk at this
        simp only [Bool.and_eq_true] at this
        simpa using this.1
      refine lv_lstore hX.1 hX.2.1 hd hv1 hlt rfl fun ls' hl' => ?_
      have := hgo H locs ls' hW hS (m_F.st2 hl' hv2 hok)
      rw [hn] at this
      exact this
    · cases he
  · cases he
theorem c_astore_n {k0 : Fin 4} {i nx pc : Nat} (hp : pcs j = pc) (hn : pcs nx = pc + 1) (hi : k0.val = i) (hd : decode cc pc = .ok (.astore_n k0, 1)) : m_Cert own cc nL ret ini pcs j (opStR i nx) := by
  intro d L S h j' L' S' h' he
  unfold opStR at he
  split at he
  · rename_i x S1
    split at he
    · rename_i hok
      cases he
      refine ⟨⟨Nat.le_refl _, Nat.le_refl _, m_setLen _ _ _⟩, ?_⟩
      intro p l e R s m args below meth c Q E h0 hX hL h1 h2 h3 h4 hgo H locs ls hW hS hF
      obtain ⟨lv, hv1, hv2⟩ := hF
      rw [hp]
      have hlt : i < L.length := by
        have := hok
        unfold mStOk at this
        simp only [Bool.and_eq_true] at this
        simpa using this.1
      refine lv_astore_n hX.1 hX.2.1 hd hi hv1 hlt rfl fun ls' hl' => ?_
      have := hgo H locs ls' hW hS (m_F.st1 hl' hv2 (by show (2 : Nat) ≠ 1; decide) hok)
      rw [hn] at this
      exact this
    · cases he
  · cases he
theorem c_astore {i nx pc : Nat} (hp : pcs j = pc) (hn : pcs nx = pc + 2) (hd : decode cc pc = .ok (.astore i, 2)) : m_Cert own cc nL ret ini pcs j (opStR i nx) := by
  intro d L S h j' L' S' h' he
  unfold opStR at he
  split at he
  · rename_i x S1
    split at he
    · rename_i hok
      cases he
      refine ⟨⟨Nat.le_refl _, Nat.le_refl _, m_setLen _ _ _⟩, ?_⟩
      intro p l e R s m args below meth c Q E h0 hX hL h1 h2 h3 h4 hgo H locs ls hW hS hF
      obtain ⟨lv, hv1, hv2⟩ := hF
      rw [hp]
      have hlt : i < L.length := by
        have := hok
        unfold mStOk at this
        simp only [Bool.and_eq_true] at this
        simpa using this.1
      refine lv_astore hX.1 hX.2.1 hd hv1 hlt rfl fun ls' hl' => ?_
      have := hgo H locs ls' hW hS (m_F.st1 hl' hv2 (by show (2 : Nat) ≠ 1; decide) hok)
      rw [hn] at this
      exact this
    · cases he
  · cases he
theorem c_iinc {i nx pc : Nat} {n : Int} (hp : pcs j = pc) (hn : pcs nx = pc + 3) (hd : decode cc pc = .ok (.iinc i n, 3)) : m_Cert own cc nL ret ini pcs j (opInc i n nx) := by
  intro d L S h j' L' S' h' he
  unfold opInc at he
  split at he
  · rename_i x hx
    split at he
    · rename_i hok
      cases he
      refine ⟨⟨Nat.le_refl _, Nat.le_refl _, m_setLen _ _ _⟩, ?_⟩
      intro p l e R s m args below meth c Q E h0 hX hL h1 h2 h3 h4 hgo H locs ls hW hS hF
      obtain ⟨lv, hv1, hv2⟩ := hF
      rw [hp]
      have hlt : i < L.length := by
        have := hok
        unfold mStOk at this
        simp only [Bool.and_eq_true] at this
        simpa using this.1
      obtain ⟨q, hq⟩ := List.getElem?_of_mem (hv2 i _ hx)
      refine lv_iinc (v := Int32.ofInt (x + n)) hX.1 hX.2.1 hd hv1 hq (by rw [Int32.ofInt_add]) hlt rfl fun ls' hl' => ?_
      have := hgo H locs ls' hW hS (m_F.st1 (v := .inl (x + n)) hl' hv2 (by show (0 : Nat) ≠ 1; decide) hok)
      rw [hn] at this
      exact this
    · cases he
  · cases he
end OPS2
def m_and (x y : Int) : Int := (Int32.ofInt x &&& Int32.ofInt y).toInt
def m_or (x y : Int) : Int := (Int32.ofInt x ||| Int32.ofInt y).toInt
def m_xor (x y : Int) : Int := (Int32.ofInt x ^^^ Int32.ofInt y).toInt
def m_shl (x y : Int) : Int := (Int32.ofInt x <<< (Int32.ofInt y &&& 31)).toInt
def m_shr (x y : Int) : Int := (Int32.ofInt x >>> (Int32.ofInt y &&& 31)).toInt
def m_ushr (x y : Int) : Int := ((Int32.ofInt x).toUInt32 >>> ((Int32.ofInt y).toUInt32 &&& Int32.toUInt32 31)).toInt32.toInt
def m_div (x y : Int) : Int := (Int32.ofInt x / Int32.ofInt y).toInt
def m_rem (x y : Int) : Int := (Int32.ofInt x - Int32.ofInt x / Int32.ofInt y * Int32.ofInt y).toInt
def m_add (x y : Int) : Int := x + y
def m_sub (x y : Int) : Int := x - y
def m_mul (x y : Int) : Int := x * y
def m_neg (x : Int) : Int := -x
def m_i2b (x : Int) : Int := (Int32.ofInt x).toInt8.toInt32.toInt
def m_i2s (x : Int) : Int := (Int32.ofInt x).toInt16.toInt32.toInt
def m_i2c (x : Int) : Int := ((Int32.ofInt x).toUInt32 % 65536).toInt32.toInt
def m_land (x y : Int) : Int := (Int64.ofInt x &&& Int64.ofInt y).toInt
def m_lor (x y : Int) : Int := (Int64.ofInt x ||| Int64.ofInt y).toInt
def m_lshl (x y : Int) : Int := (Int64.ofInt x <<< ((Int32.ofInt y).toInt64 &&& 63)).toInt
def m_lshr (x y : Int) : Int := (Int64.ofInt x >>> ((Int32.ofInt y).toInt64 &&& 63)).toInt
def m_lushr (x y : Int) : Int := ((Int64.ofInt x).toUInt64 >>> ((Int32.ofInt y).toInt64.toUInt64 &&& Int64.toUInt64 63)).toInt64.toInt
def jEq0 (x : Int) : Bool := decide (x = 0)
def jNe0 (x : Int) : Bool := decide (¬ x = 0)
def jLt0 (x : Int) : Bool := decide (x < 0)
def jGe0 (x : Int) : Bool := decide (0 ≤ x)
def jGt0 (x : Int) : Bool := decide (0 < x)
def jLe0 (x : Int) : Bool := decide (x ≤ 0)
def jEq (x y : Int) : Bool := decide (x = y)
def jNe (x y : Int) : Bool := decide (¬ x = y)
def jLt (x y : Int) : Bool := decide (x < y)
def jGe (x y : Int) : Bool := decide (y ≤ x)
def jGt (x y : Int) : Bool := decide (y < x)
def jLe (x y : Int) : Bool := decide (x ≤ y)
def mSwT (lo : Int) (tg : List Nat) (df : Nat) (x : Int) : Nat := if x < lo then df else (tg[(x - lo).toNat]?).getD df
def mSwL : List (Int × Nat) → Nat → Int → Nat
  | [], df, _ => df
  | (a, t) :: r, df, x => if a = x then t else mSwL r df x
theorem m_lt {x y : Int} : Int32.ofInt x < Int32.ofInt y ↔ w32 x < w32 y := Int32.lt_iff_toInt_lt
theorem m_le {x y : Int} : Int32.ofInt x ≤ Int32.ofInt y ↔ w32 x ≤ w32 y := Int32.le_iff_toInt_le
theorem m_eq {x y : Int} : Int32.ofInt x = Int32.ofInt y ↔ w32 x = w32 y := Int32.toInt_inj.symm
theorem m_lt0 {x : Int} : Int32.ofInt x < 0 ↔ w32 x < 0 := Int32.lt_iff_toInt_lt
theorem m_gt0 {x : Int} : 0 < Int32.ofInt x ↔ 0 < w32 x := Int32.lt_iff_toInt_lt
theorem m_le0 {x : Int} : Int32.ofInt x ≤ 0 ↔ w32 x ≤ 0 := Int32.le_iff_toInt_le
theorem m_ge0 {x : Int} : 0 ≤ Int32.ofInt x ↔ 0 ≤ w32 x := Int32.le_iff_toInt_le
theorem m_eq0 {x : Int} : Int32.ofInt x = 0 ↔ w32 x = 0 := Int32.toInt_inj.symm
theorem m_lcmp (x y : Int) : lg_cmp (Int64.ofInt x) (Int64.ofInt y) = Int32.ofInt (mCmp x y) := by
  unfold lg_cmp mCmp w64
  simp only [gt_iff_lt, Int64.lt_iff_toInt_lt, ← Int64.toInt_inj]
  by_cases h1 : (Int64.ofInt y).toInt < (Int64.ofInt x).toInt
  · rw [if_pos h1, if_pos h1]; rfl
  · rw [if_neg h1, if_neg h1]
    by_cases h2 : (Int64.ofInt x).toInt = (Int64.ofInt y).toInt
    · rw [if_pos h2, if_pos h2]; rfl
    · rw [if_neg h2, if_neg h2]; rfl
section OPS3
variable {own : String} {cc : ByteArray} {nL : Nat} {ret : Option FieldType} {ini : Bool} {pcs : Nat → Nat} {j : Nat}
theorem c_iadd {nx pc : Nat} (hp : pcs j = pc) (hn : pcs nx = pc + 1) (hd : decode cc pc = .ok (.iadd, 1)) : m_Cert own cc nL ret ini pcs j (opBin m_add nx) := by
  refine c_pure fun d L S h j' L' S' h' he => ?_
  unfold opBin at he
  split at he
  · rename_i y x S1
    cases he
    refine ⟨rfl, rfl, fun p l e R s m args below meth c Q E h0 H locs ls cells slots hX hF k => ?_⟩
    rw [hp]; rw [hn] at k
    refine lv_iadd hX.1 hX.2.1 hd ?_
    have e1 := (show Int32.ofInt (m_add x y) = _ from Int32.ofInt_add x y)
    rw [← e1]
    exact k
  · cases he
theorem c_isub {nx pc : Nat} (hp : pcs j = pc) (hn : pcs nx = pc + 1) (hd : decode cc pc = .ok (.isub, 1)) : m_Cert own cc nL ret ini pcs j (opBin m_sub nx) := by
  refine c_pure fun d L S h j' L' S' h' he => ?_
  unfold opBin at he
  split at he
  · rename_i y x S1
    cases he
    refine ⟨rfl, rfl, fun p l e R s m args below meth c Q E h0 H locs ls cells slots hX hF k => ?_⟩
    rw [hp]; rw [hn] at k
    refine lv_isub hX.1 hX.2.1 hd ?_
    have e1 := (show Int32.ofInt (m_sub x y) = _ from Int32.ofInt_sub x y)
    rw [← e1]
    exact k
  · cases he
theorem c_imul {nx pc : Nat} (hp : pcs j = pc) (hn : pcs nx = pc + 1) (hd : decode cc pc = .ok (.imul, 1)) : m_Cert own cc nL ret ini pcs j (opBin m_mul nx) := by
  refine c_pure fun d L S h j' L' S' h' he => ?_
  unfold opBin at he
  split at he
  · rename_i y x S1
    cases he
    refine ⟨rfl, rfl, fun p l e R s m args below meth c Q E h0 H locs ls cells slots hX hF k => ?_⟩
    rw [hp]; rw [hn] at k
    refine lv_imul hX.1 hX.2.1 hd ?_
    have e1 := (show Int32.ofInt (m_mul x y) = _ from Int32.ofInt_mul x y)
    rw [← e1]
    exact k
  · cases he
theorem c_iand {nx pc : Nat} (hp : pcs j = pc) (hn : pcs nx = pc + 1) (hd : decode cc pc = .ok (.iand, 1)) : m_Cert own cc nL ret ini pcs j (opBin m_and nx) := by
  refine c_pure fun d L S h j' L' S' h' he => ?_
  unfold opBin at he
  split at he
  · rename_i y x S1
    cases he
    refine ⟨rfl, rfl, fun p l e R s m args below meth c Q E h0 H locs ls cells slots hX hF k => ?_⟩
    rw [hp]; rw [hn] at k
    refine lv_iand hX.1 hX.2.1 hd ?_
    have e1 := (show Int32.ofInt (m_and x y) = _ from Int32.ofInt_toInt _)
    rw [← e1]
    exact k
  · cases he
theorem c_ior {nx pc : Nat} (hp : pcs j = pc) (hn : pcs nx = pc + 1) (hd : decode cc pc = .ok (.ior, 1)) : m_Cert own cc nL ret ini pcs j (opBin m_or nx) := by
  refine c_pure fun d L S h j' L' S' h' he => ?_
  unfold opBin at he
  split at he
  · rename_i y x S1
    cases he
    refine ⟨rfl, rfl, fun p l e R s m args below meth c Q E h0 H locs ls cells slots hX hF k => ?_⟩
    rw [hp]; rw [hn] at k
    refine lv_ior hX.1 hX.2.1 hd ?_
    have e1 := (show Int32.ofInt (m_or x y) = _ from Int32.ofInt_toInt _)
    rw [← e1]
    exact k
  · cases he
theorem c_ixor {nx pc : Nat} (hp : pcs j = pc) (hn : pcs nx = pc + 1) (hd : decode cc pc = .ok (.ixor, 1)) : m_Cert own cc nL ret ini pcs j (opBin m_xor nx) := by
  refine c_pure fun d L S h j' L' S' h' he => ?_
  unfold opBin at he
  split at he
  · rename_i y x S1
    cases he
    refine ⟨rfl, rfl, fun p l e R s m args below meth c Q E h0 H locs ls cells slots hX hF k => ?_⟩
    rw [hp]; rw [hn] at k
    refine lv_ixor hX.1 hX.2.1 hd ?_
    have e1 := (show Int32.ofInt (m_xor x y) = _ from Int32.ofInt_toInt _)
    rw [← e1]
    exact k
  · cases he
theorem c_ishl {nx pc : Nat} (hp : pcs j = pc) (hn : pcs nx = pc + 1) (hd : decode cc pc = .ok (.ishl, 1)) : m_Cert own cc nL ret ini pcs j (opBin m_shl nx) := by
  refine c_pure fun d L S h j' L' S' h' he => ?_
  unfold opBin at he
  split at he
  · rename_i y x S1
    cases he
    refine ⟨rfl, rfl, fun p l e R s m args below meth c Q E h0 H locs ls cells slots hX hF k => ?_⟩
    rw [hp]; rw [hn] at k
    refine lv_ishl hX.1 hX.2.1 hd ?_
    have e1 := (show Int32.ofInt (m_shl x y) = _ from Int32.ofInt_toInt _)
    rw [← e1]
    exact k
  · cases he
theorem c_ishr {nx pc : Nat} (hp : pcs j = pc) (hn : pcs nx = pc + 1) (hd : decode cc pc = .ok (.ishr, 1)) : m_Cert own cc nL ret ini pcs j (opBin m_shr nx) := by
  refine c_pure fun d L S h j' L' S' h' he => ?_
  unfold opBin at he
  split at he
  · rename_i y x S1
    cases he
    refine ⟨rfl, rfl, fun p l e R s m args below meth c Q E h0 H locs ls cells slots hX hF k => ?_⟩
    rw [hp]; rw [hn] at k
    refine lv_ishr hX.1 hX.2.1 hd ?_
    have e1 := (show Int32.ofInt (m_shr x y) = _ from Int32.ofInt_toInt _)
    rw [← e1]
    exact k
  · cases he
theorem c_iushr {nx pc : Nat} (hp : pcs j = pc) (hn : pcs nx = pc + 1) (hd : decode cc pc = .ok (.iushr, 1)) : m_Cert own cc nL ret ini pcs j (opBin m_ushr nx) := by
  refine c_pure fun d L S h j' L' S' h' he => ?_
  unfold opBin at he
  split at he
  · rename_i y x S1
    cases he
    refine ⟨rfl, rfl, fun p l e R s m args below meth c Q E h0 H locs ls cells slots hX hF k => ?_⟩
    rw [hp]; rw [hn] at k
    exact lv_iushr hX.1 hX.2.1 hd (show _ = Int32.ofInt (m_ushr x y) from (Int32.ofInt_toInt _).symm) k
  · cases he
theorem c_idiv {nx pc : Nat} (hp : pcs j = pc) (hn : pcs nx = pc + 1) (hd : decode cc pc = .ok (.idiv, 1)) : m_Cert own cc nL ret ini pcs j (opDiv m_div nx) := by
  refine c_pure fun d L S h j' L' S' h' he => ?_
  unfold opDiv at he
  split at he
  · rename_i y x S1
    split at he
    · cases he
    · rename_i hy
      cases he
      refine ⟨rfl, rfl, fun p l e R s m args below meth c Q E h0 H locs ls cells slots hX hF k => ?_⟩
      rw [hp]; rw [hn] at k
      refine lv_idiv hX.1 hX.2.1 hd (fun z => hy (m_eq0.mp z)) ?_
      rw [← (show Int32.ofInt (m_div x y) = _ from Int32.ofInt_toInt _)]
      exact k
  · cases he
theorem c_irem {nx pc : Nat} (hp : pcs j = pc) (hn : pcs nx = pc + 1) (hd : decode cc pc = .ok (.irem, 1)) : m_Cert own cc nL ret ini pcs j (opDiv m_rem nx) := by
  refine c_pure fun d L S h j' L' S' h' he => ?_
  unfold opDiv at he
  split at he
  · rename_i y x S1
    split at he
    · cases he
    · rename_i hy
      cases he
      refine ⟨rfl, rfl, fun p l e R s m args below meth c Q E h0 H locs ls cells slots hX hF k => ?_⟩
      rw [hp]; rw [hn] at k
      refine lv_irem hX.1 hX.2.1 hd (fun z => hy (m_eq0.mp z)) ?_
      rw [← (show Int32.ofInt (m_rem x y) = _ from Int32.ofInt_toInt _)]
      exact k
  · cases he
theorem c_ineg {nx pc : Nat} (hp : pcs j = pc) (hn : pcs nx = pc + 1) (hd : decode cc pc = .ok (.ineg, 1)) : m_Cert own cc nL ret ini pcs j (opUn m_neg nx) := by
  refine c_pure fun d L S h j' L' S' h' he => ?_
  unfold opUn at he
  split at he
  · rename_i x S1
    cases he
    refine ⟨rfl, rfl, fun p l e R s m args below meth c Q E h0 H locs ls cells slots hX hF k => ?_⟩
    rw [hp]; rw [hn] at k
    refine lv_ineg hX.1 hX.2.1 hd ?_
    rw [← Int32.ofInt_neg]
    exact k
  · cases he
theorem c_i2b {nx pc : Nat} (hp : pcs j = pc) (hn : pcs nx = pc + 1) (hd : decode cc pc = .ok (.i2b, 1)) : m_Cert own cc nL ret ini pcs j (opUn m_i2b nx) := by
  refine c_pure fun d L S h j' L' S' h' he => ?_
  unfold opUn at he
  split at he
  · rename_i x S1
    cases he
    refine ⟨rfl, rfl, fun p l e R s m args below meth c Q E h0 H locs ls cells slots hX hF k => ?_⟩
    rw [hp]; rw [hn] at k
    exact lv_i2b hX.1 hX.2.1 hd (show _ = Int32.ofInt (m_i2b x) from (Int32.ofInt_toInt _).symm) k
  · cases he
theorem c_i2s {nx pc : Nat} (hp : pcs j = pc) (hn : pcs nx = pc + 1) (hd : decode cc pc = .ok (.i2s, 1)) : m_Cert own cc nL ret ini pcs j (opUn m_i2s nx) := by
  refine c_pure fun d L S h j' L' S' h' he => ?_
  unfold opUn at he
  split at he
  · rename_i x S1
    cases he
    refine ⟨rfl, rfl, fun p l e R s m args below meth c Q E h0 H locs ls cells slots hX hF k => ?_⟩
    rw [hp]; rw [hn] at k
    exact lv_i2s hX.1 hX.2.1 hd (show _ = Int32.ofInt (m_i2s x) from (Int32.ofInt_toInt _).symm) k
  · cases he
theorem c_i2c {nx pc : Nat} (hp : pcs j = pc) (hn : pcs nx = pc + 1) (hd : decode cc pc = .ok (.i2c, 1)) : m_Cert own cc nL ret ini pcs j (opUn m_i2c nx) := by
  refine c_pure fun d L S h j' L' S' h' he => ?_
  unfold opUn at he
  split at he
  · rename_i x S1
    cases he
    refine ⟨rfl, rfl, fun p l e R s m args below meth c Q E h0 H locs ls cells slots hX hF k => ?_⟩
    rw [hp]; rw [hn] at k
    exact lv_i2c hX.1 hX.2.1 hd (show _ = Int32.ofInt (m_i2c x) from (Int32.ofInt_toInt _).symm) k
  · cases he
theorem c_land {nx pc : Nat} (hp : pcs j = pc) (hn : pcs nx = pc + 1) (hd : decode cc pc = .ok (.land, 1)) : m_Cert own cc nL ret ini pcs j (opBinL m_land nx) := by
  refine c_pure fun d L S h j' L' S' h' he => ?_
  unfold opBinL at he
  split at he
  · rename_i y x S1
    cases he
    refine ⟨rfl, rfl, fun p l e R s m args below meth c Q E h0 H locs ls cells slots hX hF k => ?_⟩
    rw [hp]; rw [hn] at k
    refine lv_land hX.1 hX.2.1 hd ?_
    rw [← (show Int64.ofInt (m_land x y) = _ from Int64.ofInt_toInt _)]
    exact k
  · cases he
theorem c_lor {nx pc : Nat} (hp : pcs j = pc) (hn : pcs nx = pc + 1) (hd : decode cc pc = .ok (.lor, 1)) : m_Cert own cc nL ret ini pcs j (opBinL m_lor nx) := by
  refine c_pure fun d L S h j' L' S' h' he => ?_
  unfold opBinL at he
  split at he
  · rename_i y x S1
    cases he
    refine ⟨rfl, rfl, fun p l e R s m args below meth c Q E h0 H locs ls cells slots hX hF k => ?_⟩
    rw [hp]; rw [hn] at k
    refine lv_lor hX.1 hX.2.1 hd ?_
    rw [← (show Int64.ofInt (m_lor x y) = _ from Int64.ofInt_toInt _)]
    exact k
  · cases he
theorem c_lshl {nx pc : Nat} (hp : pcs j = pc) (hn : pcs nx = pc + 1) (hd : decode cc pc = .ok (.lshl, 1)) : m_Cert own cc nL ret ini pcs j (opShL m_lshl nx) := by
  refine c_pure fun d L S h j' L' S' h' he => ?_
  unfold opShL at he
  split at he
  · rename_i y x S1
    cases he
    refine ⟨rfl, rfl, fun p l e R s m args below meth c Q E h0 H locs ls cells slots hX hF k => ?_⟩
    rw [hp]; rw [hn] at k
    exact lv_lshl hX.1 hX.2.1 hd (show _ = Int64.ofInt (m_lshl x y) from (Int64.ofInt_toInt _).symm) k
  · cases he
theorem c_lshr {nx pc : Nat} (hp : pcs j = pc) (hn : pcs nx = pc + 1) (hd : decode cc pc = .ok (.lshr, 1)) : m_Cert own cc nL ret ini pcs j (opShL m_lshr nx) := by
  refine c_pure fun d L S h j' L' S' h' he => ?_
  unfold opShL at he
  split at he
  · rename_i y x S1
    cases he
    refine ⟨rfl, rfl, fun p l e R s m args below meth c Q E h0 H locs ls cells slots hX hF k => ?_⟩
    rw [hp]; rw [hn] at k
    exact lv_lshr hX.1 hX.2.1 hd (show _ = Int64.ofInt (m_lshr x y) from (Int64.ofInt_toInt _).symm) k
  · cases he
theorem c_lushr {nx pc : Nat} (hp : pcs j = pc) (hn : pcs nx = pc + 1) (hd : decode cc pc = .ok (.lushr, 1)) : m_Cert own cc nL ret ini pcs j (opShL m_lushr nx) := by
  refine c_pure fun d L S h j' L' S' h' he => ?_
  unfold opShL at he
  split at he
  · rename_i y x S1
    cases he
    refine ⟨rfl, rfl, fun p l e R s m args below meth c Q E h0 H locs ls cells slots hX hF k => ?_⟩
    rw [hp]; rw [hn] at k
    exact lv_lushr hX.1 hX.2.1 hd (show _ = Int64.ofInt (m_lushr x y) from (Int64.ofInt_toInt _).symm) k
  · cases he
theorem c_i2l {nx pc : Nat} (hp : pcs j = pc) (hn : pcs nx = pc + 1) (hd : decode cc pc = .ok (.i2l, 1)) : m_Cert own cc nL ret ini pcs j (opI2L nx) := by
  refine c_pure fun d L S h j' L' S' h' he => ?_
  unfold opI2L at he
  split at he
  · rename_i x S1
    cases he
    refine ⟨rfl, rfl, fun p l e R s m args below meth c Q E h0 H locs ls cells slots hX hF k => ?_⟩
    rw [hp]; rw [hn] at k
    exact lv_i2l hX.1 hX.2.1 hd (show (Int32.ofInt x).toInt64 = Int64.ofInt (w32 x) from (Int64.ofInt_int32ToInt _).symm) k
  · cases he
theorem c_l2i {nx pc : Nat} (hp : pcs j = pc) (hn : pcs nx = pc + 1) (hd : decode cc pc = .ok (.l2i, 1)) : m_Cert own cc nL ret ini pcs j (opL2I nx) := by
  refine c_pure fun d L S h j' L' S' h' he => ?_
  unfold opL2I at he
  split at he
  · rename_i x S1
    cases he
    refine ⟨rfl, rfl, fun p l e R s m args below meth c Q E h0 H locs ls cells slots hX hF k => ?_⟩
    rw [hp]; rw [hn] at k
    exact lv_l2i hX.1 hX.2.1 hd (show (Int64.ofInt x).toInt32 = Int32.ofInt (w32 x) from by rw [show w32 x = (Int32.ofInt x).toInt from rfl, Int32.ofInt_toInt]; simp) k
  · cases he
theorem c_lcmp {nx pc : Nat} (hp : pcs j = pc) (hn : pcs nx = pc + 1) (hd : decode cc pc = .ok (.lcmp, 1)) : m_Cert own cc nL ret ini pcs j (opCmpL nx) := by
  refine c_pure fun d L S h j' L' S' h' he => ?_
  unfold opCmpL at he
  split at he
  · rename_i y x S1
    cases he
    refine ⟨rfl, rfl, fun p l e R s m args below meth c Q E h0 H locs ls cells slots hX hF k => ?_⟩
    rw [hp]; rw [hn] at k
    refine W.lcmp hX.1 hX.2.1 hd ?_
    rw [m_lcmp]
    exact k
  · cases he
theorem c_dup {nx pc : Nat} (hp : pcs j = pc) (hn : pcs nx = pc + 1) (hd : decode cc pc = .ok (.dup, 1)) : m_Cert own cc nL ret ini pcs j (opDup nx) := by
  refine c_pure fun d L S h j' L' S' h' he => ?_
  unfold opDup at he
  split at he
  · rename_i v S1
    split at he
    · cases he
    · rename_i hv
      cases he
      refine ⟨rfl, rfl, fun p l e R s m args below meth c Q E h0 H locs ls cells slots hX hF k => ?_⟩
      rw [hp]; rw [hn] at k
      exact lv_dup hX.1 hX.2.1 hd (m_cat1 E hv) k
  · cases he
theorem c_dup2 {nx pc : Nat} (hp : pcs j = pc) (hn : pcs nx = pc + 1) (hd : decode cc pc = .ok (.dup2, 1)) : m_Cert own cc nL ret ini pcs j (opDup2 nx) := by
  refine c_pure fun d L S h j' L' S' h' he => ?_
  unfold opDup2 at he
  split at he
  · rename_i v u S1
    split at he
    · cases he
    · rename_i hv
      split at he
      · cases he
      · rename_i hu
        cases he
        refine ⟨rfl, rfl, fun p l e R s m args below meth c Q E h0 H locs ls cells slots hX hF k => ?_⟩
        rw [hp]; rw [hn] at k
        exact lv_dup2_11 hX.1 hX.2.1 hd (m_cat1 E hv) (m_cat1 E hu) k
  · cases he
theorem c_pop {nx pc : Nat} (hp : pcs j = pc) (hn : pcs nx = pc + 1) (hd : decode cc pc = .ok (.pop, 1)) : m_Cert own cc nL ret ini pcs j (opPop nx) := by
  refine c_pure fun d L S h j' L' S' h' he => ?_
  unfold opPop at he
  split at he
  · rename_i v S1
    split at he
    · cases he
    · rename_i hv
      cases he
      refine ⟨rfl, rfl, fun p l e R s m args below meth c Q E h0 H locs ls cells slots hX hF k => ?_⟩
      rw [hp]; rw [hn] at k
      exact lv_pop hX.1 hX.2.1 hd (m_cat1 E hv) k
  · cases he
theorem c_if_eq {tg nx pc : Nat} {off : Int} (hp : pcs j = pc) (hn : pcs nx = pc + 3) (ht : (pc : Int) + off = ((pcs tg : Nat) : Int)) (hd : decode cc pc = .ok (.ifCond .eq off, 3)) : m_Cert own cc nL ret ini pcs j (opIf jEq0 tg nx) := by
  refine c_pure fun d L S h j' L' S' h' he => ?_
  unfold opIf at he
  split at he
  · rename_i x S1
    cases he
    refine ⟨rfl, rfl, fun p l e R s m args below meth c Q E h0 H locs ls cells slots hX hF k => ?_⟩
    rw [hp]
    refine lv_if_eq hX.1 hX.2.1 hd ht (fun z => ?_) (fun z => ?_)
    · rw [if_pos (by exact decide_eq_true (m_eq0.mp z))] at k
      exact k
    · rw [if_neg (by intro q; exact (z (m_eq0.mpr (of_decide_eq_true q)))), hn] at k
      exact k
  · cases he
theorem c_if_ne {tg nx pc : Nat} {off : Int} (hp : pcs j = pc) (hn : pcs nx = pc + 3) (ht : (pc : Int) + off = ((pcs tg : Nat) : Int)) (hd : decode cc pc = .ok (.ifCond .ne off, 3)) : m_Cert own cc nL ret ini pcs j (opIf jNe0 tg nx) := by
  refine c_pure fun d L S h j' L' S' h' he => ?_
  unfold opIf at he
  split at he
  · rename_i x S1
    cases he
    refine ⟨rfl, rfl, fun p l e R s m args below meth c Q E h0 H locs ls cells slots hX hF k => ?_⟩
    rw [hp]
    refine lv_if_ne hX.1 hX.2.1 hd ht (fun z => ?_) (fun z => ?_)
    · rw [if_pos (by exact decide_eq_true ((not_congr m_eq0).mp z))] at k
      exact k
    · rw [if_neg (by intro q; exact (of_decide_eq_true q) (m_eq0.mp z)), hn] at k
      exact k
  · cases he
theorem c_if_lt {tg nx pc : Nat} {off : Int} (hp : pcs j = pc) (hn : pcs nx = pc + 3) (ht : (pc : Int) + off = ((pcs tg : Nat) : Int)) (hd : decode cc pc = .ok (.ifCond .lt off, 3)) : m_Cert own cc nL ret ini pcs j (opIf jLt0 tg nx) := by
  refine c_pure fun d L S h j' L' S' h' he => ?_
  unfold opIf at he
  split at he
  · rename_i x S1
    cases he
    refine ⟨rfl, rfl, fun p l e R s m args below meth c Q E h0 H locs ls cells slots hX hF k => ?_⟩
    rw [hp]
    refine lv_if_lt hX.1 hX.2.1 hd ht (fun z => ?_) (fun z => ?_)
    · rw [if_pos (by exact decide_eq_true (m_lt0.mp z))] at k
      exact k
    · rw [if_neg (by intro q; exact (z (m_lt0.mpr (of_decide_eq_true q)))), hn] at k
      exact k
  · cases he
theorem c_if_ge {tg nx pc : Nat} {off : Int} (hp : pcs j = pc) (hn : pcs nx = pc + 3) (ht : (pc : Int) + off = ((pcs tg : Nat) : Int)) (hd : decode cc pc = .ok (.ifCond .ge off, 3)) : m_Cert own cc nL ret ini pcs j (opIf jGe0 tg nx) := by
  refine c_pure fun d L S h j' L' S' h' he => ?_
  unfold opIf at he
  split at he
  · rename_i x S1
    cases he
    refine ⟨rfl, rfl, fun p l e R s m args below meth c Q E h0 H locs ls cells slots hX hF k => ?_⟩
    rw [hp]
    refine lv_if_ge hX.1 hX.2.1 hd ht (fun z => ?_) (fun z => ?_)
    · rw [if_pos (by exact decide_eq_true (m_ge0.mp z))] at k
      exact k
    · rw [if_neg (by intro q; exact (z (m_ge0.mpr (of_decide_eq_true q)))), hn] at k
      exact k
  · cases he
theorem c_if_gt {tg nx pc : Nat} {off : Int} (hp : pcs j = pc) (hn : pcs nx = pc + 3) (ht : (pc : Int) + off = ((pcs tg : Nat) : Int)) (hd : decode cc pc = .ok (.ifCond .gt off, 3)) : m_Cert own cc nL ret ini pcs j (opIf jGt0 tg nx) := by
  refine c_pure fun d L S h j' L' S' h' he => ?_
  unfold opIf at he
  split at he
  · rename_i x S1
    cases he
    refine ⟨rfl, rfl, fun p l e R s m args below meth c Q E h0 H locs ls cells slots hX hF k => ?_⟩
    rw [hp]
    refine lv_if_gt hX.1 hX.2.1 hd ht (fun z => ?_) (fun z => ?_)
    · rw [if_pos (by exact decide_eq_true (m_gt0.mp z))] at k
      exact k
    · rw [if_neg (by intro q; exact (z (m_gt0.mpr (of_decide_eq_true q)))), hn] at k
      exact k
  · cases he
theorem c_if_le {tg nx pc : Nat} {off : Int} (hp : pcs j = pc) (hn : pcs nx = pc + 3) (ht : (pc : Int) + off = ((pcs tg : Nat) : Int)) (hd : decode cc pc = .ok (.ifCond .le off, 3)) : m_Cert own cc nL ret ini pcs j (opIf jLe0 tg nx) := by
  refine c_pure fun d L S h j' L' S' h' he => ?_
  unfold opIf at he
  split at he
  · rename_i x S1
    cases he
    refine ⟨rfl, rfl, fun p l e R s m args below meth c Q E h0 H locs ls cells slots hX hF k => ?_⟩
    rw [hp]
    refine lv_if_le hX.1 hX.2.1 hd ht (fun z => ?_) (fun z => ?_)
    · rw [if_pos (by exact decide_eq_true (m_le0.mp z))] at k
      exact k
    · rw [if_neg (by intro q; exact (z (m_le0.mpr (of_decide_eq_true q)))), hn] at k
      exact k
  · cases he
theorem c_icmp_eq {tg nx pc : Nat} {off : Int} (hp : pcs j = pc) (hn : pcs nx = pc + 3) (ht : (pc : Int) + off = ((pcs tg : Nat) : Int)) (hd : decode cc pc = .ok (.if_icmp .eq off, 3)) : m_Cert own cc nL ret ini pcs j (opIfc jEq tg nx) := by
  refine c_pure fun d L S h j' L' S' h' he => ?_
  unfold opIfc at he
  split at he
  · rename_i y x S1
    cases he
    refine ⟨rfl, rfl, fun p l e R s m args below meth c Q E h0 H locs ls cells slots hX hF k => ?_⟩
    rw [hp]
    refine lv_icmp_eq hX.1 hX.2.1 hd ht (fun z => ?_) (fun z => ?_)
    · rw [if_pos (by exact decide_eq_true (m_eq.mp z))] at k
      exact k
    · rw [if_neg (by intro q; exact (z (m_eq.mpr (of_decide_eq_true q)))), hn] at k
      exact k
  · cases he
theorem c_icmp_ne {tg nx pc : Nat} {off : Int} (hp : pcs j = pc) (hn : pcs nx = pc + 3) (ht : (pc : Int) + off = ((pcs tg : Nat) : Int)) (hd : decode cc pc = .ok (.if_icmp .ne off, 3)) : m_Cert own cc nL ret ini pcs j (opIfc jNe tg nx) := by
  refine c_pure fun d L S h j' L' S' h' he => ?_
  unfold opIfc at he
  split at he
  · rename_i y x S1
    cases he
    refine ⟨rfl, rfl, fun p l e R s m args below meth c Q E h0 H locs ls cells slots hX hF k => ?_⟩
    rw [hp]
    refine lv_icmp_ne hX.1 hX.2.1 hd ht (fun z => ?_) (fun z => ?_)
    · rw [if_pos (by exact decide_eq_true ((not_congr m_eq).mp z))] at k
      exact k
    · rw [if_neg (by intro q; exact (of_decide_eq_true q) (m_eq.mp z)), hn] at k
      exact k
  · cases he
theorem c_icmp_lt {tg nx pc : Nat} {off : Int} (hp : pcs j = pc) (hn : pcs nx = pc + 3) (ht : (pc : Int) + off = ((pcs tg : Nat) : Int)) (hd : decode cc pc = .ok (.if_icmp .lt off, 3)) : m_Cert own cc nL ret ini pcs j (opIfc jLt tg nx) := by
  refine c_pure fun d L S h j' L' S' h' he => ?_
  unfold opIfc at he
  split at he
  · rename_i y x S1
    cases he
    refine ⟨rfl, rfl, fun p l e R s m args below meth c Q E h0 H locs ls cells slots hX hF k => ?_⟩
    rw [hp]
    refine lv_icmp_lt hX.1 hX.2.1 hd ht (fun z => ?_) (fun z => ?_)
    · rw [if_pos (by exact decide_eq_true (m_lt.mp z))] at k
      exact k
    · rw [if_neg (by intro q; exact (z (m_lt.mpr (of_decide_eq_true q)))), hn] at k
      exact k
  · cases he
theorem c_icmp_ge {tg nx pc : Nat} {off : Int} (hp : pcs j = pc) (hn : pcs nx = pc + 3) (ht : (pc : Int) + off = ((pcs tg : Nat) : Int)) (hd : decode cc pc = .ok (.if_icmp .ge off, 3)) : m_Cert own cc nL ret ini pcs j (opIfc jGe tg nx) := by
  refine c_pure fun d L S h j' L' S' h' he => ?_
  unfold opIfc at he
  split at he
  · rename_i y x S1
    cases he
    refine ⟨rfl, rfl, fun p l e R s m args below meth c Q E h0 H locs ls cells slots hX hF k => ?_⟩
    rw [hp]
    refine lv_icmp_ge hX.1 hX.2.1 hd ht (fun z => ?_) (fun z => ?_)
    · rw [if_pos (by exact decide_eq_true (m_le.mp z))] at k
      exact k
    · rw [if_neg (by intro q; exact (z (m_le.mpr (of_decide_eq_true q)))), hn] at k
      exact k
  · cases he
theorem c_icmp_gt {tg nx pc : Nat} {off : Int} (hp : pcs j = pc) (hn : pcs nx = pc + 3) (ht : (pc : Int) + off = ((pcs tg : Nat) : Int)) (hd : decode cc pc = .ok (.if_icmp .gt off, 3)) : m_Cert own cc nL ret ini pcs j (opIfc jGt tg nx) := by
  refine c_pure fun d L S h j' L' S' h' he => ?_
  unfold opIfc at he
  split at he
  · rename_i y x S1
    cases he
    refine ⟨rfl, rfl, fun p l e R s m args below meth c Q E h0 H locs ls cells slots hX hF k => ?_⟩
    rw [hp]
    refine lv_icmp_gt hX.1 hX.2.1 hd ht (fun z => ?_) (fun z => ?_)
    · rw [if_pos (by exact decide_eq_true (m_lt.mp z))] at k
      exact k
    · rw [if_neg (by intro q; exact (z (m_lt.mpr (of_decide_eq_true q)))), hn] at k
      exact k
  · cases he
theorem c_icmp_le {tg nx pc : Nat} {off : Int} (hp : pcs j = pc) (hn : pcs nx = pc + 3) (ht : (pc : Int) + off = ((pcs tg : Nat) : Int)) (hd : decode cc pc = .ok (.if_icmp .le off, 3)) : m_Cert own cc nL ret ini pcs j (opIfc jLe tg nx) := by
  refine c_pure fun d L S h j' L' S' h' he => ?_
  unfold opIfc at he
  split at he
  · rename_i y x S1
    cases he
    refine ⟨rfl, rfl, fun p l e R s m args below meth c Q E h0 H locs ls cells slots hX hF k => ?_⟩
    rw [hp]
    refine lv_icmp_le hX.1 hX.2.1 hd ht (fun z => ?_) (fun z => ?_)
    · rw [if_pos (by exact decide_eq_true (m_le.mp z))] at k
      exact k
    · rw [if_neg (by intro q; exact (z (m_le.mpr (of_decide_eq_true q)))), hn] at k
      exact k
  · cases he
theorem c_goto {tg pc : Nat} {off : Int} (hp : pcs j = pc) (ht : (pc : Int) + off = ((pcs tg : Nat) : Int)) (hd : decode cc pc = .ok (.goto off, 3)) : m_Cert own cc nL ret ini pcs j (opGo tg) := by
  refine c_pure fun d L S h j' L' S' h' he => ?_
  cases he
  refine ⟨rfl, rfl, fun p l e R s m args below meth c Q E h0 H locs ls cells slots hX hF k => ?_⟩
  rw [hp]
  exact lv_goto hX.1 hX.2.1 hd ht k
theorem c_swT {pc len : Nat} {df : Nat} {dflt lo hi : Int} {offs : Array Int} {tg : List Nat} (hp : pcs j = pc) (h0 : (pc : Int) + dflt = ((pcs df : Nat) : Int)) (hlen : hi - lo + 1 = (tg.length : Int))
    (ht : offs.toList.map (fun o => (pc : Int) + o) = tg.map (fun t => ((pcs t : Nat) : Int))) (hd : decode cc pc = .ok (.tableswitch dflt lo hi offs, len)) : m_Cert own cc nL ret ini pcs j (opSw (mSwT lo tg df)) := by
  refine c_pure fun d L S h j' L' S' h' he => ?_
  unfold opSw at he
  split at he
  · rename_i x S1
    cases he
    refine ⟨rfl, rfl, fun p l e R s m args below meth c Q E h0' H locs ls cells slots hX hF k => ?_⟩
    rw [hp]
    have hx : (Int32.ofInt x).toInt = w32 x := rfl
    by_cases c1 : w32 x < lo
    · rw [show mSwT lo tg df (w32 x) = df by unfold mSwT; rw [if_pos c1]] at k
      exact lv_tableOut hX.1 hX.2.1 hd (Or.inl (by rw [hx]; exact c1)) h0 k
    · by_cases c2 : hi < w32 x
      · rw [show mSwT lo tg df (w32 x) = df by unfold mSwT; rw [if_neg c1, List.getElem?_eq_none (by omega)]; rfl] at k
        exact lv_tableOut hX.1 hX.2.1 hd (Or.inr (by rw [hx]; exact c2)) h0 k
      · have hi2 : (w32 x - lo).toNat < tg.length := by omega
        have hg : tg[(w32 x - lo).toNat]? = some (tg[(w32 x - lo).toNat]) := List.getElem?_eq_getElem hi2
        rw [show mSwT lo tg df (w32 x) = tg[(w32 x - lo).toNat] by unfold mSwT; rw [if_neg c1, hg]; rfl] at k
        have hm := congrArg (fun z => z[(w32 x - lo).toNat]?) ht
        simp only [List.getElem?_map, hg, Option.map_some] at hm
        cases ho : offs.toList[(w32 x - lo).toNat]? with
        | none => rw [ho] at hm; cases hm
        | some off =>
          rw [ho] at hm
          refine lv_tableIn hX.1 hX.2.1 hd (by rw [hx]; exact c1) (by rw [hx]; exact c2) (off := off) (by rw [hx, ← Array.getElem?_toList]; exact ho) (tgt := pcs (tg[(w32 x - lo).toNat])) (by simpa using hm) k
  · cases he
theorem m_swl {pc : Nat} {df : Nat} {dflt : Int} (h0 : (pc : Int) + dflt = ((pcs df : Nat) : Int)) (x : Int) : ∀ (l : List (Int × Nat)) (ps : List (Int × Int)), ps.map (fun q => (q.1, (pc : Int) + q.2)) = l.map (fun q => (q.1, ((pcs q.2 : Nat) : Int))) → (pc : Int) + Op.lookupswitch.offset ps dflt x = ((pcs (mSwL l df x) : Nat) : Int)
  | [], [], _ => h0
  | (a, t) :: r, (b, u) :: ps, h => by
    simp only [List.map_cons, List.cons.injEq, Prod.mk.injEq] at h
    obtain ⟨⟨h1, h2⟩, h3⟩ := h
    subst h1
    rw [Op.lookupswitch.offset_cons]
    unfold mSwL
    split
    · exact h2
    · exact m_swl h0 x r ps h3
  | [], _ :: _, h => by simp at h
  | _ :: _, [], h => by simp at h
theorem c_swL {pc len : Nat} {df : Nat} {dflt : Int} {ps : Array (Int × Int)} {l0 : List (Int × Nat)} (hp : pcs j = pc) (h0 : (pc : Int) + dflt = ((pcs df : Nat) : Int)) (hs : (ps.toList.zip (ps.toList.drop 1)).all (fun (a, next) => a.1 < next.1) = true)
    (ht : ps.toList.map (fun q => (q.1, (pc : Int) + q.2)) = l0.map (fun q => (q.1, ((pcs q.2 : Nat) : Int)))) (hd : decode cc pc = .ok (.lookupswitch dflt ps, len)) : m_Cert own cc nL ret ini pcs j (opSw (mSwL l0 df)) := by
  refine c_pure fun d L S h j' L' S' h' he => ?_
  unfold opSw at he
  split at he
  · rename_i x S1
    cases he
    refine ⟨rfl, rfl, fun p l e R s m args below meth c Q E h0' H locs ls cells slots hX hF k => ?_⟩
    rw [hp]
    exact lv_lookup hX.1 hX.2.1 hd hs rfl (m_swl h0 (w32 x) l0 ps.toList ht) k
  · cases he
end OPS3
