/-! ===== sheets ===== -/
theorem put_8 (v : Int) : m_ushr (m_shl v 24) 24 = (w32 v) % 256 := by
  unfold m_ushr m_shl w32
  rw [Int32.ofInt_toInt, show (Int32.ofInt 24).toUInt32 &&& Int32.toUInt32 31 = 24 from by decide, show Int32.ofInt 24 &&& 31 = 24 from by decide]
  generalize Int32.ofInt v = a
  have h1 : ((a <<< (24 : Int32)).toUInt32 >>> 24).toNat = (a <<< (24 : Int32)).toUInt32.toNat / 16777216 := by
    rw [UInt32.toNat_shiftRight]
    exact Nat.shiftRight_eq_div_pow _ _
  have h2 : (a <<< (24 : Int32)).toUInt32.toNat = a.toBitVec.toNat * 16777216 % 4294967296 := by
    show (a <<< (24 : Int32)).toBitVec.toNat = _
    rw [Int32.toBitVec_shiftLeft]
    show (a.toBitVec <<< (24#32)).toNat = _
    rw [BitVec.shiftLeft_eq', BitVec.toNat_shiftLeft, Nat.shiftLeft_eq]
    rfl
  have h3 : a.toInt = if 2 * a.toBitVec.toNat < 2 ^ 32 then (a.toBitVec.toNat : Int) else (a.toBitVec.toNat : Int) - ((2 ^ 32 : Nat) : Int) := BitVec.toInt_eq_toNat_cond a.toBitVec
  have h4 := a.toBitVec.isLt
  generalize (a <<< (24 : Int32)).toUInt32 = u at h1 h2 ⊢
  have h5 : (u >>> 24).toInt32.toInt = ((u >>> 24).toNat : Int) := BitVec.toInt_eq_toNat_of_lt (by show 2 * (u >>> 24).toNat < 2 ^ 32; omega)
  rw [h5, h1, h2, h3]
  generalize a.toBitVec.toNat = q at *
  split <;> omega
theorem put_16 (v : Int) : m_ushr (m_shl v 16) 16 = (w32 v) % 65536 := by
  unfold m_ushr m_shl w32
  rw [Int32.ofInt_toInt, show (Int32.ofInt 16).toUInt32 &&& Int32.toUInt32 31 = 16 from by decide, show Int32.ofInt 16 &&& 31 = 16 from by decide]
  generalize Int32.ofInt v = a
  have h1 : ((a <<< (16 : Int32)).toUInt32 >>> 16).toNat = (a <<< (16 : Int32)).toUInt32.toNat / 65536 := by
    rw [UInt32.toNat_shiftRight]
    exact Nat.shiftRight_eq_div_pow _ _
  have h2 : (a <<< (16 : Int32)).toUInt32.toNat = a.toBitVec.toNat * 65536 % 4294967296 := by
    show (a <<< (16 : Int32)).toBitVec.toNat = _
    rw [Int32.toBitVec_shiftLeft]
    show (a.toBitVec <<< (16#32)).toNat = _
    rw [BitVec.shiftLeft_eq', BitVec.toNat_shiftLeft, Nat.shiftLeft_eq]
    rfl
  have h3 : a.toInt = if 2 * a.toBitVec.toNat < 2 ^ 32 then (a.toBitVec.toNat : Int) else (a.toBitVec.toNat : Int) - ((2 ^ 32 : Nat) : Int) := BitVec.toInt_eq_toNat_cond a.toBitVec
  have h4 := a.toBitVec.isLt
  generalize (a <<< (16 : Int32)).toUInt32 = u at h1 h2 ⊢
  have h5 : (u >>> 16).toInt32.toInt = ((u >>> 16).toNat : Int) := BitVec.toInt_eq_toNat_of_lt (by show 2 * (u >>> 16).toNat < 2 ^ 32; omega)
  rw [h5, h1, h2, h3]
  generalize a.toBitVec.toNat = q at *
  split <;> omega
theorem put_32 (v : Int) : m_ushr (m_shl v 0) 0 = w32 v := by
  unfold m_ushr m_shl w32
  rw [Int32.ofInt_toInt, show (Int32.ofInt 0).toUInt32 &&& Int32.toUInt32 31 = 0 from by decide, show Int32.ofInt 0 &&& 31 = 0 from by decide]
  generalize Int32.ofInt v = a
  have h2 : (a <<< (0 : Int32)) = a := by
    apply Int32.toBitVec_inj.mp
    rw [Int32.toBitVec_shiftLeft]
    show a.toBitVec <<< (0#32) = _
    simp
  rw [h2]
  have h3 : a.toUInt32 >>> 0 = a.toUInt32 := by simp
  rw [h3]
  rfl
theorem i2b_b (v : Int) : m_i2b v = Int.bmod (w32 v) 256 := by
  unfold m_i2b w32
  rw [Int8.toInt_toInt32, Int32.toInt_toInt8]
theorem i2s_b (v : Int) : m_i2s v = Int.bmod (w32 v) 65536 := by
  unfold m_i2s w32
  rw [Int16.toInt_toInt32, Int32.toInt_toInt16]
theorem put_ok {b v : Int} (hb : b = 8 ∨ b = 16 ∨ b = 32) (hv : -2147483648 ≤ v ∧ v < 2147483648) : ShN b (m_ushr (m_shl v (32 - b)) (32 - b)) (if b = 8 then m_i2b v else if b = 16 then m_i2s v else v) := by
  unfold ShN
  rcases hb with rfl | rfl | rfl
  · left
    rw [if_pos rfl, show (32 : Int) - 8 = 24 from rfl, put_8, i2b_b]
    unfold Int.bmod
    dsimp only
    refine ⟨rfl, ?_⟩
    split <;> omega
  · right; left
    rw [if_neg (by decide), if_pos rfl, show (32 : Int) - 16 = 16 from rfl, put_16, i2s_b]
    unfold Int.bmod
    dsimp only
    refine ⟨rfl, ?_⟩
    split <;> omega
  · right; right; left
    rw [if_neg (by decide), if_neg (by decide), show (32 : Int) - 32 = 0 from rfl, put_32, w32_id hv.1 hv.2]
    exact ⟨rfl, rfl, hv⟩
theorem ShR.cg {s s1 : mSt} {r k : Nat} (h : ShR s r k) (a : s1 131 k = s 131 k) (b : s1 160 k = s 160 k) (c : s1 161 k = s 161 k) (e : s1 r = s r) (e2 : s1 (r + 1) = s (r + 1)) (f : ∀ i : Int, 0 ≤ i → i < 40 → s1 162 (40 * (k : Int) + i).toNat = s 162 (40 * (k : Int) + i).toNat) : ShR s1 r k := by
  obtain ⟨h1, h2, h3, h4, h5⟩ := h
  refine ⟨by rw [a, b]; exact h1, by rw [b]; exact h2, by rw [c]; exact h3, by rw [e, c]; exact h4, fun i i0 i1 => ?_⟩
  rw [b, e2, f i i0 i1]
  exact h5 i i0 i1
/-- the sheets have changed, on both sides -/
theorem Inv.sht {s s1 : mSt} {X : Nat → Int} {N : Int} {cnt cnt1 : Int} {A : List Nat} (hA : A.all (fun x => [131, 138, 139, 140, 141, 142, 143, 144, 145, 160, 161, 162, 163].contains x) = true) (hc : cnt ≤ cnt1) (hf : Fr A s s1) (hS : IvS s1) (h : Inv X N s cnt) : Inv X N s1 cnt1 := by
  obtain ⟨a1, a2, a3, a4, a5, a6, a7, a8, a9⟩ := h
  have hf := Fr.mono hA hf
  exact ⟨a1.fr rfl rfl hf, a2.fr rfl rfl (by rw [hf.at 10 rfl]) (by rw [hf.at 146 rfl]) hc hf, a3.fr rfl rfl hf, a4.fr rfl rfl rfl (by rw [hf.at 146 rfl]) hf, hS, a6.fr rfl hf, a7.fr rfl hc hf, a8.fr rfl rfl hf, a9.fr rfl rfl rfl rfl hf⟩
theorem c_isSheet {d : Nat} {s : mSt} {c : Int} (hc : -2147483648 ≤ c ∧ c < 2147483648) : Call (d + 1) 253 [.inl c] (encA (s)) (some (.inl (bI (0 ≤ c ∧ c ≤ 3)))) (encA (s)) := by
  refine CI.ex (CI.mk rfl ?_)
  show WP (d + 1) 253 0 [some (.inl c)] [] (encA (s)) _
  refine w_ldI rfl rfl ?_
  refine w_i2lr rfl (by omega) ?_
  refine w_push rfl ?_
  refine w_push rfl ?_
  refine w_call rfl rfl rfl (r_in (by omega) (by omega) (by omega)) ?_
  refine w_retB rfl (by first | exact bI_01 _ | decide | omega) ?_
  exact ⟨rfl, rfl⟩
theorem k_isMissing {d : Nat} {s : mSt} {c : Int} (hc : 0 ≤ c ∧ c < 4) (hr : -2147483648 ≤ s 131 c.toNat ∧ s 131 c.toNat < 2147483648) : Call (d + 0) 147 [.inr (.inr 10), .inl c] (encA (s)) (some (.inl (bI (s 131 c.toNat = 0)))) (encA (s)) := by
  refine CI.ex (CI.mk rfl ?_)
  show WP (d + 0) 147 0 [some (.inr (.inr 10)), some (.inl c)] [] (encA (s)) _
  refine w_ldR rfl rfl rfl ?_
  first | refine w_getI rfl rfl rfl rfl rfl ?_ | refine w_getR rfl rfl rfl rfl rfl ?_
  refine w_ldI rfl rfl ?_
  refine w_ald rfl rfl rfl (by omega) rfl ?_
  refine w_irNe0 rfl (by omega) (fun b4 => ?_) (fun b4 => ?_)
  · first
    | (exfalso; omega)
    | (refine w_push rfl ?_
       refine w_retB rfl (by first | exact bI_01 _ | decide | omega) ?_
       refine ⟨?_, rfl⟩
       unfold bI
       first | rw [if_pos (by omega)] | rw [if_neg (by omega)])
  · first
    | (exfalso; omega)
    | (refine w_push rfl ?_
       refine w_go rfl ?_
       refine w_retB rfl (by first | exact bI_01 _ | decide | omega) ?_
       refine ⟨?_, rfl⟩
       unfold bI
       first | rw [if_pos (by omega)] | rw [if_neg (by omega)])
theorem k_has138 {d : Nat} {s : mSt} {i : Int} (hi : -2147483648 ≤ i ∧ i < 2147483648) (hs : -2147483648 ≤ s 138 1 ∧ s 138 1 < 2147483648) : Call (d + 0) 62 [.inr (.inr 138), .inl i] (encA (s)) (some (.inl (bI (0 ≤ i ∧ i < s 138 1)))) (encA (s)) := by
  refine CI.ex (CI.mk rfl ?_)
  show WP (d + 0) 62 0 [some (.inr (.inr 138)), some (.inl i)] [] (encA (s)) _
  refine w_ldI rfl rfl ?_
  refine w_irLt0 rfl (by omega) (fun b1 => ?_) (fun b1 => ?_)
  · first
    | (exfalso; omega)
    | (refine w_push rfl ?_
       refine w_retB rfl (by first | exact bI_01 _ | decide | omega) ?_
       refine ⟨?_, rfl⟩
       unfold bI
       first | rw [if_pos (by omega)] | rw [if_neg (by omega)])
  · first
    | (exfalso; omega)
    | (refine w_ldI rfl rfl ?_
       refine w_ldR rfl rfl rfl ?_
       first | refine w_getI rfl rfl rfl rfl rfl ?_ | refine w_getR rfl rfl rfl rfl rfl ?_
       refine w_crGe rfl (by omega) (by omega) (fun b5 => ?_) (fun b5 => ?_)
       · first
         | (exfalso; omega)
         | (refine w_push rfl ?_
            refine w_retB rfl (by first | exact bI_01 _ | decide | omega) ?_
            refine ⟨?_, rfl⟩
            unfold bI
            first | rw [if_pos (by omega)] | rw [if_neg (by omega)])
       · first
         | (exfalso; omega)
         | (refine w_push rfl ?_
            refine w_go rfl ?_
            refine w_retB rfl (by first | exact bI_01 _ | decide | omega) ?_
            refine ⟨?_, rfl⟩
            unfold bI
            first | rw [if_pos (by omega)] | rw [if_neg (by omega)]))
theorem k_at138 {d : Nat} {s : mSt} {i : Int} (hi : -2147483648 ≤ i ∧ i < 2147483648) (hs : 0 ≤ s 138 1 ∧ s 138 1 ≤ 40) : Call (d + 0) 64 [.inr (.inr 138), .inl i] (encA (s)) (some (.inl (rowAt s 138 i))) (encA (s)) := by
  refine CI.ex (CI.mk rfl ?_)
  show WP (d + 0) 64 0 [some (.inr (.inr 138)), some (.inl i)] [] (encA (s)) _
  refine w_ldI rfl rfl ?_
  refine w_irLt0 rfl (by omega) (fun b1 => ?_) (fun b1 => ?_)
  · first
    | (exfalso; omega)
    | (refine w_push rfl ?_
       refine w_retI rfl ?_
       refine ⟨?_, rfl⟩
       unfold rowAt
       first | rw [if_pos (by omega)] | rw [if_neg (by omega)])
  · first
    | (exfalso; omega)
    | (refine w_ldI rfl rfl ?_
       refine w_ldR rfl rfl rfl ?_
       first | refine w_getI rfl rfl rfl rfl rfl ?_ | refine w_getR rfl rfl rfl rfl rfl ?_
       refine w_crGe rfl (by omega) (by omega) (fun b5 => ?_) (fun b5 => ?_)
       · first
         | (exfalso; omega)
         | (refine w_push rfl ?_
            refine w_retI rfl ?_
            refine ⟨?_, rfl⟩
            unfold rowAt
            first | rw [if_pos (by omega)] | rw [if_neg (by omega)])
       · first
         | (exfalso; omega)
         | (refine w_ldR rfl rfl rfl ?_
            first | refine w_getI rfl rfl rfl rfl rfl ?_ | refine w_getR rfl rfl rfl rfl rfl ?_
            refine w_ldI rfl rfl ?_
            refine w_ald rfl rfl rfl (by omega) rfl ?_
            refine w_go rfl ?_
            refine w_retI rfl ?_
            refine ⟨?_, rfl⟩
            unfold rowAt
            first | rw [if_pos (by omega)] | rw [if_neg (by omega)]))
theorem l_fill139 {d : Nat} {s : mSt} {P : mSt → Prop} (k : Nat) (i : Int) (hi : i = (k : Int)) (hk : k ≤ 40) (hl : ∀ q, q < k → s 139 q = 0) (hP : ∀ s1, Fr [139] s s1 → (∀ q, q < 40 → s1 139 q = 0) → P s1) : WP (d + 0) 2 5 [some (.inr (.inr 139)), some (.inl 0), some (.inl i), some (.inl 40)] [] (encA (s)) (QV P) := by
  subst hi
  refine w_ldI rfl rfl ?_
  refine w_ldI rfl rfl ?_
  refine w_crGe rfl (by omega) (by omega) (fun b7 => ?_) (fun b7 => ?_)
  · first
    | (exfalso; omega)
    | (refine w_retV rfl ?_
       obtain rfl : k = 40 := by omega
       exact hP s Fr.rf hl)
  · first
    | (exfalso; omega)
    | (refine w_ldR rfl rfl rfl ?_
       refine w_ldI rfl rfl ?_
       refine w_ldI rfl rfl ?_
       refine w_ast rfl rfl rfl (by omega) rfl ?_
       refine w_inc_4_2 rfl rfl ?_
       refine w_go rfl ?_
       exact l_fill139 (k + 1) ((k : Int) + 1) (by omega) (by omega) (fun q hq => by
         rw [us_eq]
         unfold mup
         split
         · rfl
         · exact hl q (by omega)) (fun s1 hf hs => hP s1 ((Fr.us rfl).tr hf) hs))
termination_by (40 - k)
decreasing_by all_goals omega
theorem k_fill139 {d : Nat} {s : mSt}  : CV (d + 0) 2 [.inr (.inr 139), .inl 0] (s) (fun s1 => Fr [139] s s1 ∧ ∀ q, q < 40 → s1 139 q = 0) := by
  refine CV.mk rfl ?_
  show WP (d + 0) 2 0 [some (.inr (.inr 139)), some (.inl 0), none, none] [] (encA (s)) _
  refine w_push rfl ?_
  refine w_StI_4_2 rfl rfl ?_
  refine w_ldR rfl rfl rfl ?_
  refine w_alen rfl rfl rfl ?_
  refine w_StI_4_3 rfl rfl ?_
  exact l_fill139 0 0 rfl (by omega) (fun q hq => by omega) (fun s1 hf hs => ⟨hf, hs⟩)
theorem k_zeros138 {d : Nat} {s : mSt} {n : Int} (hn : 0 ≤ n ∧ n ≤ 40) : CV (d + 1) 70 [.inr (.inr 138), .inl n] (s) (fun s1 => s1 138 1 = n ∧ (∀ q, q < 40 → s1 139 q = 0) ∧ Fr [138, 139] s s1) := by
  refine CV.mk rfl ?_
  show WP (d + 1) 70 0 [some (.inr (.inr 138)), some (.inl n)] [] (encA (s)) _
  refine w_ldR rfl rfl rfl ?_
  refine w_push rfl ?_
  refine w_ldI rfl rfl ?_
  refine w_ldR rfl rfl rfl ?_
  first | refine w_getI rfl rfl rfl rfl rfl ?_ | refine w_getR rfl rfl rfl rfl rfl ?_
  refine w_alen rfl rfl rfl ?_
  refine w_m2 rfl rfl ?_
  refine w_m2 rfl rfl ?_
  rw [m_min_id (by omega) (by omega), show min n ((40 : Nat) : Int) = n by omega, m_max_id (by omega) (by omega), show max 0 n = n by omega]
  refine w_putI rfl rfl rfl rfl rfl rfl rfl ?_
  refine w_ldR rfl rfl rfl ?_
  first | refine w_getI rfl rfl rfl rfl rfl ?_ | refine w_getR rfl rfl rfl rfl rfl ?_
  refine w_push rfl ?_
  refine w_callN rfl rfl rfl k_fill139 (fun s12 p12 => ?_)
  refine w_retV rfl ?_
  exact ⟨by rw [p12.1.at 138 rfl, us_eq, mup_eq], p12.2, (Fr.us rfl).tr (Fr.mono rfl p12.1)⟩
theorem k_repl138 {d : Nat} {s : mSt} {i v : Int} (hs : 0 ≤ s 138 1 ∧ s 138 1 ≤ 40) (hi : 0 ≤ i ∧ i < s 138 1) : CV (d + 1) 68 [.inr (.inr 138), .inl i, .inl v] (s) (fun s1 => s1 = us s 139 i.toNat v) := by
  refine CV.mk rfl ?_
  show WP (d + 1) 68 0 [some (.inr (.inr 138)), some (.inl i), some (.inl v)] [] (encA (s)) _
  refine w_ldR rfl rfl rfl ?_
  refine w_ldI rfl rfl ?_
  refine w_callV rfl rfl rfl rfl rfl rfl rfl (k_has138 (by omega) (by omega)) ?_
  refine w_bEq0 rfl (fun b3 => ?_) (fun b3 => ?_)
  · first
    | (exfalso; omega)
    | (refine w_retV rfl ?_
       rfl)
  · first
    | (exfalso; omega)
    | (refine w_ldR rfl rfl rfl ?_
       first | refine w_getI rfl rfl rfl rfl rfl ?_ | refine w_getR rfl rfl rfl rfl rfl ?_
       refine w_ldI rfl rfl ?_
       refine w_ldI rfl rfl ?_
       refine w_ast rfl rfl rfl (by omega) rfl ?_
       refine w_retV rfl ?_
       rfl)
theorem k_has140 {d : Nat} {s : mSt} {i : Int} (hi : -2147483648 ≤ i ∧ i < 2147483648) (hs : -2147483648 ≤ s 140 1 ∧ s 140 1 < 2147483648) : Call (d + 0) 62 [.inr (.inr 140), .inl i] (encA (s)) (some (.inl (bI (0 ≤ i ∧ i < s 140 1)))) (encA (s)) := by
  refine CI.ex (CI.mk rfl ?_)
  show WP (d + 0) 62 0 [some (.inr (.inr 140)), some (.inl i)] [] (encA (s)) _
  refine w_ldI rfl rfl ?_
  refine w_irLt0 rfl (by omega) (fun b1 => ?_) (fun b1 => ?_)
  · first
    | (exfalso; omega)
    | (refine w_push rfl ?_
       refine w_retB rfl (by first | exact bI_01 _ | decide | omega) ?_
       refine ⟨?_, rfl⟩
       unfold bI
       first | rw [if_pos (by omega)] | rw [if_neg (by omega)])
  · first
    | (exfalso; omega)
    | (refine w_ldI rfl rfl ?_
       refine w_ldR rfl rfl rfl ?_
       first | refine w_getI rfl rfl rfl rfl rfl ?_ | refine w_getR rfl rfl rfl rfl rfl ?_
       refine w_crGe rfl (by omega) (by omega) (fun b5 => ?_) (fun b5 => ?_)
       · first
         | (exfalso; omega)
         | (refine w_push rfl ?_
            refine w_retB rfl (by first | exact bI_01 _ | decide | omega) ?_
            refine ⟨?_, rfl⟩
            unfold bI
            first | rw [if_pos (by omega)] | rw [if_neg (by omega)])
       · first
         | (exfalso; omega)
         | (refine w_push rfl ?_
            refine w_go rfl ?_
            refine w_retB rfl (by first | exact bI_01 _ | decide | omega) ?_
            refine ⟨?_, rfl⟩
            unfold bI
            first | rw [if_pos (by omega)] | rw [if_neg (by omega)]))
theorem k_at140 {d : Nat} {s : mSt} {i : Int} (hi : -2147483648 ≤ i ∧ i < 2147483648) (hs : 0 ≤ s 140 1 ∧ s 140 1 ≤ 40) : Call (d + 0) 64 [.inr (.inr 140), .inl i] (encA (s)) (some (.inl (rowAt s 140 i))) (encA (s)) := by
  refine CI.ex (CI.mk rfl ?_)
  show WP (d + 0) 64 0 [some (.inr (.inr 140)), some (.inl i)] [] (encA (s)) _
  refine w_ldI rfl rfl ?_
  refine w_irLt0 rfl (by omega) (fun b1 => ?_) (fun b1 => ?_)
  · first
    | (exfalso; omega)
    | (refine w_push rfl ?_
       refine w_retI rfl ?_
       refine ⟨?_, rfl⟩
       unfold rowAt
       first | rw [if_pos (by omega)] | rw [if_neg (by omega)])
  · first
    | (exfalso; omega)
    | (refine w_ldI rfl rfl ?_
       refine w_ldR rfl rfl rfl ?_
       first | refine w_getI rfl rfl rfl rfl rfl ?_ | refine w_getR rfl rfl rfl rfl rfl ?_
       refine w_crGe rfl (by omega) (by omega) (fun b5 => ?_) (fun b5 => ?_)
       · first
         | (exfalso; omega)
         | (refine w_push rfl ?_
            refine w_retI rfl ?_
            refine ⟨?_, rfl⟩
            unfold rowAt
            first | rw [if_pos (by omega)] | rw [if_neg (by omega)])
       · first
         | (exfalso; omega)
         | (refine w_ldR rfl rfl rfl ?_
            first | refine w_getI rfl rfl rfl rfl rfl ?_ | refine w_getR rfl rfl rfl rfl rfl ?_
            refine w_ldI rfl rfl ?_
            refine w_ald rfl rfl rfl (by omega) rfl ?_
            refine w_go rfl ?_
            refine w_retI rfl ?_
            refine ⟨?_, rfl⟩
            unfold rowAt
            first | rw [if_pos (by omega)] | rw [if_neg (by omega)]))
theorem l_fill141 {d : Nat} {s : mSt} {P : mSt → Prop} (k : Nat) (i : Int) (hi : i = (k : Int)) (hk : k ≤ 40) (hl : ∀ q, q < k → s 141 q = 0) (hP : ∀ s1, Fr [141] s s1 → (∀ q, q < 40 → s1 141 q = 0) → P s1) : WP (d + 0) 2 5 [some (.inr (.inr 141)), some (.inl 0), some (.inl i), some (.inl 40)] [] (encA (s)) (QV P) := by
  subst hi
  refine w_ldI rfl rfl ?_
  refine w_ldI rfl rfl ?_
  refine w_crGe rfl (by omega) (by omega) (fun b7 => ?_) (fun b7 => ?_)
  · first
    | (exfalso; omega)
    | (refine w_retV rfl ?_
       obtain rfl : k = 40 := by omega
       exact hP s Fr.rf hl)
  · first
    | (exfalso; omega)
    | (refine w_ldR rfl rfl rfl ?_
       refine w_ldI rfl rfl ?_
       refine w_ldI rfl rfl ?_
       refine w_ast rfl rfl rfl (by omega) rfl ?_
       refine w_inc_4_2 rfl rfl ?_
       refine w_go rfl ?_
       exact l_fill141 (k + 1) ((k : Int) + 1) (by omega) (by omega) (fun q hq => by
         rw [us_eq]
         unfold mup
         split
         · rfl
         · exact hl q (by omega)) (fun s1 hf hs => hP s1 ((Fr.us rfl).tr hf) hs))
termination_by (40 - k)
decreasing_by all_goals omega
theorem k_fill141 {d : Nat} {s : mSt}  : CV (d + 0) 2 [.inr (.inr 141), .inl 0] (s) (fun s1 => Fr [141] s s1 ∧ ∀ q, q < 40 → s1 141 q = 0) := by
  refine CV.mk rfl ?_
  show WP (d + 0) 2 0 [some (.inr (.inr 141)), some (.inl 0), none, none] [] (encA (s)) _
  refine w_push rfl ?_
  refine w_StI_4_2 rfl rfl ?_
  refine w_ldR rfl rfl rfl ?_
  refine w_alen rfl rfl rfl ?_
  refine w_StI_4_3 rfl rfl ?_
  exact l_fill141 0 0 rfl (by omega) (fun q hq => by omega) (fun s1 hf hs => ⟨hf, hs⟩)
theorem k_zeros140 {d : Nat} {s : mSt} {n : Int} (hn : 0 ≤ n ∧ n ≤ 40) : CV (d + 1) 70 [.inr (.inr 140), .inl n] (s) (fun s1 => s1 140 1 = n ∧ (∀ q, q < 40 → s1 141 q = 0) ∧ Fr [140, 141] s s1) := by
  refine CV.mk rfl ?_
  show WP (d + 1) 70 0 [some (.inr (.inr 140)), some (.inl n)] [] (encA (s)) _
  refine w_ldR rfl rfl rfl ?_
  refine w_push rfl ?_
  refine w_ldI rfl rfl ?_
  refine w_ldR rfl rfl rfl ?_
  first | refine w_getI rfl rfl rfl rfl rfl ?_ | refine w_getR rfl rfl rfl rfl rfl ?_
  refine w_alen rfl rfl rfl ?_
  refine w_m2 rfl rfl ?_
  refine w_m2 rfl rfl ?_
  rw [m_min_id (by omega) (by omega), show min n ((40 : Nat) : Int) = n by omega, m_max_id (by omega) (by omega), show max 0 n = n by omega]
  refine w_putI rfl rfl rfl rfl rfl rfl rfl ?_
  refine w_ldR rfl rfl rfl ?_
  first | refine w_getI rfl rfl rfl rfl rfl ?_ | refine w_getR rfl rfl rfl rfl rfl ?_
  refine w_push rfl ?_
  refine w_callN rfl rfl rfl k_fill141 (fun s12 p12 => ?_)
  refine w_retV rfl ?_
  exact ⟨by rw [p12.1.at 140 rfl, us_eq, mup_eq], p12.2, (Fr.us rfl).tr (Fr.mono rfl p12.1)⟩
theorem k_repl140 {d : Nat} {s : mSt} {i v : Int} (hs : 0 ≤ s 140 1 ∧ s 140 1 ≤ 40) (hi : 0 ≤ i ∧ i < s 140 1) : CV (d + 1) 68 [.inr (.inr 140), .inl i, .inl v] (s) (fun s1 => s1 = us s 141 i.toNat v) := by
  refine CV.mk rfl ?_
  show WP (d + 1) 68 0 [some (.inr (.inr 140)), some (.inl i), some (.inl v)] [] (encA (s)) _
  refine w_ldR rfl rfl rfl ?_
  refine w_ldI rfl rfl ?_
  refine w_callV rfl rfl rfl rfl rfl rfl rfl (k_has140 (by omega) (by omega)) ?_
  refine w_bEq0 rfl (fun b3 => ?_) (fun b3 => ?_)
  · first
    | (exfalso; omega)
    | (refine w_retV rfl ?_
       rfl)
  · first
    | (exfalso; omega)
    | (refine w_ldR rfl rfl rfl ?_
       first | refine w_getI rfl rfl rfl rfl rfl ?_ | refine w_getR rfl rfl rfl rfl rfl ?_
       refine w_ldI rfl rfl ?_
       refine w_ldI rfl rfl ?_
       refine w_ast rfl rfl rfl (by omega) rfl ?_
       refine w_retV rfl ?_
       rfl)
theorem k_has142 {d : Nat} {s : mSt} {i : Int} (hi : -2147483648 ≤ i ∧ i < 2147483648) (hs : -2147483648 ≤ s 142 1 ∧ s 142 1 < 2147483648) : Call (d + 0) 62 [.inr (.inr 142), .inl i] (encA (s)) (some (.inl (bI (0 ≤ i ∧ i < s 142 1)))) (encA (s)) := by
  refine CI.ex (CI.mk rfl ?_)
  show WP (d + 0) 62 0 [some (.inr (.inr 142)), some (.inl i)] [] (encA (s)) _
  refine w_ldI rfl rfl ?_
  refine w_irLt0 rfl (by omega) (fun b1 => ?_) (fun b1 => ?_)
  · first
    | (exfalso; omega)
    | (refine w_push rfl ?_
       refine w_retB rfl (by first | exact bI_01 _ | decide | omega) ?_
       refine ⟨?_, rfl⟩
       unfold bI
       first | rw [if_pos (by omega)] | rw [if_neg (by omega)])
  · first
    | (exfalso; omega)
    | (refine w_ldI rfl rfl ?_
       refine w_ldR rfl rfl rfl ?_
       first | refine w_getI rfl rfl rfl rfl rfl ?_ | refine w_getR rfl rfl rfl rfl rfl ?_
       refine w_crGe rfl (by omega) (by omega) (fun b5 => ?_) (fun b5 => ?_)
       · first
         | (exfalso; omega)
         | (refine w_push rfl ?_
            refine w_retB rfl (by first | exact bI_01 _ | decide | omega) ?_
            refine ⟨?_, rfl⟩
            unfold bI
            first | rw [if_pos (by omega)] | rw [if_neg (by omega)])
       · first
         | (exfalso; omega)
         | (refine w_push rfl ?_
            refine w_go rfl ?_
            refine w_retB rfl (by first | exact bI_01 _ | decide | omega) ?_
            refine ⟨?_, rfl⟩
            unfold bI
            first | rw [if_pos (by omega)] | rw [if_neg (by omega)]))
theorem k_at142 {d : Nat} {s : mSt} {i : Int} (hi : -2147483648 ≤ i ∧ i < 2147483648) (hs : 0 ≤ s 142 1 ∧ s 142 1 ≤ 40) : Call (d + 0) 64 [.inr (.inr 142), .inl i] (encA (s)) (some (.inl (rowAt s 142 i))) (encA (s)) := by
  refine CI.ex (CI.mk rfl ?_)
  show WP (d + 0) 64 0 [some (.inr (.inr 142)), some (.inl i)] [] (encA (s)) _
  refine w_ldI rfl rfl ?_
  refine w_irLt0 rfl (by omega) (fun b1 => ?_) (fun b1 => ?_)
  · first
    | (exfalso; omega)
    | (refine w_push rfl ?_
       refine w_retI rfl ?_
       refine ⟨?_, rfl⟩
       unfold rowAt
       first | rw [if_pos (by omega)] | rw [if_neg (by omega)])
  · first
    | (exfalso; omega)
    | (refine w_ldI rfl rfl ?_
       refine w_ldR rfl rfl rfl ?_
       first | refine w_getI rfl rfl rfl rfl rfl ?_ | refine w_getR rfl rfl rfl rfl rfl ?_
       refine w_crGe rfl (by omega) (by omega) (fun b5 => ?_) (fun b5 => ?_)
       · first
         | (exfalso; omega)
         | (refine w_push rfl ?_
            refine w_retI rfl ?_
            refine ⟨?_, rfl⟩
            unfold rowAt
            first | rw [if_pos (by omega)] | rw [if_neg (by omega)])
       · first
         | (exfalso; omega)
         | (refine w_ldR rfl rfl rfl ?_
            first | refine w_getI rfl rfl rfl rfl rfl ?_ | refine w_getR rfl rfl rfl rfl rfl ?_
            refine w_ldI rfl rfl ?_
            refine w_ald rfl rfl rfl (by omega) rfl ?_
            refine w_go rfl ?_
            refine w_retI rfl ?_
            refine ⟨?_, rfl⟩
            unfold rowAt
            first | rw [if_pos (by omega)] | rw [if_neg (by omega)]))
theorem l_fill143 {d : Nat} {s : mSt} {P : mSt → Prop} (k : Nat) (i : Int) (hi : i = (k : Int)) (hk : k ≤ 40) (hl : ∀ q, q < k → s 143 q = 0) (hP : ∀ s1, Fr [143] s s1 → (∀ q, q < 40 → s1 143 q = 0) → P s1) : WP (d + 0) 2 5 [some (.inr (.inr 143)), some (.inl 0), some (.inl i), some (.inl 40)] [] (encA (s)) (QV P) := by
  subst hi
  refine w_ldI rfl rfl ?_
  refine w_ldI rfl rfl ?_
  refine w_crGe rfl (by omega) (by omega) (fun b7 => ?_) (fun b7 => ?_)
  · first
    | (exfalso; omega)
    | (refine w_retV rfl ?_
       obtain rfl : k = 40 := by omega
       exact hP s Fr.rf hl)
  · first
    | (exfalso; omega)
    | (refine w_ldR rfl rfl rfl ?_
       refine w_ldI rfl rfl ?_
       refine w_ldI rfl rfl ?_
       refine w_ast rfl rfl rfl (by omega) rfl ?_
       refine w_inc_4_2 rfl rfl ?_
       refine w_go rfl ?_
       exact l_fill143 (k + 1) ((k : Int) + 1) (by omega) (by omega) (fun q hq => by
         rw [us_eq]
         unfold mup
         split
         · rfl
         · exact hl q (by omega)) (fun s1 hf hs => hP s1 ((Fr.us rfl).tr hf) hs))
termination_by (40 - k)
decreasing_by all_goals omega
theorem k_fill143 {d : Nat} {s : mSt}  : CV (d + 0) 2 [.inr (.inr 143), .inl 0] (s) (fun s1 => Fr [143] s s1 ∧ ∀ q, q < 40 → s1 143 q = 0) := by
  refine CV.mk rfl ?_
  show WP (d + 0) 2 0 [some (.inr (.inr 143)), some (.inl 0), none, none] [] (encA (s)) _
  refine w_push rfl ?_
  refine w_StI_4_2 rfl rfl ?_
  refine w_ldR rfl rfl rfl ?_
  refine w_alen rfl rfl rfl ?_
  refine w_StI_4_3 rfl rfl ?_
  exact l_fill143 0 0 rfl (by omega) (fun q hq => by omega) (fun s1 hf hs => ⟨hf, hs⟩)
theorem k_zeros142 {d : Nat} {s : mSt} {n : Int} (hn : 0 ≤ n ∧ n ≤ 40) : CV (d + 1) 70 [.inr (.inr 142), .inl n] (s) (fun s1 => s1 142 1 = n ∧ (∀ q, q < 40 → s1 143 q = 0) ∧ Fr [142, 143] s s1) := by
  refine CV.mk rfl ?_
  show WP (d + 1) 70 0 [some (.inr (.inr 142)), some (.inl n)] [] (encA (s)) _
  refine w_ldR rfl rfl rfl ?_
  refine w_push rfl ?_
  refine w_ldI rfl rfl ?_
  refine w_ldR rfl rfl rfl ?_
  first | refine w_getI rfl rfl rfl rfl rfl ?_ | refine w_getR rfl rfl rfl rfl rfl ?_
  refine w_alen rfl rfl rfl ?_
  refine w_m2 rfl rfl ?_
  refine w_m2 rfl rfl ?_
  rw [m_min_id (by omega) (by omega), show min n ((40 : Nat) : Int) = n by omega, m_max_id (by omega) (by omega), show max 0 n = n by omega]
  refine w_putI rfl rfl rfl rfl rfl rfl rfl ?_
  refine w_ldR rfl rfl rfl ?_
  first | refine w_getI rfl rfl rfl rfl rfl ?_ | refine w_getR rfl rfl rfl rfl rfl ?_
  refine w_push rfl ?_
  refine w_callN rfl rfl rfl k_fill143 (fun s12 p12 => ?_)
  refine w_retV rfl ?_
  exact ⟨by rw [p12.1.at 142 rfl, us_eq, mup_eq], p12.2, (Fr.us rfl).tr (Fr.mono rfl p12.1)⟩
theorem k_repl142 {d : Nat} {s : mSt} {i v : Int} (hs : 0 ≤ s 142 1 ∧ s 142 1 ≤ 40) (hi : 0 ≤ i ∧ i < s 142 1) : CV (d + 1) 68 [.inr (.inr 142), .inl i, .inl v] (s) (fun s1 => s1 = us s 143 i.toNat v) := by
  refine CV.mk rfl ?_
  show WP (d + 1) 68 0 [some (.inr (.inr 142)), some (.inl i), some (.inl v)] [] (encA (s)) _
  refine w_ldR rfl rfl rfl ?_
  refine w_ldI rfl rfl ?_
  refine w_callV rfl rfl rfl rfl rfl rfl rfl (k_has142 (by omega) (by omega)) ?_
  refine w_bEq0 rfl (fun b3 => ?_) (fun b3 => ?_)
  · first
    | (exfalso; omega)
    | (refine w_retV rfl ?_
       rfl)
  · first
    | (exfalso; omega)
    | (refine w_ldR rfl rfl rfl ?_
       first | refine w_getI rfl rfl rfl rfl rfl ?_ | refine w_getR rfl rfl rfl rfl rfl ?_
       refine w_ldI rfl rfl ?_
       refine w_ldI rfl rfl ?_
       refine w_ast rfl rfl rfl (by omega) rfl ?_
       refine w_retV rfl ?_
       rfl)
theorem k_has144 {d : Nat} {s : mSt} {i : Int} (hi : -2147483648 ≤ i ∧ i < 2147483648) (hs : -2147483648 ≤ s 144 1 ∧ s 144 1 < 2147483648) : Call (d + 0) 62 [.inr (.inr 144), .inl i] (encA (s)) (some (.inl (bI (0 ≤ i ∧ i < s 144 1)))) (encA (s)) := by
  refine CI.ex (CI.mk rfl ?_)
  show WP (d + 0) 62 0 [some (.inr (.inr 144)), some (.inl i)] [] (encA (s)) _
  refine w_ldI rfl rfl ?_
  refine w_irLt0 rfl (by omega) (fun b1 => ?_) (fun b1 => ?_)
  · first
    | (exfalso; omega)
    | (refine w_push rfl ?_
       refine w_retB rfl (by first | exact bI_01 _ | decide | omega) ?_
       refine ⟨?_, rfl⟩
       unfold bI
       first | rw [if_pos (by omega)] | rw [if_neg (by omega)])
  · first
    | (exfalso; omega)
    | (refine w_ldI rfl rfl ?_
       refine w_ldR rfl rfl rfl ?_
       first | refine w_getI rfl rfl rfl rfl rfl ?_ | refine w_getR rfl rfl rfl rfl rfl ?_
       refine w_crGe rfl (by omega) (by omega) (fun b5 => ?_) (fun b5 => ?_)
       · first
         | (exfalso; omega)
         | (refine w_push rfl ?_
            refine w_retB rfl (by first | exact bI_01 _ | decide | omega) ?_
            refine ⟨?_, rfl⟩
            unfold bI
            first | rw [if_pos (by omega)] | rw [if_neg (by omega)])
       · first
         | (exfalso; omega)
         | (refine w_push rfl ?_
            refine w_go rfl ?_
            refine w_retB rfl (by first | exact bI_01 _ | decide | omega) ?_
            refine ⟨?_, rfl⟩
            unfold bI
            first | rw [if_pos (by omega)] | rw [if_neg (by omega)]))
theorem k_at144 {d : Nat} {s : mSt} {i : Int} (hi : -2147483648 ≤ i ∧ i < 2147483648) (hs : 0 ≤ s 144 1 ∧ s 144 1 ≤ 40) : Call (d + 0) 64 [.inr (.inr 144), .inl i] (encA (s)) (some (.inl (rowAt s 144 i))) (encA (s)) := by
  refine CI.ex (CI.mk rfl ?_)
  show WP (d + 0) 64 0 [some (.inr (.inr 144)), some (.inl i)] [] (encA (s)) _
  refine w_ldI rfl rfl ?_
  refine w_irLt0 rfl (by omega) (fun b1 => ?_) (fun b1 => ?_)
  · first
    | (exfalso; omega)
    | (refine w_push rfl ?_
       refine w_retI rfl ?_
       refine ⟨?_, rfl⟩
       unfold rowAt
       first | rw [if_pos (by omega)] | rw [if_neg (by omega)])
  · first
    | (exfalso; omega)
    | (refine w_ldI rfl rfl ?_
       refine w_ldR rfl rfl rfl ?_
       first | refine w_getI rfl rfl rfl rfl rfl ?_ | refine w_getR rfl rfl rfl rfl rfl ?_
       refine w_crGe rfl (by omega) (by omega) (fun b5 => ?_) (fun b5 => ?_)
       · first
         | (exfalso; omega)
         | (refine w_push rfl ?_
            refine w_retI rfl ?_
            refine ⟨?_, rfl⟩
            unfold rowAt
            first | rw [if_pos (by omega)] | rw [if_neg (by omega)])
       · first
         | (exfalso; omega)
         | (refine w_ldR rfl rfl rfl ?_
            first | refine w_getI rfl rfl rfl rfl rfl ?_ | refine w_getR rfl rfl rfl rfl rfl ?_
            refine w_ldI rfl rfl ?_
            refine w_ald rfl rfl rfl (by omega) rfl ?_
            refine w_go rfl ?_
            refine w_retI rfl ?_
            refine ⟨?_, rfl⟩
            unfold rowAt
            first | rw [if_pos (by omega)] | rw [if_neg (by omega)]))
theorem l_fill145 {d : Nat} {s : mSt} {P : mSt → Prop} (k : Nat) (i : Int) (hi : i = (k : Int)) (hk : k ≤ 40) (hl : ∀ q, q < k → s 145 q = 0) (hP : ∀ s1, Fr [145] s s1 → (∀ q, q < 40 → s1 145 q = 0) → P s1) : WP (d + 0) 2 5 [some (.inr (.inr 145)), some (.inl 0), some (.inl i), some (.inl 40)] [] (encA (s)) (QV P) := by
  subst hi
  refine w_ldI rfl rfl ?_
  refine w_ldI rfl rfl ?_
  refine w_crGe rfl (by omega) (by omega) (fun b7 => ?_) (fun b7 => ?_)
  · first
    | (exfalso; omega)
    | (refine w_retV rfl ?_
       obtain rfl : k = 40 := by omega
       exact hP s Fr.rf hl)
  · first
    | (exfalso; omega)
    | (refine w_ldR rfl rfl rfl ?_
       refine w_ldI rfl rfl ?_
       refine w_ldI rfl rfl ?_
       refine w_ast rfl rfl rfl (by omega) rfl ?_
       refine w_inc_4_2 rfl rfl ?_
       refine w_go rfl ?_
       exact l_fill145 (k + 1) ((k : Int) + 1) (by omega) (by omega) (fun q hq => by
         rw [us_eq]
         unfold mup
         split
         · rfl
         · exact hl q (by omega)) (fun s1 hf hs => hP s1 ((Fr.us rfl).tr hf) hs))
termination_by (40 - k)
decreasing_by all_goals omega
theorem k_fill145 {d : Nat} {s : mSt}  : CV (d + 0) 2 [.inr (.inr 145), .inl 0] (s) (fun s1 => Fr [145] s s1 ∧ ∀ q, q < 40 → s1 145 q = 0) := by
  refine CV.mk rfl ?_
  show WP (d + 0) 2 0 [some (.inr (.inr 145)), some (.inl 0), none, none] [] (encA (s)) _
  refine w_push rfl ?_
  refine w_StI_4_2 rfl rfl ?_
  refine w_ldR rfl rfl rfl ?_
  refine w_alen rfl rfl rfl ?_
  refine w_StI_4_3 rfl rfl ?_
  exact l_fill145 0 0 rfl (by omega) (fun q hq => by omega) (fun s1 hf hs => ⟨hf, hs⟩)
theorem k_zeros144 {d : Nat} {s : mSt} {n : Int} (hn : 0 ≤ n ∧ n ≤ 40) : CV (d + 1) 70 [.inr (.inr 144), .inl n] (s) (fun s1 => s1 144 1 = n ∧ (∀ q, q < 40 → s1 145 q = 0) ∧ Fr [144, 145] s s1) := by
  refine CV.mk rfl ?_
  show WP (d + 1) 70 0 [some (.inr (.inr 144)), some (.inl n)] [] (encA (s)) _
  refine w_ldR rfl rfl rfl ?_
  refine w_push rfl ?_
  refine w_ldI rfl rfl ?_
  refine w_ldR rfl rfl rfl ?_
  first | refine w_getI rfl rfl rfl rfl rfl ?_ | refine w_getR rfl rfl rfl rfl rfl ?_
  refine w_alen rfl rfl rfl ?_
  refine w_m2 rfl rfl ?_
  refine w_m2 rfl rfl ?_
  rw [m_min_id (by omega) (by omega), show min n ((40 : Nat) : Int) = n by omega, m_max_id (by omega) (by omega), show max 0 n = n by omega]
  refine w_putI rfl rfl rfl rfl rfl rfl rfl ?_
  refine w_ldR rfl rfl rfl ?_
  first | refine w_getI rfl rfl rfl rfl rfl ?_ | refine w_getR rfl rfl rfl rfl rfl ?_
  refine w_push rfl ?_
  refine w_callN rfl rfl rfl k_fill145 (fun s12 p12 => ?_)
  refine w_retV rfl ?_
  exact ⟨by rw [p12.1.at 144 rfl, us_eq, mup_eq], p12.2, (Fr.us rfl).tr (Fr.mono rfl p12.1)⟩
theorem k_repl144 {d : Nat} {s : mSt} {i v : Int} (hs : 0 ≤ s 144 1 ∧ s 144 1 ≤ 40) (hi : 0 ≤ i ∧ i < s 144 1) : CV (d + 1) 68 [.inr (.inr 144), .inl i, .inl v] (s) (fun s1 => s1 = us s 145 i.toNat v) := by
  refine CV.mk rfl ?_
  show WP (d + 1) 68 0 [some (.inr (.inr 144)), some (.inl i), some (.inl v)] [] (encA (s)) _
  refine w_ldR rfl rfl rfl ?_
  refine w_ldI rfl rfl ?_
  refine w_callV rfl rfl rfl rfl rfl rfl rfl (k_has144 (by omega) (by omega)) ?_
  refine w_bEq0 rfl (fun b3 => ?_) (fun b3 => ?_)
  · first
    | (exfalso; omega)
    | (refine w_retV rfl ?_
       rfl)
  · first
    | (exfalso; omega)
    | (refine w_ldR rfl rfl rfl ?_
       first | refine w_getI rfl rfl rfl rfl rfl ?_ | refine w_getR rfl rfl rfl rfl rfl ?_
       refine w_ldI rfl rfl ?_
       refine w_ldI rfl rfl ?_
       refine w_ast rfl rfl rfl (by omega) rfl ?_
       refine w_retV rfl ?_
       rfl)
theorem x_sheet_0 {d : Nat} {s : mSt} (hI : IvD s) {w b n : Int} (hrw : -2147483648 ≤ w ∧ w < 2147483648) (hrb : -2147483648 ≤ b ∧ b < 2147483648) (hrn : -2147483648 ≤ n ∧ n < 2147483648) (hw : w = 0) (hb : (b = 0 ∨ b = 8 ∨ b = 16 ∨ b = 32)) (h1 : ¬ (b ≠ 0 ∧ n < 0)) (h2 : ¬ (b ≠ 0 ∧ 40 < n)) : CI (d + 2) 130 [.inr (.inr 10), .inl w, .inl b, .inl n] (s) (fun q s1 => q = 1 ∧ s1 131 = mup (s 131) 0 b ∧ s1 138 1 = (if b = 0 then 0 else n) ∧ (∀ i, i < 40 → s1 139 i = 0) ∧ Fr [131, 138, 139] s s1) := by
  refine CI.mk rfl ?_
  show WP (d + 2) 130 0 [some (.inr (.inr 10)), some (.inl w), some (.inl b), some (.inl n)] [] (encA (s)) _
  have hI0 := hI
  obtain ⟨⟨hM, hC, hN⟩, hV, h8⟩ := hI
  have hV0 := hV
  have hM0 := hM
  obtain ⟨vc, vpl, vga, vse, vne, veg, vre, vtu, vta, vwa, v36, v37, v39, v40, v42, v41, v43, v44, vl0, vl1, vlm⟩ := hV
  obtain ⟨hM39, hM40, hM41, hM43, hM44, hM36, hM37, hM38, hMc, hMw, hMp, hMt, hMb⟩ := hM
  refine w_ldI rfl rfl ?_
  refine w_call rfl rfl rfl (k_isSheet (by omega)) ?_
  refine w_bEq0 rfl (fun b2 => ?_) (fun b2 => ?_)
  · first
    | (exfalso; omega)
    | (refine w_ldR rfl rfl rfl ?_
       refine w_push rfl ?_
       refine w_callWI rfl rfl rfl rfl rfl rfl rfl k_error1 (fun v16 s16 p16 => ?_)
       obtain ⟨rfl, rfl⟩ := p16
       refine w_retI rfl ?_
       refine ⟨rfl, by rw [p49.2.2.at 131 rfl, us_eq]; rfl, ?_, p49.2.1, (Fr.us rfl).tr (Fr.mono rfl p49.2.2)⟩
       rw [p49.1]
       first
       | rw [if_pos (by omega)]
       | rw [if_neg (by omega)])
  · first
    | (exfalso; omega)
    | (refine w_ldI rfl rfl ?_
       refine w_irEq0 rfl (by omega) (fun b4 => ?_) (fun b4 => ?_)
       · first
         | (exfalso; omega)
         | (refine w_ldI rfl rfl ?_
            refine w_irEq0 rfl (by omega) (fun b19 => ?_) (fun b19 => ?_)
            · first
              | (exfalso; omega)
              | (refine w_ldI rfl rfl ?_
                 refine w_irEq0 rfl (by omega) (fun b27 => ?_) (fun b27 => ?_)
                 · first
                   | (exfalso; omega)
                   | (refine w_ldR rfl rfl rfl ?_
                      first | refine w_getI rfl rfl rfl rfl rfl ?_ | refine w_getR rfl rfl rfl rfl rfl ?_
                      refine w_ldI rfl rfl ?_
                      refine w_ldI rfl rfl ?_
                      refine w_ast rfl rfl rfl (by omega) rfl ?_
                      refine w_ldR rfl rfl rfl ?_
                      first | refine w_getI rfl rfl rfl rfl rfl ?_ | refine w_getR rfl rfl rfl rfl rfl ?_
                      refine w_ldI rfl rfl ?_
                      subst hw
                      refine w_rld rfl rfl rfl (by omega) rfl ?_
                      show WP _ _ _ _ (.inr (.inr 138) :: _) _ _
                      refine w_ldI rfl rfl ?_
                      refine w_irNe0 rfl (by omega) (fun b45 => ?_) (fun b45 => ?_)
                      · first
                        | (exfalso; omega)
                        | (refine w_ldI rfl rfl ?_
                           refine w_callWN rfl rfl rfl rfl rfl rfl rfl (k_zeros138 (by omega)) (fun s49 p49 => ?_)
                           refine w_push rfl ?_
                           refine w_retI rfl ?_
                           refine ⟨rfl, by rw [p49.2.2.at 131 rfl, us_eq]; rfl, ?_, p49.2.1, (Fr.us rfl).tr (Fr.mono rfl p49.2.2)⟩
                           rw [p49.1]
                           first
                           | rw [if_pos (by omega)]
                           | rw [if_neg (by omega)])
                      · first
                        | (exfalso; omega)
                        | (refine w_push rfl ?_
                           refine w_go rfl ?_
                           refine w_callWN rfl rfl rfl rfl rfl rfl rfl (k_zeros138 (by omega)) (fun s49 p49 => ?_)
                           refine w_push rfl ?_
                           refine w_retI rfl ?_
                           refine ⟨rfl, by rw [p49.2.2.at 131 rfl, us_eq]; rfl, ?_, p49.2.1, (Fr.us rfl).tr (Fr.mono rfl p49.2.2)⟩
                           rw [p49.1]
                           first
                           | rw [if_pos (by omega)]
                           | rw [if_neg (by omega)]))
                 · first
                   | (exfalso; omega)
                   | (refine w_ldI rfl rfl ?_
                      refine w_push rfl ?_
                      refine w_crLe rfl (by omega) (by omega) (fun b30 => ?_) (fun b30 => ?_)
                      · first
                        | (exfalso; omega)
                        | (refine w_ldR rfl rfl rfl ?_
                           first | refine w_getI rfl rfl rfl rfl rfl ?_ | refine w_getR rfl rfl rfl rfl rfl ?_
                           refine w_ldI rfl rfl ?_
                           refine w_ldI rfl rfl ?_
                           refine w_ast rfl rfl rfl (by omega) rfl ?_
                           refine w_ldR rfl rfl rfl ?_
                           first | refine w_getI rfl rfl rfl rfl rfl ?_ | refine w_getR rfl rfl rfl rfl rfl ?_
                           refine w_ldI rfl rfl ?_
                           subst hw
                           refine w_rld rfl rfl rfl (by omega) rfl ?_
                           show WP _ _ _ _ (.inr (.inr 138) :: _) _ _
                           refine w_ldI rfl rfl ?_
                           refine w_irNe0 rfl (by omega) (fun b45 => ?_) (fun b45 => ?_)
                           · first
                             | (exfalso; omega)
                             | (refine w_ldI rfl rfl ?_
                                refine w_callWN rfl rfl rfl rfl rfl rfl rfl (k_zeros138 (by omega)) (fun s49 p49 => ?_)
                                refine w_push rfl ?_
                                refine w_retI rfl ?_
                                refine ⟨rfl, by rw [p49.2.2.at 131 rfl, us_eq]; rfl, ?_, p49.2.1, (Fr.us rfl).tr (Fr.mono rfl p49.2.2)⟩
                                rw [p49.1]
                                first
                                | rw [if_pos (by omega)]
                                | rw [if_neg (by omega)])
                           · first
                             | (exfalso; omega)
                             | (refine w_push rfl ?_
                                refine w_go rfl ?_
                                refine w_callWN rfl rfl rfl rfl rfl rfl rfl (k_zeros138 (by omega)) (fun s49 p49 => ?_)
                                refine w_push rfl ?_
                                refine w_retI rfl ?_
                                refine ⟨rfl, by rw [p49.2.2.at 131 rfl, us_eq]; rfl, ?_, p49.2.1, (Fr.us rfl).tr (Fr.mono rfl p49.2.2)⟩
                                rw [p49.1]
                                first
                                | rw [if_pos (by omega)]
                                | rw [if_neg (by omega)]))
                      · first
                        | (exfalso; omega)
                        | (refine w_ldR rfl rfl rfl ?_
                           refine w_push rfl ?_
                           refine w_callWI rfl rfl rfl rfl rfl rfl rfl k_error1 (fun v33 s33 p33 => ?_)
                           obtain ⟨rfl, rfl⟩ := p33
                           refine w_retI rfl ?_
                           refine ⟨rfl, by rw [p49.2.2.at 131 rfl, us_eq]; rfl, ?_, p49.2.1, (Fr.us rfl).tr (Fr.mono rfl p49.2.2)⟩
                           rw [p49.1]
                           first
                           | rw [if_pos (by omega)]
                           | rw [if_neg (by omega)])))
            · first
              | (exfalso; omega)
              | (refine w_ldI rfl rfl ?_
                 refine w_irGe0 rfl (by omega) (fun b21 => ?_) (fun b21 => ?_)
                 · first
                   | (exfalso; omega)
                   | (refine w_ldI rfl rfl ?_
                      refine w_irEq0 rfl (by omega) (fun b27 => ?_) (fun b27 => ?_)
                      · first
                        | (exfalso; omega)
                        | (refine w_ldR rfl rfl rfl ?_
                           first | refine w_getI rfl rfl rfl rfl rfl ?_ | refine w_getR rfl rfl rfl rfl rfl ?_
                           refine w_ldI rfl rfl ?_
                           refine w_ldI rfl rfl ?_
                           refine w_ast rfl rfl rfl (by omega) rfl ?_
                           refine w_ldR rfl rfl rfl ?_
                           first | refine w_getI rfl rfl rfl rfl rfl ?_ | refine w_getR rfl rfl rfl rfl rfl ?_
                           refine w_ldI rfl rfl ?_
                           subst hw
                           refine w_rld rfl rfl rfl (by omega) rfl ?_
                           show WP _ _ _ _ (.inr (.inr 138) :: _) _ _
                           refine w_ldI rfl rfl ?_
                           refine w_irNe0 rfl (by omega) (fun b45 => ?_) (fun b45 => ?_)
                           · first
                             | (exfalso; omega)
                             | (refine w_ldI rfl rfl ?_
                                refine w_callWN rfl rfl rfl rfl rfl rfl rfl (k_zeros138 (by omega)) (fun s49 p49 => ?_)
                                refine w_push rfl ?_
                                refine w_retI rfl ?_
                                refine ⟨rfl, by rw [p49.2.2.at 131 rfl, us_eq]; rfl, ?_, p49.2.1, (Fr.us rfl).tr (Fr.mono rfl p49.2.2)⟩
                                rw [p49.1]
                                first
                                | rw [if_pos (by omega)]
                                | rw [if_neg (by omega)])
                           · first
                             | (exfalso; omega)
                             | (refine w_push rfl ?_
                                refine w_go rfl ?_
                                refine w_callWN rfl rfl rfl rfl rfl rfl rfl (k_zeros138 (by omega)) (fun s49 p49 => ?_)
                                refine w_push rfl ?_
                                refine w_retI rfl ?_
                                refine ⟨rfl, by rw [p49.2.2.at 131 rfl, us_eq]; rfl, ?_, p49.2.1, (Fr.us rfl).tr (Fr.mono rfl p49.2.2)⟩
                                rw [p49.1]
                                first
                                | rw [if_pos (by omega)]
                                | rw [if_neg (by omega)]))
                      · first
                        | (exfalso; omega)
                        | (refine w_ldI rfl rfl ?_
                           refine w_push rfl ?_
                           refine w_crLe rfl (by omega) (by omega) (fun b30 => ?_) (fun b30 => ?_)
                           · first
                             | (exfalso; omega)
                             | (refine w_ldR rfl rfl rfl ?_
                                first | refine w_getI rfl rfl rfl rfl rfl ?_ | refine w_getR rfl rfl rfl rfl rfl ?_
                                refine w_ldI rfl rfl ?_
                                refine w_ldI rfl rfl ?_
                                refine w_ast rfl rfl rfl (by omega) rfl ?_
                                refine w_ldR rfl rfl rfl ?_
                                first | refine w_getI rfl rfl rfl rfl rfl ?_ | refine w_getR rfl rfl rfl rfl rfl ?_
                                refine w_ldI rfl rfl ?_
                                subst hw
                                refine w_rld rfl rfl rfl (by omega) rfl ?_
                                show WP _ _ _ _ (.inr (.inr 138) :: _) _ _
                                refine w_ldI rfl rfl ?_
                                refine w_irNe0 rfl (by omega) (fun b45 => ?_) (fun b45 => ?_)
                                · first
                                  | (exfalso; omega)
                                  | (refine w_ldI rfl rfl ?_
                                     refine w_callWN rfl rfl rfl rfl rfl rfl rfl (k_zeros138 (by omega)) (fun s49 p49 => ?_)
                                     refine w_push rfl ?_
                                     refine w_retI rfl ?_
                                     refine ⟨rfl, by rw [p49.2.2.at 131 rfl, us_eq]; rfl, ?_, p49.2.1, (Fr.us rfl).tr (Fr.mono rfl p49.2.2)⟩
                                     rw [p49.1]
                                     first
                                     | rw [if_pos (by omega)]
                                     | rw [if_neg (by omega)])
                                · first
                                  | (exfalso; omega)
                                  | (refine w_push rfl ?_
                                     refine w_go rfl ?_
                                     refine w_callWN rfl rfl rfl rfl rfl rfl rfl (k_zeros138 (by omega)) (fun s49 p49 => ?_)
                                     refine w_push rfl ?_
                                     refine w_retI rfl ?_
                                     refine ⟨rfl, by rw [p49.2.2.at 131 rfl, us_eq]; rfl, ?_, p49.2.1, (Fr.us rfl).tr (Fr.mono rfl p49.2.2)⟩
                                     rw [p49.1]
                                     first
                                     | rw [if_pos (by omega)]
                                     | rw [if_neg (by omega)]))
                           · first
                             | (exfalso; omega)
                             | (refine w_ldR rfl rfl rfl ?_
                                refine w_push rfl ?_
                                refine w_callWI rfl rfl rfl rfl rfl rfl rfl k_error1 (fun v33 s33 p33 => ?_)
                                obtain ⟨rfl, rfl⟩ := p33
                                refine w_retI rfl ?_
                                refine ⟨rfl, by rw [p49.2.2.at 131 rfl, us_eq]; rfl, ?_, p49.2.1, (Fr.us rfl).tr (Fr.mono rfl p49.2.2)⟩
                                rw [p49.1]
                                first
                                | rw [if_pos (by omega)]
                                | rw [if_neg (by omega)])))
                 · first
                   | (exfalso; omega)
                   | (refine w_ldR rfl rfl rfl ?_
                      refine w_push rfl ?_
                      refine w_callWI rfl rfl rfl rfl rfl rfl rfl k_error1 (fun v24 s24 p24 => ?_)
                      obtain ⟨rfl, rfl⟩ := p24
                      refine w_retI rfl ?_
                      refine ⟨rfl, by rw [p49.2.2.at 131 rfl, us_eq]; rfl, ?_, p49.2.1, (Fr.us rfl).tr (Fr.mono rfl p49.2.2)⟩
                      rw [p49.1]
                      first
                      | rw [if_pos (by omega)]
                      | rw [if_neg (by omega)])))
       · first
         | (exfalso; omega)
         | (refine w_ldI rfl rfl ?_
            refine w_push rfl ?_
            refine w_crEq rfl (by omega) (by omega) (fun b7 => ?_) (fun b7 => ?_)
            · first
              | (exfalso; omega)
              | (refine w_ldI rfl rfl ?_
                 refine w_irEq0 rfl (by omega) (fun b19 => ?_) (fun b19 => ?_)
                 · first
                   | (exfalso; omega)
                   | (refine w_ldI rfl rfl ?_
                      refine w_irEq0 rfl (by omega) (fun b27 => ?_) (fun b27 => ?_)
                      · first
                        | (exfalso; omega)
                        | (refine w_ldR rfl rfl rfl ?_
                           first | refine w_getI rfl rfl rfl rfl rfl ?_ | refine w_getR rfl rfl rfl rfl rfl ?_
                           refine w_ldI rfl rfl ?_
                           refine w_ldI rfl rfl ?_
                           refine w_ast rfl rfl rfl (by omega) rfl ?_
                           refine w_ldR rfl rfl rfl ?_
                           first | refine w_getI rfl rfl rfl rfl rfl ?_ | refine w_getR rfl rfl rfl rfl rfl ?_
                           refine w_ldI rfl rfl ?_
                           subst hw
                           refine w_rld rfl rfl rfl (by omega) rfl ?_
                           show WP _ _ _ _ (.inr (.inr 138) :: _) _ _
                           refine w_ldI rfl rfl ?_
                           refine w_irNe0 rfl (by omega) (fun b45 => ?_) (fun b45 => ?_)
                           · first
                             | (exfalso; omega)
                             | (refine w_ldI rfl rfl ?_
                                refine w_callWN rfl rfl rfl rfl rfl rfl rfl (k_zeros138 (by omega)) (fun s49 p49 => ?_)
                                refine w_push rfl ?_
                                refine w_retI rfl ?_
                                refine ⟨rfl, by rw [p49.2.2.at 131 rfl, us_eq]; rfl, ?_, p49.2.1, (Fr.us rfl).tr (Fr.mono rfl p49.2.2)⟩
                                rw [p49.1]
                                first
                                | rw [if_pos (by omega)]
                                | rw [if_neg (by omega)])
                           · first
                             | (exfalso; omega)
                             | (refine w_push rfl ?_
                                refine w_go rfl ?_
                                refine w_callWN rfl rfl rfl rfl rfl rfl rfl (k_zeros138 (by omega)) (fun s49 p49 => ?_)
                                refine w_push rfl ?_
                                refine w_retI rfl ?_
                                refine ⟨rfl, by rw [p49.2.2.at 131 rfl, us_eq]; rfl, ?_, p49.2.1, (Fr.us rfl).tr (Fr.mono rfl p49.2.2)⟩
                                rw [p49.1]
                                first
                                | rw [if_pos (by omega)]
                                | rw [if_neg (by omega)]))
                      · first
                        | (exfalso; omega)
                        | (refine w_ldI rfl rfl ?_
                           refine w_push rfl ?_
                           refine w_crLe rfl (by omega) (by omega) (fun b30 => ?_) (fun b30 => ?_)
                           · first
                             | (exfalso; omega)
                             | (refine w_ldR rfl rfl rfl ?_
                                first | refine w_getI rfl rfl rfl rfl rfl ?_ | refine w_getR rfl rfl rfl rfl rfl ?_
                                refine w_ldI rfl rfl ?_
                                refine w_ldI rfl rfl ?_
                                refine w_ast rfl rfl rfl (by omega) rfl ?_
                                refine w_ldR rfl rfl rfl ?_
                                first | refine w_getI rfl rfl rfl rfl rfl ?_ | refine w_getR rfl rfl rfl rfl rfl ?_
                                refine w_ldI rfl rfl ?_
                                subst hw
                                refine w_rld rfl rfl rfl (by omega) rfl ?_
                                show WP _ _ _ _ (.inr (.inr 138) :: _) _ _
                                refine w_ldI rfl rfl ?_
                                refine w_irNe0 rfl (by omega) (fun b45 => ?_) (fun b45 => ?_)
                                · first
                                  | (exfalso; omega)
                                  | (refine w_ldI rfl rfl ?_
                                     refine w_callWN rfl rfl rfl rfl rfl rfl rfl (k_zeros138 (by omega)) (fun s49 p49 => ?_)
                                     refine w_push rfl ?_
                                     refine w_retI rfl ?_
                                     refine ⟨rfl, by rw [p49.2.2.at 131 rfl, us_eq]; rfl, ?_, p49.2.1, (Fr.us rfl).tr (Fr.mono rfl p49.2.2)⟩
                                     rw [p49.1]
                                     first
                                     | rw [if_pos (by omega)]
                                     | rw [if_neg (by omega)])
                                · first
                                  | (exfalso; omega)
                                  | (refine w_push rfl ?_
                                     refine w_go rfl ?_
                                     refine w_callWN rfl rfl rfl rfl rfl rfl rfl (k_zeros138 (by omega)) (fun s49 p49 => ?_)
                                     refine w_push rfl ?_
                                     refine w_retI rfl ?_
                                     refine ⟨rfl, by rw [p49.2.2.at 131 rfl, us_eq]; rfl, ?_, p49.2.1, (Fr.us rfl).tr (Fr.mono rfl p49.2.2)⟩
                                     rw [p49.1]
                                     first
                                     | rw [if_pos (by omega)]
                                     | rw [if_neg (by omega)]))
                           · first
                             | (exfalso; omega)
                             | (refine w_ldR rfl rfl rfl ?_
                                refine w_push rfl ?_
                                refine w_callWI rfl rfl rfl rfl rfl rfl rfl k_error1 (fun v33 s33 p33 => ?_)
                                obtain ⟨rfl, rfl⟩ := p33
                                refine w_retI rfl ?_
                                refine ⟨rfl, by rw [p49.2.2.at 131 rfl, us_eq]; rfl, ?_, p49.2.1, (Fr.us rfl).tr (Fr.mono rfl p49.2.2)⟩
                                rw [p49.1]
                                first
                                | rw [if_pos (by omega)]
                                | rw [if_neg (by omega)])))
                 · first
                   | (exfalso; omega)
                   | (refine w_ldI rfl rfl ?_
                      refine w_irGe0 rfl (by omega) (fun b21 => ?_) (fun b21 => ?_)
                      · first
                        | (exfalso; omega)
                        | (refine w_ldI rfl rfl ?_
                           refine w_irEq0 rfl (by omega) (fun b27 => ?_) (fun b27 => ?_)
                           · first
                             | (exfalso; omega)
                             | (refine w_ldR rfl rfl rfl ?_
                                first | refine w_getI rfl rfl rfl rfl rfl ?_ | refine w_getR rfl rfl rfl rfl rfl ?_
                                refine w_ldI rfl rfl ?_
                                refine w_ldI rfl rfl ?_
                                refine w_ast rfl rfl rfl (by omega) rfl ?_
                                refine w_ldR rfl rfl rfl ?_
                                first | refine w_getI rfl rfl rfl rfl rfl ?_ | refine w_getR rfl rfl rfl rfl rfl ?_
                                refine w_ldI rfl rfl ?_
                                subst hw
                                refine w_rld rfl rfl rfl (by omega) rfl ?_
                                show WP _ _ _ _ (.inr (.inr 138) :: _) _ _
                                refine w_ldI rfl rfl ?_
                                refine w_irNe0 rfl (by omega) (fun b45 => ?_) (fun b45 => ?_)
                                · first
                                  | (exfalso; omega)
                                  | (refine w_ldI rfl rfl ?_
                                     refine w_callWN rfl rfl rfl rfl rfl rfl rfl (k_zeros138 (by omega)) (fun s49 p49 => ?_)
                                     refine w_push rfl ?_
                                     refine w_retI rfl ?_
                                     refine ⟨rfl, by rw [p49.2.2.at 131 rfl, us_eq]; rfl, ?_, p49.2.1, (Fr.us rfl).tr (Fr.mono rfl p49.2.2)⟩
                                     rw [p49.1]
                                     first
                                     | rw [if_pos (by omega)]
                                     | rw [if_neg (by omega)])
                                · first
                                  | (exfalso; omega)
                                  | (refine w_push rfl ?_
                                     refine w_go rfl ?_
                                     refine w_callWN rfl rfl rfl rfl rfl rfl rfl (k_zeros138 (by omega)) (fun s49 p49 => ?_)
                                     refine w_push rfl ?_
                                     refine w_retI rfl ?_
                                     refine ⟨rfl, by rw [p49.2.2.at 131 rfl, us_eq]; rfl, ?_, p49.2.1, (Fr.us rfl).tr (Fr.mono rfl p49.2.2)⟩
                                     rw [p49.1]
                                     first
                                     | rw [if_pos (by omega)]
                                     | rw [if_neg (by omega)]))
                           · first
                             | (exfalso; omega)
                             | (refine w_ldI rfl rfl ?_
                                refine w_push rfl ?_
                                refine w_crLe rfl (by omega) (by omega) (fun b30 => ?_) (fun b30 => ?_)
                                · first
                                  | (exfalso; omega)
                                  | (refine w_ldR rfl rfl rfl ?_
                                     first | refine w_getI rfl rfl rfl rfl rfl ?_ | refine w_getR rfl rfl rfl rfl rfl ?_
                                     refine w_ldI rfl rfl ?_
                                     refine w_ldI rfl rfl ?_
                                     refine w_ast rfl rfl rfl (by omega) rfl ?_
                                     refine w_ldR rfl rfl rfl ?_
                                     first | refine w_getI rfl rfl rfl rfl rfl ?_ | refine w_getR rfl rfl rfl rfl rfl ?_
                                     refine w_ldI rfl rfl ?_
                                     subst hw
                                     refine w_rld rfl rfl rfl (by omega) rfl ?_
                                     show WP _ _ _ _ (.inr (.inr 138) :: _) _ _
                                     refine w_ldI rfl rfl ?_
                                     refine w_irNe0 rfl (by omega) (fun b45 => ?_) (fun b45 => ?_)
                                     · first
                                       | (exfalso; omega)
                                       | (refine w_ldI rfl rfl ?_
                                          refine w_callWN rfl rfl rfl rfl rfl rfl rfl (k_zeros138 (by omega)) (fun s49 p49 => ?_)
                                          refine w_push rfl ?_
                                          refine w_retI rfl ?_
                                          refine ⟨rfl, by rw [p49.2.2.at 131 rfl, us_eq]; rfl, ?_, p49.2.1, (Fr.us rfl).tr (Fr.mono rfl p49.2.2)⟩
                                          rw [p49.1]
                                          first
                                          | rw [if_pos (by omega)]
                                          | rw [if_neg (by omega)])
                                     · first
                                       | (exfalso; omega)
                                       | (refine w_push rfl ?_
                                          refine w_go rfl ?_
                                          refine w_callWN rfl rfl rfl rfl rfl rfl rfl (k_zeros138 (by omega)) (fun s49 p49 => ?_)
                                          refine w_push rfl ?_
                                          refine w_retI rfl ?_
                                          refine ⟨rfl, by rw [p49.2.2.at 131 rfl, us_eq]; rfl, ?_, p49.2.1, (Fr.us rfl).tr (Fr.mono rfl p49.2.2)⟩
                                          rw [p49.1]
                                          first
                                          | rw [if_pos (by omega)]
                                          | rw [if_neg (by omega)]))
                                · first
                                  | (exfalso; omega)
                                  | (refine w_ldR rfl rfl rfl ?_
                                     refine w_push rfl ?_
                                     refine w_callWI rfl rfl rfl rfl rfl rfl rfl k_error1 (fun v33 s33 p33 => ?_)
                                     obtain ⟨rfl, rfl⟩ := p33
                                     refine w_retI rfl ?_
                                     refine ⟨rfl, by rw [p49.2.2.at 131 rfl, us_eq]; rfl, ?_, p49.2.1, (Fr.us rfl).tr (Fr.mono rfl p49.2.2)⟩
                                     rw [p49.1]
                                     first
                                     | rw [if_pos (by omega)]
                                     | rw [if_neg (by omega)])))
                      · first
                        | (exfalso; omega)
                        | (refine w_ldR rfl rfl rfl ?_
                           refine w_push rfl ?_
                           refine w_callWI rfl rfl rfl rfl rfl rfl rfl k_error1 (fun v24 s24 p24 => ?_)
                           obtain ⟨rfl, rfl⟩ := p24
                           refine w_retI rfl ?_
                           refine ⟨rfl, by rw [p49.2.2.at 131 rfl, us_eq]; rfl, ?_, p49.2.1, (Fr.us rfl).tr (Fr.mono rfl p49.2.2)⟩
                           rw [p49.1]
                           first
                           | rw [if_pos (by omega)]
                           | rw [if_neg (by omega)])))
            · first
              | (exfalso; omega)
              | (refine w_ldI rfl rfl ?_
                 refine w_push rfl ?_
                 refine w_crEq rfl (by omega) (by omega) (fun b10 => ?_) (fun b10 => ?_)
                 · first
                   | (exfalso; omega)
                   | (refine w_ldI rfl rfl ?_
                      refine w_irEq0 rfl (by omega) (fun b19 => ?_) (fun b19 => ?_)
                      · first
                        | (exfalso; omega)
                        | (refine w_ldI rfl rfl ?_
                           refine w_irEq0 rfl (by omega) (fun b27 => ?_) (fun b27 => ?_)
                           · first
                             | (exfalso; omega)
                             | (refine w_ldR rfl rfl rfl ?_
                                first | refine w_getI rfl rfl rfl rfl rfl ?_ | refine w_getR rfl rfl rfl rfl rfl ?_
                                refine w_ldI rfl rfl ?_
                                refine w_ldI rfl rfl ?_
                                refine w_ast rfl rfl rfl (by omega) rfl ?_
                                refine w_ldR rfl rfl rfl ?_
                                first | refine w_getI rfl rfl rfl rfl rfl ?_ | refine w_getR rfl rfl rfl rfl rfl ?_
                                refine w_ldI rfl rfl ?_
                                subst hw
                                refine w_rld rfl rfl rfl (by omega) rfl ?_
                                show WP _ _ _ _ (.inr (.inr 138) :: _) _ _
                                refine w_ldI rfl rfl ?_
                                refine w_irNe0 rfl (by omega) (fun b45 => ?_) (fun b45 => ?_)
                                · first
                                  | (exfalso; omega)
                                  | (refine w_ldI rfl rfl ?_
                                     refine w_callWN rfl rfl rfl rfl rfl rfl rfl (k_zeros138 (by omega)) (fun s49 p49 => ?_)
                                     refine w_push rfl ?_
                                     refine w_retI rfl ?_
                                     refine ⟨rfl, by rw [p49.2.2.at 131 rfl, us_eq]; rfl, ?_, p49.2.1, (Fr.us rfl).tr (Fr.mono rfl p49.2.2)⟩
                                     rw [p49.1]
                                     first
                                     | rw [if_pos (by omega)]
                                     | rw [if_neg (by omega)])
                                · first
                                  | (exfalso; omega)
                                  | (refine w_push rfl ?_
                                     refine w_go rfl ?_
                                     refine w_callWN rfl rfl rfl rfl rfl rfl rfl (k_zeros138 (by omega)) (fun s49 p49 => ?_)
                                     refine w_push rfl ?_
                                     refine w_retI rfl ?_
                                     refine ⟨rfl, by rw [p49.2.2.at 131 rfl, us_eq]; rfl, ?_, p49.2.1, (Fr.us rfl).tr (Fr.mono rfl p49.2.2)⟩
                                     rw [p49.1]
                                     first
                                     | rw [if_pos (by omega)]
                                     | rw [if_neg (by omega)]))
                           · first
                             | (exfalso; omega)
                             | (refine w_ldI rfl rfl ?_
                                refine w_push rfl ?_
                                refine w_crLe rfl (by omega) (by omega) (fun b30 => ?_) (fun b30 => ?_)
                                · first
                                  | (exfalso; omega)
                                  | (refine w_ldR rfl rfl rfl ?_
                                     first | refine w_getI rfl rfl rfl rfl rfl ?_ | refine w_getR rfl rfl rfl rfl rfl ?_
                                     refine w_ldI rfl rfl ?_
                                     refine w_ldI rfl rfl ?_
                                     refine w_ast rfl rfl rfl (by omega) rfl ?_
                                     refine w_ldR rfl rfl rfl ?_
                                     first | refine w_getI rfl rfl rfl rfl rfl ?_ | refine w_getR rfl rfl rfl rfl rfl ?_
                                     refine w_ldI rfl rfl ?_
                                     subst hw
                                     refine w_rld rfl rfl rfl (by omega) rfl ?_
                                     show WP _ _ _ _ (.inr (.inr 138) :: _) _ _
                                     refine w_ldI rfl rfl ?_
                                     refine w_irNe0 rfl (by omega) (fun b45 => ?_) (fun b45 => ?_)
                                     · first
                                       | (exfalso; omega)
                                       | (refine w_ldI rfl rfl ?_
                                          refine w_callWN rfl rfl rfl rfl rfl rfl rfl (k_zeros138 (by omega)) (fun s49 p49 => ?_)
                                          refine w_push rfl ?_
                                          refine w_retI rfl ?_
                                          refine ⟨rfl, by rw [p49.2.2.at 131 rfl, us_eq]; rfl, ?_, p49.2.1, (Fr.us rfl).tr (Fr.mono rfl p49.2.2)⟩
                                          rw [p49.1]
                                          first
                                          | rw [if_pos (by omega)]
                                          | rw [if_neg (by omega)])
                                     · first
                                       | (exfalso; omega)
                                       | (refine w_push rfl ?_
                                          refine w_go rfl ?_
                                          refine w_callWN rfl rfl rfl rfl rfl rfl rfl (k_zeros138 (by omega)) (fun s49 p49 => ?_)
                                          refine w_push rfl ?_
                                          refine w_retI rfl ?_
                                          refine ⟨rfl, by rw [p49.2.2.at 131 rfl, us_eq]; rfl, ?_, p49.2.1, (Fr.us rfl).tr (Fr.mono rfl p49.2.2)⟩
                                          rw [p49.1]
                                          first
                                          | rw [if_pos (by omega)]
                                          | rw [if_neg (by omega)]))
                                · first
                                  | (exfalso; omega)
                                  | (refine w_ldR rfl rfl rfl ?_
                                     refine w_push rfl ?_
                                     refine w_callWI rfl rfl rfl rfl rfl rfl rfl k_error1 (fun v33 s33 p33 => ?_)
                                     obtain ⟨rfl, rfl⟩ := p33
                                     refine w_retI rfl ?_
                                     refine ⟨rfl, by rw [p49.2.2.at 131 rfl, us_eq]; rfl, ?_, p49.2.1, (Fr.us rfl).tr (Fr.mono rfl p49.2.2)⟩
                                     rw [p49.1]
                                     first
                                     | rw [if_pos (by omega)]
                                     | rw [if_neg (by omega)])))
                      · first
                        | (exfalso; omega)
                        | (refine w_ldI rfl rfl ?_
                           refine w_irGe0 rfl (by omega) (fun b21 => ?_) (fun b21 => ?_)
                           · first
                             | (exfalso; omega)
                             | (refine w_ldI rfl rfl ?_
                                refine w_irEq0 rfl (by omega) (fun b27 => ?_) (fun b27 => ?_)
                                · first
                                  | (exfalso; omega)
                                  | (refine w_ldR rfl rfl rfl ?_
                                     first | refine w_getI rfl rfl rfl rfl rfl ?_ | refine w_getR rfl rfl rfl rfl rfl ?_
                                     refine w_ldI rfl rfl ?_
                                     refine w_ldI rfl rfl ?_
                                     refine w_ast rfl rfl rfl (by omega) rfl ?_
                                     refine w_ldR rfl rfl rfl ?_
                                     first | refine w_getI rfl rfl rfl rfl rfl ?_ | refine w_getR rfl rfl rfl rfl rfl ?_
                                     refine w_ldI rfl rfl ?_
                                     subst hw
                                     refine w_rld rfl rfl rfl (by omega) rfl ?_
                                     show WP _ _ _ _ (.inr (.inr 138) :: _) _ _
                                     refine w_ldI rfl rfl ?_
                                     refine w_irNe0 rfl (by omega) (fun b45 => ?_) (fun b45 => ?_)
                                     · first
                                       | (exfalso; omega)
                                       | (refine w_ldI rfl rfl ?_
                                          refine w_callWN rfl rfl rfl rfl rfl rfl rfl (k_zeros138 (by omega)) (fun s49 p49 => ?_)
                                          refine w_push rfl ?_
                                          refine w_retI rfl ?_
                                          refine ⟨rfl, by rw [p49.2.2.at 131 rfl, us_eq]; rfl, ?_, p49.2.1, (Fr.us rfl).tr (Fr.mono rfl p49.2.2)⟩
                                          rw [p49.1]
                                          first
                                          | rw [if_pos (by omega)]
                                          | rw [if_neg (by omega)])
                                     · first
                                       | (exfalso; omega)
                                       | (refine w_push rfl ?_
                                          refine w_go rfl ?_
                                          refine w_callWN rfl rfl rfl rfl rfl rfl rfl (k_zeros138 (by omega)) (fun s49 p49 => ?_)
                                          refine w_push rfl ?_
                                          refine w_retI rfl ?_
                                          refine ⟨rfl, by rw [p49.2.2.at 131 rfl, us_eq]; rfl, ?_, p49.2.1, (Fr.us rfl).tr (Fr.mono rfl p49.2.2)⟩
                                          rw [p49.1]
                                          first
                                          | rw [if_pos (by omega)]
                                          | rw [if_neg (by omega)]))
                                · first
                                  | (exfalso; omega)
                                  | (refine w_ldI rfl rfl ?_
                                     refine w_push rfl ?_
                                     refine w_crLe rfl (by omega) (by omega) (fun b30 => ?_) (fun b30 => ?_)
                                     · first
                                       | (exfalso; omega)
                                       | (refine w_ldR rfl rfl rfl ?_
                                          first | refine w_getI rfl rfl rfl rfl rfl ?_ | refine w_getR rfl rfl rfl rfl rfl ?_
                                          refine w_ldI rfl rfl ?_
                                          refine w_ldI rfl rfl ?_
                                          refine w_ast rfl rfl rfl (by omega) rfl ?_
                                          refine w_ldR rfl rfl rfl ?_
                                          first | refine w_getI rfl rfl rfl rfl rfl ?_ | refine w_getR rfl rfl rfl rfl rfl ?_
                                          refine w_ldI rfl rfl ?_
                                          subst hw
                                          refine w_rld rfl rfl rfl (by omega) rfl ?_
                                          show WP _ _ _ _ (.inr (.inr 138) :: _) _ _
                                          refine w_ldI rfl rfl ?_
                                          refine w_irNe0 rfl (by omega) (fun b45 => ?_) (fun b45 => ?_)
                                          · first
                                            | (exfalso; omega)
                                            | (refine w_ldI rfl rfl ?_
                                               refine w_callWN rfl rfl rfl rfl rfl rfl rfl (k_zeros138 (by omega)) (fun s49 p49 => ?_)
                                               refine w_push rfl ?_
                                               refine w_retI rfl ?_
                                               refine ⟨rfl, by rw [p49.2.2.at 131 rfl, us_eq]; rfl, ?_, p49.2.1, (Fr.us rfl).tr (Fr.mono rfl p49.2.2)⟩
                                               rw [p49.1]
                                               first
                                               | rw [if_pos (by omega)]
                                               | rw [if_neg (by omega)])
                                          · first
                                            | (exfalso; omega)
                                            | (refine w_push rfl ?_
                                               refine w_go rfl ?_
                                               refine w_callWN rfl rfl rfl rfl rfl rfl rfl (k_zeros138 (by omega)) (fun s49 p49 => ?_)
                                               refine w_push rfl ?_
                                               refine w_retI rfl ?_
                                               refine ⟨rfl, by rw [p49.2.2.at 131 rfl, us_eq]; rfl, ?_, p49.2.1, (Fr.us rfl).tr (Fr.mono rfl p49.2.2)⟩
                                               rw [p49.1]
                                               first
                                               | rw [if_pos (by omega)]
                                               | rw [if_neg (by omega)]))
                                     · first
                                       | (exfalso; omega)
                                       | (refine w_ldR rfl rfl rfl ?_
                                          refine w_push rfl ?_
                                          refine w_callWI rfl rfl rfl rfl rfl rfl rfl k_error1 (fun v33 s33 p33 => ?_)
                                          obtain ⟨rfl, rfl⟩ := p33
                                          refine w_retI rfl ?_
                                          refine ⟨rfl, by rw [p49.2.2.at 131 rfl, us_eq]; rfl, ?_, p49.2.1, (Fr.us rfl).tr (Fr.mono rfl p49.2.2)⟩
                                          rw [p49.1]
                                          first
                                          | rw [if_pos (by omega)]
                                          | rw [if_neg (by omega)])))
                           · first
                             | (exfalso; omega)
                             | (refine w_ldR rfl rfl rfl ?_
                                refine w_push rfl ?_
                                refine w_callWI rfl rfl rfl rfl rfl rfl rfl k_error1 (fun v24 s24 p24 => ?_)
                                obtain ⟨rfl, rfl⟩ := p24
                                refine w_retI rfl ?_
                                refine ⟨rfl, by rw [p49.2.2.at 131 rfl, us_eq]; rfl, ?_, p49.2.1, (Fr.us rfl).tr (Fr.mono rfl p49.2.2)⟩
                                rw [p49.1]
                                first
                                | rw [if_pos (by omega)]
                                | rw [if_neg (by omega)])))
                 · first
                   | (exfalso; omega)
                   | (refine w_ldI rfl rfl ?_
                      refine w_push rfl ?_
                      refine w_crEq rfl (by omega) (by omega) (fun b13 => ?_) (fun b13 => ?_)
                      · first
                        | (exfalso; omega)
                        | (refine w_ldI rfl rfl ?_
                           refine w_irEq0 rfl (by omega) (fun b19 => ?_) (fun b19 => ?_)
                           · first
                             | (exfalso; omega)
                             | (refine w_ldI rfl rfl ?_
                                refine w_irEq0 rfl (by omega) (fun b27 => ?_) (fun b27 => ?_)
                                · first
                                  | (exfalso; omega)
                                  | (refine w_ldR rfl rfl rfl ?_
                                     first | refine w_getI rfl rfl rfl rfl rfl ?_ | refine w_getR rfl rfl rfl rfl rfl ?_
                                     refine w_ldI rfl rfl ?_
                                     refine w_ldI rfl rfl ?_
                                     refine w_ast rfl rfl rfl (by omega) rfl ?_
                                     refine w_ldR rfl rfl rfl ?_
                                     first | refine w_getI rfl rfl rfl rfl rfl ?_ | refine w_getR rfl rfl rfl rfl rfl ?_
                                     refine w_ldI rfl rfl ?_
                                     subst hw
                                     refine w_rld rfl rfl rfl (by omega) rfl ?_
                                     show WP _ _ _ _ (.inr (.inr 138) :: _) _ _
                                     refine w_ldI rfl rfl ?_
                                     refine w_irNe0 rfl (by omega) (fun b45 => ?_) (fun b45 => ?_)
                                     · first
                                       | (exfalso; omega)
                                       | (refine w_ldI rfl rfl ?_
                                          refine w_callWN rfl rfl rfl rfl rfl rfl rfl (k_zeros138 (by omega)) (fun s49 p49 => ?_)
                                          refine w_push rfl ?_
                                          refine w_retI rfl ?_
                                          refine ⟨rfl, by rw [p49.2.2.at 131 rfl, us_eq]; rfl, ?_, p49.2.1, (Fr.us rfl).tr (Fr.mono rfl p49.2.2)⟩
                                          rw [p49.1]
                                          first
                                          | rw [if_pos (by omega)]
                                          | rw [if_neg (by omega)])
                                     · first
                                       | (exfalso; omega)
                                       | (refine w_push rfl ?_
                                          refine w_go rfl ?_
                                          refine w_callWN rfl rfl rfl rfl rfl rfl rfl (k_zeros138 (by omega)) (fun s49 p49 => ?_)
                                          refine w_push rfl ?_
                                          refine w_retI rfl ?_
                                          refine ⟨rfl, by rw [p49.2.2.at 131 rfl, us_eq]; rfl, ?_, p49.2.1, (Fr.us rfl).tr (Fr.mono rfl p49.2.2)⟩
                                          rw [p49.1]
                                          first
                                          | rw [if_pos (by omega)]
                                          | rw [if_neg (by omega)]))
                                · first
                                  | (exfalso; omega)
                                  | (refine w_ldI rfl rfl ?_
                                     refine w_push rfl ?_
                                     refine w_crLe rfl (by omega) (by omega) (fun b30 => ?_) (fun b30 => ?_)
                                     · first
                                       | (exfalso; omega)
                                       | (refine w_ldR rfl rfl rfl ?_
                                          first | refine w_getI rfl rfl rfl rfl rfl ?_ | refine w_getR rfl rfl rfl rfl rfl ?_
                                          refine w_ldI rfl rfl ?_
                                          refine w_ldI rfl rfl ?_
                                          refine w_ast rfl rfl rfl (by omega) rfl ?_
                                          refine w_ldR rfl rfl rfl ?_
                                          first | refine w_getI rfl rfl rfl rfl rfl ?_ | refine w_getR rfl rfl rfl rfl rfl ?_
                                          refine w_ldI rfl rfl ?_
                                          subst hw
                                          refine w_rld rfl rfl rfl (by omega) rfl ?_
                                          show WP _ _ _ _ (.inr (.inr 138) :: _) _ _
                                          refine w_ldI rfl rfl ?_
                                          refine w_irNe0 rfl (by omega) (fun b45 => ?_) (fun b45 => ?_)
                                          · first
                                            | (exfalso; omega)
                                            | (refine w_ldI rfl rfl ?_
                                               refine w_callWN rfl rfl rfl rfl rfl rfl rfl (k_zeros138 (by omega)) (fun s49 p49 => ?_)
                                               refine w_push rfl ?_
                                               refine w_retI rfl ?_
                                               refine ⟨rfl, by rw [p49.2.2.at 131 rfl, us_eq]; rfl, ?_, p49.2.1, (Fr.us rfl).tr (Fr.mono rfl p49.2.2)⟩
                                               rw [p49.1]
                                               first
                                               | rw [if_pos (by omega)]
                                               | rw [if_neg (by omega)])
                                          · first
                                            | (exfalso; omega)
                                            | (refine w_push rfl ?_
                                               refine w_go rfl ?_
                                               refine w_callWN rfl rfl rfl rfl rfl rfl rfl (k_zeros138 (by omega)) (fun s49 p49 => ?_)
                                               refine w_push rfl ?_
                                               refine w_retI rfl ?_
                                               refine ⟨rfl, by rw [p49.2.2.at 131 rfl, us_eq]; rfl, ?_, p49.2.1, (Fr.us rfl).tr (Fr.mono rfl p49.2.2)⟩
                                               rw [p49.1]
                                               first
                                               | rw [if_pos (by omega)]
                                               | rw [if_neg (by omega)]))
                                     · first
                                       | (exfalso; omega)
                                       | (refine w_ldR rfl rfl rfl ?_
                                          refine w_push rfl ?_
                                          refine w_callWI rfl rfl rfl rfl rfl rfl rfl k_error1 (fun v33 s33 p33 => ?_)
                                          obtain ⟨rfl, rfl⟩ := p33
                                          refine w_retI rfl ?_
                                          refine ⟨rfl, by rw [p49.2.2.at 131 rfl, us_eq]; rfl, ?_, p49.2.1, (Fr.us rfl).tr (Fr.mono rfl p49.2.2)⟩
                                          rw [p49.1]
                                          first
                                          | rw [if_pos (by omega)]
                                          | rw [if_neg (by omega)])))
                           · first
                             | (exfalso; omega)
                             | (refine w_ldI rfl rfl ?_
                                refine w_irGe0 rfl (by omega) (fun b21 => ?_) (fun b21 => ?_)
                                · first
                                  | (exfalso; omega)
                                  | (refine w_ldI rfl rfl ?_
                                     refine w_irEq0 rfl (by omega) (fun b27 => ?_) (fun b27 => ?_)
                                     · first
                                       | (exfalso; omega)
                                       | (refine w_ldR rfl rfl rfl ?_
                                          first | refine w_getI rfl rfl rfl rfl rfl ?_ | refine w_getR rfl rfl rfl rfl rfl ?_
                                          refine w_ldI rfl rfl ?_
                                          refine w_ldI rfl rfl ?_
                                          refine w_ast rfl rfl rfl (by omega) rfl ?_
                                          refine w_ldR rfl rfl rfl ?_
                                          first | refine w_getI rfl rfl rfl rfl rfl ?_ | refine w_getR rfl rfl rfl rfl rfl ?_
                                          refine w_ldI rfl rfl ?_
                                          subst hw
                                          refine w_rld rfl rfl rfl (by omega) rfl ?_
                                          show WP _ _ _ _ (.inr (.inr 138) :: _) _ _
                                          refine w_ldI rfl rfl ?_
                                          refine w_irNe0 rfl (by omega) (fun b45 => ?_) (fun b45 => ?_)
                                          · first
                                            | (exfalso; omega)
                                            | (refine w_ldI rfl rfl ?_
                                               refine w_callWN rfl rfl rfl rfl rfl rfl rfl (k_zeros138 (by omega)) (fun s49 p49 => ?_)
                                               refine w_push rfl ?_
                                               refine w_retI rfl ?_
                                               refine ⟨rfl, by rw [p49.2.2.at 131 rfl, us_eq]; rfl, ?_, p49.2.1, (Fr.us rfl).tr (Fr.mono rfl p49.2.2)⟩
                                               rw [p49.1]
                                               first
                                               | rw [if_pos (by omega)]
                                               | rw [if_neg (by omega)])
                                          · first
                                            | (exfalso; omega)
                                            | (refine w_push rfl ?_
                                               refine w_go rfl ?_
                                               refine w_callWN rfl rfl rfl rfl rfl rfl rfl (k_zeros138 (by omega)) (fun s49 p49 => ?_)
                                               refine w_push rfl ?_
                                               refine w_retI rfl ?_
                                               refine ⟨rfl, by rw [p49.2.2.at 131 rfl, us_eq]; rfl, ?_, p49.2.1, (Fr.us rfl).tr (Fr.mono rfl p49.2.2)⟩
                                               rw [p49.1]
                                               first
                                               | rw [if_pos (by omega)]
                                               | rw [if_neg (by omega)]))
                                     · first
                                       | (exfalso; omega)
                                       | (refine w_ldI rfl rfl ?_
                                          refine w_push rfl ?_
                                          refine w_crLe rfl (by omega) (by omega) (fun b30 => ?_) (fun b30 => ?_)
                                          · first
                                            | (exfalso; omega)
                                            | (refine w_ldR rfl rfl rfl ?_
                                               first | refine w_getI rfl rfl rfl rfl rfl ?_ | refine w_getR rfl rfl rfl rfl rfl ?_
                                               refine w_ldI rfl rfl ?_
                                               refine w_ldI rfl rfl ?_
                                               refine w_ast rfl rfl rfl (by omega) rfl ?_
                                               refine w_ldR rfl rfl rfl ?_
                                               first | refine w_getI rfl rfl rfl rfl rfl ?_ | refine w_getR rfl rfl rfl rfl rfl ?_
                                               refine w_ldI rfl rfl ?_
                                               subst hw
                                               refine w_rld rfl rfl rfl (by omega) rfl ?_
                                               show WP _ _ _ _ (.inr (.inr 138) :: _) _ _
                                               refine w_ldI rfl rfl ?_
                                               refine w_irNe0 rfl (by omega) (fun b45 => ?_) (fun b45 => ?_)
                                               · first
                                                 | (exfalso; omega)
                                                 | (refine w_ldI rfl rfl ?_
                                                    refine w_callWN rfl rfl rfl rfl rfl rfl rfl (k_zeros138 (by omega)) (fun s49 p49 => ?_)
                                                    refine w_push rfl ?_
                                                    refine w_retI rfl ?_
                                                    refine ⟨rfl, by rw [p49.2.2.at 131 rfl, us_eq]; rfl, ?_, p49.2.1, (Fr.us rfl).tr (Fr.mono rfl p49.2.2)⟩
                                                    rw [p49.1]
                                                    first
                                                    | rw [if_pos (by omega)]
                                                    | rw [if_neg (by omega)])
                                               · first
                                                 | (exfalso; omega)
                                                 | (refine w_push rfl ?_
                                                    refine w_go rfl ?_
                                                    refine w_callWN rfl rfl rfl rfl rfl rfl rfl (k_zeros138 (by omega)) (fun s49 p49 => ?_)
                                                    refine w_push rfl ?_
                                                    refine w_retI rfl ?_
                                                    refine ⟨rfl, by rw [p49.2.2.at 131 rfl, us_eq]; rfl, ?_, p49.2.1, (Fr.us rfl).tr (Fr.mono rfl p49.2.2)⟩
                                                    rw [p49.1]
                                                    first
                                                    | rw [if_pos (by omega)]
                                                    | rw [if_neg (by omega)]))
                                          · first
                                            | (exfalso; omega)
                                            | (refine w_ldR rfl rfl rfl ?_
                                               refine w_push rfl ?_
                                               refine w_callWI rfl rfl rfl rfl rfl rfl rfl k_error1 (fun v33 s33 p33 => ?_)
                                               obtain ⟨rfl, rfl⟩ := p33
                                               refine w_retI rfl ?_
                                               refine ⟨rfl, by rw [p49.2.2.at 131 rfl, us_eq]; rfl, ?_, p49.2.1, (Fr.us rfl).tr (Fr.mono rfl p49.2.2)⟩
                                               rw [p49.1]
                                               first
                                               | rw [if_pos (by omega)]
                                               | rw [if_neg (by omega)])))
                                · first
                                  | (exfalso; omega)
                                  | (refine w_ldR rfl rfl rfl ?_
                                     refine w_push rfl ?_
                                     refine w_callWI rfl rfl rfl rfl rfl rfl rfl k_error1 (fun v24 s24 p24 => ?_)
                                     obtain ⟨rfl, rfl⟩ := p24
                                     refine w_retI rfl ?_
                                     refine ⟨rfl, by rw [p49.2.2.at 131 rfl, us_eq]; rfl, ?_, p49.2.1, (Fr.us rfl).tr (Fr.mono rfl p49.2.2)⟩
                                     rw [p49.1]
                                     first
                                     | rw [if_pos (by omega)]
                                     | rw [if_neg (by omega)])))
                      · first
                        | (exfalso; omega)
                        | (refine w_ldR rfl rfl rfl ?_
                           refine w_push rfl ?_
                           refine w_callWI rfl rfl rfl rfl rfl rfl rfl k_error1 (fun v16 s16 p16 => ?_)
                           obtain ⟨rfl, rfl⟩ := p16
                           refine w_retI rfl ?_
                           refine ⟨rfl, by rw [p49.2.2.at 131 rfl, us_eq]; rfl, ?_, p49.2.1, (Fr.us rfl).tr (Fr.mono rfl p49.2.2)⟩
                           rw [p49.1]
                           first
                           | rw [if_pos (by omega)]
                           | rw [if_neg (by omega)])))))
theorem x_sheet_1 {d : Nat} {s : mSt} (hI : IvD s) {w b n : Int} (hrw : -2147483648 ≤ w ∧ w < 2147483648) (hrb : -2147483648 ≤ b ∧ b < 2147483648) (hrn : -2147483648 ≤ n ∧ n < 2147483648) (hw : w = 1) (hb : (b = 0 ∨ b = 8 ∨ b = 16 ∨ b = 32)) (h1 : ¬ (b ≠ 0 ∧ n < 0)) (h2 : ¬ (b ≠ 0 ∧ 40 < n)) : CI (d + 2) 130 [.inr (.inr 10), .inl w, .inl b, .inl n] (s) (fun q s1 => q = 1 ∧ s1 131 = mup (s 131) 1 b ∧ s1 140 1 = (if b = 0 then 0 else n) ∧ (∀ i, i < 40 → s1 141 i = 0) ∧ Fr [131, 140, 141] s s1) := by
  refine CI.mk rfl ?_
  show WP (d + 2) 130 0 [some (.inr (.inr 10)), some (.inl w), some (.inl b), some (.inl n)] [] (encA (s)) _
  have hI0 := hI
  obtain ⟨⟨hM, hC, hN⟩, hV, h8⟩ := hI
  have hV0 := hV
  have hM0 := hM
  obtain ⟨vc, vpl, vga, vse, vne, veg, vre, vtu, vta, vwa, v36, v37, v39, v40, v42, v41, v43, v44, vl0, vl1, vlm⟩ := hV
  obtain ⟨hM39, hM40, hM41, hM43, hM44, hM36, hM37, hM38, hMc, hMw, hMp, hMt, hMb⟩ := hM
  refine w_ldI rfl rfl ?_
  refine w_call rfl rfl rfl (k_isSheet (by omega)) ?_
  refine w_bEq0 rfl (fun b2 => ?_) (fun b2 => ?_)
  · first
    | (exfalso; omega)
    | (refine w_ldR rfl rfl rfl ?_
       refine w_push rfl ?_
       refine w_callWI rfl rfl rfl rfl rfl rfl rfl k_error1 (fun v16 s16 p16 => ?_)
       obtain ⟨rfl, rfl⟩ := p16
       refine w_retI rfl ?_
       refine ⟨rfl, by rw [p49.2.2.at 131 rfl, us_eq]; rfl, ?_, p49.2.1, (Fr.us rfl).tr (Fr.mono rfl p49.2.2)⟩
       rw [p49.1]
       first
       | rw [if_pos (by omega)]
       | rw [if_neg (by omega)])
  · first
    | (exfalso; omega)
    | (refine w_ldI rfl rfl ?_
       refine w_irEq0 rfl (by omega) (fun b4 => ?_) (fun b4 => ?_)
       · first
         | (exfalso; omega)
         | (refine w_ldI rfl rfl ?_
            refine w_irEq0 rfl (by omega) (fun b19 => ?_) (fun b19 => ?_)
            · first
              | (exfalso; omega)
              | (refine w_ldI rfl rfl ?_
                 refine w_irEq0 rfl (by omega) (fun b27 => ?_) (fun b27 => ?_)
                 · first
                   | (exfalso; omega)
                   | (refine w_ldR rfl rfl rfl ?_
                      first | refine w_getI rfl rfl rfl rfl rfl ?_ | refine w_getR rfl rfl rfl rfl rfl ?_
                      refine w_ldI rfl rfl ?_
                      refine w_ldI rfl rfl ?_
                      refine w_ast rfl rfl rfl (by omega) rfl ?_
                      refine w_ldR rfl rfl rfl ?_
                      first | refine w_getI rfl rfl rfl rfl rfl ?_ | refine w_getR rfl rfl rfl rfl rfl ?_
                      refine w_ldI rfl rfl ?_
                      subst hw
                      refine w_rld rfl rfl rfl (by omega) rfl ?_
                      show WP _ _ _ _ (.inr (.inr 140) :: _) _ _
                      refine w_ldI rfl rfl ?_
                      refine w_irNe0 rfl (by omega) (fun b45 => ?_) (fun b45 => ?_)
                      · first
                        | (exfalso; omega)
                        | (refine w_ldI rfl rfl ?_
                           refine w_callWN rfl rfl rfl rfl rfl rfl rfl (k_zeros140 (by omega)) (fun s49 p49 => ?_)
                           refine w_push rfl ?_
                           refine w_retI rfl ?_
                           refine ⟨rfl, by rw [p49.2.2.at 131 rfl, us_eq]; rfl, ?_, p49.2.1, (Fr.us rfl).tr (Fr.mono rfl p49.2.2)⟩
                           rw [p49.1]
                           first
                           | rw [if_pos (by omega)]
                           | rw [if_neg (by omega)])
                      · first
                        | (exfalso; omega)
                        | (refine w_push rfl ?_
                           refine w_go rfl ?_
                           refine w_callWN rfl rfl rfl rfl rfl rfl rfl (k_zeros140 (by omega)) (fun s49 p49 => ?_)
                           refine w_push rfl ?_
                           refine w_retI rfl ?_
                           refine ⟨rfl, by rw [p49.2.2.at 131 rfl, us_eq]; rfl, ?_, p49.2.1, (Fr.us rfl).tr (Fr.mono rfl p49.2.2)⟩
                           rw [p49.1]
                           first
                           | rw [if_pos (by omega)]
                           | rw [if_neg (by omega)]))
                 · first
                   | (exfalso; omega)
                   | (refine w_ldI rfl rfl ?_
                      refine w_push rfl ?_
                      refine w_crLe rfl (by omega) (by omega) (fun b30 => ?_) (fun b30 => ?_)
                      · first
                        | (exfalso; omega)
                        | (refine w_ldR rfl rfl rfl ?_
                           first | refine w_getI rfl rfl rfl rfl rfl ?_ | refine w_getR rfl rfl rfl rfl rfl ?_
                           refine w_ldI rfl rfl ?_
                           refine w_ldI rfl rfl ?_
                           refine w_ast rfl rfl rfl (by omega) rfl ?_
                           refine w_ldR rfl rfl rfl ?_
                           first | refine w_getI rfl rfl rfl rfl rfl ?_ | refine w_getR rfl rfl rfl rfl rfl ?_
                           refine w_ldI rfl rfl ?_
                           subst hw
                           refine w_rld rfl rfl rfl (by omega) rfl ?_
                           show WP _ _ _ _ (.inr (.inr 140) :: _) _ _
                           refine w_ldI rfl rfl ?_
                           refine w_irNe0 rfl (by omega) (fun b45 => ?_) (fun b45 => ?_)
                           · first
                             | (exfalso; omega)
                             | (refine w_ldI rfl rfl ?_
                                refine w_callWN rfl rfl rfl rfl rfl rfl rfl (k_zeros140 (by omega)) (fun s49 p49 => ?_)
                                refine w_push rfl ?_
                                refine w_retI rfl ?_
                                refine ⟨rfl, by rw [p49.2.2.at 131 rfl, us_eq]; rfl, ?_, p49.2.1, (Fr.us rfl).tr (Fr.mono rfl p49.2.2)⟩
                                rw [p49.1]
                                first
                                | rw [if_pos (by omega)]
                                | rw [if_neg (by omega)])
                           · first
                             | (exfalso; omega)
                             | (refine w_push rfl ?_
                                refine w_go rfl ?_
                                refine w_callWN rfl rfl rfl rfl rfl rfl rfl (k_zeros140 (by omega)) (fun s49 p49 => ?_)
                                refine w_push rfl ?_
                                refine w_retI rfl ?_
                                refine ⟨rfl, by rw [p49.2.2.at 131 rfl, us_eq]; rfl, ?_, p49.2.1, (Fr.us rfl).tr (Fr.mono rfl p49.2.2)⟩
                                rw [p49.1]
                                first
                                | rw [if_pos (by omega)]
                                | rw [if_neg (by omega)]))
                      · first
                        | (exfalso; omega)
                        | (refine w_ldR rfl rfl rfl ?_
                           refine w_push rfl ?_
                           refine w_callWI rfl rfl rfl rfl rfl rfl rfl k_error1 (fun v33 s33 p33 => ?_)
                           obtain ⟨rfl, rfl⟩ := p33
                           refine w_retI rfl ?_
                           refine ⟨rfl, by rw [p49.2.2.at 131 rfl, us_eq]; rfl, ?_, p49.2.1, (Fr.us rfl).tr (Fr.mono rfl p49.2.2)⟩
                           rw [p49.1]
                           first
                           | rw [if_pos (by omega)]
                           | rw [if_neg (by omega)])))
            · first
              | (exfalso; omega)
              | (refine w_ldI rfl rfl ?_
                 refine w_irGe0 rfl (by omega) (fun b21 => ?_) (fun b21 => ?_)
                 · first
                   | (exfalso; omega)
                   | (refine w_ldI rfl rfl ?_
                      refine w_irEq0 rfl (by omega) (fun b27 => ?_) (fun b27 => ?_)
                      · first
                        | (exfalso; omega)
                        | (refine w_ldR rfl rfl rfl ?_
                           first | refine w_getI rfl rfl rfl rfl rfl ?_ | refine w_getR rfl rfl rfl rfl rfl ?_
                           refine w_ldI rfl rfl ?_
                           refine w_ldI rfl rfl ?_
                           refine w_ast rfl rfl rfl (by omega) rfl ?_
                           refine w_ldR rfl rfl rfl ?_
                           first | refine w_getI rfl rfl rfl rfl rfl ?_ | refine w_getR rfl rfl rfl rfl rfl ?_
                           refine w_ldI rfl rfl ?_
                           subst hw
                           refine w_rld rfl rfl rfl (by omega) rfl ?_
                           show WP _ _ _ _ (.inr (.inr 140) :: _) _ _
                           refine w_ldI rfl rfl ?_
                           refine w_irNe0 rfl (by omega) (fun b45 => ?_) (fun b45 => ?_)
                           · first
                             | (exfalso; omega)
                             | (refine w_ldI rfl rfl ?_
                                refine w_callWN rfl rfl rfl rfl rfl rfl rfl (k_zeros140 (by omega)) (fun s49 p49 => ?_)
                                refine w_push rfl ?_
                                refine w_retI rfl ?_
                                refine ⟨rfl, by rw [p49.2.2.at 131 rfl, us_eq]; rfl, ?_, p49.2.1, (Fr.us rfl).tr (Fr.mono rfl p49.2.2)⟩
                                rw [p49.1]
                                first
                                | rw [if_pos (by omega)]
                                | rw [if_neg (by omega)])
                           · first
                             | (exfalso; omega)
                             | (refine w_push rfl ?_
                                refine w_go rfl ?_
                                refine w_callWN rfl rfl rfl rfl rfl rfl rfl (k_zeros140 (by omega)) (fun s49 p49 => ?_)
                                refine w_push rfl ?_
                                refine w_retI rfl ?_
                                refine ⟨rfl, by rw [p49.2.2.at 131 rfl, us_eq]; rfl, ?_, p49.2.1, (Fr.us rfl).tr (Fr.mono rfl p49.2.2)⟩
                                rw [p49.1]
                                first
                                | rw [if_pos (by omega)]
                                | rw [if_neg (by omega)]))
                      · first
                        | (exfalso; omega)
                        | (refine w_ldI rfl rfl ?_
                           refine w_push rfl ?_
                           refine w_crLe rfl (by omega) (by omega) (fun b30 => ?_) (fun b30 => ?_)
                           · first
                             | (exfalso; omega)
                             | (refine w_ldR rfl rfl rfl ?_
                                first | refine w_getI rfl rfl rfl rfl rfl ?_ | refine w_getR rfl rfl rfl rfl rfl ?_
                                refine w_ldI rfl rfl ?_
                                refine w_ldI rfl rfl ?_
                                refine w_ast rfl rfl rfl (by omega) rfl ?_
                                refine w_ldR rfl rfl rfl ?_
                                first | refine w_getI rfl rfl rfl rfl rfl ?_ | refine w_getR rfl rfl rfl rfl rfl ?_
                                refine w_ldI rfl rfl ?_
                                subst hw
                                refine w_rld rfl rfl rfl (by omega) rfl ?_
                                show WP _ _ _ _ (.inr (.inr 140) :: _) _ _
                                refine w_ldI rfl rfl ?_
                                refine w_irNe0 rfl (by omega) (fun b45 => ?_) (fun b45 => ?_)
                                · first
                                  | (exfalso; omega)
                                  | (refine w_ldI rfl rfl ?_
                                     refine w_callWN rfl rfl rfl rfl rfl rfl rfl (k_zeros140 (by omega)) (fun s49 p49 => ?_)
                                     refine w_push rfl ?_
                                     refine w_retI rfl ?_
                                     refine ⟨rfl, by rw [p49.2.2.at 131 rfl, us_eq]; rfl, ?_, p49.2.1, (Fr.us rfl).tr (Fr.mono rfl p49.2.2)⟩
                                     rw [p49.1]
                                     first
                                     | rw [if_pos (by omega)]
                                     | rw [if_neg (by omega)])
                                · first
                                  | (exfalso; omega)
                                  | (refine w_push rfl ?_
                                     refine w_go rfl ?_
                                     refine w_callWN rfl rfl rfl rfl rfl rfl rfl (k_zeros140 (by omega)) (fun s49 p49 => ?_)
                                     refine w_push rfl ?_
                                     refine w_retI rfl ?_
                                     refine ⟨rfl, by rw [p49.2.2.at 131 rfl, us_eq]; rfl, ?_, p49.2.1, (Fr.us rfl).tr (Fr.mono rfl p49.2.2)⟩
                                     rw [p49.1]
                                     first
                                     | rw [if_pos (by omega)]
                                     | rw [if_neg (by omega)]))
                           · first
                             | (exfalso; omega)
                             | (refine w_ldR rfl rfl rfl ?_
                                refine w_push rfl ?_
                                refine w_callWI rfl rfl rfl rfl rfl rfl rfl k_error1 (fun v33 s33 p33 => ?_)
                                obtain ⟨rfl, rfl⟩ := p33
                                refine w_retI rfl ?_
                                refine ⟨rfl, by rw [p49.2.2.at 131 rfl, us_eq]; rfl, ?_, p49.2.1, (Fr.us rfl).tr (Fr.mono rfl p49.2.2)⟩
                                rw [p49.1]
                                first
                                | rw [if_pos (by omega)]
                                | rw [if_neg (by omega)])))
                 · first
                   | (exfalso; omega)
                   | (refine w_ldR rfl rfl rfl ?_
                      refine w_push rfl ?_
                      refine w_callWI rfl rfl rfl rfl rfl rfl rfl k_error1 (fun v24 s24 p24 => ?_)
                      obtain ⟨rfl, rfl⟩ := p24
                      refine w_retI rfl ?_
                      refine ⟨rfl, by rw [p49.2.2.at 131 rfl, us_eq]; rfl, ?_, p49.2.1, (Fr.us rfl).tr (Fr.mono rfl p49.2.2)⟩
                      rw [p49.1]
                      first
                      | rw [if_pos (by omega)]
                      | rw [if_neg (by omega)])))
       · first
         | (exfalso; omega)
         | (refine w_ldI rfl rfl ?_
            refine w_push rfl ?_
            refine w_crEq rfl (by omega) (by omega) (fun b7 => ?_) (fun b7 => ?_)
            · first
              | (exfalso; omega)
              | (refine w_ldI rfl rfl ?_
                 refine w_irEq0 rfl (by omega) (fun b19 => ?_) (fun b19 => ?_)
                 · first
                   | (exfalso; omega)
                   | (refine w_ldI rfl rfl ?_
                      refine w_irEq0 rfl (by omega) (fun b27 => ?_) (fun b27 => ?_)
                      · first
                        | (exfalso; omega)
                        | (refine w_ldR rfl rfl rfl ?_
                           first | refine w_getI rfl rfl rfl rfl rfl ?_ | refine w_getR rfl rfl rfl rfl rfl ?_
                           refine w_ldI rfl rfl ?_
                           refine w_ldI rfl rfl ?_
                           refine w_ast rfl rfl rfl (by omega) rfl ?_
                           refine w_ldR rfl rfl rfl ?_
                           first | refine w_getI rfl rfl rfl rfl rfl ?_ | refine w_getR rfl rfl rfl rfl rfl ?_
                           refine w_ldI rfl rfl ?_
                           subst hw
                           refine w_rld rfl rfl rfl (by omega) rfl ?_
                           show WP _ _ _ _ (.inr (.inr 140) :: _) _ _
                           refine w_ldI rfl rfl ?_
                           refine w_irNe0 rfl (by omega) (fun b45 => ?_) (fun b45 => ?_)
                           · first
                             | (exfalso; omega)
                             | (refine w_ldI rfl rfl ?_
                                refine w_callWN rfl rfl rfl rfl rfl rfl rfl (k_zeros140 (by omega)) (fun s49 p49 => ?_)
                                refine w_push rfl ?_
                                refine w_retI rfl ?_
                                refine ⟨rfl, by rw [p49.2.2.at 131 rfl, us_eq]; rfl, ?_, p49.2.1, (Fr.us rfl).tr (Fr.mono rfl p49.2.2)⟩
                                rw [p49.1]
                                first
                                | rw [if_pos (by omega)]
                                | rw [if_neg (by omega)])
                           · first
                             | (exfalso; omega)
                             | (refine w_push rfl ?_
                                refine w_go rfl ?_
                                refine w_callWN rfl rfl rfl rfl rfl rfl rfl (k_zeros140 (by omega)) (fun s49 p49 => ?_)
                                refine w_push rfl ?_
                                refine w_retI rfl ?_
                                refine ⟨rfl, by rw [p49.2.2.at 131 rfl, us_eq]; rfl, ?_, p49.2.1, (Fr.us rfl).tr (Fr.mono rfl p49.2.2)⟩
                                rw [p49.1]
                                first
                                | rw [if_pos (by omega)]
                                | rw [if_neg (by omega)]))
                      · first
                        | (exfalso; omega)
                        | (refine w_ldI rfl rfl ?_
                           refine w_push rfl ?_
                           refine w_crLe rfl (by omega) (by omega) (fun b30 => ?_) (fun b30 => ?_)
                           · first
                             | (exfalso; omega)
                             | (refine w_ldR rfl rfl rfl ?_
                                first | refine w_getI rfl rfl rfl rfl rfl ?_ | refine w_getR rfl rfl rfl rfl rfl ?_
                                refine w_ldI rfl rfl ?_
                                refine w_ldI rfl rfl ?_
                                refine w_ast rfl rfl rfl (by omega) rfl ?_
                                refine w_ldR rfl rfl rfl ?_
                                first | refine w_getI rfl rfl rfl rfl rfl ?_ | refine w_getR rfl rfl rfl rfl rfl ?_
                                refine w_ldI rfl rfl ?_
                                subst hw
                                refine w_rld rfl rfl rfl (by omega) rfl ?_
                                show WP _ _ _ _ (.inr (.inr 140) :: _) _ _
                                refine w_ldI rfl rfl ?_
                                refine w_irNe0 rfl (by omega) (fun b45 => ?_) (fun b45 => ?_)
                                · first
                                  | (exfalso; omega)
                                  | (refine w_ldI rfl rfl ?_
                                     refine w_callWN rfl rfl rfl rfl rfl rfl rfl (k_zeros140 (by omega)) (fun s49 p49 => ?_)
                                     refine w_push rfl ?_
                                     refine w_retI rfl ?_
                                     refine ⟨rfl, by rw [p49.2.2.at 131 rfl, us_eq]; rfl, ?_, p49.2.1, (Fr.us rfl).tr (Fr.mono rfl p49.2.2)⟩
                                     rw [p49.1]
                                     first
                                     | rw [if_pos (by omega)]
                                     | rw [if_neg (by omega)])
                                · first
                                  | (exfalso; omega)
                                  | (refine w_push rfl ?_
                                     refine w_go rfl ?_
                                     refine w_callWN rfl rfl rfl rfl rfl rfl rfl (k_zeros140 (by omega)) (fun s49 p49 => ?_)
                                     refine w_push rfl ?_
                                     refine w_retI rfl ?_
                                     refine ⟨rfl, by rw [p49.2.2.at 131 rfl, us_eq]; rfl, ?_, p49.2.1, (Fr.us rfl).tr (Fr.mono rfl p49.2.2)⟩
                                     rw [p49.1]
                                     first
                                     | rw [if_pos (by omega)]
                                     | rw [if_neg (by omega)]))
                           · first
                             | (exfalso; omega)
                             | (refine w_ldR rfl rfl rfl ?_
                                refine w_push rfl ?_
                                refine w_callWI rfl rfl rfl rfl rfl rfl rfl k_error1 (fun v33 s33 p33 => ?_)
                                obtain ⟨rfl, rfl⟩ := p33
                                refine w_retI rfl ?_
                                refine ⟨rfl, by rw [p49.2.2.at 131 rfl, us_eq]; rfl, ?_, p49.2.1, (Fr.us rfl).tr (Fr.mono rfl p49.2.2)⟩
                                rw [p49.1]
                                first
                                | rw [if_pos (by omega)]
                                | rw [if_neg (by omega)])))
                 · first
                   | (exfalso; omega)
                   | (refine w_ldI rfl rfl ?_
                      refine w_irGe0 rfl (by omega) (fun b21 => ?_) (fun b21 => ?_)
                      · first
                        | (exfalso; omega)
                        | (refine w_ldI rfl rfl ?_
                           refine w_irEq0 rfl (by omega) (fun b27 => ?_) (fun b27 => ?_)
                           · first
                             | (exfalso; omega)
                             | (refine w_ldR rfl rfl rfl ?_
                                first | refine w_getI rfl rfl rfl rfl rfl ?_ | refine w_getR rfl rfl rfl rfl rfl ?_
                                refine w_ldI rfl rfl ?_
                                refine w_ldI rfl rfl ?_
                                refine w_ast rfl rfl rfl (by omega) rfl ?_
                                refine w_ldR rfl rfl rfl ?_
                                first | refine w_getI rfl rfl rfl rfl rfl ?_ | refine w_getR rfl rfl rfl rfl rfl ?_
                                refine w_ldI rfl rfl ?_
                                subst hw
                                refine w_rld rfl rfl rfl (by omega) rfl ?_
                                show WP _ _ _ _ (.inr (.inr 140) :: _) _ _
                                refine w_ldI rfl rfl ?_
                                refine w_irNe0 rfl (by omega) (fun b45 => ?_) (fun b45 => ?_)
                                · first
                                  | (exfalso; omega)
                                  | (refine w_ldI rfl rfl ?_
                                     refine w_callWN rfl rfl rfl rfl rfl rfl rfl (k_zeros140 (by omega)) (fun s49 p49 => ?_)
                                     refine w_push rfl ?_
                                     refine w_retI rfl ?_
                                     refine ⟨rfl, by rw [p49.2.2.at 131 rfl, us_eq]; rfl, ?_, p49.2.1, (Fr.us rfl).tr (Fr.mono rfl p49.2.2)⟩
                                     rw [p49.1]
                                     first
                                     | rw [if_pos (by omega)]
                                     | rw [if_neg (by omega)])
                                · first
                                  | (exfalso; omega)
                                  | (refine w_push rfl ?_
                                     refine w_go rfl ?_
                                     refine w_callWN rfl rfl rfl rfl rfl rfl rfl (k_zeros140 (by omega)) (fun s49 p49 => ?_)
                                     refine w_push rfl ?_
                                     refine w_retI rfl ?_
                                     refine ⟨rfl, by rw [p49.2.2.at 131 rfl, us_eq]; rfl, ?_, p49.2.1, (Fr.us rfl).tr (Fr.mono rfl p49.2.2)⟩
                                     rw [p49.1]
                                     first
                                     | rw [if_pos (by omega)]
                                     | rw [if_neg (by omega)]))
                           · first
                             | (exfalso; omega)
                             | (refine w_ldI rfl rfl ?_
                                refine w_push rfl ?_
                                refine w_crLe rfl (by omega) (by omega) (fun b30 => ?_) (fun b30 => ?_)
                                · first
                                  | (exfalso; omega)
                                  | (refine w_ldR rfl rfl rfl ?_
                                     first | refine w_getI rfl rfl rfl rfl rfl ?_ | refine w_getR rfl rfl rfl rfl rfl ?_
                                     refine w_ldI rfl rfl ?_
                                     refine w_ldI rfl rfl ?_
                                     refine w_ast rfl rfl rfl (by omega) rfl ?_
                                     refine w_ldR rfl rfl rfl ?_
                                     first | refine w_getI rfl rfl rfl rfl rfl ?_ | refine w_getR rfl rfl rfl rfl rfl ?_
                                     refine w_ldI rfl rfl ?_
                                     subst hw
                                     refine w_rld rfl rfl rfl (by omega) rfl ?_
                                     show WP _ _ _ _ (.inr (.inr 140) :: _) _ _
                                     refine w_ldI rfl rfl ?_
                                     refine w_irNe0 rfl (by omega) (fun b45 => ?_) (fun b45 => ?_)
                                     · first
                                       | (exfalso; omega)
                                       | (refine w_ldI rfl rfl ?_
                                          refine w_callWN rfl rfl rfl rfl rfl rfl rfl (k_zeros140 (by omega)) (fun s49 p49 => ?_)
                                          refine w_push rfl ?_
                                          refine w_retI rfl ?_
                                          refine ⟨rfl, by rw [p49.2.2.at 131 rfl, us_eq]; rfl, ?_, p49.2.1, (Fr.us rfl).tr (Fr.mono rfl p49.2.2)⟩
                                          rw [p49.1]
                                          first
                                          | rw [if_pos (by omega)]
                                          | rw [if_neg (by omega)])
                                     · first
                                       | (exfalso; omega)
                                       | (refine w_push rfl ?_
                                          refine w_go rfl ?_
                                          refine w_callWN rfl rfl rfl rfl rfl rfl rfl (k_zeros140 (by omega)) (fun s49 p49 => ?_)
                                          refine w_push rfl ?_
                                          refine w_retI rfl ?_
                                          refine ⟨rfl, by rw [p49.2.2.at 131 rfl, us_eq]; rfl, ?_, p49.2.1, (Fr.us rfl).tr (Fr.mono rfl p49.2.2)⟩
                                          rw [p49.1]
                                          first
                                          | rw [if_pos (by omega)]
                                          | rw [if_neg (by omega)]))
                                · first
                                  | (exfalso; omega)
                                  | (refine w_ldR rfl rfl rfl ?_
                                     refine w_push rfl ?_
                                     refine w_callWI rfl rfl rfl rfl rfl rfl rfl k_error1 (fun v33 s33 p33 => ?_)
                                     obtain ⟨rfl, rfl⟩ := p33
                                     refine w_retI rfl ?_
                                     refine ⟨rfl, by rw [p49.2.2.at 131 rfl, us_eq]; rfl, ?_, p49.2.1, (Fr.us rfl).tr (Fr.mono rfl p49.2.2)⟩
                                     rw [p49.1]
                                     first
                                     | rw [if_pos (by omega)]
                                     | rw [if_neg (by omega)])))
                      · first
                        | (exfalso; omega)
                        | (refine w_ldR rfl rfl rfl ?_
                           refine w_push rfl ?_
                           refine w_callWI rfl rfl rfl rfl rfl rfl rfl k_error1 (fun v24 s24 p24 => ?_)
                           obtain ⟨rfl, rfl⟩ := p24
                           refine w_retI rfl ?_
                           refine ⟨rfl, by rw [p49.2.2.at 131 rfl, us_eq]; rfl, ?_, p49.2.1, (Fr.us rfl).tr (Fr.mono rfl p49.2.2)⟩
                           rw [p49.1]
                           first
                           | rw [if_pos (by omega)]
                           | rw [if_neg (by omega)])))
            · first
              | (exfalso; omega)
              | (refine w_ldI rfl rfl ?_
                 refine w_push rfl ?_
                 refine w_crEq rfl (by omega) (by omega) (fun b10 => ?_) (fun b10 => ?_)
                 · first
                   | (exfalso; omega)
                   | (refine w_ldI rfl rfl ?_
                      refine w_irEq0 rfl (by omega) (fun b19 => ?_) (fun b19 => ?_)
                      · first
                        | (exfalso; omega)
                        | (refine w_ldI rfl rfl ?_
                           refine w_irEq0 rfl (by omega) (fun b27 => ?_) (fun b27 => ?_)
                           · first
                             | (exfalso; omega)
                             | (refine w_ldR rfl rfl rfl ?_
                                first | refine w_getI rfl rfl rfl rfl rfl ?_ | refine w_getR rfl rfl rfl rfl rfl ?_
                                refine w_ldI rfl rfl ?_
                                refine w_ldI rfl rfl ?_
                                refine w_ast rfl rfl rfl (by omega) rfl ?_
                                refine w_ldR rfl rfl rfl ?_
                                first | refine w_getI rfl rfl rfl rfl rfl ?_ | refine w_getR rfl rfl rfl rfl rfl ?_
                                refine w_ldI rfl rfl ?_
                                subst hw
                                refine w_rld rfl rfl rfl (by omega) rfl ?_
                                show WP _ _ _ _ (.inr (.inr 140) :: _) _ _
                                refine w_ldI rfl rfl ?_
                                refine w_irNe0 rfl (by omega) (fun b45 => ?_) (fun b45 => ?_)
                                · first
                                  | (exfalso; omega)
                                  | (refine w_ldI rfl rfl ?_
                                     refine w_callWN rfl rfl rfl rfl rfl rfl rfl (k_zeros140 (by omega)) (fun s49 p49 => ?_)
                                     refine w_push rfl ?_
                                     refine w_retI rfl ?_
                                     refine ⟨rfl, by rw [p49.2.2.at 131 rfl, us_eq]; rfl, ?_, p49.2.1, (Fr.us rfl).tr (Fr.mono rfl p49.2.2)⟩
                                     rw [p49.1]
                                     first
                                     | rw [if_pos (by omega)]
                                     | rw [if_neg (by omega)])
                                · first
                                  | (exfalso; omega)
                                  | (refine w_push rfl ?_
                                     refine w_go rfl ?_
                                     refine w_callWN rfl rfl rfl rfl rfl rfl rfl (k_zeros140 (by omega)) (fun s49 p49 => ?_)
                                     refine w_push rfl ?_
                                     refine w_retI rfl ?_
                                     refine ⟨rfl, by rw [p49.2.2.at 131 rfl, us_eq]; rfl, ?_, p49.2.1, (Fr.us rfl).tr (Fr.mono rfl p49.2.2)⟩
                                     rw [p49.1]
                                     first
                                     | rw [if_pos (by omega)]
                                     | rw [if_neg (by omega)]))
                           · first
                             | (exfalso; omega)
                             | (refine w_ldI rfl rfl ?_
                                refine w_push rfl ?_
                                refine w_crLe rfl (by omega) (by omega) (fun b30 => ?_) (fun b30 => ?_)
                                · first
                                  | (exfalso; omega)
                                  | (refine w_ldR rfl rfl rfl ?_
                                     first | refine w_getI rfl rfl rfl rfl rfl ?_ | refine w_getR rfl rfl rfl rfl rfl ?_
                                     refine w_ldI rfl rfl ?_
                                     refine w_ldI rfl rfl ?_
                                     refine w_ast rfl rfl rfl (by omega) rfl ?_
                                     refine w_ldR rfl rfl rfl ?_
                                     first | refine w_getI rfl rfl rfl rfl rfl ?_ | refine w_getR rfl rfl rfl rfl rfl ?_
                                     refine w_ldI rfl rfl ?_
                                     subst hw
                                     refine w_rld rfl rfl rfl (by omega) rfl ?_
                                     show WP _ _ _ _ (.inr (.inr 140) :: _) _ _
                                     refine w_ldI rfl rfl ?_
                                     refine w_irNe0 rfl (by omega) (fun b45 => ?_) (fun b45 => ?_)
                                     · first
                                       | (exfalso; omega)
                                       | (refine w_ldI rfl rfl ?_
                                          refine w_callWN rfl rfl rfl rfl rfl rfl rfl (k_zeros140 (by omega)) (fun s49 p49 => ?_)
                                          refine w_push rfl ?_
                                          refine w_retI rfl ?_
                                          refine ⟨rfl, by rw [p49.2.2.at 131 rfl, us_eq]; rfl, ?_, p49.2.1, (Fr.us rfl).tr (Fr.mono rfl p49.2.2)⟩
                                          rw [p49.1]
                                          first
                                          | rw [if_pos (by omega)]
                                          | rw [if_neg (by omega)])
                                     · first
                                       | (exfalso; omega)
                                       | (refine w_push rfl ?_
                                          refine w_go rfl ?_
                                          refine w_callWN rfl rfl rfl rfl rfl rfl rfl (k_zeros140 (by omega)) (fun s49 p49 => ?_)
                                          refine w_push rfl ?_
                                          refine w_retI rfl ?_
                                          refine ⟨rfl, by rw [p49.2.2.at 131 rfl, us_eq]; rfl, ?_, p49.2.1, (Fr.us rfl).tr (Fr.mono rfl p49.2.2)⟩
                                          rw [p49.1]
                                          first
                                          | rw [if_pos (by omega)]
                                          | rw [if_neg (by omega)]))
                                · first
                                  | (exfalso; omega)
                                  | (refine w_ldR rfl rfl rfl ?_
                                     refine w_push rfl ?_
                                     refine w_callWI rfl rfl rfl rfl rfl rfl rfl k_error1 (fun v33 s33 p33 => ?_)
                                     obtain ⟨rfl, rfl⟩ := p33
                                     refine w_retI rfl ?_
                                     refine ⟨rfl, by rw [p49.2.2.at 131 rfl, us_eq]; rfl, ?_, p49.2.1, (Fr.us rfl).tr (Fr.mono rfl p49.2.2)⟩
                                     rw [p49.1]
                                     first
                                     | rw [if_pos (by omega)]
                                     | rw [if_neg (by omega)])))
                      · first
                        | (exfalso; omega)
                        | (refine w_ldI rfl rfl ?_
                           refine w_irGe0 rfl (by omega) (fun b21 => ?_) (fun b21 => ?_)
                           · first
                             | (exfalso; omega)
                             | (refine w_ldI rfl rfl ?_
                                refine w_irEq0 rfl (by omega) (fun b27 => ?_) (fun b27 => ?_)
                                · first
                                  | (exfalso; omega)
                                  | (refine w_ldR rfl rfl rfl ?_
                                     first | refine w_getI rfl rfl rfl rfl rfl ?_ | refine w_getR rfl rfl rfl rfl rfl ?_
                                     refine w_ldI rfl rfl ?_
                                     refine w_ldI rfl rfl ?_
                                     refine w_ast rfl rfl rfl (by omega) rfl ?_
                                     refine w_ldR rfl rfl rfl ?_
                                     first | refine w_getI rfl rfl rfl rfl rfl ?_ | refine w_getR rfl rfl rfl rfl rfl ?_
                                     refine w_ldI rfl rfl ?_
                                     subst hw
                                     refine w_rld rfl rfl rfl (by omega) rfl ?_
                                     show WP _ _ _ _ (.inr (.inr 140) :: _) _ _
                                     refine w_ldI rfl rfl ?_
                                     refine w_irNe0 rfl (by omega) (fun b45 => ?_) (fun b45 => ?_)
                                     · first
                                       | (exfalso; omega)
                                       | (refine w_ldI rfl rfl ?_
                                          refine w_callWN rfl rfl rfl rfl rfl rfl rfl (k_zeros140 (by omega)) (fun s49 p49 => ?_)
                                          refine w_push rfl ?_
                                          refine w_retI rfl ?_
                                          refine ⟨rfl, by rw [p49.2.2.at 131 rfl, us_eq]; rfl, ?_, p49.2.1, (Fr.us rfl).tr (Fr.mono rfl p49.2.2)⟩
                                          rw [p49.1]
                                          first
                                          | rw [if_pos (by omega)]
                                          | rw [if_neg (by omega)])
                                     · first
                                       | (exfalso; omega)
                                       | (refine w_push rfl ?_
                                          refine w_go rfl ?_
                                          refine w_callWN rfl rfl rfl rfl rfl rfl rfl (k_zeros140 (by omega)) (fun s49 p49 => ?_)
                                          refine w_push rfl ?_
                                          refine w_retI rfl ?_
                                          refine ⟨rfl, by rw [p49.2.2.at 131 rfl, us_eq]; rfl, ?_, p49.2.1, (Fr.us rfl).tr (Fr.mono rfl p49.2.2)⟩
                                          rw [p49.1]
                                          first
                                          | rw [if_pos (by omega)]
                                          | rw [if_neg (by omega)]))
                                · first
                                  | (exfalso; omega)
                                  | (refine w_ldI rfl rfl ?_
                                     refine w_push rfl ?_
                                     refine w_crLe rfl (by omega) (by omega) (fun b30 => ?_) (fun b30 => ?_)
                                     · first
                                       | (exfalso; omega)
                                       | (refine w_ldR rfl rfl rfl ?_
                                          first | refine w_getI rfl rfl rfl rfl rfl ?_ | refine w_getR rfl rfl rfl rfl rfl ?_
                                          refine w_ldI rfl rfl ?_
                                          refine w_ldI rfl rfl ?_
                                          refine w_ast rfl rfl rfl (by omega) rfl ?_
                                          refine w_ldR rfl rfl rfl ?_
                                          first | refine w_getI rfl rfl rfl rfl rfl ?_ | refine w_getR rfl rfl rfl rfl rfl ?_
                                          refine w_ldI rfl rfl ?_
                                          subst hw
                                          refine w_rld rfl rfl rfl (by omega) rfl ?_
                                          show WP _ _ _ _ (.inr (.inr 140) :: _) _ _
                                          refine w_ldI rfl rfl ?_
                                          refine w_irNe0 rfl (by omega) (fun b45 => ?_) (fun b45 => ?_)
                                          · first
                                            | (exfalso; omega)
                                            | (refine w_ldI rfl rfl ?_
                                               refine w_callWN rfl rfl rfl rfl rfl rfl rfl (k_zeros140 (by omega)) (fun s49 p49 => ?_)
                                               refine w_push rfl ?_
                                               refine w_retI rfl ?_
                                               refine ⟨rfl, by rw [p49.2.2.at 131 rfl, us_eq]; rfl, ?_, p49.2.1, (Fr.us rfl).tr (Fr.mono rfl p49.2.2)⟩
                                               rw [p49.1]
                                               first
                                               | rw [if_pos (by omega)]
                                               | rw [if_neg (by omega)])
                                          · first
                                            | (exfalso; omega)
                                            | (refine w_push rfl ?_
                                               refine w_go rfl ?_
                                               refine w_callWN rfl rfl rfl rfl rfl rfl rfl (k_zeros140 (by omega)) (fun s49 p49 => ?_)
                                               refine w_push rfl ?_
                                               refine w_retI rfl ?_
                                               refine ⟨rfl, by rw [p49.2.2.at 131 rfl, us_eq]; rfl, ?_, p49.2.1, (Fr.us rfl).tr (Fr.mono rfl p49.2.2)⟩
                                               rw [p49.1]
                                               first
                                               | rw [if_pos (by omega)]
                                               | rw [if_neg (by omega)]))
                                     · first
                                       | (exfalso; omega)
                                       | (refine w_ldR rfl rfl rfl ?_
                                          refine w_push rfl ?_
                                          refine w_callWI rfl rfl rfl rfl rfl rfl rfl k_error1 (fun v33 s33 p33 => ?_)
                                          obtain ⟨rfl, rfl⟩ := p33
                                          refine w_retI rfl ?_
                                          refine ⟨rfl, by rw [p49.2.2.at 131 rfl, us_eq]; rfl, ?_, p49.2.1, (Fr.us rfl).tr (Fr.mono rfl p49.2.2)⟩
                                          rw [p49.1]
                                          first
                                          | rw [if_pos (by omega)]
                                          | rw [if_neg (by omega)])))
                           · first
                             | (exfalso; omega)
                             | (refine w_ldR rfl rfl rfl ?_
                                refine w_push rfl ?_
                                refine w_callWI rfl rfl rfl rfl rfl rfl rfl k_error1 (fun v24 s24 p24 => ?_)
                                obtain ⟨rfl, rfl⟩ := p24
                                refine w_retI rfl ?_
                                refine ⟨rfl, by rw [p49.2.2.at 131 rfl, us_eq]; rfl, ?_, p49.2.1, (Fr.us rfl).tr (Fr.mono rfl p49.2.2)⟩
                                rw [p49.1]
                                first
                                | rw [if_pos (by omega)]
                                | rw [if_neg (by omega)])))
                 · first
                   | (exfalso; omega)
                   | (refine w_ldI rfl rfl ?_
                      refine w_push rfl ?_
                      refine w_crEq rfl (by omega) (by omega) (fun b13 => ?_) (fun b13 => ?_)
                      · first
                        | (exfalso; omega)
                        | (refine w_ldI rfl rfl ?_
                           refine w_irEq0 rfl (by omega) (fun b19 => ?_) (fun b19 => ?_)
                           · first
                             | (exfalso; omega)
                             | (refine w_ldI rfl rfl ?_
                                refine w_irEq0 rfl (by omega) (fun b27 => ?_) (fun b27 => ?_)
                                · first
                                  | (exfalso; omega)
                                  | (refine w_ldR rfl rfl rfl ?_
                                     first | refine w_getI rfl rfl rfl rfl rfl ?_ | refine w_getR rfl rfl rfl rfl rfl ?_
                                     refine w_ldI rfl rfl ?_
                                     refine w_ldI rfl rfl ?_
                                     refine w_ast rfl rfl rfl (by omega) rfl ?_
                                     refine w_ldR rfl rfl rfl ?_
                                     first | refine w_getI rfl rfl rfl rfl rfl ?_ | refine w_getR rfl rfl rfl rfl rfl ?_
                                     refine w_ldI rfl rfl ?_
                                     subst hw
                                     refine w_rld rfl rfl rfl (by omega) rfl ?_
                                     show WP _ _ _ _ (.inr (.inr 140) :: _) _ _
                                     refine w_ldI rfl rfl ?_
                                     refine w_irNe0 rfl (by omega) (fun b45 => ?_) (fun b45 => ?_)
                                     · first
                                       | (exfalso; omega)
                                       | (refine w_ldI rfl rfl ?_
                                          refine w_callWN rfl rfl rfl rfl rfl rfl rfl (k_zeros140 (by omega)) (fun s49 p49 => ?_)
                                          refine w_push rfl ?_
                                          refine w_retI rfl ?_
                                          refine ⟨rfl, by rw [p49.2.2.at 131 rfl, us_eq]; rfl, ?_, p49.2.1, (Fr.us rfl).tr (Fr.mono rfl p49.2.2)⟩
                                          rw [p49.1]
                                          first
                                          | rw [if_pos (by omega)]
                                          | rw [if_neg (by omega)])
                                     · first
                                       | (exfalso; omega)
                                       | (refine w_push rfl ?_
                                          refine w_go rfl ?_
                                          refine w_callWN rfl rfl rfl rfl rfl rfl rfl (k_zeros140 (by omega)) (fun s49 p49 => ?_)
                                          refine w_push rfl ?_
                                          refine w_retI rfl ?_
                                          refine ⟨rfl, by rw [p49.2.2.at 131 rfl, us_eq]; rfl, ?_, p49.2.1, (Fr.us rfl).tr (Fr.mono rfl p49.2.2)⟩
                                          rw [p49.1]
                                          first
                                          | rw [if_pos (by omega)]
                                          | rw [if_neg (by omega)]))
                                · first
                                  | (exfalso; omega)
                                  | (refine w_ldI rfl rfl ?_
                                     refine w_push rfl ?_
                                     refine w_crLe rfl (by omega) (by omega) (fun b30 => ?_) (fun b30 => ?_)
                                     · first
                                       | (exfalso; omega)
                                       | (refine w_ldR rfl rfl rfl ?_
                                          first | refine w_getI rfl rfl rfl rfl rfl ?_ | refine w_getR rfl rfl rfl rfl rfl ?_
                                          refine w_ldI rfl rfl ?_
                                          refine w_ldI rfl rfl ?_
                                          refine w_ast rfl rfl rfl (by omega) rfl ?_
                                          refine w_ldR rfl rfl rfl ?_
                                          first | refine w_getI rfl rfl rfl rfl rfl ?_ | refine w_getR rfl rfl rfl rfl rfl ?_
                                          refine w_ldI rfl rfl ?_
                                          subst hw
                                          refine w_rld rfl rfl rfl (by omega) rfl ?_
                                          show WP _ _ _ _ (.inr (.inr 140) :: _) _ _
                                          refine w_ldI rfl rfl ?_
                                          refine w_irNe0 rfl (by omega) (fun b45 => ?_) (fun b45 => ?_)
                                          · first
                                            | (exfalso; omega)
                                            | (refine w_ldI rfl rfl ?_
                                               refine w_callWN rfl rfl rfl rfl rfl rfl rfl (k_zeros140 (by omega)) (fun s49 p49 => ?_)
                                               refine w_push rfl ?_
                                               refine w_retI rfl ?_
                                               refine ⟨rfl, by rw [p49.2.2.at 131 rfl, us_eq]; rfl, ?_, p49.2.1, (Fr.us rfl).tr (Fr.mono rfl p49.2.2)⟩
                                               rw [p49.1]
                                               first
                                               | rw [if_pos (by omega)]
                                               | rw [if_neg (by omega)])
                                          · first
                                            | (exfalso; omega)
                                            | (refine w_push rfl ?_
                                               refine w_go rfl ?_
                                               refine w_callWN rfl rfl rfl rfl rfl rfl rfl (k_zeros140 (by omega)) (fun s49 p49 => ?_)
                                               refine w_push rfl ?_
                                               refine w_retI rfl ?_
                                               refine ⟨rfl, by rw [p49.2.2.at 131 rfl, us_eq]; rfl, ?_, p49.2.1, (Fr.us rfl).tr (Fr.mono rfl p49.2.2)⟩
                                               rw [p49.1]
                                               first
                                               | rw [if_pos (by omega)]
                                               | rw [if_neg (by omega)]))
                                     · first
                                       | (exfalso; omega)
                                       | (refine w_ldR rfl rfl rfl ?_
                                          refine w_push rfl ?_
                                          refine w_callWI rfl rfl rfl rfl rfl rfl rfl k_error1 (fun v33 s33 p33 => ?_)
                                          obtain ⟨rfl, rfl⟩ := p33
                                          refine w_retI rfl ?_
                                          refine ⟨rfl, by rw [p49.2.2.at 131 rfl, us_eq]; rfl, ?_, p49.2.1, (Fr.us rfl).tr (Fr.mono rfl p49.2.2)⟩
                                          rw [p49.1]
                                          first
                                          | rw [if_pos (by omega)]
                                          | rw [if_neg (by omega)])))
                           · first
                             | (exfalso; omega)
                             | (refine w_ldI rfl rfl ?_
                                refine w_irGe0 rfl (by omega) (fun b21 => ?_) (fun b21 => ?_)
                                · first
                                  | (exfalso; omega)
                                  | (refine w_ldI rfl rfl ?_
                                     refine w_irEq0 rfl (by omega) (fun b27 => ?_) (fun b27 => ?_)
                                     · first
                                       | (exfalso; omega)
                                       | (refine w_ldR rfl rfl rfl ?_
                                          first | refine w_getI rfl rfl rfl rfl rfl ?_ | refine w_getR rfl rfl rfl rfl rfl ?_
                                          refine w_ldI rfl rfl ?_
                                          refine w_ldI rfl rfl ?_
                                          refine w_ast rfl rfl rfl (by omega) rfl ?_
                                          refine w_ldR rfl rfl rfl ?_
                                          first | refine w_getI rfl rfl rfl rfl rfl ?_ | refine w_getR rfl rfl rfl rfl rfl ?_
                                          refine w_ldI rfl rfl ?_
                                          subst hw
                                          refine w_rld rfl rfl rfl (by omega) rfl ?_
                                          show WP _ _ _ _ (.inr (.inr 140) :: _) _ _
                                          refine w_ldI rfl rfl ?_
                                          refine w_irNe0 rfl (by omega) (fun b45 => ?_) (fun b45 => ?_)
                                          · first
                                            | (exfalso; omega)
                                            | (refine w_ldI rfl rfl ?_
                                               refine w_callWN rfl rfl rfl rfl rfl rfl rfl (k_zeros140 (by omega)) (fun s49 p49 => ?_)
                                               refine w_push rfl ?_
                                               refine w_retI rfl ?_
                                               refine ⟨rfl, by rw [p49.2.2.at 131 rfl, us_eq]; rfl, ?_, p49.2.1, (Fr.us rfl).tr (Fr.mono rfl p49.2.2)⟩
                                               rw [p49.1]
                                               first
                                               | rw [if_pos (by omega)]
                                               | rw [if_neg (by omega)])
                                          · first
                                            | (exfalso; omega)
                                            | (refine w_push rfl ?_
                                               refine w_go rfl ?_
                                               refine w_callWN rfl rfl rfl rfl rfl rfl rfl (k_zeros140 (by omega)) (fun s49 p49 => ?_)
                                               refine w_push rfl ?_
                                               refine w_retI rfl ?_
                                               refine ⟨rfl, by rw [p49.2.2.at 131 rfl, us_eq]; rfl, ?_, p49.2.1, (Fr.us rfl).tr (Fr.mono rfl p49.2.2)⟩
                                               rw [p49.1]
                                               first
                                               | rw [if_pos (by omega)]
                                               | rw [if_neg (by omega)]))
                                     · first
                                       | (exfalso; omega)
                                       | (refine w_ldI rfl rfl ?_
                                          refine w_push rfl ?_
                                          refine w_crLe rfl (by omega) (by omega) (fun b30 => ?_) (fun b30 => ?_)
                                          · first
                                            | (exfalso; omega)
                                            | (refine w_ldR rfl rfl rfl ?_
                                               first | refine w_getI rfl rfl rfl rfl rfl ?_ | refine w_getR rfl rfl rfl rfl rfl ?_
                                               refine w_ldI rfl rfl ?_
                                               refine w_ldI rfl rfl ?_
                                               refine w_ast rfl rfl rfl (by omega) rfl ?_
                                               refine w_ldR rfl rfl rfl ?_
                                               first | refine w_getI rfl rfl rfl rfl rfl ?_ | refine w_getR rfl rfl rfl rfl rfl ?_
                                               refine w_ldI rfl rfl ?_
                                               subst hw
                                               refine w_rld rfl rfl rfl (by omega) rfl ?_
                                               show WP _ _ _ _ (.inr (.inr 140) :: _) _ _
                                               refine w_ldI rfl rfl ?_
                                               refine w_irNe0 rfl (by omega) (fun b45 => ?_) (fun b45 => ?_)
                                               · first
                                                 | (exfalso; omega)
                                                 | (refine w_ldI rfl rfl ?_
                                                    refine w_callWN rfl rfl rfl rfl rfl rfl rfl (k_zeros140 (by omega)) (fun s49 p49 => ?_)
                                                    refine w_push rfl ?_
                                                    refine w_retI rfl ?_
                                                    refine ⟨rfl, by rw [p49.2.2.at 131 rfl, us_eq]; rfl, ?_, p49.2.1, (Fr.us rfl).tr (Fr.mono rfl p49.2.2)⟩
                                                    rw [p49.1]
                                                    first
                                                    | rw [if_pos (by omega)]
                                                    | rw [if_neg (by omega)])
                                               · first
                                                 | (exfalso; omega)
                                                 | (refine w_push rfl ?_
                                                    refine w_go rfl ?_
                                                    refine w_callWN rfl rfl rfl rfl rfl rfl rfl (k_zeros140 (by omega)) (fun s49 p49 => ?_)
                                                    refine w_push rfl ?_
                                                    refine w_retI rfl ?_
                                                    refine ⟨rfl, by rw [p49.2.2.at 131 rfl, us_eq]; rfl, ?_, p49.2.1, (Fr.us rfl).tr (Fr.mono rfl p49.2.2)⟩
                                                    rw [p49.1]
                                                    first
                                                    | rw [if_pos (by omega)]
                                                    | rw [if_neg (by omega)]))
                                          · first
                                            | (exfalso; omega)
                                            | (refine w_ldR rfl rfl rfl ?_
                                               refine w_push rfl ?_
                                               refine w_callWI rfl rfl rfl rfl rfl rfl rfl k_error1 (fun v33 s33 p33 => ?_)
                                               obtain ⟨rfl, rfl⟩ := p33
                                               refine w_retI rfl ?_
                                               refine ⟨rfl, by rw [p49.2.2.at 131 rfl, us_eq]; rfl, ?_, p49.2.1, (Fr.us rfl).tr (Fr.mono rfl p49.2.2)⟩
                                               rw [p49.1]
                                               first
                                               | rw [if_pos (by omega)]
                                               | rw [if_neg (by omega)])))
                                · first
                                  | (exfalso; omega)
                                  | (refine w_ldR rfl rfl rfl ?_
                                     refine w_push rfl ?_
                                     refine w_callWI rfl rfl rfl rfl rfl rfl rfl k_error1 (fun v24 s24 p24 => ?_)
                                     obtain ⟨rfl, rfl⟩ := p24
                                     refine w_retI rfl ?_
                                     refine ⟨rfl, by rw [p49.2.2.at 131 rfl, us_eq]; rfl, ?_, p49.2.1, (Fr.us rfl).tr (Fr.mono rfl p49.2.2)⟩
                                     rw [p49.1]
                                     first
                                     | rw [if_pos (by omega)]
                                     | rw [if_neg (by omega)])))
                      · first
                        | (exfalso; omega)
                        | (refine w_ldR rfl rfl rfl ?_
                           refine w_push rfl ?_
                           refine w_callWI rfl rfl rfl rfl rfl rfl rfl k_error1 (fun v16 s16 p16 => ?_)
                           obtain ⟨rfl, rfl⟩ := p16
                           refine w_retI rfl ?_
                           refine ⟨rfl, by rw [p49.2.2.at 131 rfl, us_eq]; rfl, ?_, p49.2.1, (Fr.us rfl).tr (Fr.mono rfl p49.2.2)⟩
                           rw [p49.1]
                           first
                           | rw [if_pos (by omega)]
                           | rw [if_neg (by omega)])))))
theorem x_sheet_2 {d : Nat} {s : mSt} (hI : IvD s) {w b n : Int} (hrw : -2147483648 ≤ w ∧ w < 2147483648) (hrb : -2147483648 ≤ b ∧ b < 2147483648) (hrn : -2147483648 ≤ n ∧ n < 2147483648) (hw : w = 2) (hb : (b = 0 ∨ b = 8 ∨ b = 16 ∨ b = 32)) (h1 : ¬ (b ≠ 0 ∧ n < 0)) (h2 : ¬ (b ≠ 0 ∧ 40 < n)) : CI (d + 2) 130 [.inr (.inr 10), .inl w, .inl b, .inl n] (s) (fun q s1 => q = 1 ∧ s1 131 = mup (s 131) 2 b ∧ s1 142 1 = (if b = 0 then 0 else n) ∧ (∀ i, i < 40 → s1 143 i = 0) ∧ Fr [131, 142, 143] s s1) := by
  refine CI.mk rfl ?_
  show WP (d + 2) 130 0 [some (.inr (.inr 10)), some (.inl w), some (.inl b), some (.inl n)] [] (encA (s)) _
  have hI0 := hI
  obtain ⟨⟨hM, hC, hN⟩, hV, h8⟩ := hI
  have hV0 := hV
  have hM0 := hM
  obtain ⟨vc, vpl, vga, vse, vne, veg, vre, vtu, vta, vwa, v36, v37, v39, v40, v42, v41, v43, v44, vl0, vl1, vlm⟩ := hV
  obtain ⟨hM39, hM40, hM41, hM43, hM44, hM36, hM37, hM38, hMc, hMw, hMp, hMt, hMb⟩ := hM
  refine w_ldI rfl rfl ?_
  refine w_call rfl rfl rfl (k_isSheet (by omega)) ?_
  refine w_bEq0 rfl (fun b2 => ?_) (fun b2 => ?_)
  · first
    | (exfalso; omega)
    | (refine w_ldR rfl rfl rfl ?_
       refine w_push rfl ?_
       refine w_callWI rfl rfl rfl rfl rfl rfl rfl k_error1 (fun v16 s16 p16 => ?_)
       obtain ⟨rfl, rfl⟩ := p16
       refine w_retI rfl ?_
       refine ⟨rfl, by rw [p49.2.2.at 131 rfl, us_eq]; rfl, ?_, p49.2.1, (Fr.us rfl).tr (Fr.mono rfl p49.2.2)⟩
       rw [p49.1]
       first
       | rw [if_pos (by omega)]
       | rw [if_neg (by omega)])
  · first
    | (exfalso; omega)
    | (refine w_ldI rfl rfl ?_
       refine w_irEq0 rfl (by omega) (fun b4 => ?_) (fun b4 => ?_)
       · first
         | (exfalso; omega)
         | (refine w_ldI rfl rfl ?_
            refine w_irEq0 rfl (by omega) (fun b19 => ?_) (fun b19 => ?_)
            · first
              | (exfalso; omega)
              | (refine w_ldI rfl rfl ?_
                 refine w_irEq0 rfl (by omega) (fun b27 => ?_) (fun b27 => ?_)
                 · first
                   | (exfalso; omega)
                   | (refine w_ldR rfl rfl rfl ?_
                      first | refine w_getI rfl rfl rfl rfl rfl ?_ | refine w_getR rfl rfl rfl rfl rfl ?_
                      refine w_ldI rfl rfl ?_
                      refine w_ldI rfl rfl ?_
                      refine w_ast rfl rfl rfl (by omega) rfl ?_
                      refine w_ldR rfl rfl rfl ?_
                      first | refine w_getI rfl rfl rfl rfl rfl ?_ | refine w_getR rfl rfl rfl rfl rfl ?_
                      refine w_ldI rfl rfl ?_
                      subst hw
                      refine w_rld rfl rfl rfl (by omega) rfl ?_
                      show WP _ _ _ _ (.inr (.inr 142) :: _) _ _
                      refine w_ldI rfl rfl ?_
                      refine w_irNe0 rfl (by omega) (fun b45 => ?_) (fun b45 => ?_)
                      · first
                        | (exfalso; omega)
                        | (refine w_ldI rfl rfl ?_
                           refine w_callWN rfl rfl rfl rfl rfl rfl rfl (k_zeros142 (by omega)) (fun s49 p49 => ?_)
                           refine w_push rfl ?_
                           refine w_retI rfl ?_
                           refine ⟨rfl, by rw [p49.2.2.at 131 rfl, us_eq]; rfl, ?_, p49.2.1, (Fr.us rfl).tr (Fr.mono rfl p49.2.2)⟩
                           rw [p49.1]
                           first
                           | rw [if_pos (by omega)]
                           | rw [if_neg (by omega)])
                      · first
                        | (exfalso; omega)
                        | (refine w_push rfl ?_
                           refine w_go rfl ?_
                           refine w_callWN rfl rfl rfl rfl rfl rfl rfl (k_zeros142 (by omega)) (fun s49 p49 => ?_)
                           refine w_push rfl ?_
                           refine w_retI rfl ?_
                           refine ⟨rfl, by rw [p49.2.2.at 131 rfl, us_eq]; rfl, ?_, p49.2.1, (Fr.us rfl).tr (Fr.mono rfl p49.2.2)⟩
                           rw [p49.1]
                           first
                           | rw [if_pos (by omega)]
                           | rw [if_neg (by omega)]))
                 · first
                   | (exfalso; omega)
                   | (refine w_ldI rfl rfl ?_
                      refine w_push rfl ?_
                      refine w_crLe rfl (by omega) (by omega) (fun b30 => ?_) (fun b30 => ?_)
                      · first
                        | (exfalso; omega)
                        | (refine w_ldR rfl rfl rfl ?_
                           first | refine w_getI rfl rfl rfl rfl rfl ?_ | refine w_getR rfl rfl rfl rfl rfl ?_
                           refine w_ldI rfl rfl ?_
                           refine w_ldI rfl rfl ?_
                           refine w_ast rfl rfl rfl (by omega) rfl ?_
                           refine w_ldR rfl rfl rfl ?_
                           first | refine w_getI rfl rfl rfl rfl rfl ?_ | refine w_getR rfl rfl rfl rfl rfl ?_
                           refine w_ldI rfl rfl ?_
                           subst hw
                           refine w_rld rfl rfl rfl (by omega) rfl ?_
                           show WP _ _ _ _ (.inr (.inr 142) :: _) _ _
                           refine w_ldI rfl rfl ?_
                           refine w_irNe0 rfl (by omega) (fun b45 => ?_) (fun b45 => ?_)
                           · first
                             | (exfalso; omega)
                             | (refine w_ldI rfl rfl ?_
                                refine w_callWN rfl rfl rfl rfl rfl rfl rfl (k_zeros142 (by omega)) (fun s49 p49 => ?_)
                                refine w_push rfl ?_
                                refine w_retI rfl ?_
                                refine ⟨rfl, by rw [p49.2.2.at 131 rfl, us_eq]; rfl, ?_, p49.2.1, (Fr.us rfl).tr (Fr.mono rfl p49.2.2)⟩
                                rw [p49.1]
                                first
                                | rw [if_pos (by omega)]
                                | rw [if_neg (by omega)])
                           · first
                             | (exfalso; omega)
                             | (refine w_push rfl ?_
                                refine w_go rfl ?_
                                refine w_callWN rfl rfl rfl rfl rfl rfl rfl (k_zeros142 (by omega)) (fun s49 p49 => ?_)
                                refine w_push rfl ?_
                                refine w_retI rfl ?_
                                refine ⟨rfl, by rw [p49.2.2.at 131 rfl, us_eq]; rfl, ?_, p49.2.1, (Fr.us rfl).tr (Fr.mono rfl p49.2.2)⟩
                                rw [p49.1]
                                first
                                | rw [if_pos (by omega)]
                                | rw [if_neg (by omega)]))
                      · first
                        | (exfalso; omega)
                        | (refine w_ldR rfl rfl rfl ?_
                           refine w_push rfl ?_
                           refine w_callWI rfl rfl rfl rfl rfl rfl rfl k_error1 (fun v33 s33 p33 => ?_)
                           obtain ⟨rfl, rfl⟩ := p33
                           refine w_retI rfl ?_
                           refine ⟨rfl, by rw [p49.2.2.at 131 rfl, us_eq]; rfl, ?_, p49.2.1, (Fr.us rfl).tr (Fr.mono rfl p49.2.2)⟩
                           rw [p49.1]
                           first
                           | rw [if_pos (by omega)]
                           | rw [if_neg (by omega)])))
            · first
              | (exfalso; omega)
              | (refine w_ldI rfl rfl ?_
                 refine w_irGe0 rfl (by omega) (fun b21 => ?_) (fun b21 => ?_)
                 · first
                   | (exfalso; omega)
                   | (refine w_ldI rfl rfl ?_
                      refine w_irEq0 rfl (by omega) (fun b27 => ?_) (fun b27 => ?_)
                      · first
                        | (exfalso; omega)
                        | (refine w_ldR rfl rfl rfl ?_
                           first | refine w_getI rfl rfl rfl rfl rfl ?_ | refine w_getR rfl rfl rfl rfl rfl ?_
                           refine w_ldI rfl rfl ?_
                           refine w_ldI rfl rfl ?_
                           refine w_ast rfl rfl rfl (by omega) rfl ?_
                           refine w_ldR rfl rfl rfl ?_
                           first | refine w_getI rfl rfl rfl rfl rfl ?_ | refine w_getR rfl rfl rfl rfl rfl ?_
                           refine w_ldI rfl rfl ?_
                           subst hw
                           refine w_rld rfl rfl rfl (by omega) rfl ?_
                           show WP _ _ _ _ (.inr (.inr 142) :: _) _ _
                           refine w_ldI rfl rfl ?_
                           refine w_irNe0 rfl (by omega) (fun b45 => ?_) (fun b45 => ?_)
                           · first
                             | (exfalso; omega)
                             | (refine w_ldI rfl rfl ?_
                                refine w_callWN rfl rfl rfl rfl rfl rfl rfl (k_zeros142 (by omega)) (fun s49 p49 => ?_)
                                refine w_push rfl ?_
                                refine w_retI rfl ?_
                                refine ⟨rfl, by rw [p49.2.2.at 131 rfl, us_eq]; rfl, ?_, p49.2.1, (Fr.us rfl).tr (Fr.mono rfl p49.2.2)⟩
                                rw [p49.1]
                                first
                                | rw [if_pos (by omega)]
                                | rw [if_neg (by omega)])
                           · first
                             | (exfalso; omega)
                             | (refine w_push rfl ?_
                                refine w_go rfl ?_
                                refine w_callWN rfl rfl rfl rfl rfl rfl rfl (k_zeros142 (by omega)) (fun s49 p49 => ?_)
                                refine w_push rfl ?_
                                refine w_retI rfl ?_
                                refine ⟨rfl, by rw [p49.2.2.at 131 rfl, us_eq]; rfl, ?_, p49.2.1, (Fr.us rfl).tr (Fr.mono rfl p49.2.2)⟩
                                rw [p49.1]
                                first
                                | rw [if_pos (by omega)]
                                | rw [if_neg (by omega)]))
                      · first
                        | (exfalso; omega)
                        | (refine w_ldI rfl rfl ?_
                           refine w_push rfl ?_
                           refine w_crLe rfl (by omega) (by omega) (fun b30 => ?_) (fun b30 => ?_)
                           · first
                             | (exfalso; omega)
                             | (refine w_ldR rfl rfl rfl ?_
                                first | refine w_getI rfl rfl rfl rfl rfl ?_ | refine w_getR rfl rfl rfl rfl rfl ?_
                                refine w_ldI rfl rfl ?_
                                refine w_ldI rfl rfl ?_
                                refine w_ast rfl rfl rfl (by omega) rfl ?_
                                refine w_ldR rfl rfl rfl ?_
                                first | refine w_getI rfl rfl rfl rfl rfl ?_ | refine w_getR rfl rfl rfl rfl rfl ?_
                                refine w_ldI rfl rfl ?_
                                subst hw
                                refine w_rld rfl rfl rfl (by omega) rfl ?_
                                show WP _ _ _ _ (.inr (.inr 142) :: _) _ _
                                refine w_ldI rfl rfl ?_
                                refine w_irNe0 rfl (by omega) (fun b45 => ?_) (fun b45 => ?_)
                                · first
                                  | (exfalso; omega)
                                  | (refine w_ldI rfl rfl ?_
                                     refine w_callWN rfl rfl rfl rfl rfl rfl rfl (k_zeros142 (by omega)) (fun s49 p49 => ?_)
                                     refine w_push rfl ?_
                                     refine w_retI rfl ?_
                                     refine ⟨rfl, by rw [p49.2.2.at 131 rfl, us_eq]; rfl, ?_, p49.2.1, (Fr.us rfl).tr (Fr.mono rfl p49.2.2)⟩
                                     rw [p49.1]
                                     first
                                     | rw [if_pos (by omega)]
                                     | rw [if_neg (by omega)])
                                · first
                                  | (exfalso; omega)
                                  | (refine w_push rfl ?_
                                     refine w_go rfl ?_
                                     refine w_callWN rfl rfl rfl rfl rfl rfl rfl (k_zeros142 (by omega)) (fun s49 p49 => ?_)
                                     refine w_push rfl ?_
                                     refine w_retI rfl ?_
                                     refine ⟨rfl, by rw [p49.2.2.at 131 rfl, us_eq]; rfl, ?_, p49.2.1, (Fr.us rfl).tr (Fr.mono rfl p49.2.2)⟩
                                     rw [p49.1]
                                     first
                                     | rw [if_pos (by omega)]
                                     | rw [if_neg (by omega)]))
                           · first
                             | (exfalso; omega)
                             | (refine w_ldR rfl rfl rfl ?_
                                refine w_push rfl ?_
                                refine w_callWI rfl rfl rfl rfl rfl rfl rfl k_error1 (fun v33 s33 p33 => ?_)
                                obtain ⟨rfl, rfl⟩ := p33
                                refine w_retI rfl ?_
                                refine ⟨rfl, by rw [p49.2.2.at 131 rfl, us_eq]; rfl, ?_, p49.2.1, (Fr.us rfl).tr (Fr.mono rfl p49.2.2)⟩
                                rw [p49.1]
                                first
                                | rw [if_pos (by omega)]
                                | rw [if_neg (by omega)])))
                 · first
                   | (exfalso; omega)
                   | (refine w_ldR rfl rfl rfl ?_
                      refine w_push rfl ?_
                      refine w_callWI rfl rfl rfl rfl rfl rfl rfl k_error1 (fun v24 s24 p24 => ?_)
                      obtain ⟨rfl, rfl⟩ := p24
                      refine w_retI rfl ?_
                      refine ⟨rfl, by rw [p49.2.2.at 131 rfl, us_eq]; rfl, ?_, p49.2.1, (Fr.us rfl).tr (Fr.mono rfl p49.2.2)⟩
                      rw [p49.1]
                      first
                      | rw [if_pos (by omega)]
                      | rw [if_neg (by omega)])))
       · first
         | (exfalso; omega)
         | (refine w_ldI rfl rfl ?_
            refine w_push rfl ?_
            refine w_crEq rfl (by omega) (by omega) (fun b7 => ?_) (fun b7 => ?_)
            · first
              | (exfalso; omega)
              | (refine w_ldI rfl rfl ?_
                 refine w_irEq0 rfl (by omega) (fun b19 => ?_) (fun b19 => ?_)
                 · first
                   | (exfalso; omega)
                   | (refine w_ldI rfl rfl ?_
                      refine w_irEq0 rfl (by omega) (fun b27 => ?_) (fun b27 => ?_)
                      · first
                        | (exfalso; omega)
                        | (refine w_ldR rfl rfl rfl ?_
                           first | refine w_getI rfl rfl rfl rfl rfl ?_ | refine w_getR rfl rfl rfl rfl rfl ?_
                           refine w_ldI rfl rfl ?_
                           refine w_ldI rfl rfl ?_
                           refine w_ast rfl rfl rfl (by omega) rfl ?_
                           refine w_ldR rfl rfl rfl ?_
                           first | refine w_getI rfl rfl rfl rfl rfl ?_ | refine w_getR rfl rfl rfl rfl rfl ?_
                           refine w_ldI rfl rfl ?_
                           subst hw
                           refine w_rld rfl rfl rfl (by omega) rfl ?_
                           show WP _ _ _ _ (.inr (.inr 142) :: _) _ _
                           refine w_ldI rfl rfl ?_
                           refine w_irNe0 rfl (by omega) (fun b45 => ?_) (fun b45 => ?_)
                           · first
                             | (exfalso; omega)
                             | (refine w_ldI rfl rfl ?_
                                refine w_callWN rfl rfl rfl rfl rfl rfl rfl (k_zeros142 (by omega)) (fun s49 p49 => ?_)
                                refine w_push rfl ?_
                                refine w_retI rfl ?_
                                refine ⟨rfl, by rw [p49.2.2.at 131 rfl, us_eq]; rfl, ?_, p49.2.1, (Fr.us rfl).tr (Fr.mono rfl p49.2.2)⟩
                                rw [p49.1]
                                first
                                | rw [if_pos (by omega)]
                                | rw [if_neg (by omega)])
                           · first
                             | (exfalso; omega)
                             | (refine w_push rfl ?_
                                refine w_go rfl ?_
                                refine w_callWN rfl rfl rfl rfl rfl rfl rfl (k_zeros142 (by omega)) (fun s49 p49 => ?_)
                                refine w_push rfl ?_
                                refine w_retI rfl ?_
                                refine ⟨rfl, by rw [p49.2.2.at 131 rfl, us_eq]; rfl, ?_, p49.2.1, (Fr.us rfl).tr (Fr.mono rfl p49.2.2)⟩
                                rw [p49.1]
                                first
                                | rw [if_pos (by omega)]
                                | rw [if_neg (by omega)]))
                      · first
                        | (exfalso; omega)
                        | (refine w_ldI rfl rfl ?_
                           refine w_push rfl ?_
                           refine w_crLe rfl (by omega) (by omega) (fun b30 => ?_) (fun b30 => ?_)
                           · first
                             | (exfalso; omega)
                             | (refine w_ldR rfl rfl rfl ?_
                                first | refine w_getI rfl rfl rfl rfl rfl ?_ | refine w_getR rfl rfl rfl rfl rfl ?_
                                refine w_ldI rfl rfl ?_
                                refine w_ldI rfl rfl ?_
                                refine w_ast rfl rfl rfl (by omega) rfl ?_
                                refine w_ldR rfl rfl rfl ?_
                                first | refine w_getI rfl rfl rfl rfl rfl ?_ | refine w_getR rfl rfl rfl rfl rfl ?_
                                refine w_ldI rfl rfl ?_
                                subst hw
                                refine w_rld rfl rfl rfl (by omega) rfl ?_
                                show WP _ _ _ _ (.inr (.inr 142) :: _) _ _
                                refine w_ldI rfl rfl ?_
                                refine w_irNe0 rfl (by omega) (fun b45 => ?_) (fun b45 => ?_)
                                · first
                                  | (exfalso; omega)
                                  | (refine w_ldI rfl rfl ?_
                                     refine w_callWN rfl rfl rfl rfl rfl rfl rfl (k_zeros142 (by omega)) (fun s49 p49 => ?_)
                                     refine w_push rfl ?_
                                     refine w_retI rfl ?_
                                     refine ⟨rfl, by rw [p49.2.2.at 131 rfl, us_eq]; rfl, ?_, p49.2.1, (Fr.us rfl).tr (Fr.mono rfl p49.2.2)⟩
                                     rw [p49.1]
                                     first
                                     | rw [if_pos (by omega)]
                                     | rw [if_neg (by omega)])
                                · first
                                  | (exfalso; omega)
                                  | (refine w_push rfl ?_
                                     refine w_go rfl ?_
                                     refine w_callWN rfl rfl rfl rfl rfl rfl rfl (k_zeros142 (by omega)) (fun s49 p49 => ?_)
                                     refine w_push rfl ?_
                                     refine w_retI rfl ?_
                                     refine ⟨rfl, by rw [p49.2.2.at 131 rfl, us_eq]; rfl, ?_, p49.2.1, (Fr.us rfl).tr (Fr.mono rfl p49.2.2)⟩
                                     rw [p49.1]
                                     first
                                     | rw [if_pos (by omega)]
                                     | rw [if_neg (by omega)]))
                           · first
                             | (exfalso; omega)
                             | (refine w_ldR rfl rfl rfl ?_
                                refine w_push rfl ?_
                                refine w_callWI rfl rfl rfl rfl rfl rfl rfl k_error1 (fun v33 s33 p33 => ?_)
                                obtain ⟨rfl, rfl⟩ := p33
                                refine w_retI rfl ?_
                                refine ⟨rfl, by rw [p49.2.2.at 131 rfl, us_eq]; rfl, ?_, p49.2.1, (Fr.us rfl).tr (Fr.mono rfl p49.2.2)⟩
                                rw [p49.1]
                                first
                                | rw [if_pos (by omega)]
                                | rw [if_neg (by omega)])))
                 · first
                   | (exfalso; omega)
                   | (refine w_ldI rfl rfl ?_
                      refine w_irGe0 rfl (by omega) (fun b21 => ?_) (fun b21 => ?_)
                      · first
                        | (exfalso; omega)
                        | (refine w_ldI rfl rfl ?_
                           refine w_irEq0 rfl (by omega) (fun b27 => ?_) (fun b27 => ?_)
                           · first
                             | (exfalso; omega)
                             | (refine w_ldR rfl rfl rfl ?_
                                first | refine w_getI rfl rfl rfl rfl rfl ?_ | refine w_getR rfl rfl rfl rfl rfl ?_
                                refine w_ldI rfl rfl ?_
                                refine w_ldI rfl rfl ?_
                                refine w_ast rfl rfl rfl (by omega) rfl ?_
                                refine w_ldR rfl rfl rfl ?_
                                first | refine w_getI rfl rfl rfl rfl rfl ?_ | refine w_getR rfl rfl rfl rfl rfl ?_
                                refine w_ldI rfl rfl ?_
                                subst hw
                                refine w_rld rfl rfl rfl (by omega) rfl ?_
                                show WP _ _ _ _ (.inr (.inr 142) :: _) _ _
                                refine w_ldI rfl rfl ?_
                                refine w_irNe0 rfl (by omega) (fun b45 => ?_) (fun b45 => ?_)
                                · first
                                  | (exfalso; omega)
                                  | (refine w_ldI rfl rfl ?_
                                     refine w_callWN rfl rfl rfl rfl rfl rfl rfl (k_zeros142 (by omega)) (fun s49 p49 => ?_)
                                     refine w_push rfl ?_
                                     refine w_retI rfl ?_
                                     refine ⟨rfl, by rw [p49.2.2.at 131 rfl, us_eq]; rfl, ?_, p49.2.1, (Fr.us rfl).tr (Fr.mono rfl p49.2.2)⟩
                                     rw [p49.1]
                                     first
                                     | rw [if_pos (by omega)]
                                     | rw [if_neg (by omega)])
                                · first
                                  | (exfalso; omega)
                                  | (refine w_push rfl ?_
                                     refine w_go rfl ?_
                                     refine w_callWN rfl rfl rfl rfl rfl rfl rfl (k_zeros142 (by omega)) (fun s49 p49 => ?_)
                                     refine w_push rfl ?_
                                     refine w_retI rfl ?_
                                     refine ⟨rfl, by rw [p49.2.2.at 131 rfl, us_eq]; rfl, ?_, p49.2.1, (Fr.us rfl).tr (Fr.mono rfl p49.2.2)⟩
                                     rw [p49.1]
                                     first
                                     | rw [if_pos (by omega)]
                                     | rw [if_neg (by omega)]))
                           · first
                             | (exfalso; omega)
                             | (refine w_ldI rfl rfl ?_
                                refine w_push rfl ?_
                                refine w_crLe rfl (by omega) (by omega) (fun b30 => ?_) (fun b30 => ?_)
                                · first
                                  | (exfalso; omega)
                                  | (refine w_ldR rfl rfl rfl ?_
                                     first | refine w_getI rfl rfl rfl rfl rfl ?_ | refine w_getR rfl rfl rfl rfl rfl ?_
                                     refine w_ldI rfl rfl ?_
                                     refine w_ldI rfl rfl ?_
                                     refine w_ast rfl rfl rfl (by omega) rfl ?_
                                     refine w_ldR rfl rfl rfl ?_
                                     first | refine w_getI rfl rfl rfl rfl rfl ?_ | refine w_getR rfl rfl rfl rfl rfl ?_
                                     refine w_ldI rfl rfl ?_
                                     subst hw
                                     refine w_rld rfl rfl rfl (by omega) rfl ?_
                                     show WP _ _ _ _ (.inr (.inr 142) :: _) _ _
                                     refine w_ldI rfl rfl ?_
                                     refine w_irNe0 rfl (by omega) (fun b45 => ?_) (fun b45 => ?_)
                                     · first
                                       | (exfalso; omega)
                                       | (refine w_ldI rfl rfl ?_
                                          refine w_callWN rfl rfl rfl rfl rfl rfl rfl (k_zeros142 (by omega)) (fun s49 p49 => ?_)
                                          refine w_push rfl ?_
                                          refine w_retI rfl ?_
                                          refine ⟨rfl, by rw [p49.2.2.at 131 rfl, us_eq]; rfl, ?_, p49.2.1, (Fr.us rfl).tr (Fr.mono rfl p49.2.2)⟩
                                          rw [p49.1]
                                          first
                                          | rw [if_pos (by omega)]
                                          | rw [if_neg (by omega)])
                                     · first
                                       | (exfalso; omega)
                                       | (refine w_push rfl ?_
                                          refine w_go rfl ?_
                                          refine w_callWN rfl rfl rfl rfl rfl rfl rfl (k_zeros142 (by omega)) (fun s49 p49 => ?_)
                                          refine w_push rfl ?_
                                          refine w_retI rfl ?_
                                          refine ⟨rfl, by rw [p49.2.2.at 131 rfl, us_eq]; rfl, ?_, p49.2.1, (Fr.us rfl).tr (Fr.mono rfl p49.2.2)⟩
                                          rw [p49.1]
                                          first
                                          | rw [if_pos (by omega)]
                                          | rw [if_neg (by omega)]))
                                · first
                                  | (exfalso; omega)
                                  | (refine w_ldR rfl rfl rfl ?_
                                     refine w_push rfl ?_
                                     refine w_callWI rfl rfl rfl rfl rfl rfl rfl k_error1 (fun v33 s33 p33 => ?_)
                                     obtain ⟨rfl, rfl⟩ := p33
                                     refine w_retI rfl ?_
                                     refine ⟨rfl, by rw [p49.2.2.at 131 rfl, us_eq]; rfl, ?_, p49.2.1, (Fr.us rfl).tr (Fr.mono rfl p49.2.2)⟩
                                     rw [p49.1]
                                     first
                                     | rw [if_pos (by omega)]
                                     | rw [if_neg (by omega)])))
                      · first
                        | (exfalso; omega)
                        | (refine w_ldR rfl rfl rfl ?_
                           refine w_push rfl ?_
                           refine w_callWI rfl rfl rfl rfl rfl rfl rfl k_error1 (fun v24 s24 p24 => ?_)
                           obtain ⟨rfl, rfl⟩ := p24
                           refine w_retI rfl ?_
                           refine ⟨rfl, by rw [p49.2.2.at 131 rfl, us_eq]; rfl, ?_, p49.2.1, (Fr.us rfl).tr (Fr.mono rfl p49.2.2)⟩
                           rw [p49.1]
                           first
                           | rw [if_pos (by omega)]
                           | rw [if_neg (by omega)])))
            · first
              | (exfalso; omega)
              | (refine w_ldI rfl rfl ?_
                 refine w_push rfl ?_
                 refine w_crEq rfl (by omega) (by omega) (fun b10 => ?_) (fun b10 => ?_)
                 · first
                   | (exfalso; omega)
                   | (refine w_ldI rfl rfl ?_
                      refine w_irEq0 rfl (by omega) (fun b19 => ?_) (fun b19 => ?_)
                      · first
                        | (exfalso; omega)
                        | (refine w_ldI rfl rfl ?_
                           refine w_irEq0 rfl (by omega) (fun b27 => ?_) (fun b27 => ?_)
                           · first
                             | (exfalso; omega)
                             | (refine w_ldR rfl rfl rfl ?_
                                first | refine w_getI rfl rfl rfl rfl rfl ?_ | refine w_getR rfl rfl rfl rfl rfl ?_
                                refine w_ldI rfl rfl ?_
                                refine w_ldI rfl rfl ?_
                                refine w_ast rfl rfl rfl (by omega) rfl ?_
                                refine w_ldR rfl rfl rfl ?_
                                first | refine w_getI rfl rfl rfl rfl rfl ?_ | refine w_getR rfl rfl rfl rfl rfl ?_
                                refine w_ldI rfl rfl ?_
                                subst hw
                                refine w_rld rfl rfl rfl (by omega) rfl ?_
                                show WP _ _ _ _ (.inr (.inr 142) :: _) _ _
                                refine w_ldI rfl rfl ?_
                                refine w_irNe0 rfl (by omega) (fun b45 => ?_) (fun b45 => ?_)
                                · first
                                  | (exfalso; omega)
                                  | (refine w_ldI rfl rfl ?_
                                     refine w_callWN rfl rfl rfl rfl rfl rfl rfl (k_zeros142 (by omega)) (fun s49 p49 => ?_)
                                     refine w_push rfl ?_
                                     refine w_retI rfl ?_
                                     refine ⟨rfl, by rw [p49.2.2.at 131 rfl, us_eq]; rfl, ?_, p49.2.1, (Fr.us rfl).tr (Fr.mono rfl p49.2.2)⟩
                                     rw [p49.1]
                                     first
                                     | rw [if_pos (by omega)]
                                     | rw [if_neg (by omega)])
                                · first
                                  | (exfalso; omega)
                                  | (refine w_push rfl ?_
                                     refine w_go rfl ?_
                                     refine w_callWN rfl rfl rfl rfl rfl rfl rfl (k_zeros142 (by omega)) (fun s49 p49 => ?_)
                                     refine w_push rfl ?_
                                     refine w_retI rfl ?_
                                     refine ⟨rfl, by rw [p49.2.2.at 131 rfl, us_eq]; rfl, ?_, p49.2.1, (Fr.us rfl).tr (Fr.mono rfl p49.2.2)⟩
                                     rw [p49.1]
                                     first
                                     | rw [if_pos (by omega)]
                                     | rw [if_neg (by omega)]))
                           · first
                             | (exfalso; omega)
                             | (refine w_ldI rfl rfl ?_
                                refine w_push rfl ?_
                                refine w_crLe rfl (by omega) (by omega) (fun b30 => ?_) (fun b30 => ?_)
                                · first
                                  | (exfalso; omega)
                                  | (refine w_ldR rfl rfl rfl ?_
                                     first | refine w_getI rfl rfl rfl rfl rfl ?_ | refine w_getR rfl rfl rfl rfl rfl ?_
                                     refine w_ldI rfl rfl ?_
                                     refine w_ldI rfl rfl ?_
                                     refine w_ast rfl rfl rfl (by omega) rfl ?_
                                     refine w_ldR rfl rfl rfl ?_
                                     first | refine w_getI rfl rfl rfl rfl rfl ?_ | refine w_getR rfl rfl rfl rfl rfl ?_
                                     refine w_ldI rfl rfl ?_
                                     subst hw
                                     refine w_rld rfl rfl rfl (by omega) rfl ?_
                                     show WP _ _ _ _ (.inr (.inr 142) :: _) _ _
                                     refine w_ldI rfl rfl ?_
                                     refine w_irNe0 rfl (by omega) (fun b45 => ?_) (fun b45 => ?_)
                                     · first
                                       | (exfalso; omega)
                                       | (refine w_ldI rfl rfl ?_
                                          refine w_callWN rfl rfl rfl rfl rfl rfl rfl (k_zeros142 (by omega)) (fun s49 p49 => ?_)
                                          refine w_push rfl ?_
                                          refine w_retI rfl ?_
                                          refine ⟨rfl, by rw [p49.2.2.at 131 rfl, us_eq]; rfl, ?_, p49.2.1, (Fr.us rfl).tr (Fr.mono rfl p49.2.2)⟩
                                          rw [p49.1]
                                          first
                                          | rw [if_pos (by omega)]
                                          | rw [if_neg (by omega)])
                                     · first
                                       | (exfalso; omega)
                                       | (refine w_push rfl ?_
                                          refine w_go rfl ?_
                                          refine w_callWN rfl rfl rfl rfl rfl rfl rfl (k_zeros142 (by omega)) (fun s49 p49 => ?_)
                                          refine w_push rfl ?_
                                          refine w_retI rfl ?_
                                          refine ⟨rfl, by rw [p49.2.2.at 131 rfl, us_eq]; rfl, ?_, p49.2.1, (Fr.us rfl).tr (Fr.mono rfl p49.2.2)⟩
                                          rw [p49.1]
                                          first
                                          | rw [if_pos (by omega)]
                                          | rw [if_neg (by omega)]))
                                · first
                                  | (exfalso; omega)
                                  | (refine w_ldR rfl rfl rfl ?_
                                     refine w_push rfl ?_
                                     refine w_callWI rfl rfl rfl rfl rfl rfl rfl k_error1 (fun v33 s33 p33 => ?_)
                                     obtain ⟨rfl, rfl⟩ := p33
                                     refine w_retI rfl ?_
                                     refine ⟨rfl, by rw [p49.2.2.at 131 rfl, us_eq]; rfl, ?_, p49.2.1, (Fr.us rfl).tr (Fr.mono rfl p49.2.2)⟩
                                     rw [p49.1]
                                     first
                                     | rw [if_pos (by omega)]
                                     | rw [if_neg (by omega)])))
                      · first
                        | (exfalso; omega)
                        | (refine w_ldI rfl rfl ?_
                           refine w_irGe0 rfl (by omega) (fun b21 => ?_) (fun b21 => ?_)
                           · first
                             | (exfalso; omega)
                             | (refine w_ldI rfl rfl ?_
                                refine w_irEq0 rfl (by omega) (fun b27 => ?_) (fun b27 => ?_)
                                · first
                                  | (exfalso; omega)
                                  | (refine w_ldR rfl rfl rfl ?_
                                     first | refine w_getI rfl rfl rfl rfl rfl ?_ | refine w_getR rfl rfl rfl rfl rfl ?_
                                     refine w_ldI rfl rfl ?_
                                     refine w_ldI rfl rfl ?_
                                     refine w_ast rfl rfl rfl (by omega) rfl ?_
                                     refine w_ldR rfl rfl rfl ?_
                                     first | refine w_getI rfl rfl rfl rfl rfl ?_ | refine w_getR rfl rfl rfl rfl rfl ?_
                                     refine w_ldI rfl rfl ?_
                                     subst hw
                                     refine w_rld rfl rfl rfl (by omega) rfl ?_
                                     show WP _ _ _ _ (.inr (.inr 142) :: _) _ _
                                     refine w_ldI rfl rfl ?_
                                     refine w_irNe0 rfl (by omega) (fun b45 => ?_) (fun b45 => ?_)
                                     · first
                                       | (exfalso; omega)
                                       | (refine w_ldI rfl rfl ?_
                                          refine w_callWN rfl rfl rfl rfl rfl rfl rfl (k_zeros142 (by omega)) (fun s49 p49 => ?_)
                                          refine w_push rfl ?_
                                          refine w_retI rfl ?_
                                          refine ⟨rfl, by rw [p49.2.2.at 131 rfl, us_eq]; rfl, ?_, p49.2.1, (Fr.us rfl).tr (Fr.mono rfl p49.2.2)⟩
                                          rw [p49.1]
                                          first
                                          | rw [if_pos (by omega)]
                                          | rw [if_neg (by omega)])
                                     · first
                                       | (exfalso; omega)
                                       | (refine w_push rfl ?_
                                          refine w_go rfl ?_
                                          refine w_callWN rfl rfl rfl rfl rfl rfl rfl (k_zeros142 (by omega)) (fun s49 p49 => ?_)
                                          refine w_push rfl ?_
                                          refine w_retI rfl ?_
                                          refine ⟨rfl, by rw [p49.2.2.at 131 rfl, us_eq]; rfl, ?_, p49.2.1, (Fr.us rfl).tr (Fr.mono rfl p49.2.2)⟩
                                          rw [p49.1]
                                          first
                                          | rw [if_pos (by omega)]
                                          | rw [if_neg (by omega)]))
                                · first
                                  | (exfalso; omega)
                                  | (refine w_ldI rfl rfl ?_
                                     refine w_push rfl ?_
                                     refine w_crLe rfl (by omega) (by omega) (fun b30 => ?_) (fun b30 => ?_)
                                     · first
                                       | (exfalso; omega)
                                       | (refine w_ldR rfl rfl rfl ?_
                                          first | refine w_getI rfl rfl rfl rfl rfl ?_ | refine w_getR rfl rfl rfl rfl rfl ?_
                                          refine w_ldI rfl rfl ?_
                                          refine w_ldI rfl rfl ?_
                                          refine w_ast rfl rfl rfl (by omega) rfl ?_
                                          refine w_ldR rfl rfl rfl ?_
                                          first | refine w_getI rfl rfl rfl rfl rfl ?_ | refine w_getR rfl rfl rfl rfl rfl ?_
                                          refine w_ldI rfl rfl ?_
                                          subst hw
                                          refine w_rld rfl rfl rfl (by omega) rfl ?_
                                          show WP _ _ _ _ (.inr (.inr 142) :: _) _ _
                                          refine w_ldI rfl rfl ?_
                                          refine w_irNe0 rfl (by omega) (fun b45 => ?_) (fun b45 => ?_)
                                          · first
                                            | (exfalso; omega)
                                            | (refine w_ldI rfl rfl ?_
                                               refine w_callWN rfl rfl rfl rfl rfl rfl rfl (k_zeros142 (by omega)) (fun s49 p49 => ?_)
                                               refine w_push rfl ?_
                                               refine w_retI rfl ?_
                                               refine ⟨rfl, by rw [p49.2.2.at 131 rfl, us_eq]; rfl, ?_, p49.2.1, (Fr.us rfl).tr (Fr.mono rfl p49.2.2)⟩
                                               rw [p49.1]
                                               first
                                               | rw [if_pos (by omega)]
                                               | rw [if_neg (by omega)])
                                          · first
                                            | (exfalso; omega)
                                            | (refine w_push rfl ?_
                                               refine w_go rfl ?_
                                               refine w_callWN rfl rfl rfl rfl rfl rfl rfl (k_zeros142 (by omega)) (fun s49 p49 => ?_)
                                               refine w_push rfl ?_
                                               refine w_retI rfl ?_
                                               refine ⟨rfl, by rw [p49.2.2.at 131 rfl, us_eq]; rfl, ?_, p49.2.1, (Fr.us rfl).tr (Fr.mono rfl p49.2.2)⟩
                                               rw [p49.1]
                                               first
                                               | rw [if_pos (by omega)]
                                               | rw [if_neg (by omega)]))
                                     · first
                                       | (exfalso; omega)
                                       | (refine w_ldR rfl rfl rfl ?_
                                          refine w_push rfl ?_
                                          refine w_callWI rfl rfl rfl rfl rfl rfl rfl k_error1 (fun v33 s33 p33 => ?_)
                                          obtain ⟨rfl, rfl⟩ := p33
                                          refine w_retI rfl ?_
                                          refine ⟨rfl, by rw [p49.2.2.at 131 rfl, us_eq]; rfl, ?_, p49.2.1, (Fr.us rfl).tr (Fr.mono rfl p49.2.2)⟩
                                          rw [p49.1]
                                          first
                                          | rw [if_pos (by omega)]
                                          | rw [if_neg (by omega)])))
                           · first
                             | (exfalso; omega)
                             | (refine w_ldR rfl rfl rfl ?_
                                refine w_push rfl ?_
                                refine w_callWI rfl rfl rfl rfl rfl rfl rfl k_error1 (fun v24 s24 p24 => ?_)
                                obtain ⟨rfl, rfl⟩ := p24
                                refine w_retI rfl ?_
                                refine ⟨rfl, by rw [p49.2.2.at 131 rfl, us_eq]; rfl, ?_, p49.2.1, (Fr.us rfl).tr (Fr.mono rfl p49.2.2)⟩
                                rw [p49.1]
                                first
                                | rw [if_pos (by omega)]
                                | rw [if_neg (by omega)])))
                 · first
                   | (exfalso; omega)
                   | (refine w_ldI rfl rfl ?_
                      refine w_push rfl ?_
                      refine w_crEq rfl (by omega) (by omega) (fun b13 => ?_) (fun b13 => ?_)
                      · first
                        | (exfalso; omega)
                        | (refine w_ldI rfl rfl ?_
                           refine w_irEq0 rfl (by omega) (fun b19 => ?_) (fun b19 => ?_)
                           · first
                             | (exfalso; omega)
                             | (refine w_ldI rfl rfl ?_
                                refine w_irEq0 rfl (by omega) (fun b27 => ?_) (fun b27 => ?_)
                                · first
                                  | (exfalso; omega)
                                  | (refine w_ldR rfl rfl rfl ?_
                                     first | refine w_getI rfl rfl rfl rfl rfl ?_ | refine w_getR rfl rfl rfl rfl rfl ?_
                                     refine w_ldI rfl rfl ?_
                                     refine w_ldI rfl rfl ?_
                                     refine w_ast rfl rfl rfl (by omega) rfl ?_
                                     refine w_ldR rfl rfl rfl ?_
                                     first | refine w_getI rfl rfl rfl rfl rfl ?_ | refine w_getR rfl rfl rfl rfl rfl ?_
                                     refine w_ldI rfl rfl ?_
                                     subst hw
                                     refine w_rld rfl rfl rfl (by omega) rfl ?_
                                     show WP _ _ _ _ (.inr (.inr 142) :: _) _ _
                                     refine w_ldI rfl rfl ?_
                                     refine w_irNe0 rfl (by omega) (fun b45 => ?_) (fun b45 => ?_)
                                     · first
                                       | (exfalso; omega)
                                       | (refine w_ldI rfl rfl ?_
                                          refine w_callWN rfl rfl rfl rfl rfl rfl rfl (k_zeros142 (by omega)) (fun s49 p49 => ?_)
                                          refine w_push rfl ?_
                                          refine w_retI rfl ?_
                                          refine ⟨rfl, by rw [p49.2.2.at 131 rfl, us_eq]; rfl, ?_, p49.2.1, (Fr.us rfl).tr (Fr.mono rfl p49.2.2)⟩
                                          rw [p49.1]
                                          first
                                          | rw [if_pos (by omega)]
                                          | rw [if_neg (by omega)])
                                     · first
                                       | (exfalso; omega)
                                       | (refine w_push rfl ?_
                                          refine w_go rfl ?_
                                          refine w_callWN rfl rfl rfl rfl rfl rfl rfl (k_zeros142 (by omega)) (fun s49 p49 => ?_)
                                          refine w_push rfl ?_
                                          refine w_retI rfl ?_
                                          refine ⟨rfl, by rw [p49.2.2.at 131 rfl, us_eq]; rfl, ?_, p49.2.1, (Fr.us rfl).tr (Fr.mono rfl p49.2.2)⟩
                                          rw [p49.1]
                                          first
                                          | rw [if_pos (by omega)]
                                          | rw [if_neg (by omega)]))
                                · first
                                  | (exfalso; omega)
                                  | (refine w_ldI rfl rfl ?_
                                     refine w_push rfl ?_
                                     refine w_crLe rfl (by omega) (by omega) (fun b30 => ?_) (fun b30 => ?_)
                                     · first
                                       | (exfalso; omega)
                                       | (refine w_ldR rfl rfl rfl ?_
                                          first | refine w_getI rfl rfl rfl rfl rfl ?_ | refine w_getR rfl rfl rfl rfl rfl ?_
                                          refine w_ldI rfl rfl ?_
                                          refine w_ldI rfl rfl ?_
                                          refine w_ast rfl rfl rfl (by omega) rfl ?_
                                          refine w_ldR rfl rfl rfl ?_
                                          first | refine w_getI rfl rfl rfl rfl rfl ?_ | refine w_getR rfl rfl rfl rfl rfl ?_
                                          refine w_ldI rfl rfl ?_
                                          subst hw
                                          refine w_rld rfl rfl rfl (by omega) rfl ?_
                                          show WP _ _ _ _ (.inr (.inr 142) :: _) _ _
                                          refine w_ldI rfl rfl ?_
                                          refine w_irNe0 rfl (by omega) (fun b45 => ?_) (fun b45 => ?_)
                                          · first
                                            | (exfalso; omega)
                                            | (refine w_ldI rfl rfl ?_
                                               refine w_callWN rfl rfl rfl rfl rfl rfl rfl (k_zeros142 (by omega)) (fun s49 p49 => ?_)
                                               refine w_push rfl ?_
                                               refine w_retI rfl ?_
                                               refine ⟨rfl, by rw [p49.2.2.at 131 rfl, us_eq]; rfl, ?_, p49.2.1, (Fr.us rfl).tr (Fr.mono rfl p49.2.2)⟩
                                               rw [p49.1]
                                               first
                                               | rw [if_pos (by omega)]
                                               | rw [if_neg (by omega)])
                                          · first
                                            | (exfalso; omega)
                                            | (refine w_push rfl ?_
                                               refine w_go rfl ?_
                                               refine w_callWN rfl rfl rfl rfl rfl rfl rfl (k_zeros142 (by omega)) (fun s49 p49 => ?_)
                                               refine w_push rfl ?_
                                               refine w_retI rfl ?_
                                               refine ⟨rfl, by rw [p49.2.2.at 131 rfl, us_eq]; rfl, ?_, p49.2.1, (Fr.us rfl).tr (Fr.mono rfl p49.2.2)⟩
                                               rw [p49.1]
                                               first
                                               | rw [if_pos (by omega)]
                                               | rw [if_neg (by omega)]))
                                     · first
                                       | (exfalso; omega)
                                       | (refine w_ldR rfl rfl rfl ?_
                                          refine w_push rfl ?_
                                          refine w_callWI rfl rfl rfl rfl rfl rfl rfl k_error1 (fun v33 s33 p33 => ?_)
                                          obtain ⟨rfl, rfl⟩ := p33
                                          refine w_retI rfl ?_
                                          refine ⟨rfl, by rw [p49.2.2.at 131 rfl, us_eq]; rfl, ?_, p49.2.1, (Fr.us rfl).tr (Fr.mono rfl p49.2.2)⟩
                                          rw [p49.1]
                                          first
                                          | rw [if_pos (by omega)]
                                          | rw [if_neg (by omega)])))
                           · first
                             | (exfalso; omega)
                             | (refine w_ldI rfl rfl ?_
                                refine w_irGe0 rfl (by omega) (fun b21 => ?_) (fun b21 => ?_)
                                · first
                                  | (exfalso; omega)
                                  | (refine w_ldI rfl rfl ?_
                                     refine w_irEq0 rfl (by omega) (fun b27 => ?_) (fun b27 => ?_)
                                     · first
                                       | (exfalso; omega)
                                       | (refine w_ldR rfl rfl rfl ?_
                                          first | refine w_getI rfl rfl rfl rfl rfl ?_ | refine w_getR rfl rfl rfl rfl rfl ?_
                                          refine w_ldI rfl rfl ?_
                                          refine w_ldI rfl rfl ?_
                                          refine w_ast rfl rfl rfl (by omega) rfl ?_
                                          refine w_ldR rfl rfl rfl ?_
                                          first | refine w_getI rfl rfl rfl rfl rfl ?_ | refine w_getR rfl rfl rfl rfl rfl ?_
                                          refine w_ldI rfl rfl ?_
                                          subst hw
                                          refine w_rld rfl rfl rfl (by omega) rfl ?_
                                          show WP _ _ _ _ (.inr (.inr 142) :: _) _ _
                                          refine w_ldI rfl rfl ?_
                                          refine w_irNe0 rfl (by omega) (fun b45 => ?_) (fun b45 => ?_)
                                          · first
                                            | (exfalso; omega)
                                            | (refine w_ldI rfl rfl ?_
                                               refine w_callWN rfl rfl rfl rfl rfl rfl rfl (k_zeros142 (by omega)) (fun s49 p49 => ?_)
                                               refine w_push rfl ?_
                                               refine w_retI rfl ?_
                                               refine ⟨rfl, by rw [p49.2.2.at 131 rfl, us_eq]; rfl, ?_, p49.2.1, (Fr.us rfl).tr (Fr.mono rfl p49.2.2)⟩
                                               rw [p49.1]
                                               first
                                               | rw [if_pos (by omega)]
                                               | rw [if_neg (by omega)])
                                          · first
                                            | (exfalso; omega)
                                            | (refine w_push rfl ?_
                                               refine w_go rfl ?_
                                               refine w_callWN rfl rfl rfl rfl rfl rfl rfl (k_zeros142 (by omega)) (fun s49 p49 => ?_)
                                               refine w_push rfl ?_
                                               refine w_retI rfl ?_
                                               refine ⟨rfl, by rw [p49.2.2.at 131 rfl, us_eq]; rfl, ?_, p49.2.1, (Fr.us rfl).tr (Fr.mono rfl p49.2.2)⟩
                                               rw [p49.1]
                                               first
                                               | rw [if_pos (by omega)]
                                               | rw [if_neg (by omega)]))
                                     · first
                                       | (exfalso; omega)
                                       | (refine w_ldI rfl rfl ?_
                                          refine w_push rfl ?_
                                          refine w_crLe rfl (by omega) (by omega) (fun b30 => ?_) (fun b30 => ?_)
                                          · first
                                            | (exfalso; omega)
                                            | (refine w_ldR rfl rfl rfl ?_
                                               first | refine w_getI rfl rfl rfl rfl rfl ?_ | refine w_getR rfl rfl rfl rfl rfl ?_
                                               refine w_ldI rfl rfl ?_
                                               refine w_ldI rfl rfl ?_
                                               refine w_ast rfl rfl rfl (by omega) rfl ?_
                                               refine w_ldR rfl rfl rfl ?_
                                               first | refine w_getI rfl rfl rfl rfl rfl ?_ | refine w_getR rfl rfl rfl rfl rfl ?_
                                               refine w_ldI rfl rfl ?_
                                               subst hw
                                               refine w_rld rfl rfl rfl (by omega) rfl ?_
                                               show WP _ _ _ _ (.inr (.inr 142) :: _) _ _
                                               refine w_ldI rfl rfl ?_
                                               refine w_irNe0 rfl (by omega) (fun b45 => ?_) (fun b45 => ?_)
                                               · first
                                                 | (exfalso; omega)
                                                 | (refine w_ldI rfl rfl ?_
                                                    refine w_callWN rfl rfl rfl rfl rfl rfl rfl (k_zeros142 (by omega)) (fun s49 p49 => ?_)
                                                    refine w_push rfl ?_
                                                    refine w_retI rfl ?_
                                                    refine ⟨rfl, by rw [p49.2.2.at 131 rfl, us_eq]; rfl, ?_, p49.2.1, (Fr.us rfl).tr (Fr.mono rfl p49.2.2)⟩
                                                    rw [p49.1]
                                                    first
                                                    | rw [if_pos (by omega)]
                                                    | rw [if_neg (by omega)])
                                               · first
                                                 | (exfalso; omega)
                                                 | (refine w_push rfl ?_
                                                    refine w_go rfl ?_
                                                    refine w_callWN rfl rfl rfl rfl rfl rfl rfl (k_zeros142 (by omega)) (fun s49 p49 => ?_)
                                                    refine w_push rfl ?_
                                                    refine w_retI rfl ?_
                                                    refine ⟨rfl, by rw [p49.2.2.at 131 rfl, us_eq]; rfl, ?_, p49.2.1, (Fr.us rfl).tr (Fr.mono rfl p49.2.2)⟩
                                                    rw [p49.1]
                                                    first
                                                    | rw [if_pos (by omega)]
                                                    | rw [if_neg (by omega)]))
                                          · first
                                            | (exfalso; omega)
                                            | (refine w_ldR rfl rfl rfl ?_
                                               refine w_push rfl ?_
                                               refine w_callWI rfl rfl rfl rfl rfl rfl rfl k_error1 (fun v33 s33 p33 => ?_)
                                               obtain ⟨rfl, rfl⟩ := p33
                                               refine w_retI rfl ?_
                                               refine ⟨rfl, by rw [p49.2.2.at 131 rfl, us_eq]; rfl, ?_, p49.2.1, (Fr.us rfl).tr (Fr.mono rfl p49.2.2)⟩
                                               rw [p49.1]
                                               first
                                               | rw [if_pos (by omega)]
                                               | rw [if_neg (by omega)])))
                                · first
                                  | (exfalso; omega)
                                  | (refine w_ldR rfl rfl rfl ?_
                                     refine w_push rfl ?_
                                     refine w_callWI rfl rfl rfl rfl rfl rfl rfl k_error1 (fun v24 s24 p24 => ?_)
                                     obtain ⟨rfl, rfl⟩ := p24
                                     refine w_retI rfl ?_
                                     refine ⟨rfl, by rw [p49.2.2.at 131 rfl, us_eq]; rfl, ?_, p49.2.1, (Fr.us rfl).tr (Fr.mono rfl p49.2.2)⟩
                                     rw [p49.1]
                                     first
                                     | rw [if_pos (by omega)]
                                     | rw [if_neg (by omega)])))
                      · first
                        | (exfalso; omega)
                        | (refine w_ldR rfl rfl rfl ?_
                           refine w_push rfl ?_
                           refine w_callWI rfl rfl rfl rfl rfl rfl rfl k_error1 (fun v16 s16 p16 => ?_)
                           obtain ⟨rfl, rfl⟩ := p16
                           refine w_retI rfl ?_
                           refine ⟨rfl, by rw [p49.2.2.at 131 rfl, us_eq]; rfl, ?_, p49.2.1, (Fr.us rfl).tr (Fr.mono rfl p49.2.2)⟩
                           rw [p49.1]
                           first
                           | rw [if_pos (by omega)]
                           | rw [if_neg (by omega)])))))
theorem x_sheet_3 {d : Nat} {s : mSt} (hI : IvD s) {w b n : Int} (hrw : -2147483648 ≤ w ∧ w < 2147483648) (hrb : -2147483648 ≤ b ∧ b < 2147483648) (hrn : -2147483648 ≤ n ∧ n < 2147483648) (hw : w = 3) (hb : (b = 0 ∨ b = 8 ∨ b = 16 ∨ b = 32)) (h1 : ¬ (b ≠ 0 ∧ n < 0)) (h2 : ¬ (b ≠ 0 ∧ 40 < n)) : CI (d + 2) 130 [.inr (.inr 10), .inl w, .inl b, .inl n] (s) (fun q s1 => q = 1 ∧ s1 131 = mup (s 131) 3 b ∧ s1 144 1 = (if b = 0 then 0 else n) ∧ (∀ i, i < 40 → s1 145 i = 0) ∧ Fr [131, 144, 145] s s1) := by
  refine CI.mk rfl ?_
  show WP (d + 2) 130 0 [some (.inr (.inr 10)), some (.inl w), some (.inl b), some (.inl n)] [] (encA (s)) _
  have hI0 := hI
  obtain ⟨⟨hM, hC, hN⟩, hV, h8⟩ := hI
  have hV0 := hV
  have hM0 := hM
  obtain ⟨vc, vpl, vga, vse, vne, veg, vre, vtu, vta, vwa, v36, v37, v39, v40, v42, v41, v43, v44, vl0, vl1, vlm⟩ := hV
  obtain ⟨hM39, hM40, hM41, hM43, hM44, hM36, hM37, hM38, hMc, hMw, hMp, hMt, hMb⟩ := hM
  refine w_ldI rfl rfl ?_
  refine w_call rfl rfl rfl (k_isSheet (by omega)) ?_
  refine w_bEq0 rfl (fun b2 => ?_) (fun b2 => ?_)
  · first
    | (exfalso; omega)
    | (refine w_ldR rfl rfl rfl ?_
       refine w_push rfl ?_
       refine w_callWI rfl rfl rfl rfl rfl rfl rfl k_error1 (fun v16 s16 p16 => ?_)
       obtain ⟨rfl, rfl⟩ := p16
       refine w_retI rfl ?_
       refine ⟨rfl, by rw [p49.2.2.at 131 rfl, us_eq]; rfl, ?_, p49.2.1, (Fr.us rfl).tr (Fr.mono rfl p49.2.2)⟩
       rw [p49.1]
       first
       | rw [if_pos (by omega)]
       | rw [if_neg (by omega)])
  · first
    | (exfalso; omega)
    | (refine w_ldI rfl rfl ?_
       refine w_irEq0 rfl (by omega) (fun b4 => ?_) (fun b4 => ?_)
       · first
         | (exfalso; omega)
         | (refine w_ldI rfl rfl ?_
            refine w_irEq0 rfl (by omega) (fun b19 => ?_) (fun b19 => ?_)
            · first
              | (exfalso; omega)
              | (refine w_ldI rfl rfl ?_
                 refine w_irEq0 rfl (by omega) (fun b27 => ?_) (fun b27 => ?_)
                 · first
                   | (exfalso; omega)
                   | (refine w_ldR rfl rfl rfl ?_
                      first | refine w_getI rfl rfl rfl rfl rfl ?_ | refine w_getR rfl rfl rfl rfl rfl ?_
                      refine w_ldI rfl rfl ?_
                      refine w_ldI rfl rfl ?_
                      refine w_ast rfl rfl rfl (by omega) rfl ?_
                      refine w_ldR rfl rfl rfl ?_
                      first | refine w_getI rfl rfl rfl rfl rfl ?_ | refine w_getR rfl rfl rfl rfl rfl ?_
                      refine w_ldI rfl rfl ?_
                      subst hw
                      refine w_rld rfl rfl rfl (by omega) rfl ?_
                      show WP _ _ _ _ (.inr (.inr 144) :: _) _ _
                      refine w_ldI rfl rfl ?_
                      refine w_irNe0 rfl (by omega) (fun b45 => ?_) (fun b45 => ?_)
                      · first
                        | (exfalso; omega)
                        | (refine w_ldI rfl rfl ?_
                           refine w_callWN rfl rfl rfl rfl rfl rfl rfl (k_zeros144 (by omega)) (fun s49 p49 => ?_)
                           refine w_push rfl ?_
                           refine w_retI rfl ?_
                           refine ⟨rfl, by rw [p49.2.2.at 131 rfl, us_eq]; rfl, ?_, p49.2.1, (Fr.us rfl).tr (Fr.mono rfl p49.2.2)⟩
                           rw [p49.1]
                           first
                           | rw [if_pos (by omega)]
                           | rw [if_neg (by omega)])
                      · first
                        | (exfalso; omega)
                        | (refine w_push rfl ?_
                           refine w_go rfl ?_
                           refine w_callWN rfl rfl rfl rfl rfl rfl rfl (k_zeros144 (by omega)) (fun s49 p49 => ?_)
                           refine w_push rfl ?_
                           refine w_retI rfl ?_
                           refine ⟨rfl, by rw [p49.2.2.at 131 rfl, us_eq]; rfl, ?_, p49.2.1, (Fr.us rfl).tr (Fr.mono rfl p49.2.2)⟩
                           rw [p49.1]
                           first
                           | rw [if_pos (by omega)]
                           | rw [if_neg (by omega)]))
                 · first
                   | (exfalso; omega)
                   | (refine w_ldI rfl rfl ?_
                      refine w_push rfl ?_
                      refine w_crLe rfl (by omega) (by omega) (fun b30 => ?_) (fun b30 => ?_)
                      · first
                        | (exfalso; omega)
                        | (refine w_ldR rfl rfl rfl ?_
                           first | refine w_getI rfl rfl rfl rfl rfl ?_ | refine w_getR rfl rfl rfl rfl rfl ?_
                           refine w_ldI rfl rfl ?_
                           refine w_ldI rfl rfl ?_
                           refine w_ast rfl rfl rfl (by omega) rfl ?_
                           refine w_ldR rfl rfl rfl ?_
                           first | refine w_getI rfl rfl rfl rfl rfl ?_ | refine w_getR rfl rfl rfl rfl rfl ?_
                           refine w_ldI rfl rfl ?_
                           subst hw
                           refine w_rld rfl rfl rfl (by omega) rfl ?_
                           show WP _ _ _ _ (.inr (.inr 144) :: _) _ _
                           refine w_ldI rfl rfl ?_
                           refine w_irNe0 rfl (by omega) (fun b45 => ?_) (fun b45 => ?_)
                           · first
                             | (exfalso; omega)
                             | (refine w_ldI rfl rfl ?_
                                refine w_callWN rfl rfl rfl rfl rfl rfl rfl (k_zeros144 (by omega)) (fun s49 p49 => ?_)
                                refine w_push rfl ?_
                                refine w_retI rfl ?_
                                refine ⟨rfl, by rw [p49.2.2.at 131 rfl, us_eq]; rfl, ?_, p49.2.1, (Fr.us rfl).tr (Fr.mono rfl p49.2.2)⟩
                                rw [p49.1]
                                first
                                | rw [if_pos (by omega)]
                                | rw [if_neg (by omega)])
                           · first
                             | (exfalso; omega)
                             | (refine w_push rfl ?_
                                refine w_go rfl ?_
                                refine w_callWN rfl rfl rfl rfl rfl rfl rfl (k_zeros144 (by omega)) (fun s49 p49 => ?_)
                                refine w_push rfl ?_
                                refine w_retI rfl ?_
                                refine ⟨rfl, by rw [p49.2.2.at 131 rfl, us_eq]; rfl, ?_, p49.2.1, (Fr.us rfl).tr (Fr.mono rfl p49.2.2)⟩
                                rw [p49.1]
                                first
                                | rw [if_pos (by omega)]
                                | rw [if_neg (by omega)]))
                      · first
                        | (exfalso; omega)
                        | (refine w_ldR rfl rfl rfl ?_
                           refine w_push rfl ?_
                           refine w_callWI rfl rfl rfl rfl rfl rfl rfl k_error1 (fun v33 s33 p33 => ?_)
                           obtain ⟨rfl, rfl⟩ := p33
                           refine w_retI rfl ?_
                           refine ⟨rfl, by rw [p49.2.2.at 131 rfl, us_eq]; rfl, ?_, p49.2.1, (Fr.us rfl).tr (Fr.mono rfl p49.2.2)⟩
                           rw [p49.1]
                           first
                           | rw [if_pos (by omega)]
                           | rw [if_neg (by omega)])))
            · first
              | (exfalso; omega)
              | (refine w_ldI rfl rfl ?_
                 refine w_irGe0 rfl (by omega) (fun b21 => ?_) (fun b21 => ?_)
                 · first
                   | (exfalso; omega)
                   | (refine w_ldI rfl rfl ?_
                      refine w_irEq0 rfl (by omega) (fun b27 => ?_) (fun b27 => ?_)
                      · first
                        | (exfalso; omega)
                        | (refine w_ldR rfl rfl rfl ?_
                           first | refine w_getI rfl rfl rfl rfl rfl ?_ | refine w_getR rfl rfl rfl rfl rfl ?_
                           refine w_ldI rfl rfl ?_
                           refine w_ldI rfl rfl ?_
                           refine w_ast rfl rfl rfl (by omega) rfl ?_
                           refine w_ldR rfl rfl rfl ?_
                           first | refine w_getI rfl rfl rfl rfl rfl ?_ | refine w_getR rfl rfl rfl rfl rfl ?_
                           refine w_ldI rfl rfl ?_
                           subst hw
                           refine w_rld rfl rfl rfl (by omega) rfl ?_
                           show WP _ _ _ _ (.inr (.inr 144) :: _) _ _
                           refine w_ldI rfl rfl ?_
                           refine w_irNe0 rfl (by omega) (fun b45 => ?_) (fun b45 => ?_)
                           · first
                             | (exfalso; omega)
                             | (refine w_ldI rfl rfl ?_
                                refine w_callWN rfl rfl rfl rfl rfl rfl rfl (k_zeros144 (by omega)) (fun s49 p49 => ?_)
                                refine w_push rfl ?_
                                refine w_retI rfl ?_
                                refine ⟨rfl, by rw [p49.2.2.at 131 rfl, us_eq]; rfl, ?_, p49.2.1, (Fr.us rfl).tr (Fr.mono rfl p49.2.2)⟩
                                rw [p49.1]
                                first
                                | rw [if_pos (by omega)]
                                | rw [if_neg (by omega)])
                           · first
                             | (exfalso; omega)
                             | (refine w_push rfl ?_
                                refine w_go rfl ?_
                                refine w_callWN rfl rfl rfl rfl rfl rfl rfl (k_zeros144 (by omega)) (fun s49 p49 => ?_)
                                refine w_push rfl ?_
                                refine w_retI rfl ?_
                                refine ⟨rfl, by rw [p49.2.2.at 131 rfl, us_eq]; rfl, ?_, p49.2.1, (Fr.us rfl).tr (Fr.mono rfl p49.2.2)⟩
                                rw [p49.1]
                                first
                                | rw [if_pos (by omega)]
                                | rw [if_neg (by omega)]))
                      · first
                        | (exfalso; omega)
                        | (refine w_ldI rfl rfl ?_
                           refine w_push rfl ?_
                           refine w_crLe rfl (by omega) (by omega) (fun b30 => ?_) (fun b30 => ?_)
                           · first
                             | (exfalso; omega)
                             | (refine w_ldR rfl rfl rfl ?_
                                first | refine w_getI rfl rfl rfl rfl rfl ?_ | refine w_getR rfl rfl rfl rfl rfl ?_
                                refine w_ldI rfl rfl ?_
                                refine w_ldI rfl rfl ?_
                                refine w_ast rfl rfl rfl (by omega) rfl ?_
                                refine w_ldR rfl rfl rfl ?_
                                first | refine w_getI rfl rfl rfl rfl rfl ?_ | refine w_getR rfl rfl rfl rfl rfl ?_
                                refine w_ldI rfl rfl ?_
                                subst hw
                                refine w_rld rfl rfl rfl (by omega) rfl ?_
                                show WP _ _ _ _ (.inr (.inr 144) :: _) _ _
                                refine w_ldI rfl rfl ?_
                                refine w_irNe0 rfl (by omega) (fun b45 => ?_) (fun b45 => ?_)
                                · first
                                  | (exfalso; omega)
                                  | (refine w_ldI rfl rfl ?_
                                     refine w_callWN rfl rfl rfl rfl rfl rfl rfl (k_zeros144 (by omega)) (fun s49 p49 => ?_)
                                     refine w_push rfl ?_
                                     refine w_retI rfl ?_
                                     refine ⟨rfl, by rw [p49.2.2.at 131 rfl, us_eq]; rfl, ?_, p49.2.1, (Fr.us rfl).tr (Fr.mono rfl p49.2.2)⟩
                                     rw [p49.1]
                                     first
                                     | rw [if_pos (by omega)]
                                     | rw [if_neg (by omega)])
                                · first
                                  | (exfalso; omega)
                                  | (refine w_push rfl ?_
                                     refine w_go rfl ?_
                                     refine w_callWN rfl rfl rfl rfl rfl rfl rfl (k_zeros144 (by omega)) (fun s49 p49 => ?_)
                                     refine w_push rfl ?_
                                     refine w_retI rfl ?_
                                     refine ⟨rfl, by rw [p49.2.2.at 131 rfl, us_eq]; rfl, ?_, p49.2.1, (Fr.us rfl).tr (Fr.mono rfl p49.2.2)⟩
                                     rw [p49.1]
                                     first
                                     | rw [if_pos (by omega)]
                                     | rw [if_neg (by omega)]))
                           · first
                             | (exfalso; omega)
                             | (refine w_ldR rfl rfl rfl ?_
                                refine w_push rfl ?_
                                refine w_callWI rfl rfl rfl rfl rfl rfl rfl k_error1 (fun v33 s33 p33 => ?_)
                                obtain ⟨rfl, rfl⟩ := p33
                                refine w_retI rfl ?_
                                refine ⟨rfl, by rw [p49.2.2.at 131 rfl, us_eq]; rfl, ?_, p49.2.1, (Fr.us rfl).tr (Fr.mono rfl p49.2.2)⟩
                                rw [p49.1]
                                first
                                | rw [if_pos (by omega)]
                                | rw [if_neg (by omega)])))
                 · first
                   | (exfalso; omega)
                   | (refine w_ldR rfl rfl rfl ?_
                      refine w_push rfl ?_
                      refine w_callWI rfl rfl rfl rfl rfl rfl rfl k_error1 (fun v24 s24 p24 => ?_)
                      obtain ⟨rfl, rfl⟩ := p24
                      refine w_retI rfl ?_
                      refine ⟨rfl, by rw [p49.2.2.at 131 rfl, us_eq]; rfl, ?_, p49.2.1, (Fr.us rfl).tr (Fr.mono rfl p49.2.2)⟩
                      rw [p49.1]
                      first
                      | rw [if_pos (by omega)]
                      | rw [if_neg (by omega)])))
       · first
         | (exfalso; omega)
         | (refine w_ldI rfl rfl ?_
            refine w_push rfl ?_
            refine w_crEq rfl (by omega) (by omega) (fun b7 => ?_) (fun b7 => ?_)
            · first
              | (exfalso; omega)
              | (refine w_ldI rfl rfl ?_
                 refine w_irEq0 rfl (by omega) (fun b19 => ?_) (fun b19 => ?_)
                 · first
                   | (exfalso; omega)
                   | (refine w_ldI rfl rfl ?_
                      refine w_irEq0 rfl (by omega) (fun b27 => ?_) (fun b27 => ?_)
                      · first
                        | (exfalso; omega)
                        | (refine w_ldR rfl rfl rfl ?_
                           first | refine w_getI rfl rfl rfl rfl rfl ?_ | refine w_getR rfl rfl rfl rfl rfl ?_
                           refine w_ldI rfl rfl ?_
                           refine w_ldI rfl rfl ?_
                           refine w_ast rfl rfl rfl (by omega) rfl ?_
                           refine w_ldR rfl rfl rfl ?_
                           first | refine w_getI rfl rfl rfl rfl rfl ?_ | refine w_getR rfl rfl rfl rfl rfl ?_
                           refine w_ldI rfl rfl ?_
                           subst hw
                           refine w_rld rfl rfl rfl (by omega) rfl ?_
                           show WP _ _ _ _ (.inr (.inr 144) :: _) _ _
                           refine w_ldI rfl rfl ?_
                           refine w_irNe0 rfl (by omega) (fun b45 => ?_) (fun b45 => ?_)
                           · first
                             | (exfalso; omega)
                             | (refine w_ldI rfl rfl ?_
                                refine w_callWN rfl rfl rfl rfl rfl rfl rfl (k_zeros144 (by omega)) (fun s49 p49 => ?_)
                                refine w_push rfl ?_
                                refine w_retI rfl ?_
                                refine ⟨rfl, by rw [p49.2.2.at 131 rfl, us_eq]; rfl, ?_, p49.2.1, (Fr.us rfl).tr (Fr.mono rfl p49.2.2)⟩
                                rw [p49.1]
                                first
                                | rw [if_pos (by omega)]
                                | rw [if_neg (by omega)])
                           · first
                             | (exfalso; omega)
                             | (refine w_push rfl ?_
                                refine w_go rfl ?_
                                refine w_callWN rfl rfl rfl rfl rfl rfl rfl (k_zeros144 (by omega)) (fun s49 p49 => ?_)
                                refine w_push rfl ?_
                                refine w_retI rfl ?_
                                refine ⟨rfl, by rw [p49.2.2.at 131 rfl, us_eq]; rfl, ?_, p49.2.1, (Fr.us rfl).tr (Fr.mono rfl p49.2.2)⟩
                                rw [p49.1]
                                first
                                | rw [if_pos (by omega)]
                                | rw [if_neg (by omega)]))
                      · first
                        | (exfalso; omega)
                        | (refine w_ldI rfl rfl ?_
                           refine w_push rfl ?_
                           refine w_crLe rfl (by omega) (by omega) (fun b30 => ?_) (fun b30 => ?_)
                           · first
                             | (exfalso; omega)
                             | (refine w_ldR rfl rfl rfl ?_
                                first | refine w_getI rfl rfl rfl rfl rfl ?_ | refine w_getR rfl rfl rfl rfl rfl ?_
                                refine w_ldI rfl rfl ?_
                                refine w_ldI rfl rfl ?_
                                refine w_ast rfl rfl rfl (by omega) rfl ?_
                                refine w_ldR rfl rfl rfl ?_
                                first | refine w_getI rfl rfl rfl rfl rfl ?_ | refine w_getR rfl rfl rfl rfl rfl ?_
                                refine w_ldI rfl rfl ?_
                                subst hw
                                refine w_rld rfl rfl rfl (by omega) rfl ?_
                                show WP _ _ _ _ (.inr (.inr 144) :: _) _ _
                                refine w_ldI rfl rfl ?_
                                refine w_irNe0 rfl (by omega) (fun b45 => ?_) (fun b45 => ?_)
                                · first
                                  | (exfalso; omega)
                                  | (refine w_ldI rfl rfl ?_
                                     refine w_callWN rfl rfl rfl rfl rfl rfl rfl (k_zeros144 (by omega)) (fun s49 p49 => ?_)
                                     refine w_push rfl ?_
                                     refine w_retI rfl ?_
                                     refine ⟨rfl, by rw [p49.2.2.at 131 rfl, us_eq]; rfl, ?_, p49.2.1, (Fr.us rfl).tr (Fr.mono rfl p49.2.2)⟩
                                     rw [p49.1]
                                     first
                                     | rw [if_pos (by omega)]
                                     | rw [if_neg (by omega)])
                                · first
                                  | (exfalso; omega)
                                  | (refine w_push rfl ?_
                                     refine w_go rfl ?_
                                     refine w_callWN rfl rfl rfl rfl rfl rfl rfl (k_zeros144 (by omega)) (fun s49 p49 => ?_)
                                     refine w_push rfl ?_
                                     refine w_retI rfl ?_
                                     refine ⟨rfl, by rw [p49.2.2.at 131 rfl, us_eq]; rfl, ?_, p49.2.1, (Fr.us rfl).tr (Fr.mono rfl p49.2.2)⟩
                                     rw [p49.1]
                                     first
                                     | rw [if_pos (by omega)]
                                     | rw [if_neg (by omega)]))
                           · first
                             | (exfalso; omega)
                             | (refine w_ldR rfl rfl rfl ?_
                                refine w_push rfl ?_
                                refine w_callWI rfl rfl rfl rfl rfl rfl rfl k_error1 (fun v33 s33 p33 => ?_)
                                obtain ⟨rfl, rfl⟩ := p33
                                refine w_retI rfl ?_
                                refine ⟨rfl, by rw [p49.2.2.at 131 rfl, us_eq]; rfl, ?_, p49.2.1, (Fr.us rfl).tr (Fr.mono rfl p49.2.2)⟩
                                rw [p49.1]
                                first
                                | rw [if_pos (by omega)]
                                | rw [if_neg (by omega)])))
                 · first
                   | (exfalso; omega)
                   | (refine w_ldI rfl rfl ?_
                      refine w_irGe0 rfl (by omega) (fun b21 => ?_) (fun b21 => ?_)
                      · first
                        | (exfalso; omega)
                        | (refine w_ldI rfl rfl ?_
                           refine w_irEq0 rfl (by omega) (fun b27 => ?_) (fun b27 => ?_)
                           · first
                             | (exfalso; omega)
                             | (refine w_ldR rfl rfl rfl ?_
                                first | refine w_getI rfl rfl rfl rfl rfl ?_ | refine w_getR rfl rfl rfl rfl rfl ?_
                                refine w_ldI rfl rfl ?_
                                refine w_ldI rfl rfl ?_
                                refine w_ast rfl rfl rfl (by omega) rfl ?_
                                refine w_ldR rfl rfl rfl ?_
                                first | refine w_getI rfl rfl rfl rfl rfl ?_ | refine w_getR rfl rfl rfl rfl rfl ?_
                                refine w_ldI rfl rfl ?_
                                subst hw
                                refine w_rld rfl rfl rfl (by omega) rfl ?_
                                show WP _ _ _ _ (.inr (.inr 144) :: _) _ _
                                refine w_ldI rfl rfl ?_
                                refine w_irNe0 rfl (by omega) (fun b45 => ?_) (fun b45 => ?_)
                                · first
                                  | (exfalso; omega)
                                  | (refine w_ldI rfl rfl ?_
                                     refine w_callWN rfl rfl rfl rfl rfl rfl rfl (k_zeros144 (by omega)) (fun s49 p49 => ?_)
                                     refine w_push rfl ?_
                                     refine w_retI rfl ?_
                                     refine ⟨rfl, by rw [p49.2.2.at 131 rfl, us_eq]; rfl, ?_, p49.2.1, (Fr.us rfl).tr (Fr.mono rfl p49.2.2)⟩
                                     rw [p49.1]
                                     first
                                     | rw [if_pos (by omega)]
                                     | rw [if_neg (by omega)])
                                · first
                                  | (exfalso; omega)
                                  | (refine w_push rfl ?_
                                     refine w_go rfl ?_
                                     refine w_callWN rfl rfl rfl rfl rfl rfl rfl (k_zeros144 (by omega)) (fun s49 p49 => ?_)
                                     refine w_push rfl ?_
                                     refine w_retI rfl ?_
                                     refine ⟨rfl, by rw [p49.2.2.at 131 rfl, us_eq]; rfl, ?_, p49.2.1, (Fr.us rfl).tr (Fr.mono rfl p49.2.2)⟩
                                     rw [p49.1]
                                     first
                                     | rw [if_pos (by omega)]
                                     | rw [if_neg (by omega)]))
                           · first
                             | (exfalso; omega)
                             | (refine w_ldI rfl rfl ?_
                                refine w_push rfl ?_
                                refine w_crLe rfl (by omega) (by omega) (fun b30 => ?_) (fun b30 => ?_)
                                · first
                                  | (exfalso; omega)
                                  | (refine w_ldR rfl rfl rfl ?_
                                     first | refine w_getI rfl rfl rfl rfl rfl ?_ | refine w_getR rfl rfl rfl rfl rfl ?_
                                     refine w_ldI rfl rfl ?_
                                     refine w_ldI rfl rfl ?_
                                     refine w_ast rfl rfl rfl (by omega) rfl ?_
                                     refine w_ldR rfl rfl rfl ?_
                                     first | refine w_getI rfl rfl rfl rfl rfl ?_ | refine w_getR rfl rfl rfl rfl rfl ?_
                                     refine w_ldI rfl rfl ?_
                                     subst hw
                                     refine w_rld rfl rfl rfl (by omega) rfl ?_
                                     show WP _ _ _ _ (.inr (.inr 144) :: _) _ _
                                     refine w_ldI rfl rfl ?_
                                     refine w_irNe0 rfl (by omega) (fun b45 => ?_) (fun b45 => ?_)
                                     · first
                                       | (exfalso; omega)
                                       | (refine w_ldI rfl rfl ?_
                                          refine w_callWN rfl rfl rfl rfl rfl rfl rfl (k_zeros144 (by omega)) (fun s49 p49 => ?_)
                                          refine w_push rfl ?_
                                          refine w_retI rfl ?_
                                          refine ⟨rfl, by rw [p49.2.2.at 131 rfl, us_eq]; rfl, ?_, p49.2.1, (Fr.us rfl).tr (Fr.mono rfl p49.2.2)⟩
                                          rw [p49.1]
                                          first
                                          | rw [if_pos (by omega)]
                                          | rw [if_neg (by omega)])
                                     · first
                                       | (exfalso; omega)
                                       | (refine w_push rfl ?_
                                          refine w_go rfl ?_
                                          refine w_callWN rfl rfl rfl rfl rfl rfl rfl (k_zeros144 (by omega)) (fun s49 p49 => ?_)
                                          refine w_push rfl ?_
                                          refine w_retI rfl ?_
                                          refine ⟨rfl, by rw [p49.2.2.at 131 rfl, us_eq]; rfl, ?_, p49.2.1, (Fr.us rfl).tr (Fr.mono rfl p49.2.2)⟩
                                          rw [p49.1]
                                          first
                                          | rw [if_pos (by omega)]
                                          | rw [if_neg (by omega)]))
                                · first
                                  | (exfalso; omega)
                                  | (refine w_ldR rfl rfl rfl ?_
                                     refine w_push rfl ?_
                                     refine w_callWI rfl rfl rfl rfl rfl rfl rfl k_error1 (fun v33 s33 p33 => ?_)
                                     obtain ⟨rfl, rfl⟩ := p33
                                     refine w_retI rfl ?_
                                     refine ⟨rfl, by rw [p49.2.2.at 131 rfl, us_eq]; rfl, ?_, p49.2.1, (Fr.us rfl).tr (Fr.mono rfl p49.2.2)⟩
                                     rw [p49.1]
                                     first
                                     | rw [if_pos (by omega)]
                                     | rw [if_neg (by omega)])))
                      · first
                        | (exfalso; omega)
                        | (refine w_ldR rfl rfl rfl ?_
                           refine w_push rfl ?_
                           refine w_callWI rfl rfl rfl rfl rfl rfl rfl k_error1 (fun v24 s24 p24 => ?_)
                           obtain ⟨rfl, rfl⟩ := p24
                           refine w_retI rfl ?_
                           refine ⟨rfl, by rw [p49.2.2.at 131 rfl, us_eq]; rfl, ?_, p49.2.1, (Fr.us rfl).tr (Fr.mono rfl p49.2.2)⟩
                           rw [p49.1]
                           first
                           | rw [if_pos (by omega)]
                           | rw [if_neg (by omega)])))
            · first
              | (exfalso; omega)
              | (refine w_ldI rfl rfl ?_
                 refine w_push rfl ?_
                 refine w_crEq rfl (by omega) (by omega) (fun b10 => ?_) (fun b10 => ?_)
                 · first
                   | (exfalso; omega)
                   | (refine w_ldI rfl rfl ?_
                      refine w_irEq0 rfl (by omega) (fun b19 => ?_) (fun b19 => ?_)
                      · first
                        | (exfalso; omega)
                        | (refine w_ldI rfl rfl ?_
                           refine w_irEq0 rfl (by omega) (fun b27 => ?_) (fun b27 => ?_)
                           · first
                             | (exfalso; omega)
                             | (refine w_ldR rfl rfl rfl ?_
                                first | refine w_getI rfl rfl rfl rfl rfl ?_ | refine w_getR rfl rfl rfl rfl rfl ?_
                                refine w_ldI rfl rfl ?_
                                refine w_ldI rfl rfl ?_
                                refine w_ast rfl rfl rfl (by omega) rfl ?_
                                refine w_ldR rfl rfl rfl ?_
                                first | refine w_getI rfl rfl rfl rfl rfl ?_ | refine w_getR rfl rfl rfl rfl rfl ?_
                                refine w_ldI rfl rfl ?_
                                subst hw
                                refine w_rld rfl rfl rfl (by omega) rfl ?_
                                show WP _ _ _ _ (.inr (.inr 144) :: _) _ _
                                refine w_ldI rfl rfl ?_
                                refine w_irNe0 rfl (by omega) (fun b45 => ?_) (fun b45 => ?_)
                                · first
                                  | (exfalso; omega)
                                  | (refine w_ldI rfl rfl ?_
                                     refine w_callWN rfl rfl rfl rfl rfl rfl rfl (k_zeros144 (by omega)) (fun s49 p49 => ?_)
                                     refine w_push rfl ?_
                                     refine w_retI rfl ?_
                                     refine ⟨rfl, by rw [p49.2.2.at 131 rfl, us_eq]; rfl, ?_, p49.2.1, (Fr.us rfl).tr (Fr.mono rfl p49.2.2)⟩
                                     rw [p49.1]
                                     first
                                     | rw [if_pos (by omega)]
                                     | rw [if_neg (by omega)])
                                · first
                                  | (exfalso; omega)
                                  | (refine w_push rfl ?_
                                     refine w_go rfl ?_
                                     refine w_callWN rfl rfl rfl rfl rfl rfl rfl (k_zeros144 (by omega)) (fun s49 p49 => ?_)
                                     refine w_push rfl ?_
                                     refine w_retI rfl ?_
                                     refine ⟨rfl, by rw [p49.2.2.at 131 rfl, us_eq]; rfl, ?_, p49.2.1, (Fr.us rfl).tr (Fr.mono rfl p49.2.2)⟩
                                     rw [p49.1]
                                     first
                                     | rw [if_pos (by omega)]
                                     | rw [if_neg (by omega)]))
                           · first
                             | (exfalso; omega)
                             | (refine w_ldI rfl rfl ?_
                                refine w_push rfl ?_
                                refine w_crLe rfl (by omega) (by omega) (fun b30 => ?_) (fun b30 => ?_)
                                · first
                                  | (exfalso; omega)
                                  | (refine w_ldR rfl rfl rfl ?_
                                     first | refine w_getI rfl rfl rfl rfl rfl ?_ | refine w_getR rfl rfl rfl rfl rfl ?_
                                     refine w_ldI rfl rfl ?_
                                     refine w_ldI rfl rfl ?_
                                     refine w_ast rfl rfl rfl (by omega) rfl ?_
                                     refine w_ldR rfl rfl rfl ?_
                                     first | refine w_getI rfl rfl rfl rfl rfl ?_ | refine w_getR rfl rfl rfl rfl rfl ?_
                                     refine w_ldI rfl rfl ?_
                                     subst hw
                                     refine w_rld rfl rfl rfl (by omega) rfl ?_
                                     show WP _ _ _ _ (.inr (.inr 144) :: _) _ _
                                     refine w_ldI rfl rfl ?_
                                     refine w_irNe0 rfl (by omega) (fun b45 => ?_) (fun b45 => ?_)
                                     · first
                                       | (exfalso; omega)
                                       | (refine w_ldI rfl rfl ?_
                                          refine w_callWN rfl rfl rfl rfl rfl rfl rfl (k_zeros144 (by omega)) (fun s49 p49 => ?_)
                                          refine w_push rfl ?_
                                          refine w_retI rfl ?_
                                          refine ⟨rfl, by rw [p49.2.2.at 131 rfl, us_eq]; rfl, ?_, p49.2.1, (Fr.us rfl).tr (Fr.mono rfl p49.2.2)⟩
                                          rw [p49.1]
                                          first
                                          | rw [if_pos (by omega)]
                                          | rw [if_neg (by omega)])
                                     · first
                                       | (exfalso; omega)
                                       | (refine w_push rfl ?_
                                          refine w_go rfl ?_
                                          refine w_callWN rfl rfl rfl rfl rfl rfl rfl (k_zeros144 (by omega)) (fun s49 p49 => ?_)
                                          refine w_push rfl ?_
                                          refine w_retI rfl ?_
                                          refine ⟨rfl, by rw [p49.2.2.at 131 rfl, us_eq]; rfl, ?_, p49.2.1, (Fr.us rfl).tr (Fr.mono rfl p49.2.2)⟩
                                          rw [p49.1]
                                          first
                                          | rw [if_pos (by omega)]
                                          | rw [if_neg (by omega)]))
                                · first
                                  | (exfalso; omega)
                                  | (refine w_ldR rfl rfl rfl ?_
                                     refine w_push rfl ?_
                                     refine w_callWI rfl rfl rfl rfl rfl rfl rfl k_error1 (fun v33 s33 p33 => ?_)
                                     obtain ⟨rfl, rfl⟩ := p33
                                     refine w_retI rfl ?_
                                     refine ⟨rfl, by rw [p49.2.2.at 131 rfl, us_eq]; rfl, ?_, p49.2.1, (Fr.us rfl).tr (Fr.mono rfl p49.2.2)⟩
                                     rw [p49.1]
                                     first
                                     | rw [if_pos (by omega)]
                                     | rw [if_neg (by omega)])))
                      · first
                        | (exfalso; omega)
                        | (refine w_ldI rfl rfl ?_
                           refine w_irGe0 rfl (by omega) (fun b21 => ?_) (fun b21 => ?_)
                           · first
                             | (exfalso; omega)
                             | (refine w_ldI rfl rfl ?_
                                refine w_irEq0 rfl (by omega) (fun b27 => ?_) (fun b27 => ?_)
                                · first
                                  | (exfalso; omega)
                                  | (refine w_ldR rfl rfl rfl ?_
                                     first | refine w_getI rfl rfl rfl rfl rfl ?_ | refine w_getR rfl rfl rfl rfl rfl ?_
                                     refine w_ldI rfl rfl ?_
                                     refine w_ldI rfl rfl ?_
                                     refine w_ast rfl rfl rfl (by omega) rfl ?_
                                     refine w_ldR rfl rfl rfl ?_
                                     first | refine w_getI rfl rfl rfl rfl rfl ?_ | refine w_getR rfl rfl rfl rfl rfl ?_
                                     refine w_ldI rfl rfl ?_
                                     subst hw
                                     refine w_rld rfl rfl rfl (by omega) rfl ?_
                                     show WP _ _ _ _ (.inr (.inr 144) :: _) _ _
                                     refine w_ldI rfl rfl ?_
                                     refine w_irNe0 rfl (by omega) (fun b45 => ?_) (fun b45 => ?_)
                                     · first
                                       | (exfalso; omega)
                                       | (refine w_ldI rfl rfl ?_
                                          refine w_callWN rfl rfl rfl rfl rfl rfl rfl (k_zeros144 (by omega)) (fun s49 p49 => ?_)
                                          refine w_push rfl ?_
                                          refine w_retI rfl ?_
                                          refine ⟨rfl, by rw [p49.2.2.at 131 rfl, us_eq]; rfl, ?_, p49.2.1, (Fr.us rfl).tr (Fr.mono rfl p49.2.2)⟩
                                          rw [p49.1]
                                          first
                                          | rw [if_pos (by omega)]
                                          | rw [if_neg (by omega)])
                                     · first
                                       | (exfalso; omega)
                                       | (refine w_push rfl ?_
                                          refine w_go rfl ?_
                                          refine w_callWN rfl rfl rfl rfl rfl rfl rfl (k_zeros144 (by omega)) (fun s49 p49 => ?_)
                                          refine w_push rfl ?_
                                          refine w_retI rfl ?_
                                          refine ⟨rfl, by rw [p49.2.2.at 131 rfl, us_eq]; rfl, ?_, p49.2.1, (Fr.us rfl).tr (Fr.mono rfl p49.2.2)⟩
                                          rw [p49.1]
                                          first
                                          | rw [if_pos (by omega)]
                                          | rw [if_neg (by omega)]))
                                · first
                                  | (exfalso; omega)
                                  | (refine w_ldI rfl rfl ?_
                                     refine w_push rfl ?_
                                     refine w_crLe rfl (by omega) (by omega) (fun b30 => ?_) (fun b30 => ?_)
                                     · first
                                       | (exfalso; omega)
                                       | (refine w_ldR rfl rfl rfl ?_
                                          first | refine w_getI rfl rfl rfl rfl rfl ?_ | refine w_getR rfl rfl rfl rfl rfl ?_
                                          refine w_ldI rfl rfl ?_
                                          refine w_ldI rfl rfl ?_
                                          refine w_ast rfl rfl rfl (by omega) rfl ?_
                                          refine w_ldR rfl rfl rfl ?_
                                          first | refine w_getI rfl rfl rfl rfl rfl ?_ | refine w_getR rfl rfl rfl rfl rfl ?_
                                          refine w_ldI rfl rfl ?_
                                          subst hw
                                          refine w_rld rfl rfl rfl (by omega) rfl ?_
                                          show WP _ _ _ _ (.inr (.inr 144) :: _) _ _
                                          refine w_ldI rfl rfl ?_
                                          refine w_irNe0 rfl (by omega) (fun b45 => ?_) (fun b45 => ?_)
                                          · first
                                            | (exfalso; omega)
                                            | (refine w_ldI rfl rfl ?_
                                               refine w_callWN rfl rfl rfl rfl rfl rfl rfl (k_zeros144 (by omega)) (fun s49 p49 => ?_)
                                               refine w_push rfl ?_
                                               refine w_retI rfl ?_
                                               refine ⟨rfl, by rw [p49.2.2.at 131 rfl, us_eq]; rfl, ?_, p49.2.1, (Fr.us rfl).tr (Fr.mono rfl p49.2.2)⟩
                                               rw [p49.1]
                                               first
                                               | rw [if_pos (by omega)]
                                               | rw [if_neg (by omega)])
                                          · first
                                            | (exfalso; omega)
                                            | (refine w_push rfl ?_
                                               refine w_go rfl ?_
                                               refine w_callWN rfl rfl rfl rfl rfl rfl rfl (k_zeros144 (by omega)) (fun s49 p49 => ?_)
                                               refine w_push rfl ?_
                                               refine w_retI rfl ?_
                                               refine ⟨rfl, by rw [p49.2.2.at 131 rfl, us_eq]; rfl, ?_, p49.2.1, (Fr.us rfl).tr (Fr.mono rfl p49.2.2)⟩
                                               rw [p49.1]
                                               first
                                               | rw [if_pos (by omega)]
                                               | rw [if_neg (by omega)]))
                                     · first
                                       | (exfalso; omega)
                                       | (refine w_ldR rfl rfl rfl ?_
                                          refine w_push rfl ?_
                                          refine w_callWI rfl rfl rfl rfl rfl rfl rfl k_error1 (fun v33 s33 p33 => ?_)
                                          obtain ⟨rfl, rfl⟩ := p33
                                          refine w_retI rfl ?_
                                          refine ⟨rfl, by rw [p49.2.2.at 131 rfl, us_eq]; rfl, ?_, p49.2.1, (Fr.us rfl).tr (Fr.mono rfl p49.2.2)⟩
                                          rw [p49.1]
                                          first
                                          | rw [if_pos (by omega)]
                                          | rw [if_neg (by omega)])))
                           · first
                             | (exfalso; omega)
                             | (refine w_ldR rfl rfl rfl ?_
                                refine w_push rfl ?_
                                refine w_callWI rfl rfl rfl rfl rfl rfl rfl k_error1 (fun v24 s24 p24 => ?_)
                                obtain ⟨rfl, rfl⟩ := p24
                                refine w_retI rfl ?_
                                refine ⟨rfl, by rw [p49.2.2.at 131 rfl, us_eq]; rfl, ?_, p49.2.1, (Fr.us rfl).tr (Fr.mono rfl p49.2.2)⟩
                                rw [p49.1]
                                first
                                | rw [if_pos (by omega)]
                                | rw [if_neg (by omega)])))
                 · first
                   | (exfalso; omega)
                   | (refine w_ldI rfl rfl ?_
                      refine w_push rfl ?_
                      refine w_crEq rfl (by omega) (by omega) (fun b13 => ?_) (fun b13 => ?_)
                      · first
                        | (exfalso; omega)
                        | (refine w_ldI rfl rfl ?_
                           refine w_irEq0 rfl (by omega) (fun b19 => ?_) (fun b19 => ?_)
                           · first
                             | (exfalso; omega)
                             | (refine w_ldI rfl rfl ?_
                                refine w_irEq0 rfl (by omega) (fun b27 => ?_) (fun b27 => ?_)
                                · first
                                  | (exfalso; omega)
                                  | (refine w_ldR rfl rfl rfl ?_
                                     first | refine w_getI rfl rfl rfl rfl rfl ?_ | refine w_getR rfl rfl rfl rfl rfl ?_
                                     refine w_ldI rfl rfl ?_
                                     refine w_ldI rfl rfl ?_
                                     refine w_ast rfl rfl rfl (by omega) rfl ?_
                                     refine w_ldR rfl rfl rfl ?_
                                     first | refine w_getI rfl rfl rfl rfl rfl ?_ | refine w_getR rfl rfl rfl rfl rfl ?_
                                     refine w_ldI rfl rfl ?_
                                     subst hw
                                     refine w_rld rfl rfl rfl (by omega) rfl ?_
                                     show WP _ _ _ _ (.inr (.inr 144) :: _) _ _
                                     refine w_ldI rfl rfl ?_
                                     refine w_irNe0 rfl (by omega) (fun b45 => ?_) (fun b45 => ?_)
                                     · first
                                       | (exfalso; omega)
                                       | (refine w_ldI rfl rfl ?_
                                          refine w_callWN rfl rfl rfl rfl rfl rfl rfl (k_zeros144 (by omega)) (fun s49 p49 => ?_)
                                          refine w_push rfl ?_
                                          refine w_retI rfl ?_
                                          refine ⟨rfl, by rw [p49.2.2.at 131 rfl, us_eq]; rfl, ?_, p49.2.1, (Fr.us rfl).tr (Fr.mono rfl p49.2.2)⟩
                                          rw [p49.1]
                                          first
                                          | rw [if_pos (by omega)]
                                          | rw [if_neg (by omega)])
                                     · first
                                       | (exfalso; omega)
                                       | (refine w_push rfl ?_
                                          refine w_go rfl ?_
                                          refine w_callWN rfl rfl rfl rfl rfl rfl rfl (k_zeros144 (by omega)) (fun s49 p49 => ?_)
                                          refine w_push rfl ?_
                                          refine w_retI rfl ?_
                                          refine ⟨rfl, by rw [p49.2.2.at 131 rfl, us_eq]; rfl, ?_, p49.2.1, (Fr.us rfl).tr (Fr.mono rfl p49.2.2)⟩
                                          rw [p49.1]
                                          first
                                          | rw [if_pos (by omega)]
                                          | rw [if_neg (by omega)]))
                                · first
                                  | (exfalso; omega)
                                  | (refine w_ldI rfl rfl ?_
                                     refine w_push rfl ?_
                                     refine w_crLe rfl (by omega) (by omega) (fun b30 => ?_) (fun b30 => ?_)
                                     · first
                                       | (exfalso; omega)
                                       | (refine w_ldR rfl rfl rfl ?_
                                          first | refine w_getI rfl rfl rfl rfl rfl ?_ | refine w_getR rfl rfl rfl rfl rfl ?_
                                          refine w_ldI rfl rfl ?_
                                          refine w_ldI rfl rfl ?_
                                          refine w_ast rfl rfl rfl (by omega) rfl ?_
                                          refine w_ldR rfl rfl rfl ?_
                                          first | refine w_getI rfl rfl rfl rfl rfl ?_ | refine w_getR rfl rfl rfl rfl rfl ?_
                                          refine w_ldI rfl rfl ?_
                                          subst hw
                                          refine w_rld rfl rfl rfl (by omega) rfl ?_
                                          show WP _ _ _ _ (.inr (.inr 144) :: _) _ _
                                          refine w_ldI rfl rfl ?_
                                          refine w_irNe0 rfl (by omega) (fun b45 => ?_) (fun b45 => ?_)
                                          · first
                                            | (exfalso; omega)
                                            | (refine w_ldI rfl rfl ?_
                                               refine w_callWN rfl rfl rfl rfl rfl rfl rfl (k_zeros144 (by omega)) (fun s49 p49 => ?_)
                                               refine w_push rfl ?_
                                               refine w_retI rfl ?_
                                               refine ⟨rfl, by rw [p49.2.2.at 131 rfl, us_eq]; rfl, ?_, p49.2.1, (Fr.us rfl).tr (Fr.mono rfl p49.2.2)⟩
                                               rw [p49.1]
                                               first
                                               | rw [if_pos (by omega)]
                                               | rw [if_neg (by omega)])
                                          · first
                                            | (exfalso; omega)
                                            | (refine w_push rfl ?_
                                               refine w_go rfl ?_
                                               refine w_callWN rfl rfl rfl rfl rfl rfl rfl (k_zeros144 (by omega)) (fun s49 p49 => ?_)
                                               refine w_push rfl ?_
                                               refine w_retI rfl ?_
                                               refine ⟨rfl, by rw [p49.2.2.at 131 rfl, us_eq]; rfl, ?_, p49.2.1, (Fr.us rfl).tr (Fr.mono rfl p49.2.2)⟩
                                               rw [p49.1]
                                               first
                                               | rw [if_pos (by omega)]
                                               | rw [if_neg (by omega)]))
                                     · first
                                       | (exfalso; omega)
                                       | (refine w_ldR rfl rfl rfl ?_
                                          refine w_push rfl ?_
                                          refine w_callWI rfl rfl rfl rfl rfl rfl rfl k_error1 (fun v33 s33 p33 => ?_)
                                          obtain ⟨rfl, rfl⟩ := p33
                                          refine w_retI rfl ?_
                                          refine ⟨rfl, by rw [p49.2.2.at 131 rfl, us_eq]; rfl, ?_, p49.2.1, (Fr.us rfl).tr (Fr.mono rfl p49.2.2)⟩
                                          rw [p49.1]
                                          first
                                          | rw [if_pos (by omega)]
                                          | rw [if_neg (by omega)])))
                           · first
                             | (exfalso; omega)
                             | (refine w_ldI rfl rfl ?_
                                refine w_irGe0 rfl (by omega) (fun b21 => ?_) (fun b21 => ?_)
                                · first
                                  | (exfalso; omega)
                                  | (refine w_ldI rfl rfl ?_
                                     refine w_irEq0 rfl (by omega) (fun b27 => ?_) (fun b27 => ?_)
                                     · first
                                       | (exfalso; omega)
                                       | (refine w_ldR rfl rfl rfl ?_
                                          first | refine w_getI rfl rfl rfl rfl rfl ?_ | refine w_getR rfl rfl rfl rfl rfl ?_
                                          refine w_ldI rfl rfl ?_
                                          refine w_ldI rfl rfl ?_
                                          refine w_ast rfl rfl rfl (by omega) rfl ?_
                                          refine w_ldR rfl rfl rfl ?_
                                          first | refine w_getI rfl rfl rfl rfl rfl ?_ | refine w_getR rfl rfl rfl rfl rfl ?_
                                          refine w_ldI rfl rfl ?_
                                          subst hw
                                          refine w_rld rfl rfl rfl (by omega) rfl ?_
                                          show WP _ _ _ _ (.inr (.inr 144) :: _) _ _
                                          refine w_ldI rfl rfl ?_
                                          refine w_irNe0 rfl (by omega) (fun b45 => ?_) (fun b45 => ?_)
                                          · first
                                            | (exfalso; omega)
                                            | (refine w_ldI rfl rfl ?_
                                               refine w_callWN rfl rfl rfl rfl rfl rfl rfl (k_zeros144 (by omega)) (fun s49 p49 => ?_)
                                               refine w_push rfl ?_
                                               refine w_retI rfl ?_
                                               refine ⟨rfl, by rw [p49.2.2.at 131 rfl, us_eq]; rfl, ?_, p49.2.1, (Fr.us rfl).tr (Fr.mono rfl p49.2.2)⟩
                                               rw [p49.1]
                                               first
                                               | rw [if_pos (by omega)]
                                               | rw [if_neg (by omega)])
                                          · first
                                            | (exfalso; omega)
                                            | (refine w_push rfl ?_
                                               refine w_go rfl ?_
                                               refine w_callWN rfl rfl rfl rfl rfl rfl rfl (k_zeros144 (by omega)) (fun s49 p49 => ?_)
                                               refine w_push rfl ?_
                                               refine w_retI rfl ?_
                                               refine ⟨rfl, by rw [p49.2.2.at 131 rfl, us_eq]; rfl, ?_, p49.2.1, (Fr.us rfl).tr (Fr.mono rfl p49.2.2)⟩
                                               rw [p49.1]
                                               first
                                               | rw [if_pos (by omega)]
                                               | rw [if_neg (by omega)]))
                                     · first
                                       | (exfalso; omega)
                                       | (refine w_ldI rfl rfl ?_
                                          refine w_push rfl ?_
                                          refine w_crLe rfl (by omega) (by omega) (fun b30 => ?_) (fun b30 => ?_)
                                          · first
                                            | (exfalso; omega)
                                            | (refine w_ldR rfl rfl rfl ?_
                                               first | refine w_getI rfl rfl rfl rfl rfl ?_ | refine w_getR rfl rfl rfl rfl rfl ?_
                                               refine w_ldI rfl rfl ?_
                                               refine w_ldI rfl rfl ?_
                                               refine w_ast rfl rfl rfl (by omega) rfl ?_
                                               refine w_ldR rfl rfl rfl ?_
                                               first | refine w_getI rfl rfl rfl rfl rfl ?_ | refine w_getR rfl rfl rfl rfl rfl ?_
                                               refine w_ldI rfl rfl ?_
                                               subst hw
                                               refine w_rld rfl rfl rfl (by omega) rfl ?_
                                               show WP _ _ _ _ (.inr (.inr 144) :: _) _ _
                                               refine w_ldI rfl rfl ?_
                                               refine w_irNe0 rfl (by omega) (fun b45 => ?_) (fun b45 => ?_)
                                               · first
                                                 | (exfalso; omega)
                                                 | (refine w_ldI rfl rfl ?_
                                                    refine w_callWN rfl rfl rfl rfl rfl rfl rfl (k_zeros144 (by omega)) (fun s49 p49 => ?_)
                                                    refine w_push rfl ?_
                                                    refine w_retI rfl ?_
                                                    refine ⟨rfl, by rw [p49.2.2.at 131 rfl, us_eq]; rfl, ?_, p49.2.1, (Fr.us rfl).tr (Fr.mono rfl p49.2.2)⟩
                                                    rw [p49.1]
                                                    first
                                                    | rw [if_pos (by omega)]
                                                    | rw [if_neg (by omega)])
                                               · first
                                                 | (exfalso; omega)
                                                 | (refine w_push rfl ?_
                                                    refine w_go rfl ?_
                                                    refine w_callWN rfl rfl rfl rfl rfl rfl rfl (k_zeros144 (by omega)) (fun s49 p49 => ?_)
                                                    refine w_push rfl ?_
                                                    refine w_retI rfl ?_
                                                    refine ⟨rfl, by rw [p49.2.2.at 131 rfl, us_eq]; rfl, ?_, p49.2.1, (Fr.us rfl).tr (Fr.mono rfl p49.2.2)⟩
                                                    rw [p49.1]
                                                    first
                                                    | rw [if_pos (by omega)]
                                                    | rw [if_neg (by omega)]))
                                          · first
                                            | (exfalso; omega)
                                            | (refine w_ldR rfl rfl rfl ?_
                                               refine w_push rfl ?_
                                               refine w_callWI rfl rfl rfl rfl rfl rfl rfl k_error1 (fun v33 s33 p33 => ?_)
                                               obtain ⟨rfl, rfl⟩ := p33
                                               refine w_retI rfl ?_
                                               refine ⟨rfl, by rw [p49.2.2.at 131 rfl, us_eq]; rfl, ?_, p49.2.1, (Fr.us rfl).tr (Fr.mono rfl p49.2.2)⟩
                                               rw [p49.1]
                                               first
                                               | rw [if_pos (by omega)]
                                               | rw [if_neg (by omega)])))
                                · first
                                  | (exfalso; omega)
                                  | (refine w_ldR rfl rfl rfl ?_
                                     refine w_push rfl ?_
                                     refine w_callWI rfl rfl rfl rfl rfl rfl rfl k_error1 (fun v24 s24 p24 => ?_)
                                     obtain ⟨rfl, rfl⟩ := p24
                                     refine w_retI rfl ?_
                                     refine ⟨rfl, by rw [p49.2.2.at 131 rfl, us_eq]; rfl, ?_, p49.2.1, (Fr.us rfl).tr (Fr.mono rfl p49.2.2)⟩
                                     rw [p49.1]
                                     first
                                     | rw [if_pos (by omega)]
                                     | rw [if_neg (by omega)])))
                      · first
                        | (exfalso; omega)
                        | (refine w_ldR rfl rfl rfl ?_
                           refine w_push rfl ?_
                           refine w_callWI rfl rfl rfl rfl rfl rfl rfl k_error1 (fun v16 s16 p16 => ?_)
                           obtain ⟨rfl, rfl⟩ := p16
                           refine w_retI rfl ?_
                           refine ⟨rfl, by rw [p49.2.2.at 131 rfl, us_eq]; rfl, ?_, p49.2.1, (Fr.us rfl).tr (Fr.mono rfl p49.2.2)⟩
                           rw [p49.1]
                           first
                           | rw [if_pos (by omega)]
                           | rw [if_neg (by omega)])))))
theorem x_sheet_n {d : Nat} {s : mSt} (hI : IvD s) {w b n : Int} (hrw : -2147483648 ≤ w ∧ w < 2147483648) (hrb : -2147483648 ≤ b ∧ b < 2147483648) (hrn : -2147483648 ≤ n ∧ n < 2147483648) (hb : ¬ ((0 ≤ w ∧ w ≤ 3) ∧ (b = 0 ∨ b = 8 ∨ b = 16 ∨ b = 32))) : CI (d + 2) 130 [.inr (.inr 10), .inl w, .inl b, .inl n] (s) (fun r s1 => r = -1000000000 - 1 ∧ s1 = us s 132 1 (s 132 1 + 1)) := by
  refine CI.mk rfl ?_
  show WP (d + 2) 130 0 [some (.inr (.inr 10)), some (.inl w), some (.inl b), some (.inl n)] [] (encA (s)) _
  have hI0 := hI
  obtain ⟨⟨hM, hC, hN⟩, hV, h8⟩ := hI
  have hV0 := hV
  have hM0 := hM
  obtain ⟨vc, vpl, vga, vse, vne, veg, vre, vtu, vta, vwa, v36, v37, v39, v40, v42, v41, v43, v44, vl0, vl1, vlm⟩ := hV
  obtain ⟨hM39, hM40, hM41, hM43, hM44, hM36, hM37, hM38, hMc, hMw, hMp, hMt, hMb⟩ := hM
  refine w_ldI rfl rfl ?_
  refine w_call rfl rfl rfl (k_isSheet (by omega)) ?_
  refine w_bEq0 rfl (fun b2 => ?_) (fun b2 => ?_)
  · first
    | (exfalso; omega)
    | (refine w_ldR rfl rfl rfl ?_
       refine w_push rfl ?_
       refine w_callWI rfl rfl rfl rfl rfl rfl rfl k_error1 (fun v16 s16 p16 => ?_)
       obtain ⟨rfl, rfl⟩ := p16
       refine w_retI rfl ?_
       exact ⟨rfl, rfl⟩)
  · first
    | (exfalso; omega)
    | (refine w_ldI rfl rfl ?_
       refine w_irEq0 rfl (by omega) (fun b4 => ?_) (fun b4 => ?_)
       · first
         | (exfalso; omega)
         | (exfalso; omega)
       · first
         | (exfalso; omega)
         | (refine w_ldI rfl rfl ?_
            refine w_push rfl ?_
            refine w_crEq rfl (by omega) (by omega) (fun b7 => ?_) (fun b7 => ?_)
            · first
              | (exfalso; omega)
              | (exfalso; omega)
            · first
              | (exfalso; omega)
              | (refine w_ldI rfl rfl ?_
                 refine w_push rfl ?_
                 refine w_crEq rfl (by omega) (by omega) (fun b10 => ?_) (fun b10 => ?_)
                 · first
                   | (exfalso; omega)
                   | (exfalso; omega)
                 · first
                   | (exfalso; omega)
                   | (refine w_ldI rfl rfl ?_
                      refine w_push rfl ?_
                      refine w_crEq rfl (by omega) (by omega) (fun b13 => ?_) (fun b13 => ?_)
                      · first
                        | (exfalso; omega)
                        | (exfalso; omega)
                      · first
                        | (exfalso; omega)
                        | (refine w_ldR rfl rfl rfl ?_
                           refine w_push rfl ?_
                           refine w_callWI rfl rfl rfl rfl rfl rfl rfl k_error1 (fun v16 s16 p16 => ?_)
                           obtain ⟨rfl, rfl⟩ := p16
                           refine w_retI rfl ?_
                           exact ⟨rfl, rfl⟩)))))
theorem m_sheet_n {d : Nat} {s : mSt} {D : Nat → Int} (hD : s 147 = D) (hM : MOk D) (hC : COk D) {w b n : Int} (hrw : -2147483648 ≤ w ∧ w < 2147483648) (hrb : -2147483648 ≤ b ∧ b < 2147483648) (hrn : -2147483648 ≤ n ∧ n < 2147483648) (hb : ¬ ((0 ≤ w ∧ w ≤ 3) ∧ (b = 0 ∨ b = 8 ∨ b = 16 ∨ b = 32))) : CI (d + 2) 254 [.inr (.inr 146), .inl w, .inl b, .inl n] (s) (fun r s1 => r = -1000000000 - 1 ∧ s1 = us s 150 1 (s 150 1 + 1)) := by
  refine CI.mk rfl ?_
  show WP (d + 2) 254 0 [some (.inr (.inr 146)), some (.inl w), some (.inl b), some (.inl n), none] [] (encA (s)) _
  have hM0 := hM
  obtain ⟨hM39, hM40, hM41, hM43, hM44, hM36, hM37, hM38, hMc, hMw, hMp, hMt, hMb⟩ := hM
  refine w_ldI rfl rfl ?_
  refine w_call rfl rfl rfl (c_isSheet (by omega)) ?_
  try simp only [hD]
  refine w_bEq0 rfl (fun b2 => ?_) (fun b2 => ?_)
  · first
    | (exfalso; omega)
    | (refine w_ldR rfl rfl rfl ?_
       refine w_push rfl ?_
       refine w_callV rfl rfl rfl rfl rfl rfl rfl r_finds1 ?_
       try simp only [hD]
       refine w_retI rfl ?_
       exact ⟨rfl, rfl⟩)
  · first
    | (exfalso; omega)
    | (refine w_ldI rfl rfl ?_
       refine w_irEq0 rfl (by omega) (fun b4 => ?_) (fun b4 => ?_)
       · first
         | (exfalso; omega)
         | (exfalso; omega)
       · first
         | (exfalso; omega)
         | (refine w_ldI rfl rfl ?_
            refine w_push rfl ?_
            refine w_crEq rfl (by omega) (by omega) (fun b7 => ?_) (fun b7 => ?_)
            · first
              | (exfalso; omega)
              | (exfalso; omega)
            · first
              | (exfalso; omega)
              | (refine w_ldI rfl rfl ?_
                 refine w_push rfl ?_
                 refine w_crEq rfl (by omega) (by omega) (fun b10 => ?_) (fun b10 => ?_)
                 · first
                   | (exfalso; omega)
                   | (exfalso; omega)
                 · first
                   | (exfalso; omega)
                   | (refine w_ldI rfl rfl ?_
                      refine w_push rfl ?_
                      refine w_crEq rfl (by omega) (by omega) (fun b13 => ?_) (fun b13 => ?_)
                      · first
                        | (exfalso; omega)
                        | (exfalso; omega)
                      · first
                        | (exfalso; omega)
                        | (refine w_ldR rfl rfl rfl ?_
                           refine w_push rfl ?_
                           refine w_callV rfl rfl rfl rfl rfl rfl rfl r_finds1 ?_
                           try simp only [hD]
                           refine w_retI rfl ?_
                           exact ⟨rfl, rfl⟩)))))
theorem x_sheet_s {d : Nat} {s : mSt} (hI : IvD s) {w b n : Int} (hrw : -2147483648 ≤ w ∧ w < 2147483648) (hrb : -2147483648 ≤ b ∧ b < 2147483648) (hrn : -2147483648 ≤ n ∧ n < 2147483648) (hw : 0 ≤ w ∧ w ≤ 3) (hb : (b = 0 ∨ b = 8 ∨ b = 16 ∨ b = 32)) (h1 : b ≠ 0 ∧ n < 0) : CI (d + 2) 130 [.inr (.inr 10), .inl w, .inl b, .inl n] (s) (fun r s1 => r = -1000000000 - 3 ∧ s1 = us s 132 3 (s 132 3 + 1)) := by
  refine CI.mk rfl ?_
  show WP (d + 2) 130 0 [some (.inr (.inr 10)), some (.inl w), some (.inl b), some (.inl n)] [] (encA (s)) _
  have hI0 := hI
  obtain ⟨⟨hM, hC, hN⟩, hV, h8⟩ := hI
  have hV0 := hV
  have hM0 := hM
  obtain ⟨vc, vpl, vga, vse, vne, veg, vre, vtu, vta, vwa, v36, v37, v39, v40, v42, v41, v43, v44, vl0, vl1, vlm⟩ := hV
  obtain ⟨hM39, hM40, hM41, hM43, hM44, hM36, hM37, hM38, hMc, hMw, hMp, hMt, hMb⟩ := hM
  refine w_ldI rfl rfl ?_
  refine w_call rfl rfl rfl (k_isSheet (by omega)) ?_
  refine w_bEq0 rfl (fun b2 => ?_) (fun b2 => ?_)
  · first
    | (exfalso; omega)
    | (exfalso; omega)
  · first
    | (exfalso; omega)
    | (refine w_ldI rfl rfl ?_
       refine w_irEq0 rfl (by omega) (fun b4 => ?_) (fun b4 => ?_)
       · first
         | (exfalso; omega)
         | (refine w_ldI rfl rfl ?_
            refine w_irEq0 rfl (by omega) (fun b19 => ?_) (fun b19 => ?_)
            · first
              | (exfalso; omega)
              | (exfalso; omega)
            · first
              | (exfalso; omega)
              | (refine w_ldI rfl rfl ?_
                 refine w_irGe0 rfl (by omega) (fun b21 => ?_) (fun b21 => ?_)
                 · first
                   | (exfalso; omega)
                   | (exfalso; omega)
                 · first
                   | (exfalso; omega)
                   | (refine w_ldR rfl rfl rfl ?_
                      refine w_push rfl ?_
                      refine w_callWI rfl rfl rfl rfl rfl rfl rfl k_error3 (fun v24 s24 p24 => ?_)
                      obtain ⟨rfl, rfl⟩ := p24
                      refine w_retI rfl ?_
                      exact ⟨rfl, rfl⟩)))
       · first
         | (exfalso; omega)
         | (refine w_ldI rfl rfl ?_
            refine w_push rfl ?_
            refine w_crEq rfl (by omega) (by omega) (fun b7 => ?_) (fun b7 => ?_)
            · first
              | (exfalso; omega)
              | (refine w_ldI rfl rfl ?_
                 refine w_irEq0 rfl (by omega) (fun b19 => ?_) (fun b19 => ?_)
                 · first
                   | (exfalso; omega)
                   | (exfalso; omega)
                 · first
                   | (exfalso; omega)
                   | (refine w_ldI rfl rfl ?_
                      refine w_irGe0 rfl (by omega) (fun b21 => ?_) (fun b21 => ?_)
                      · first
                        | (exfalso; omega)
                        | (exfalso; omega)
                      · first
                        | (exfalso; omega)
                        | (refine w_ldR rfl rfl rfl ?_
                           refine w_push rfl ?_
                           refine w_callWI rfl rfl rfl rfl rfl rfl rfl k_error3 (fun v24 s24 p24 => ?_)
                           obtain ⟨rfl, rfl⟩ := p24
                           refine w_retI rfl ?_
                           exact ⟨rfl, rfl⟩)))
            · first
              | (exfalso; omega)
              | (refine w_ldI rfl rfl ?_
                 refine w_push rfl ?_
                 refine w_crEq rfl (by omega) (by omega) (fun b10 => ?_) (fun b10 => ?_)
                 · first
                   | (exfalso; omega)
                   | (refine w_ldI rfl rfl ?_
                      refine w_irEq0 rfl (by omega) (fun b19 => ?_) (fun b19 => ?_)
                      · first
                        | (exfalso; omega)
                        | (exfalso; omega)
                      · first
                        | (exfalso; omega)
                        | (refine w_ldI rfl rfl ?_
                           refine w_irGe0 rfl (by omega) (fun b21 => ?_) (fun b21 => ?_)
                           · first
                             | (exfalso; omega)
                             | (exfalso; omega)
                           · first
                             | (exfalso; omega)
                             | (refine w_ldR rfl rfl rfl ?_
                                refine w_push rfl ?_
                                refine w_callWI rfl rfl rfl rfl rfl rfl rfl k_error3 (fun v24 s24 p24 => ?_)
                                obtain ⟨rfl, rfl⟩ := p24
                                refine w_retI rfl ?_
                                exact ⟨rfl, rfl⟩)))
                 · first
                   | (exfalso; omega)
                   | (refine w_ldI rfl rfl ?_
                      refine w_push rfl ?_
                      refine w_crEq rfl (by omega) (by omega) (fun b13 => ?_) (fun b13 => ?_)
                      · first
                        | (exfalso; omega)
                        | (refine w_ldI rfl rfl ?_
                           refine w_irEq0 rfl (by omega) (fun b19 => ?_) (fun b19 => ?_)
                           · first
                             | (exfalso; omega)
                             | (exfalso; omega)
                           · first
                             | (exfalso; omega)
                             | (refine w_ldI rfl rfl ?_
                                refine w_irGe0 rfl (by omega) (fun b21 => ?_) (fun b21 => ?_)
                                · first
                                  | (exfalso; omega)
                                  | (exfalso; omega)
                                · first
                                  | (exfalso; omega)
                                  | (refine w_ldR rfl rfl rfl ?_
                                     refine w_push rfl ?_
                                     refine w_callWI rfl rfl rfl rfl rfl rfl rfl k_error3 (fun v24 s24 p24 => ?_)
                                     obtain ⟨rfl, rfl⟩ := p24
                                     refine w_retI rfl ?_
                                     exact ⟨rfl, rfl⟩)))
                      · first
                        | (exfalso; omega)
                        | (exfalso; omega)))))
theorem m_sheet_s {d : Nat} {s : mSt} {D : Nat → Int} (hD : s 147 = D) (hM : MOk D) (hC : COk D) {w b n : Int} (hrw : -2147483648 ≤ w ∧ w < 2147483648) (hrb : -2147483648 ≤ b ∧ b < 2147483648) (hrn : -2147483648 ≤ n ∧ n < 2147483648) (hw : 0 ≤ w ∧ w ≤ 3) (hb : (b = 0 ∨ b = 8 ∨ b = 16 ∨ b = 32)) (h1 : b ≠ 0 ∧ n < 0) : CI (d + 2) 254 [.inr (.inr 146), .inl w, .inl b, .inl n] (s) (fun r s1 => r = -1000000000 - 3 ∧ s1 = us s 150 3 (s 150 3 + 1)) := by
  refine CI.mk rfl ?_
  show WP (d + 2) 254 0 [some (.inr (.inr 146)), some (.inl w), some (.inl b), some (.inl n), none] [] (encA (s)) _
  have hM0 := hM
  obtain ⟨hM39, hM40, hM41, hM43, hM44, hM36, hM37, hM38, hMc, hMw, hMp, hMt, hMb⟩ := hM
  refine w_ldI rfl rfl ?_
  refine w_call rfl rfl rfl (c_isSheet (by omega)) ?_
  try simp only [hD]
  refine w_bEq0 rfl (fun b2 => ?_) (fun b2 => ?_)
  · first
    | (exfalso; omega)
    | (exfalso; omega)
  · first
    | (exfalso; omega)
    | (refine w_ldI rfl rfl ?_
       refine w_irEq0 rfl (by omega) (fun b4 => ?_) (fun b4 => ?_)
       · first
         | (exfalso; omega)
         | (refine w_ldI rfl rfl ?_
            refine w_irEq0 rfl (by omega) (fun b19 => ?_) (fun b19 => ?_)
            · first
              | (exfalso; omega)
              | (exfalso; omega)
            · first
              | (exfalso; omega)
              | (refine w_ldI rfl rfl ?_
                 refine w_irGe0 rfl (by omega) (fun b21 => ?_) (fun b21 => ?_)
                 · first
                   | (exfalso; omega)
                   | (exfalso; omega)
                 · first
                   | (exfalso; omega)
                   | (refine w_ldR rfl rfl rfl ?_
                      refine w_push rfl ?_
                      refine w_callV rfl rfl rfl rfl rfl rfl rfl r_finds3 ?_
                      try simp only [hD]
                      refine w_retI rfl ?_
                      exact ⟨rfl, rfl⟩)))
       · first
         | (exfalso; omega)
         | (refine w_ldI rfl rfl ?_
            refine w_push rfl ?_
            refine w_crEq rfl (by omega) (by omega) (fun b7 => ?_) (fun b7 => ?_)
            · first
              | (exfalso; omega)
              | (refine w_ldI rfl rfl ?_
                 refine w_irEq0 rfl (by omega) (fun b19 => ?_) (fun b19 => ?_)
                 · first
                   | (exfalso; omega)
                   | (exfalso; omega)
                 · first
                   | (exfalso; omega)
                   | (refine w_ldI rfl rfl ?_
                      refine w_irGe0 rfl (by omega) (fun b21 => ?_) (fun b21 => ?_)
                      · first
                        | (exfalso; omega)
                        | (exfalso; omega)
                      · first
                        | (exfalso; omega)
                        | (refine w_ldR rfl rfl rfl ?_
                           refine w_push rfl ?_
                           refine w_callV rfl rfl rfl rfl rfl rfl rfl r_finds3 ?_
                           try simp only [hD]
                           refine w_retI rfl ?_
                           exact ⟨rfl, rfl⟩)))
            · first
              | (exfalso; omega)
              | (refine w_ldI rfl rfl ?_
                 refine w_push rfl ?_
                 refine w_crEq rfl (by omega) (by omega) (fun b10 => ?_) (fun b10 => ?_)
                 · first
                   | (exfalso; omega)
                   | (refine w_ldI rfl rfl ?_
                      refine w_irEq0 rfl (by omega) (fun b19 => ?_) (fun b19 => ?_)
                      · first
                        | (exfalso; omega)
                        | (exfalso; omega)
                      · first
                        | (exfalso; omega)
                        | (refine w_ldI rfl rfl ?_
                           refine w_irGe0 rfl (by omega) (fun b21 => ?_) (fun b21 => ?_)
                           · first
                             | (exfalso; omega)
                             | (exfalso; omega)
                           · first
                             | (exfalso; omega)
                             | (refine w_ldR rfl rfl rfl ?_
                                refine w_push rfl ?_
                                refine w_callV rfl rfl rfl rfl rfl rfl rfl r_finds3 ?_
                                try simp only [hD]
                                refine w_retI rfl ?_
                                exact ⟨rfl, rfl⟩)))
                 · first
                   | (exfalso; omega)
                   | (refine w_ldI rfl rfl ?_
                      refine w_push rfl ?_
                      refine w_crEq rfl (by omega) (by omega) (fun b13 => ?_) (fun b13 => ?_)
                      · first
                        | (exfalso; omega)
                        | (refine w_ldI rfl rfl ?_
                           refine w_irEq0 rfl (by omega) (fun b19 => ?_) (fun b19 => ?_)
                           · first
                             | (exfalso; omega)
                             | (exfalso; omega)
                           · first
                             | (exfalso; omega)
                             | (refine w_ldI rfl rfl ?_
                                refine w_irGe0 rfl (by omega) (fun b21 => ?_) (fun b21 => ?_)
                                · first
                                  | (exfalso; omega)
                                  | (exfalso; omega)
                                · first
                                  | (exfalso; omega)
                                  | (refine w_ldR rfl rfl rfl ?_
                                     refine w_push rfl ?_
                                     refine w_callV rfl rfl rfl rfl rfl rfl rfl r_finds3 ?_
                                     try simp only [hD]
                                     refine w_retI rfl ?_
                                     exact ⟨rfl, rfl⟩)))
                      · first
                        | (exfalso; omega)
                        | (exfalso; omega)))))
theorem x_sheet_b {d : Nat} {s : mSt} (hI : IvD s) {w b n : Int} (hrw : -2147483648 ≤ w ∧ w < 2147483648) (hrb : -2147483648 ≤ b ∧ b < 2147483648) (hrn : -2147483648 ≤ n ∧ n < 2147483648) (hw : 0 ≤ w ∧ w ≤ 3) (hb : (b = 0 ∨ b = 8 ∨ b = 16 ∨ b = 32)) (h1 : b ≠ 0 ∧ 40 < n) : CI (d + 2) 130 [.inr (.inr 10), .inl w, .inl b, .inl n] (s) (fun r s1 => r = -1000000000 - 1 ∧ s1 = us s 132 1 (s 132 1 + 1)) := by
  refine CI.mk rfl ?_
  show WP (d + 2) 130 0 [some (.inr (.inr 10)), some (.inl w), some (.inl b), some (.inl n)] [] (encA (s)) _
  have hI0 := hI
  obtain ⟨⟨hM, hC, hN⟩, hV, h8⟩ := hI
  have hV0 := hV
  have hM0 := hM
  obtain ⟨vc, vpl, vga, vse, vne, veg, vre, vtu, vta, vwa, v36, v37, v39, v40, v42, v41, v43, v44, vl0, vl1, vlm⟩ := hV
  obtain ⟨hM39, hM40, hM41, hM43, hM44, hM36, hM37, hM38, hMc, hMw, hMp, hMt, hMb⟩ := hM
  refine w_ldI rfl rfl ?_
  refine w_call rfl rfl rfl (k_isSheet (by omega)) ?_
  refine w_bEq0 rfl (fun b2 => ?_) (fun b2 => ?_)
  · first
    | (exfalso; omega)
    | (exfalso; omega)
  · first
    | (exfalso; omega)
    | (refine w_ldI rfl rfl ?_
       refine w_irEq0 rfl (by omega) (fun b4 => ?_) (fun b4 => ?_)
       · first
         | (exfalso; omega)
         | (refine w_ldI rfl rfl ?_
            refine w_irEq0 rfl (by omega) (fun b19 => ?_) (fun b19 => ?_)
            · first
              | (exfalso; omega)
              | (refine w_ldI rfl rfl ?_
                 refine w_irEq0 rfl (by omega) (fun b27 => ?_) (fun b27 => ?_)
                 · first
                   | (exfalso; omega)
                   | (exfalso; omega)
                 · first
                   | (exfalso; omega)
                   | (refine w_ldI rfl rfl ?_
                      refine w_push rfl ?_
                      refine w_crLe rfl (by omega) (by omega) (fun b30 => ?_) (fun b30 => ?_)
                      · first
                        | (exfalso; omega)
                        | (exfalso; omega)
                      · first
                        | (exfalso; omega)
                        | (refine w_ldR rfl rfl rfl ?_
                           refine w_push rfl ?_
                           refine w_callWI rfl rfl rfl rfl rfl rfl rfl k_error1 (fun v33 s33 p33 => ?_)
                           obtain ⟨rfl, rfl⟩ := p33
                           refine w_retI rfl ?_
                           exact ⟨rfl, rfl⟩)))
            · first
              | (exfalso; omega)
              | (refine w_ldI rfl rfl ?_
                 refine w_irGe0 rfl (by omega) (fun b21 => ?_) (fun b21 => ?_)
                 · first
                   | (exfalso; omega)
                   | (refine w_ldI rfl rfl ?_
                      refine w_irEq0 rfl (by omega) (fun b27 => ?_) (fun b27 => ?_)
                      · first
                        | (exfalso; omega)
                        | (exfalso; omega)
                      · first
                        | (exfalso; omega)
                        | (refine w_ldI rfl rfl ?_
                           refine w_push rfl ?_
                           refine w_crLe rfl (by omega) (by omega) (fun b30 => ?_) (fun b30 => ?_)
                           · first
                             | (exfalso; omega)
                             | (exfalso; omega)
                           · first
                             | (exfalso; omega)
                             | (refine w_ldR rfl rfl rfl ?_
                                refine w_push rfl ?_
                                refine w_callWI rfl rfl rfl rfl rfl rfl rfl k_error1 (fun v33 s33 p33 => ?_)
                                obtain ⟨rfl, rfl⟩ := p33
                                refine w_retI rfl ?_
                                exact ⟨rfl, rfl⟩)))
                 · first
                   | (exfalso; omega)
                   | (exfalso; omega)))
       · first
         | (exfalso; omega)
         | (refine w_ldI rfl rfl ?_
            refine w_push rfl ?_
            refine w_crEq rfl (by omega) (by omega) (fun b7 => ?_) (fun b7 => ?_)
            · first
              | (exfalso; omega)
              | (refine w_ldI rfl rfl ?_
                 refine w_irEq0 rfl (by omega) (fun b19 => ?_) (fun b19 => ?_)
                 · first
                   | (exfalso; omega)
                   | (refine w_ldI rfl rfl ?_
                      refine w_irEq0 rfl (by omega) (fun b27 => ?_) (fun b27 => ?_)
                      · first
                        | (exfalso; omega)
                        | (exfalso; omega)
                      · first
                        | (exfalso; omega)
                        | (refine w_ldI rfl rfl ?_
                           refine w_push rfl ?_
                           refine w_crLe rfl (by omega) (by omega) (fun b30 => ?_) (fun b30 => ?_)
                           · first
                             | (exfalso; omega)
                             | (exfalso; omega)
                           · first
                             | (exfalso; omega)
                             | (refine w_ldR rfl rfl rfl ?_
                                refine w_push rfl ?_
                                refine w_callWI rfl rfl rfl rfl rfl rfl rfl k_error1 (fun v33 s33 p33 => ?_)
                                obtain ⟨rfl, rfl⟩ := p33
                                refine w_retI rfl ?_
                                exact ⟨rfl, rfl⟩)))
                 · first
                   | (exfalso; omega)
                   | (refine w_ldI rfl rfl ?_
                      refine w_irGe0 rfl (by omega) (fun b21 => ?_) (fun b21 => ?_)
                      · first
                        | (exfalso; omega)
                        | (refine w_ldI rfl rfl ?_
                           refine w_irEq0 rfl (by omega) (fun b27 => ?_) (fun b27 => ?_)
                           · first
                             | (exfalso; omega)
                             | (exfalso; omega)
                           · first
                             | (exfalso; omega)
                             | (refine w_ldI rfl rfl ?_
                                refine w_push rfl ?_
                                refine w_crLe rfl (by omega) (by omega) (fun b30 => ?_) (fun b30 => ?_)
                                · first
                                  | (exfalso; omega)
                                  | (exfalso; omega)
                                · first
                                  | (exfalso; omega)
                                  | (refine w_ldR rfl rfl rfl ?_
                                     refine w_push rfl ?_
                                     refine w_callWI rfl rfl rfl rfl rfl rfl rfl k_error1 (fun v33 s33 p33 => ?_)
                                     obtain ⟨rfl, rfl⟩ := p33
                                     refine w_retI rfl ?_
                                     exact ⟨rfl, rfl⟩)))
                      · first
                        | (exfalso; omega)
                        | (exfalso; omega)))
            · first
              | (exfalso; omega)
              | (refine w_ldI rfl rfl ?_
                 refine w_push rfl ?_
                 refine w_crEq rfl (by omega) (by omega) (fun b10 => ?_) (fun b10 => ?_)
                 · first
                   | (exfalso; omega)
                   | (refine w_ldI rfl rfl ?_
                      refine w_irEq0 rfl (by omega) (fun b19 => ?_) (fun b19 => ?_)
                      · first
                        | (exfalso; omega)
                        | (refine w_ldI rfl rfl ?_
                           refine w_irEq0 rfl (by omega) (fun b27 => ?_) (fun b27 => ?_)
                           · first
                             | (exfalso; omega)
                             | (exfalso; omega)
                           · first
                             | (exfalso; omega)
                             | (refine w_ldI rfl rfl ?_
                                refine w_push rfl ?_
                                refine w_crLe rfl (by omega) (by omega) (fun b30 => ?_) (fun b30 => ?_)
                                · first
                                  | (exfalso; omega)
                                  | (exfalso; omega)
                                · first
                                  | (exfalso; omega)
                                  | (refine w_ldR rfl rfl rfl ?_
                                     refine w_push rfl ?_
                                     refine w_callWI rfl rfl rfl rfl rfl rfl rfl k_error1 (fun v33 s33 p33 => ?_)
                                     obtain ⟨rfl, rfl⟩ := p33
                                     refine w_retI rfl ?_
                                     exact ⟨rfl, rfl⟩)))
                      · first
                        | (exfalso; omega)
                        | (refine w_ldI rfl rfl ?_
                           refine w_irGe0 rfl (by omega) (fun b21 => ?_) (fun b21 => ?_)
                           · first
                             | (exfalso; omega)
                             | (refine w_ldI rfl rfl ?_
                                refine w_irEq0 rfl (by omega) (fun b27 => ?_) (fun b27 => ?_)
                                · first
                                  | (exfalso; omega)
                                  | (exfalso; omega)
                                · first
                                  | (exfalso; omega)
                                  | (refine w_ldI rfl rfl ?_
                                     refine w_push rfl ?_
                                     refine w_crLe rfl (by omega) (by omega) (fun b30 => ?_) (fun b30 => ?_)
                                     · first
                                       | (exfalso; omega)
                                       | (exfalso; omega)
                                     · first
                                       | (exfalso; omega)
                                       | (refine w_ldR rfl rfl rfl ?_
                                          refine w_push rfl ?_
                                          refine w_callWI rfl rfl rfl rfl rfl rfl rfl k_error1 (fun v33 s33 p33 => ?_)
                                          obtain ⟨rfl, rfl⟩ := p33
                                          refine w_retI rfl ?_
                                          exact ⟨rfl, rfl⟩)))
                           · first
                             | (exfalso; omega)
                             | (exfalso; omega)))
                 · first
                   | (exfalso; omega)
                   | (refine w_ldI rfl rfl ?_
                      refine w_push rfl ?_
                      refine w_crEq rfl (by omega) (by omega) (fun b13 => ?_) (fun b13 => ?_)
                      · first
                        | (exfalso; omega)
                        | (refine w_ldI rfl rfl ?_
                           refine w_irEq0 rfl (by omega) (fun b19 => ?_) (fun b19 => ?_)
                           · first
                             | (exfalso; omega)
                             | (refine w_ldI rfl rfl ?_
                                refine w_irEq0 rfl (by omega) (fun b27 => ?_) (fun b27 => ?_)
                                · first
                                  | (exfalso; omega)
                                  | (exfalso; omega)
                                · first
                                  | (exfalso; omega)
                                  | (refine w_ldI rfl rfl ?_
                                     refine w_push rfl ?_
                                     refine w_crLe rfl (by omega) (by omega) (fun b30 => ?_) (fun b30 => ?_)
                                     · first
                                       | (exfalso; omega)
                                       | (exfalso; omega)
                                     · first
                                       | (exfalso; omega)
                                       | (refine w_ldR rfl rfl rfl ?_
                                          refine w_push rfl ?_
                                          refine w_callWI rfl rfl rfl rfl rfl rfl rfl k_error1 (fun v33 s33 p33 => ?_)
                                          obtain ⟨rfl, rfl⟩ := p33
                                          refine w_retI rfl ?_
                                          exact ⟨rfl, rfl⟩)))
                           · first
                             | (exfalso; omega)
                             | (refine w_ldI rfl rfl ?_
                                refine w_irGe0 rfl (by omega) (fun b21 => ?_) (fun b21 => ?_)
                                · first
                                  | (exfalso; omega)
                                  | (refine w_ldI rfl rfl ?_
                                     refine w_irEq0 rfl (by omega) (fun b27 => ?_) (fun b27 => ?_)
                                     · first
                                       | (exfalso; omega)
                                       | (exfalso; omega)
                                     · first
                                       | (exfalso; omega)
                                       | (refine w_ldI rfl rfl ?_
                                          refine w_push rfl ?_
                                          refine w_crLe rfl (by omega) (by omega) (fun b30 => ?_) (fun b30 => ?_)
                                          · first
                                            | (exfalso; omega)
                                            | (exfalso; omega)
                                          · first
                                            | (exfalso; omega)
                                            | (refine w_ldR rfl rfl rfl ?_
                                               refine w_push rfl ?_
                                               refine w_callWI rfl rfl rfl rfl rfl rfl rfl k_error1 (fun v33 s33 p33 => ?_)
                                               obtain ⟨rfl, rfl⟩ := p33
                                               refine w_retI rfl ?_
                                               exact ⟨rfl, rfl⟩)))
                                · first
                                  | (exfalso; omega)
                                  | (exfalso; omega)))
                      · first
                        | (exfalso; omega)
                        | (exfalso; omega)))))
theorem m_sheet_b {d : Nat} {s : mSt} {D : Nat → Int} (hD : s 147 = D) (hM : MOk D) (hC : COk D) {w b n : Int} (hrw : -2147483648 ≤ w ∧ w < 2147483648) (hrb : -2147483648 ≤ b ∧ b < 2147483648) (hrn : -2147483648 ≤ n ∧ n < 2147483648) (hw : 0 ≤ w ∧ w ≤ 3) (hb : (b = 0 ∨ b = 8 ∨ b = 16 ∨ b = 32)) (h1 : b ≠ 0 ∧ 40 < n) : CI (d + 2) 254 [.inr (.inr 146), .inl w, .inl b, .inl n] (s) (fun r s1 => r = -1000000000 - 1 ∧ s1 = us s 150 1 (s 150 1 + 1)) := by
  refine CI.mk rfl ?_
  show WP (d + 2) 254 0 [some (.inr (.inr 146)), some (.inl w), some (.inl b), some (.inl n), none] [] (encA (s)) _
  have hM0 := hM
  obtain ⟨hM39, hM40, hM41, hM43, hM44, hM36, hM37, hM38, hMc, hMw, hMp, hMt, hMb⟩ := hM
  refine w_ldI rfl rfl ?_
  refine w_call rfl rfl rfl (c_isSheet (by omega)) ?_
  try simp only [hD]
  refine w_bEq0 rfl (fun b2 => ?_) (fun b2 => ?_)
  · first
    | (exfalso; omega)
    | (exfalso; omega)
  · first
    | (exfalso; omega)
    | (refine w_ldI rfl rfl ?_
       refine w_irEq0 rfl (by omega) (fun b4 => ?_) (fun b4 => ?_)
       · first
         | (exfalso; omega)
         | (refine w_ldI rfl rfl ?_
            refine w_irEq0 rfl (by omega) (fun b19 => ?_) (fun b19 => ?_)
            · first
              | (exfalso; omega)
              | (refine w_ldI rfl rfl ?_
                 refine w_irEq0 rfl (by omega) (fun b27 => ?_) (fun b27 => ?_)
                 · first
                   | (exfalso; omega)
                   | (exfalso; omega)
                 · first
                   | (exfalso; omega)
                   | (refine w_ldI rfl rfl ?_
                      refine w_push rfl ?_
                      refine w_crLe rfl (by omega) (by omega) (fun b30 => ?_) (fun b30 => ?_)
                      · first
                        | (exfalso; omega)
                        | (exfalso; omega)
                      · first
                        | (exfalso; omega)
                        | (refine w_ldR rfl rfl rfl ?_
                           refine w_push rfl ?_
                           refine w_callV rfl rfl rfl rfl rfl rfl rfl r_finds1 ?_
                           try simp only [hD]
                           refine w_retI rfl ?_
                           exact ⟨rfl, rfl⟩)))
            · first
              | (exfalso; omega)
              | (refine w_ldI rfl rfl ?_
                 refine w_irGe0 rfl (by omega) (fun b21 => ?_) (fun b21 => ?_)
                 · first
                   | (exfalso; omega)
                   | (refine w_ldI rfl rfl ?_
                      refine w_irEq0 rfl (by omega) (fun b27 => ?_) (fun b27 => ?_)
                      · first
                        | (exfalso; omega)
                        | (exfalso; omega)
                      · first
                        | (exfalso; omega)
                        | (refine w_ldI rfl rfl ?_
                           refine w_push rfl ?_
                           refine w_crLe rfl (by omega) (by omega) (fun b30 => ?_) (fun b30 => ?_)
                           · first
                             | (exfalso; omega)
                             | (exfalso; omega)
                           · first
                             | (exfalso; omega)
                             | (refine w_ldR rfl rfl rfl ?_
                                refine w_push rfl ?_
                                refine w_callV rfl rfl rfl rfl rfl rfl rfl r_finds1 ?_
                                try simp only [hD]
                                refine w_retI rfl ?_
                                exact ⟨rfl, rfl⟩)))
                 · first
                   | (exfalso; omega)
                   | (exfalso; omega)))
       · first
         | (exfalso; omega)
         | (refine w_ldI rfl rfl ?_
            refine w_push rfl ?_
            refine w_crEq rfl (by omega) (by omega) (fun b7 => ?_) (fun b7 => ?_)
            · first
              | (exfalso; omega)
              | (refine w_ldI rfl rfl ?_
                 refine w_irEq0 rfl (by omega) (fun b19 => ?_) (fun b19 => ?_)
                 · first
                   | (exfalso; omega)
                   | (refine w_ldI rfl rfl ?_
                      refine w_irEq0 rfl (by omega) (fun b27 => ?_) (fun b27 => ?_)
                      · first
                        | (exfalso; omega)
                        | (exfalso; omega)
                      · first
                        | (exfalso; omega)
                        | (refine w_ldI rfl rfl ?_
                           refine w_push rfl ?_
                           refine w_crLe rfl (by omega) (by omega) (fun b30 => ?_) (fun b30 => ?_)
                           · first
                             | (exfalso; omega)
                             | (exfalso; omega)
                           · first
                             | (exfalso; omega)
                             | (refine w_ldR rfl rfl rfl ?_
                                refine w_push rfl ?_
                                refine w_callV rfl rfl rfl rfl rfl rfl rfl r_finds1 ?_
                                try simp only [hD]
                                refine w_retI rfl ?_
                                exact ⟨rfl, rfl⟩)))
                 · first
                   | (exfalso; omega)
                   | (refine w_ldI rfl rfl ?_
                      refine w_irGe0 rfl (by omega) (fun b21 => ?_) (fun b21 => ?_)
                      · first
                        | (exfalso; omega)
                        | (refine w_ldI rfl rfl ?_
                           refine w_irEq0 rfl (by omega) (fun b27 => ?_) (fun b27 => ?_)
                           · first
                             | (exfalso; omega)
                             | (exfalso; omega)
                           · first
                             | (exfalso; omega)
                             | (refine w_ldI rfl rfl ?_
                                refine w_push rfl ?_
                                refine w_crLe rfl (by omega) (by omega) (fun b30 => ?_) (fun b30 => ?_)
                                · first
                                  | (exfalso; omega)
                                  | (exfalso; omega)
                                · first
                                  | (exfalso; omega)
                                  | (refine w_ldR rfl rfl rfl ?_
                                     refine w_push rfl ?_
                                     refine w_callV rfl rfl rfl rfl rfl rfl rfl r_finds1 ?_
                                     try simp only [hD]
                                     refine w_retI rfl ?_
                                     exact ⟨rfl, rfl⟩)))
                      · first
                        | (exfalso; omega)
                        | (exfalso; omega)))
            · first
              | (exfalso; omega)
              | (refine w_ldI rfl rfl ?_
                 refine w_push rfl ?_
                 refine w_crEq rfl (by omega) (by omega) (fun b10 => ?_) (fun b10 => ?_)
                 · first
                   | (exfalso; omega)
                   | (refine w_ldI rfl rfl ?_
                      refine w_irEq0 rfl (by omega) (fun b19 => ?_) (fun b19 => ?_)
                      · first
                        | (exfalso; omega)
                        | (refine w_ldI rfl rfl ?_
                           refine w_irEq0 rfl (by omega) (fun b27 => ?_) (fun b27 => ?_)
                           · first
                             | (exfalso; omega)
                             | (exfalso; omega)
                           · first
                             | (exfalso; omega)
                             | (refine w_ldI rfl rfl ?_
                                refine w_push rfl ?_
                                refine w_crLe rfl (by omega) (by omega) (fun b30 => ?_) (fun b30 => ?_)
                                · first
                                  | (exfalso; omega)
                                  | (exfalso; omega)
                                · first
                                  | (exfalso; omega)
                                  | (refine w_ldR rfl rfl rfl ?_
                                     refine w_push rfl ?_
                                     refine w_callV rfl rfl rfl rfl rfl rfl rfl r_finds1 ?_
                                     try simp only [hD]
                                     refine w_retI rfl ?_
                                     exact ⟨rfl, rfl⟩)))
                      · first
                        | (exfalso; omega)
                        | (refine w_ldI rfl rfl ?_
                           refine w_irGe0 rfl (by omega) (fun b21 => ?_) (fun b21 => ?_)
                           · first
                             | (exfalso; omega)
                             | (refine w_ldI rfl rfl ?_
                                refine w_irEq0 rfl (by omega) (fun b27 => ?_) (fun b27 => ?_)
                                · first
                                  | (exfalso; omega)
                                  | (exfalso; omega)
                                · first
                                  | (exfalso; omega)
                                  | (refine w_ldI rfl rfl ?_
                                     refine w_push rfl ?_
                                     refine w_crLe rfl (by omega) (by omega) (fun b30 => ?_) (fun b30 => ?_)
                                     · first
                                       | (exfalso; omega)
                                       | (exfalso; omega)
                                     · first
                                       | (exfalso; omega)
                                       | (refine w_ldR rfl rfl rfl ?_
                                          refine w_push rfl ?_
                                          refine w_callV rfl rfl rfl rfl rfl rfl rfl r_finds1 ?_
                                          try simp only [hD]
                                          refine w_retI rfl ?_
                                          exact ⟨rfl, rfl⟩)))
                           · first
                             | (exfalso; omega)
                             | (exfalso; omega)))
                 · first
                   | (exfalso; omega)
                   | (refine w_ldI rfl rfl ?_
                      refine w_push rfl ?_
                      refine w_crEq rfl (by omega) (by omega) (fun b13 => ?_) (fun b13 => ?_)
                      · first
                        | (exfalso; omega)
                        | (refine w_ldI rfl rfl ?_
                           refine w_irEq0 rfl (by omega) (fun b19 => ?_) (fun b19 => ?_)
                           · first
                             | (exfalso; omega)
                             | (refine w_ldI rfl rfl ?_
                                refine w_irEq0 rfl (by omega) (fun b27 => ?_) (fun b27 => ?_)
                                · first
                                  | (exfalso; omega)
                                  | (exfalso; omega)
                                · first
                                  | (exfalso; omega)
                                  | (refine w_ldI rfl rfl ?_
                                     refine w_push rfl ?_
                                     refine w_crLe rfl (by omega) (by omega) (fun b30 => ?_) (fun b30 => ?_)
                                     · first
                                       | (exfalso; omega)
                                       | (exfalso; omega)
                                     · first
                                       | (exfalso; omega)
                                       | (refine w_ldR rfl rfl rfl ?_
                                          refine w_push rfl ?_
                                          refine w_callV rfl rfl rfl rfl rfl rfl rfl r_finds1 ?_
                                          try simp only [hD]
                                          refine w_retI rfl ?_
                                          exact ⟨rfl, rfl⟩)))
                           · first
                             | (exfalso; omega)
                             | (refine w_ldI rfl rfl ?_
                                refine w_irGe0 rfl (by omega) (fun b21 => ?_) (fun b21 => ?_)
                                · first
                                  | (exfalso; omega)
                                  | (refine w_ldI rfl rfl ?_
                                     refine w_irEq0 rfl (by omega) (fun b27 => ?_) (fun b27 => ?_)
                                     · first
                                       | (exfalso; omega)
                                       | (exfalso; omega)
                                     · first
                                       | (exfalso; omega)
                                       | (refine w_ldI rfl rfl ?_
                                          refine w_push rfl ?_
                                          refine w_crLe rfl (by omega) (by omega) (fun b30 => ?_) (fun b30 => ?_)
                                          · first
                                            | (exfalso; omega)
                                            | (exfalso; omega)
                                          · first
                                            | (exfalso; omega)
                                            | (refine w_ldR rfl rfl rfl ?_
                                               refine w_push rfl ?_
                                               refine w_callV rfl rfl rfl rfl rfl rfl rfl r_finds1 ?_
                                               try simp only [hD]
                                               refine w_retI rfl ?_
                                               exact ⟨rfl, rfl⟩)))
                                · first
                                  | (exfalso; omega)
                                  | (exfalso; omega)))
                      · first
                        | (exfalso; omega)
                        | (exfalso; omega)))))
theorem l_msheet {d : Nat} {s : mSt} {P : Int → mSt → Prop} {w b n : Int} (hw : 0 ≤ w ∧ w ≤ 3) (k : Nat) (i : Int) (hi : i = (k : Int)) (hk : k ≤ 40) (hl : ∀ q : Int, 0 ≤ q → q < (k : Int) → s 162 (40 * w + q).toNat = 0) (hP : ∀ s1, Fr [162] s s1 → (∀ q : Int, 0 ≤ q → q < 40 → s1 162 (40 * w + q).toNat = 0) → (∀ j : Nat, ((j : Int) < 40 * w ∨ 40 * w + 40 ≤ (j : Int)) → s1 162 j = s 162 j) → P 1 s1) : WP (d + 2) 254 51 [some (.inr (.inr 146)), some (.inl w), some (.inl b), some (.inl n), some (.inl i)] [] (encA (s)) (QI P) := by
  subst hi
  refine w_ldI rfl rfl ?_
  refine w_push rfl ?_
  refine w_crGe rfl (by omega) (by omega) (fun b53 => ?_) (fun b53 => ?_)
  · first
    | (exfalso; omega)
    | (refine w_push rfl ?_
       refine w_retI rfl ?_
       obtain rfl : k = 40 := by omega
       exact hP s Fr.rf hl (fun j hj => rfl))
  · first
    | (exfalso; omega)
    | (refine w_ldR rfl rfl rfl ?_
       first | refine w_getI rfl rfl rfl rfl rfl ?_ | refine w_getR rfl rfl rfl rfl rfl ?_
       refine w_push rfl ?_
       refine w_ldI rfl rfl ?_
       refine w_mul rfl ?_
       refine w_ldI rfl rfl ?_
       refine w_add rfl ?_
       refine w_push rfl ?_
       refine w_ast rfl rfl rfl (by omega) rfl ?_
       refine w_inc_5_4 rfl rfl ?_
       refine w_go rfl ?_
       refine l_msheet hw (k + 1) ((k : Int) + 1) (by omega) (by omega) (fun q h1 h2 => ?_) (fun s1 hf h3 h4 => hP s1 ((Fr.us rfl).tr hf) h3 (fun j hj => ?_))
       · rw [us_eq]
         unfold mup
         split
         · rfl
         · exact hl q h1 (by omega)
       · rw [h4 j hj, us_eq, mup_ne (by omega)])
termination_by 40 - k
decreasing_by all_goals omega
theorem m_sheet_y {d : Nat} {s : mSt} {D : Nat → Int} (hD : s 147 = D) (hM : MOk D) (hC : COk D) {w b n : Int} (hrw : -2147483648 ≤ w ∧ w < 2147483648) (hrb : -2147483648 ≤ b ∧ b < 2147483648) (hrn : -2147483648 ≤ n ∧ n < 2147483648) (hw : 0 ≤ w ∧ w ≤ 3) (hb : (b = 0 ∨ b = 8 ∨ b = 16 ∨ b = 32)) (h1 : ¬ (b ≠ 0 ∧ n < 0)) (h2 : ¬ (b ≠ 0 ∧ 40 < n)) : CI (d + 2) 254 [.inr (.inr 146), .inl w, .inl b, .inl n] (s) (fun q s1 => q = 1 ∧ s1 160 = mup (s 160) w.toNat b ∧ s1 161 = mup (s 161) w.toNat (if b = 0 then 0 else n) ∧ (∀ q : Int, 0 ≤ q → q < 40 → s1 162 (40 * w + q).toNat = 0) ∧ (∀ j : Nat, ((j : Int) < 40 * w ∨ 40 * w + 40 ≤ (j : Int)) → s1 162 j = s 162 j) ∧ Fr [160, 161, 162] s s1) := by
  refine CI.mk rfl ?_
  show WP (d + 2) 254 0 [some (.inr (.inr 146)), some (.inl w), some (.inl b), some (.inl n), none] [] (encA (s)) _
  have hM0 := hM
  obtain ⟨hM39, hM40, hM41, hM43, hM44, hM36, hM37, hM38, hMc, hMw, hMp, hMt, hMb⟩ := hM
  refine w_ldI rfl rfl ?_
  refine w_call rfl rfl rfl (c_isSheet (by omega)) ?_
  try simp only [hD]
  refine w_bEq0 rfl (fun b2 => ?_) (fun b2 => ?_)
  · first
    | (exfalso; omega)
    | (refine w_ldR rfl rfl rfl ?_
       refine w_push rfl ?_
       refine w_callV rfl rfl rfl rfl rfl rfl rfl r_finds1 ?_
       try simp only [hD]
       refine w_retI rfl ?_
       exact ⟨rfl, rfl⟩)
  · first
    | (exfalso; omega)
    | (refine w_ldI rfl rfl ?_
       refine w_irEq0 rfl (by omega) (fun b4 => ?_) (fun b4 => ?_)
       · first
         | (exfalso; omega)
         | (refine w_ldI rfl rfl ?_
            refine w_irEq0 rfl (by omega) (fun b19 => ?_) (fun b19 => ?_)
            · first
              | (exfalso; omega)
              | (refine w_ldI rfl rfl ?_
                 refine w_irEq0 rfl (by omega) (fun b27 => ?_) (fun b27 => ?_)
                 · first
                   | (exfalso; omega)
                   | (refine w_ldR rfl rfl rfl ?_
                      first | refine w_getI rfl rfl rfl rfl rfl ?_ | refine w_getR rfl rfl rfl rfl rfl ?_
                      try simp only [hD]
                      refine w_ldI rfl rfl ?_
                      refine w_ldI rfl rfl ?_
                      refine w_ast rfl rfl rfl (by omega) rfl ?_
                      refine w_ldR rfl rfl rfl ?_
                      first | refine w_getI rfl rfl rfl rfl rfl ?_ | refine w_getR rfl rfl rfl rfl rfl ?_
                      try simp only [hD]
                      refine w_ldI rfl rfl ?_
                      refine w_ldI rfl rfl ?_
                      refine w_irNe0 rfl (by omega) (fun b44 => ?_) (fun b44 => ?_)
                      · first
                        | (exfalso; omega)
                        | (refine w_ldI rfl rfl ?_
                           refine w_ast rfl rfl rfl (by omega) rfl ?_
                           refine w_push rfl ?_
                           refine w_StI_5_4 rfl rfl ?_
                           refine l_msheet hw 0 0 rfl (by omega) (fun q h3 h4 => by omega) (fun s1 hf h3 h4 => ⟨rfl, ?_, ?_, h3, fun j hj => ?_, ((Fr.us rfl).tr (Fr.us rfl)).tr (Fr.mono rfl hf)⟩)
                           · rw [hf.at 160 rfl, us_ne (by decide), us_eq]
                           · rw [hf.at 161 rfl, us_eq, us_ne (by decide)]
                             first
                             | rw [if_pos (by omega)]
                             | rw [if_neg (by omega)]
                           · rw [h4 j hj, us_ne (by decide), us_ne (by decide)])
                      · first
                        | (exfalso; omega)
                        | (refine w_push rfl ?_
                           refine w_go rfl ?_
                           refine w_ast rfl rfl rfl (by omega) rfl ?_
                           refine w_push rfl ?_
                           refine w_StI_5_4 rfl rfl ?_
                           refine l_msheet hw 0 0 rfl (by omega) (fun q h3 h4 => by omega) (fun s1 hf h3 h4 => ⟨rfl, ?_, ?_, h3, fun j hj => ?_, ((Fr.us rfl).tr (Fr.us rfl)).tr (Fr.mono rfl hf)⟩)
                           · rw [hf.at 160 rfl, us_ne (by decide), us_eq]
                           · rw [hf.at 161 rfl, us_eq, us_ne (by decide)]
                             first
                             | rw [if_pos (by omega)]
                             | rw [if_neg (by omega)]
                           · rw [h4 j hj, us_ne (by decide), us_ne (by decide)]))
                 · first
                   | (exfalso; omega)
                   | (refine w_ldI rfl rfl ?_
                      refine w_push rfl ?_
                      refine w_crLe rfl (by omega) (by omega) (fun b30 => ?_) (fun b30 => ?_)
                      · first
                        | (exfalso; omega)
                        | (refine w_ldR rfl rfl rfl ?_
                           first | refine w_getI rfl rfl rfl rfl rfl ?_ | refine w_getR rfl rfl rfl rfl rfl ?_
                           try simp only [hD]
                           refine w_ldI rfl rfl ?_
                           refine w_ldI rfl rfl ?_
                           refine w_ast rfl rfl rfl (by omega) rfl ?_
                           refine w_ldR rfl rfl rfl ?_
                           first | refine w_getI rfl rfl rfl rfl rfl ?_ | refine w_getR rfl rfl rfl rfl rfl ?_
                           try simp only [hD]
                           refine w_ldI rfl rfl ?_
                           refine w_ldI rfl rfl ?_
                           refine w_irNe0 rfl (by omega) (fun b44 => ?_) (fun b44 => ?_)
                           · first
                             | (exfalso; omega)
                             | (refine w_ldI rfl rfl ?_
                                refine w_ast rfl rfl rfl (by omega) rfl ?_
                                refine w_push rfl ?_
                                refine w_StI_5_4 rfl rfl ?_
                                refine l_msheet hw 0 0 rfl (by omega) (fun q h3 h4 => by omega) (fun s1 hf h3 h4 => ⟨rfl, ?_, ?_, h3, fun j hj => ?_, ((Fr.us rfl).tr (Fr.us rfl)).tr (Fr.mono rfl hf)⟩)
                                · rw [hf.at 160 rfl, us_ne (by decide), us_eq]
                                · rw [hf.at 161 rfl, us_eq, us_ne (by decide)]
                                  first
                                  | rw [if_pos (by omega)]
                                  | rw [if_neg (by omega)]
                                · rw [h4 j hj, us_ne (by decide), us_ne (by decide)])
                           · first
                             | (exfalso; omega)
                             | (refine w_push rfl ?_
                                refine w_go rfl ?_
                                refine w_ast rfl rfl rfl (by omega) rfl ?_
                                refine w_push rfl ?_
                                refine w_StI_5_4 rfl rfl ?_
                                refine l_msheet hw 0 0 rfl (by omega) (fun q h3 h4 => by omega) (fun s1 hf h3 h4 => ⟨rfl, ?_, ?_, h3, fun j hj => ?_, ((Fr.us rfl).tr (Fr.us rfl)).tr (Fr.mono rfl hf)⟩)
                                · rw [hf.at 160 rfl, us_ne (by decide), us_eq]
                                · rw [hf.at 161 rfl, us_eq, us_ne (by decide)]
                                  first
                                  | rw [if_pos (by omega)]
                                  | rw [if_neg (by omega)]
                                · rw [h4 j hj, us_ne (by decide), us_ne (by decide)]))
                      · first
                        | (exfalso; omega)
                        | (refine w_ldR rfl rfl rfl ?_
                           refine w_push rfl ?_
                           refine w_callV rfl rfl rfl rfl rfl rfl rfl r_finds1 ?_
                           try simp only [hD]
                           refine w_retI rfl ?_
                           exact ⟨rfl, rfl⟩)))
            · first
              | (exfalso; omega)
              | (refine w_ldI rfl rfl ?_
                 refine w_irGe0 rfl (by omega) (fun b21 => ?_) (fun b21 => ?_)
                 · first
                   | (exfalso; omega)
                   | (refine w_ldI rfl rfl ?_
                      refine w_irEq0 rfl (by omega) (fun b27 => ?_) (fun b27 => ?_)
                      · first
                        | (exfalso; omega)
                        | (refine w_ldR rfl rfl rfl ?_
                           first | refine w_getI rfl rfl rfl rfl rfl ?_ | refine w_getR rfl rfl rfl rfl rfl ?_
                           try simp only [hD]
                           refine w_ldI rfl rfl ?_
                           refine w_ldI rfl rfl ?_
                           refine w_ast rfl rfl rfl (by omega) rfl ?_
                           refine w_ldR rfl rfl rfl ?_
                           first | refine w_getI rfl rfl rfl rfl rfl ?_ | refine w_getR rfl rfl rfl rfl rfl ?_
                           try simp only [hD]
                           refine w_ldI rfl rfl ?_
                           refine w_ldI rfl rfl ?_
                           refine w_irNe0 rfl (by omega) (fun b44 => ?_) (fun b44 => ?_)
                           · first
                             | (exfalso; omega)
                             | (refine w_ldI rfl rfl ?_
                                refine w_ast rfl rfl rfl (by omega) rfl ?_
                                refine w_push rfl ?_
                                refine w_StI_5_4 rfl rfl ?_
                                refine l_msheet hw 0 0 rfl (by omega) (fun q h3 h4 => by omega) (fun s1 hf h3 h4 => ⟨rfl, ?_, ?_, h3, fun j hj => ?_, ((Fr.us rfl).tr (Fr.us rfl)).tr (Fr.mono rfl hf)⟩)
                                · rw [hf.at 160 rfl, us_ne (by decide), us_eq]
                                · rw [hf.at 161 rfl, us_eq, us_ne (by decide)]
                                  first
                                  | rw [if_pos (by omega)]
                                  | rw [if_neg (by omega)]
                                · rw [h4 j hj, us_ne (by decide), us_ne (by decide)])
                           · first
                             | (exfalso; omega)
                             | (refine w_push rfl ?_
                                refine w_go rfl ?_
                                refine w_ast rfl rfl rfl (by omega) rfl ?_
                                refine w_push rfl ?_
                                refine w_StI_5_4 rfl rfl ?_
                                refine l_msheet hw 0 0 rfl (by omega) (fun q h3 h4 => by omega) (fun s1 hf h3 h4 => ⟨rfl, ?_, ?_, h3, fun j hj => ?_, ((Fr.us rfl).tr (Fr.us rfl)).tr (Fr.mono rfl hf)⟩)
                                · rw [hf.at 160 rfl, us_ne (by decide), us_eq]
                                · rw [hf.at 161 rfl, us_eq, us_ne (by decide)]
                                  first
                                  | rw [if_pos (by omega)]
                                  | rw [if_neg (by omega)]
                                · rw [h4 j hj, us_ne (by decide), us_ne (by decide)]))
                      · first
                        | (exfalso; omega)
                        | (refine w_ldI rfl rfl ?_
                           refine w_push rfl ?_
                           refine w_crLe rfl (by omega) (by omega) (fun b30 => ?_) (fun b30 => ?_)
                           · first
                             | (exfalso; omega)
                             | (refine w_ldR rfl rfl rfl ?_
                                first | refine w_getI rfl rfl rfl rfl rfl ?_ | refine w_getR rfl rfl rfl rfl rfl ?_
                                try simp only [hD]
                                refine w_ldI rfl rfl ?_
                                refine w_ldI rfl rfl ?_
                                refine w_ast rfl rfl rfl (by omega) rfl ?_
                                refine w_ldR rfl rfl rfl ?_
                                first | refine w_getI rfl rfl rfl rfl rfl ?_ | refine w_getR rfl rfl rfl rfl rfl ?_
                                try simp only [hD]
                                refine w_ldI rfl rfl ?_
                                refine w_ldI rfl rfl ?_
                                refine w_irNe0 rfl (by omega) (fun b44 => ?_) (fun b44 => ?_)
                                · first
                                  | (exfalso; omega)
                                  | (refine w_ldI rfl rfl ?_
                                     refine w_ast rfl rfl rfl (by omega) rfl ?_
                                     refine w_push rfl ?_
                                     refine w_StI_5_4 rfl rfl ?_
                                     refine l_msheet hw 0 0 rfl (by omega) (fun q h3 h4 => by omega) (fun s1 hf h3 h4 => ⟨rfl, ?_, ?_, h3, fun j hj => ?_, ((Fr.us rfl).tr (Fr.us rfl)).tr (Fr.mono rfl hf)⟩)
                                     · rw [hf.at 160 rfl, us_ne (by decide), us_eq]
                                     · rw [hf.at 161 rfl, us_eq, us_ne (by decide)]
                                       first
                                       | rw [if_pos (by omega)]
                                       | rw [if_neg (by omega)]
                                     · rw [h4 j hj, us_ne (by decide), us_ne (by decide)])
                                · first
                                  | (exfalso; omega)
                                  | (refine w_push rfl ?_
                                     refine w_go rfl ?_
                                     refine w_ast rfl rfl rfl (by omega) rfl ?_
                                     refine w_push rfl ?_
                                     refine w_StI_5_4 rfl rfl ?_
                                     refine l_msheet hw 0 0 rfl (by omega) (fun q h3 h4 => by omega) (fun s1 hf h3 h4 => ⟨rfl, ?_, ?_, h3, fun j hj => ?_, ((Fr.us rfl).tr (Fr.us rfl)).tr (Fr.mono rfl hf)⟩)
                                     · rw [hf.at 160 rfl, us_ne (by decide), us_eq]
                                     · rw [hf.at 161 rfl, us_eq, us_ne (by decide)]
                                       first
                                       | rw [if_pos (by omega)]
                                       | rw [if_neg (by omega)]
                                     · rw [h4 j hj, us_ne (by decide), us_ne (by decide)]))
                           · first
                             | (exfalso; omega)
                             | (refine w_ldR rfl rfl rfl ?_
                                refine w_push rfl ?_
                                refine w_callV rfl rfl rfl rfl rfl rfl rfl r_finds1 ?_
                                try simp only [hD]
                                refine w_retI rfl ?_
                                exact ⟨rfl, rfl⟩)))
                 · first
                   | (exfalso; omega)
                   | (refine w_ldR rfl rfl rfl ?_
                      refine w_push rfl ?_
                      refine w_callV rfl rfl rfl rfl rfl rfl rfl r_finds1 ?_
                      try simp only [hD]
                      refine w_retI rfl ?_
                      exact ⟨rfl, rfl⟩)))
       · first
         | (exfalso; omega)
         | (refine w_ldI rfl rfl ?_
            refine w_push rfl ?_
            refine w_crEq rfl (by omega) (by omega) (fun b7 => ?_) (fun b7 => ?_)
            · first
              | (exfalso; omega)
              | (refine w_ldI rfl rfl ?_
                 refine w_irEq0 rfl (by omega) (fun b19 => ?_) (fun b19 => ?_)
                 · first
                   | (exfalso; omega)
                   | (refine w_ldI rfl rfl ?_
                      refine w_irEq0 rfl (by omega) (fun b27 => ?_) (fun b27 => ?_)
                      · first
                        | (exfalso; omega)
                        | (refine w_ldR rfl rfl rfl ?_
                           first | refine w_getI rfl rfl rfl rfl rfl ?_ | refine w_getR rfl rfl rfl rfl rfl ?_
                           try simp only [hD]
                           refine w_ldI rfl rfl ?_
                           refine w_ldI rfl rfl ?_
                           refine w_ast rfl rfl rfl (by omega) rfl ?_
                           refine w_ldR rfl rfl rfl ?_
                           first | refine w_getI rfl rfl rfl rfl rfl ?_ | refine w_getR rfl rfl rfl rfl rfl ?_
                           try simp only [hD]
                           refine w_ldI rfl rfl ?_
                           refine w_ldI rfl rfl ?_
                           refine w_irNe0 rfl (by omega) (fun b44 => ?_) (fun b44 => ?_)
                           · first
                             | (exfalso; omega)
                             | (refine w_ldI rfl rfl ?_
                                refine w_ast rfl rfl rfl (by omega) rfl ?_
                                refine w_push rfl ?_
                                refine w_StI_5_4 rfl rfl ?_
                                refine l_msheet hw 0 0 rfl (by omega) (fun q h3 h4 => by omega) (fun s1 hf h3 h4 => ⟨rfl, ?_, ?_, h3, fun j hj => ?_, ((Fr.us rfl).tr (Fr.us rfl)).tr (Fr.mono rfl hf)⟩)
                                · rw [hf.at 160 rfl, us_ne (by decide), us_eq]
                                · rw [hf.at 161 rfl, us_eq, us_ne (by decide)]
                                  first
                                  | rw [if_pos (by omega)]
                                  | rw [if_neg (by omega)]
                                · rw [h4 j hj, us_ne (by decide), us_ne (by decide)])
                           · first
                             | (exfalso; omega)
                             | (refine w_push rfl ?_
                                refine w_go rfl ?_
                                refine w_ast rfl rfl rfl (by omega) rfl ?_
                                refine w_push rfl ?_
                                refine w_StI_5_4 rfl rfl ?_
                                refine l_msheet hw 0 0 rfl (by omega) (fun q h3 h4 => by omega) (fun s1 hf h3 h4 => ⟨rfl, ?_, ?_, h3, fun j hj => ?_, ((Fr.us rfl).tr (Fr.us rfl)).tr (Fr.mono rfl hf)⟩)
                                · rw [hf.at 160 rfl, us_ne (by decide), us_eq]
                                · rw [hf.at 161 rfl, us_eq, us_ne (by decide)]
                                  first
                                  | rw [if_pos (by omega)]
                                  | rw [if_neg (by omega)]
                                · rw [h4 j hj, us_ne (by decide), us_ne (by decide)]))
                      · first
                        | (exfalso; omega)
                        | (refine w_ldI rfl rfl ?_
                           refine w_push rfl ?_
                           refine w_crLe rfl (by omega) (by omega) (fun b30 => ?_) (fun b30 => ?_)
                           · first
                             | (exfalso; omega)
                             | (refine w_ldR rfl rfl rfl ?_
                                first | refine w_getI rfl rfl rfl rfl rfl ?_ | refine w_getR rfl rfl rfl rfl rfl ?_
                                try simp only [hD]
                                refine w_ldI rfl rfl ?_
                                refine w_ldI rfl rfl ?_
                                refine w_ast rfl rfl rfl (by omega) rfl ?_
                                refine w_ldR rfl rfl rfl ?_
                                first | refine w_getI rfl rfl rfl rfl rfl ?_ | refine w_getR rfl rfl rfl rfl rfl ?_
                                try simp only [hD]
                                refine w_ldI rfl rfl ?_
                                refine w_ldI rfl rfl ?_
                                refine w_irNe0 rfl (by omega) (fun b44 => ?_) (fun b44 => ?_)
                                · first
                                  | (exfalso; omega)
                                  | (refine w_ldI rfl rfl ?_
                                     refine w_ast rfl rfl rfl (by omega) rfl ?_
                                     refine w_push rfl ?_
                                     refine w_StI_5_4 rfl rfl ?_
                                     refine l_msheet hw 0 0 rfl (by omega) (fun q h3 h4 => by omega) (fun s1 hf h3 h4 => ⟨rfl, ?_, ?_, h3, fun j hj => ?_, ((Fr.us rfl).tr (Fr.us rfl)).tr (Fr.mono rfl hf)⟩)
                                     · rw [hf.at 160 rfl, us_ne (by decide), us_eq]
                                     · rw [hf.at 161 rfl, us_eq, us_ne (by decide)]
                                       first
                                       | rw [if_pos (by omega)]
                                       | rw [if_neg (by omega)]
                                     · rw [h4 j hj, us_ne (by decide), us_ne (by decide)])
                                · first
                                  | (exfalso; omega)
                                  | (refine w_push rfl ?_
                                     refine w_go rfl ?_
                                     refine w_ast rfl rfl rfl (by omega) rfl ?_
                                     refine w_push rfl ?_
                                     refine w_StI_5_4 rfl rfl ?_
                                     refine l_msheet hw 0 0 rfl (by omega) (fun q h3 h4 => by omega) (fun s1 hf h3 h4 => ⟨rfl, ?_, ?_, h3, fun j hj => ?_, ((Fr.us rfl).tr (Fr.us rfl)).tr (Fr.mono rfl hf)⟩)
                                     · rw [hf.at 160 rfl, us_ne (by decide), us_eq]
                                     · rw [hf.at 161 rfl, us_eq, us_ne (by decide)]
                                       first
                                       | rw [if_pos (by omega)]
                                       | rw [if_neg (by omega)]
                                     · rw [h4 j hj, us_ne (by decide), us_ne (by decide)]))
                           · first
                             | (exfalso; omega)
                             | (refine w_ldR rfl rfl rfl ?_
                                refine w_push rfl ?_
                                refine w_callV rfl rfl rfl rfl rfl rfl rfl r_finds1 ?_
                                try simp only [hD]
                                refine w_retI rfl ?_
                                exact ⟨rfl, rfl⟩)))
                 · first
                   | (exfalso; omega)
                   | (refine w_ldI rfl rfl ?_
                      refine w_irGe0 rfl (by omega) (fun b21 => ?_) (fun b21 => ?_)
                      · first
                        | (exfalso; omega)
                        | (refine w_ldI rfl rfl ?_
                           refine w_irEq0 rfl (by omega) (fun b27 => ?_) (fun b27 => ?_)
                           · first
                             | (exfalso; omega)
                             | (refine w_ldR rfl rfl rfl ?_
                                first | refine w_getI rfl rfl rfl rfl rfl ?_ | refine w_getR rfl rfl rfl rfl rfl ?_
                                try simp only [hD]
                                refine w_ldI rfl rfl ?_
                                refine w_ldI rfl rfl ?_
                                refine w_ast rfl rfl rfl (by omega) rfl ?_
                                refine w_ldR rfl rfl rfl ?_
                                first | refine w_getI rfl rfl rfl rfl rfl ?_ | refine w_getR rfl rfl rfl rfl rfl ?_
                                try simp only [hD]
                                refine w_ldI rfl rfl ?_
                                refine w_ldI rfl rfl ?_
                                refine w_irNe0 rfl (by omega) (fun b44 => ?_) (fun b44 => ?_)
                                · first
                                  | (exfalso; omega)
                                  | (refine w_ldI rfl rfl ?_
                                     refine w_ast rfl rfl rfl (by omega) rfl ?_
                                     refine w_push rfl ?_
                                     refine w_StI_5_4 rfl rfl ?_
                                     refine l_msheet hw 0 0 rfl (by omega) (fun q h3 h4 => by omega) (fun s1 hf h3 h4 => ⟨rfl, ?_, ?_, h3, fun j hj => ?_, ((Fr.us rfl).tr (Fr.us rfl)).tr (Fr.mono rfl hf)⟩)
                                     · rw [hf.at 160 rfl, us_ne (by decide), us_eq]
                                     · rw [hf.at 161 rfl, us_eq, us_ne (by decide)]
                                       first
                                       | rw [if_pos (by omega)]
                                       | rw [if_neg (by omega)]
                                     · rw [h4 j hj, us_ne (by decide), us_ne (by decide)])
                                · first
                                  | (exfalso; omega)
                                  | (refine w_push rfl ?_
                                     refine w_go rfl ?_
                                     refine w_ast rfl rfl rfl (by omega) rfl ?_
                                     refine w_push rfl ?_
                                     refine w_StI_5_4 rfl rfl ?_
                                     refine l_msheet hw 0 0 rfl (by omega) (fun q h3 h4 => by omega) (fun s1 hf h3 h4 => ⟨rfl, ?_, ?_, h3, fun j hj => ?_, ((Fr.us rfl).tr (Fr.us rfl)).tr (Fr.mono rfl hf)⟩)
                                     · rw [hf.at 160 rfl, us_ne (by decide), us_eq]
                                     · rw [hf.at 161 rfl, us_eq, us_ne (by decide)]
                                       first
                                       | rw [if_pos (by omega)]
                                       | rw [if_neg (by omega)]
                                     · rw [h4 j hj, us_ne (by decide), us_ne (by decide)]))
                           · first
                             | (exfalso; omega)
                             | (refine w_ldI rfl rfl ?_
                                refine w_push rfl ?_
                                refine w_crLe rfl (by omega) (by omega) (fun b30 => ?_) (fun b30 => ?_)
                                · first
                                  | (exfalso; omega)
                                  | (refine w_ldR rfl rfl rfl ?_
                                     first | refine w_getI rfl rfl rfl rfl rfl ?_ | refine w_getR rfl rfl rfl rfl rfl ?_
                                     try simp only [hD]
                                     refine w_ldI rfl rfl ?_
                                     refine w_ldI rfl rfl ?_
                                     refine w_ast rfl rfl rfl (by omega) rfl ?_
                                     refine w_ldR rfl rfl rfl ?_
                                     first | refine w_getI rfl rfl rfl rfl rfl ?_ | refine w_getR rfl rfl rfl rfl rfl ?_
                                     try simp only [hD]
                                     refine w_ldI rfl rfl ?_
                                     refine w_ldI rfl rfl ?_
                                     refine w_irNe0 rfl (by omega) (fun b44 => ?_) (fun b44 => ?_)
                                     · first
                                       | (exfalso; omega)
                                       | (refine w_ldI rfl rfl ?_
                                          refine w_ast rfl rfl rfl (by omega) rfl ?_
                                          refine w_push rfl ?_
                                          refine w_StI_5_4 rfl rfl ?_
                                          refine l_msheet hw 0 0 rfl (by omega) (fun q h3 h4 => by omega) (fun s1 hf h3 h4 => ⟨rfl, ?_, ?_, h3, fun j hj => ?_, ((Fr.us rfl).tr (Fr.us rfl)).tr (Fr.mono rfl hf)⟩)
                                          · rw [hf.at 160 rfl, us_ne (by decide), us_eq]
                                          · rw [hf.at 161 rfl, us_eq, us_ne (by decide)]
                                            first
                                            | rw [if_pos (by omega)]
                                            | rw [if_neg (by omega)]
                                          · rw [h4 j hj, us_ne (by decide), us_ne (by decide)])
                                     · first
                                       | (exfalso; omega)
                                       | (refine w_push rfl ?_
                                          refine w_go rfl ?_
                                          refine w_ast rfl rfl rfl (by omega) rfl ?_
                                          refine w_push rfl ?_
                                          refine w_StI_5_4 rfl rfl ?_
                                          refine l_msheet hw 0 0 rfl (by omega) (fun q h3 h4 => by omega) (fun s1 hf h3 h4 => ⟨rfl, ?_, ?_, h3, fun j hj => ?_, ((Fr.us rfl).tr (Fr.us rfl)).tr (Fr.mono rfl hf)⟩)
                                          · rw [hf.at 160 rfl, us_ne (by decide), us_eq]
                                          · rw [hf.at 161 rfl, us_eq, us_ne (by decide)]
                                            first
                                            | rw [if_pos (by omega)]
                                            | rw [if_neg (by omega)]
                                          · rw [h4 j hj, us_ne (by decide), us_ne (by decide)]))
                                · first
                                  | (exfalso; omega)
                                  | (refine w_ldR rfl rfl rfl ?_
                                     refine w_push rfl ?_
                                     refine w_callV rfl rfl rfl rfl rfl rfl rfl r_finds1 ?_
                                     try simp only [hD]
                                     refine w_retI rfl ?_
                                     exact ⟨rfl, rfl⟩)))
                      · first
                        | (exfalso; omega)
                        | (refine w_ldR rfl rfl rfl ?_
                           refine w_push rfl ?_
                           refine w_callV rfl rfl rfl rfl rfl rfl rfl r_finds1 ?_
                           try simp only [hD]
                           refine w_retI rfl ?_
                           exact ⟨rfl, rfl⟩)))
            · first
              | (exfalso; omega)
              | (refine w_ldI rfl rfl ?_
                 refine w_push rfl ?_
                 refine w_crEq rfl (by omega) (by omega) (fun b10 => ?_) (fun b10 => ?_)
                 · first
                   | (exfalso; omega)
                   | (refine w_ldI rfl rfl ?_
                      refine w_irEq0 rfl (by omega) (fun b19 => ?_) (fun b19 => ?_)
                      · first
                        | (exfalso; omega)
                        | (refine w_ldI rfl rfl ?_
                           refine w_irEq0 rfl (by omega) (fun b27 => ?_) (fun b27 => ?_)
                           · first
                             | (exfalso; omega)
                             | (refine w_ldR rfl rfl rfl ?_
                                first | refine w_getI rfl rfl rfl rfl rfl ?_ | refine w_getR rfl rfl rfl rfl rfl ?_
                                try simp only [hD]
                                refine w_ldI rfl rfl ?_
                                refine w_ldI rfl rfl ?_
                                refine w_ast rfl rfl rfl (by omega) rfl ?_
                                refine w_ldR rfl rfl rfl ?_
                                first | refine w_getI rfl rfl rfl rfl rfl ?_ | refine w_getR rfl rfl rfl rfl rfl ?_
                                try simp only [hD]
                                refine w_ldI rfl rfl ?_
                                refine w_ldI rfl rfl ?_
                                refine w_irNe0 rfl (by omega) (fun b44 => ?_) (fun b44 => ?_)
                                · first
                                  | (exfalso; omega)
                                  | (refine w_ldI rfl rfl ?_
                                     refine w_ast rfl rfl rfl (by omega) rfl ?_
                                     refine w_push rfl ?_
                                     refine w_StI_5_4 rfl rfl ?_
                                     refine l_msheet hw 0 0 rfl (by omega) (fun q h3 h4 => by omega) (fun s1 hf h3 h4 => ⟨rfl, ?_, ?_, h3, fun j hj => ?_, ((Fr.us rfl).tr (Fr.us rfl)).tr (Fr.mono rfl hf)⟩)
                                     · rw [hf.at 160 rfl, us_ne (by decide), us_eq]
                                     · rw [hf.at 161 rfl, us_eq, us_ne (by decide)]
                                       first
                                       | rw [if_pos (by omega)]
                                       | rw [if_neg (by omega)]
                                     · rw [h4 j hj, us_ne (by decide), us_ne (by decide)])
                                · first
                                  | (exfalso; omega)
                                  | (refine w_push rfl ?_
                                     refine w_go rfl ?_
                                     refine w_ast rfl rfl rfl (by omega) rfl ?_
                                     refine w_push rfl ?_
                                     refine w_StI_5_4 rfl rfl ?_
                                     refine l_msheet hw 0 0 rfl (by omega) (fun q h3 h4 => by omega) (fun s1 hf h3 h4 => ⟨rfl, ?_, ?_, h3, fun j hj => ?_, ((Fr.us rfl).tr (Fr.us rfl)).tr (Fr.mono rfl hf)⟩)
                                     · rw [hf.at 160 rfl, us_ne (by decide), us_eq]
                                     · rw [hf.at 161 rfl, us_eq, us_ne (by decide)]
                                       first
                                       | rw [if_pos (by omega)]
                                       | rw [if_neg (by omega)]
                                     · rw [h4 j hj, us_ne (by decide), us_ne (by decide)]))
                           · first
                             | (exfalso; omega)
                             | (refine w_ldI rfl rfl ?_
                                refine w_push rfl ?_
                                refine w_crLe rfl (by omega) (by omega) (fun b30 => ?_) (fun b30 => ?_)
                                · first
                                  | (exfalso; omega)
                                  | (refine w_ldR rfl rfl rfl ?_
                                     first | refine w_getI rfl rfl rfl rfl rfl ?_ | refine w_getR rfl rfl rfl rfl rfl ?_
                                     try simp only [hD]
                                     refine w_ldI rfl rfl ?_
                                     refine w_ldI rfl rfl ?_
                                     refine w_ast rfl rfl rfl (by omega) rfl ?_
                                     refine w_ldR rfl rfl rfl ?_
                                     first | refine w_getI rfl rfl rfl rfl rfl ?_ | refine w_getR rfl rfl rfl rfl rfl ?_
                                     try simp only [hD]
                                     refine w_ldI rfl rfl ?_
                                     refine w_ldI rfl rfl ?_
                                     refine w_irNe0 rfl (by omega) (fun b44 => ?_) (fun b44 => ?_)
                                     · first
                                       | (exfalso; omega)
                                       | (refine w_ldI rfl rfl ?_
                                          refine w_ast rfl rfl rfl (by omega) rfl ?_
                                          refine w_push rfl ?_
                                          refine w_StI_5_4 rfl rfl ?_
                                          refine l_msheet hw 0 0 rfl (by omega) (fun q h3 h4 => by omega) (fun s1 hf h3 h4 => ⟨rfl, ?_, ?_, h3, fun j hj => ?_, ((Fr.us rfl).tr (Fr.us rfl)).tr (Fr.mono rfl hf)⟩)
                                          · rw [hf.at 160 rfl, us_ne (by decide), us_eq]
                                          · rw [hf.at 161 rfl, us_eq, us_ne (by decide)]
                                            first
                                            | rw [if_pos (by omega)]
                                            | rw [if_neg (by omega)]
                                          · rw [h4 j hj, us_ne (by decide), us_ne (by decide)])
                                     · first
                                       | (exfalso; omega)
                                       | (refine w_push rfl ?_
                                          refine w_go rfl ?_
                                          refine w_ast rfl rfl rfl (by omega) rfl ?_
                                          refine w_push rfl ?_
                                          refine w_StI_5_4 rfl rfl ?_
                                          refine l_msheet hw 0 0 rfl (by omega) (fun q h3 h4 => by omega) (fun s1 hf h3 h4 => ⟨rfl, ?_, ?_, h3, fun j hj => ?_, ((Fr.us rfl).tr (Fr.us rfl)).tr (Fr.mono rfl hf)⟩)
                                          · rw [hf.at 160 rfl, us_ne (by decide), us_eq]
                                          · rw [hf.at 161 rfl, us_eq, us_ne (by decide)]
                                            first
                                            | rw [if_pos (by omega)]
                                            | rw [if_neg (by omega)]
                                          · rw [h4 j hj, us_ne (by decide), us_ne (by decide)]))
                                · first
                                  | (exfalso; omega)
                                  | (refine w_ldR rfl rfl rfl ?_
                                     refine w_push rfl ?_
                                     refine w_callV rfl rfl rfl rfl rfl rfl rfl r_finds1 ?_
                                     try simp only [hD]
                                     refine w_retI rfl ?_
                                     exact ⟨rfl, rfl⟩)))
                      · first
                        | (exfalso; omega)
                        | (refine w_ldI rfl rfl ?_
                           refine w_irGe0 rfl (by omega) (fun b21 => ?_) (fun b21 => ?_)
                           · first
                             | (exfalso; omega)
                             | (refine w_ldI rfl rfl ?_
                                refine w_irEq0 rfl (by omega) (fun b27 => ?_) (fun b27 => ?_)
                                · first
                                  | (exfalso; omega)
                                  | (refine w_ldR rfl rfl rfl ?_
                                     first | refine w_getI rfl rfl rfl rfl rfl ?_ | refine w_getR rfl rfl rfl rfl rfl ?_
                                     try simp only [hD]
                                     refine w_ldI rfl rfl ?_
                                     refine w_ldI rfl rfl ?_
                                     refine w_ast rfl rfl rfl (by omega) rfl ?_
                                     refine w_ldR rfl rfl rfl ?_
                                     first | refine w_getI rfl rfl rfl rfl rfl ?_ | refine w_getR rfl rfl rfl rfl rfl ?_
                                     try simp only [hD]
                                     refine w_ldI rfl rfl ?_
                                     refine w_ldI rfl rfl ?_
                                     refine w_irNe0 rfl (by omega) (fun b44 => ?_) (fun b44 => ?_)
                                     · first
                                       | (exfalso; omega)
                                       | (refine w_ldI rfl rfl ?_
                                          refine w_ast rfl rfl rfl (by omega) rfl ?_
                                          refine w_push rfl ?_
                                          refine w_StI_5_4 rfl rfl ?_
                                          refine l_msheet hw 0 0 rfl (by omega) (fun q h3 h4 => by omega) (fun s1 hf h3 h4 => ⟨rfl, ?_, ?_, h3, fun j hj => ?_, ((Fr.us rfl).tr (Fr.us rfl)).tr (Fr.mono rfl hf)⟩)
                                          · rw [hf.at 160 rfl, us_ne (by decide), us_eq]
                                          · rw [hf.at 161 rfl, us_eq, us_ne (by decide)]
                                            first
                                            | rw [if_pos (by omega)]
                                            | rw [if_neg (by omega)]
                                          · rw [h4 j hj, us_ne (by decide), us_ne (by decide)])
                                     · first
                                       | (exfalso; omega)
                                       | (refine w_push rfl ?_
                                          refine w_go rfl ?_
                                          refine w_ast rfl rfl rfl (by omega) rfl ?_
                                          refine w_push rfl ?_
                                          refine w_StI_5_4 rfl rfl ?_
                                          refine l_msheet hw 0 0 rfl (by omega) (fun q h3 h4 => by omega) (fun s1 hf h3 h4 => ⟨rfl, ?_, ?_, h3, fun j hj => ?_, ((Fr.us rfl).tr (Fr.us rfl)).tr (Fr.mono rfl hf)⟩)
                                          · rw [hf.at 160 rfl, us_ne (by decide), us_eq]
                                          · rw [hf.at 161 rfl, us_eq, us_ne (by decide)]
                                            first
                                            | rw [if_pos (by omega)]
                                            | rw [if_neg (by omega)]
                                          · rw [h4 j hj, us_ne (by decide), us_ne (by decide)]))
                                · first
                                  | (exfalso; omega)
                                  | (refine w_ldI rfl rfl ?_
                                     refine w_push rfl ?_
                                     refine w_crLe rfl (by omega) (by omega) (fun b30 => ?_) (fun b30 => ?_)
                                     · first
                                       | (exfalso; omega)
                                       | (refine w_ldR rfl rfl rfl ?_
                                          first | refine w_getI rfl rfl rfl rfl rfl ?_ | refine w_getR rfl rfl rfl rfl rfl ?_
                                          try simp only [hD]
                                          refine w_ldI rfl rfl ?_
                                          refine w_ldI rfl rfl ?_
                                          refine w_ast rfl rfl rfl (by omega) rfl ?_
                                          refine w_ldR rfl rfl rfl ?_
                                          first | refine w_getI rfl rfl rfl rfl rfl ?_ | refine w_getR rfl rfl rfl rfl rfl ?_
                                          try simp only [hD]
                                          refine w_ldI rfl rfl ?_
                                          refine w_ldI rfl rfl ?_
                                          refine w_irNe0 rfl (by omega) (fun b44 => ?_) (fun b44 => ?_)
                                          · first
                                            | (exfalso; omega)
                                            | (refine w_ldI rfl rfl ?_
                                               refine w_ast rfl rfl rfl (by omega) rfl ?_
                                               refine w_push rfl ?_
                                               refine w_StI_5_4 rfl rfl ?_
                                               refine l_msheet hw 0 0 rfl (by omega) (fun q h3 h4 => by omega) (fun s1 hf h3 h4 => ⟨rfl, ?_, ?_, h3, fun j hj => ?_, ((Fr.us rfl).tr (Fr.us rfl)).tr (Fr.mono rfl hf)⟩)
                                               · rw [hf.at 160 rfl, us_ne (by decide), us_eq]
                                               · rw [hf.at 161 rfl, us_eq, us_ne (by decide)]
                                                 first
                                                 | rw [if_pos (by omega)]
                                                 | rw [if_neg (by omega)]
                                               · rw [h4 j hj, us_ne (by decide), us_ne (by decide)])
                                          · first
                                            | (exfalso; omega)
                                            | (refine w_push rfl ?_
                                               refine w_go rfl ?_
                                               refine w_ast rfl rfl rfl (by omega) rfl ?_
                                               refine w_push rfl ?_
                                               refine w_StI_5_4 rfl rfl ?_
                                               refine l_msheet hw 0 0 rfl (by omega) (fun q h3 h4 => by omega) (fun s1 hf h3 h4 => ⟨rfl, ?_, ?_, h3, fun j hj => ?_, ((Fr.us rfl).tr (Fr.us rfl)).tr (Fr.mono rfl hf)⟩)
                                               · rw [hf.at 160 rfl, us_ne (by decide), us_eq]
                                               · rw [hf.at 161 rfl, us_eq, us_ne (by decide)]
                                                 first
                                                 | rw [if_pos (by omega)]
                                                 | rw [if_neg (by omega)]
                                               · rw [h4 j hj, us_ne (by decide), us_ne (by decide)]))
                                     · first
                                       | (exfalso; omega)
                                       | (refine w_ldR rfl rfl rfl ?_
                                          refine w_push rfl ?_
                                          refine w_callV rfl rfl rfl rfl rfl rfl rfl r_finds1 ?_
                                          try simp only [hD]
                                          refine w_retI rfl ?_
                                          exact ⟨rfl, rfl⟩)))
                           · first
                             | (exfalso; omega)
                             | (refine w_ldR rfl rfl rfl ?_
                                refine w_push rfl ?_
                                refine w_callV rfl rfl rfl rfl rfl rfl rfl r_finds1 ?_
                                try simp only [hD]
                                refine w_retI rfl ?_
                                exact ⟨rfl, rfl⟩)))
                 · first
                   | (exfalso; omega)
                   | (refine w_ldI rfl rfl ?_
                      refine w_push rfl ?_
                      refine w_crEq rfl (by omega) (by omega) (fun b13 => ?_) (fun b13 => ?_)
                      · first
                        | (exfalso; omega)
                        | (refine w_ldI rfl rfl ?_
                           refine w_irEq0 rfl (by omega) (fun b19 => ?_) (fun b19 => ?_)
                           · first
                             | (exfalso; omega)
                             | (refine w_ldI rfl rfl ?_
                                refine w_irEq0 rfl (by omega) (fun b27 => ?_) (fun b27 => ?_)
                                · first
                                  | (exfalso; omega)
                                  | (refine w_ldR rfl rfl rfl ?_
                                     first | refine w_getI rfl rfl rfl rfl rfl ?_ | refine w_getR rfl rfl rfl rfl rfl ?_
                                     try simp only [hD]
                                     refine w_ldI rfl rfl ?_
                                     refine w_ldI rfl rfl ?_
                                     refine w_ast rfl rfl rfl (by omega) rfl ?_
                                     refine w_ldR rfl rfl rfl ?_
                                     first | refine w_getI rfl rfl rfl rfl rfl ?_ | refine w_getR rfl rfl rfl rfl rfl ?_
                                     try simp only [hD]
                                     refine w_ldI rfl rfl ?_
                                     refine w_ldI rfl rfl ?_
                                     refine w_irNe0 rfl (by omega) (fun b44 => ?_) (fun b44 => ?_)
                                     · first
                                       | (exfalso; omega)
                                       | (refine w_ldI rfl rfl ?_
                                          refine w_ast rfl rfl rfl (by omega) rfl ?_
                                          refine w_push rfl ?_
                                          refine w_StI_5_4 rfl rfl ?_
                                          refine l_msheet hw 0 0 rfl (by omega) (fun q h3 h4 => by omega) (fun s1 hf h3 h4 => ⟨rfl, ?_, ?_, h3, fun j hj => ?_, ((Fr.us rfl).tr (Fr.us rfl)).tr (Fr.mono rfl hf)⟩)
                                          · rw [hf.at 160 rfl, us_ne (by decide), us_eq]
                                          · rw [hf.at 161 rfl, us_eq, us_ne (by decide)]
                                            first
                                            | rw [if_pos (by omega)]
                                            | rw [if_neg (by omega)]
                                          · rw [h4 j hj, us_ne (by decide), us_ne (by decide)])
                                     · first
                                       | (exfalso; omega)
                                       | (refine w_push rfl ?_
                                          refine w_go rfl ?_
                                          refine w_ast rfl rfl rfl (by omega) rfl ?_
                                          refine w_push rfl ?_
                                          refine w_StI_5_4 rfl rfl ?_
                                          refine l_msheet hw 0 0 rfl (by omega) (fun q h3 h4 => by omega) (fun s1 hf h3 h4 => ⟨rfl, ?_, ?_, h3, fun j hj => ?_, ((Fr.us rfl).tr (Fr.us rfl)).tr (Fr.mono rfl hf)⟩)
                                          · rw [hf.at 160 rfl, us_ne (by decide), us_eq]
                                          · rw [hf.at 161 rfl, us_eq, us_ne (by decide)]
                                            first
                                            | rw [if_pos (by omega)]
                                            | rw [if_neg (by omega)]
                                          · rw [h4 j hj, us_ne (by decide), us_ne (by decide)]))
                                · first
                                  | (exfalso; omega)
                                  | (refine w_ldI rfl rfl ?_
                                     refine w_push rfl ?_
                                     refine w_crLe rfl (by omega) (by omega) (fun b30 => ?_) (fun b30 => ?_)
                                     · first
                                       | (exfalso; omega)
                                       | (refine w_ldR rfl rfl rfl ?_
                                          first | refine w_getI rfl rfl rfl rfl rfl ?_ | refine w_getR rfl rfl rfl rfl rfl ?_
                                          try simp only [hD]
                                          refine w_ldI rfl rfl ?_
                                          refine w_ldI rfl rfl ?_
                                          refine w_ast rfl rfl rfl (by omega) rfl ?_
                                          refine w_ldR rfl rfl rfl ?_
                                          first | refine w_getI rfl rfl rfl rfl rfl ?_ | refine w_getR rfl rfl rfl rfl rfl ?_
                                          try simp only [hD]
                                          refine w_ldI rfl rfl ?_
                                          refine w_ldI rfl rfl ?_
                                          refine w_irNe0 rfl (by omega) (fun b44 => ?_) (fun b44 => ?_)
                                          · first
                                            | (exfalso; omega)
                                            | (refine w_ldI rfl rfl ?_
                                               refine w_ast rfl rfl rfl (by omega) rfl ?_
                                               refine w_push rfl ?_
                                               refine w_StI_5_4 rfl rfl ?_
                                               refine l_msheet hw 0 0 rfl (by omega) (fun q h3 h4 => by omega) (fun s1 hf h3 h4 => ⟨rfl, ?_, ?_, h3, fun j hj => ?_, ((Fr.us rfl).tr (Fr.us rfl)).tr (Fr.mono rfl hf)⟩)
                                               · rw [hf.at 160 rfl, us_ne (by decide), us_eq]
                                               · rw [hf.at 161 rfl, us_eq, us_ne (by decide)]
                                                 first
                                                 | rw [if_pos (by omega)]
                                                 | rw [if_neg (by omega)]
                                               · rw [h4 j hj, us_ne (by decide), us_ne (by decide)])
                                          · first
                                            | (exfalso; omega)
                                            | (refine w_push rfl ?_
                                               refine w_go rfl ?_
                                               refine w_ast rfl rfl rfl (by omega) rfl ?_
                                               refine w_push rfl ?_
                                               refine w_StI_5_4 rfl rfl ?_
                                               refine l_msheet hw 0 0 rfl (by omega) (fun q h3 h4 => by omega) (fun s1 hf h3 h4 => ⟨rfl, ?_, ?_, h3, fun j hj => ?_, ((Fr.us rfl).tr (Fr.us rfl)).tr (Fr.mono rfl hf)⟩)
                                               · rw [hf.at 160 rfl, us_ne (by decide), us_eq]
                                               · rw [hf.at 161 rfl, us_eq, us_ne (by decide)]
                                                 first
                                                 | rw [if_pos (by omega)]
                                                 | rw [if_neg (by omega)]
                                               · rw [h4 j hj, us_ne (by decide), us_ne (by decide)]))
                                     · first
                                       | (exfalso; omega)
                                       | (refine w_ldR rfl rfl rfl ?_
                                          refine w_push rfl ?_
                                          refine w_callV rfl rfl rfl rfl rfl rfl rfl r_finds1 ?_
                                          try simp only [hD]
                                          refine w_retI rfl ?_
                                          exact ⟨rfl, rfl⟩)))
                           · first
                             | (exfalso; omega)
                             | (refine w_ldI rfl rfl ?_
                                refine w_irGe0 rfl (by omega) (fun b21 => ?_) (fun b21 => ?_)
                                · first
                                  | (exfalso; omega)
                                  | (refine w_ldI rfl rfl ?_
                                     refine w_irEq0 rfl (by omega) (fun b27 => ?_) (fun b27 => ?_)
                                     · first
                                       | (exfalso; omega)
                                       | (refine w_ldR rfl rfl rfl ?_
                                          first | refine w_getI rfl rfl rfl rfl rfl ?_ | refine w_getR rfl rfl rfl rfl rfl ?_
                                          try simp only [hD]
                                          refine w_ldI rfl rfl ?_
                                          refine w_ldI rfl rfl ?_
                                          refine w_ast rfl rfl rfl (by omega) rfl ?_
                                          refine w_ldR rfl rfl rfl ?_
                                          first | refine w_getI rfl rfl rfl rfl rfl ?_ | refine w_getR rfl rfl rfl rfl rfl ?_
                                          try simp only [hD]
                                          refine w_ldI rfl rfl ?_
                                          refine w_ldI rfl rfl ?_
                                          refine w_irNe0 rfl (by omega) (fun b44 => ?_) (fun b44 => ?_)
                                          · first
                                            | (exfalso; omega)
                                            | (refine w_ldI rfl rfl ?_
                                               refine w_ast rfl rfl rfl (by omega) rfl ?_
                                               refine w_push rfl ?_
                                               refine w_StI_5_4 rfl rfl ?_
                                               refine l_msheet hw 0 0 rfl (by omega) (fun q h3 h4 => by omega) (fun s1 hf h3 h4 => ⟨rfl, ?_, ?_, h3, fun j hj => ?_, ((Fr.us rfl).tr (Fr.us rfl)).tr (Fr.mono rfl hf)⟩)
                                               · rw [hf.at 160 rfl, us_ne (by decide), us_eq]
                                               · rw [hf.at 161 rfl, us_eq, us_ne (by decide)]
                                                 first
                                                 | rw [if_pos (by omega)]
                                                 | rw [if_neg (by omega)]
                                               · rw [h4 j hj, us_ne (by decide), us_ne (by decide)])
                                          · first
                                            | (exfalso; omega)
                                            | (refine w_push rfl ?_
                                               refine w_go rfl ?_
                                               refine w_ast rfl rfl rfl (by omega) rfl ?_
                                               refine w_push rfl ?_
                                               refine w_StI_5_4 rfl rfl ?_
                                               refine l_msheet hw 0 0 rfl (by omega) (fun q h3 h4 => by omega) (fun s1 hf h3 h4 => ⟨rfl, ?_, ?_, h3, fun j hj => ?_, ((Fr.us rfl).tr (Fr.us rfl)).tr (Fr.mono rfl hf)⟩)
                                               · rw [hf.at 160 rfl, us_ne (by decide), us_eq]
                                               · rw [hf.at 161 rfl, us_eq, us_ne (by decide)]
                                                 first
                                                 | rw [if_pos (by omega)]
                                                 | rw [if_neg (by omega)]
                                               · rw [h4 j hj, us_ne (by decide), us_ne (by decide)]))
                                     · first
                                       | (exfalso; omega)
                                       | (refine w_ldI rfl rfl ?_
                                          refine w_push rfl ?_
                                          refine w_crLe rfl (by omega) (by omega) (fun b30 => ?_) (fun b30 => ?_)
                                          · first
                                            | (exfalso; omega)
                                            | (refine w_ldR rfl rfl rfl ?_
                                               first | refine w_getI rfl rfl rfl rfl rfl ?_ | refine w_getR rfl rfl rfl rfl rfl ?_
                                               try simp only [hD]
                                               refine w_ldI rfl rfl ?_
                                               refine w_ldI rfl rfl ?_
                                               refine w_ast rfl rfl rfl (by omega) rfl ?_
                                               refine w_ldR rfl rfl rfl ?_
                                               first | refine w_getI rfl rfl rfl rfl rfl ?_ | refine w_getR rfl rfl rfl rfl rfl ?_
                                               try simp only [hD]
                                               refine w_ldI rfl rfl ?_
                                               refine w_ldI rfl rfl ?_
                                               refine w_irNe0 rfl (by omega) (fun b44 => ?_) (fun b44 => ?_)
                                               · first
                                                 | (exfalso; omega)
                                                 | (refine w_ldI rfl rfl ?_
                                                    refine w_ast rfl rfl rfl (by omega) rfl ?_
                                                    refine w_push rfl ?_
                                                    refine w_StI_5_4 rfl rfl ?_
                                                    refine l_msheet hw 0 0 rfl (by omega) (fun q h3 h4 => by omega) (fun s1 hf h3 h4 => ⟨rfl, ?_, ?_, h3, fun j hj => ?_, ((Fr.us rfl).tr (Fr.us rfl)).tr (Fr.mono rfl hf)⟩)
                                                    · rw [hf.at 160 rfl, us_ne (by decide), us_eq]
                                                    · rw [hf.at 161 rfl, us_eq, us_ne (by decide)]
                                                      first
                                                      | rw [if_pos (by omega)]
                                                      | rw [if_neg (by omega)]
                                                    · rw [h4 j hj, us_ne (by decide), us_ne (by decide)])
                                               · first
                                                 | (exfalso; omega)
                                                 | (refine w_push rfl ?_
                                                    refine w_go rfl ?_
                                                    refine w_ast rfl rfl rfl (by omega) rfl ?_
                                                    refine w_push rfl ?_
                                                    refine w_StI_5_4 rfl rfl ?_
                                                    refine l_msheet hw 0 0 rfl (by omega) (fun q h3 h4 => by omega) (fun s1 hf h3 h4 => ⟨rfl, ?_, ?_, h3, fun j hj => ?_, ((Fr.us rfl).tr (Fr.us rfl)).tr (Fr.mono rfl hf)⟩)
                                                    · rw [hf.at 160 rfl, us_ne (by decide), us_eq]
                                                    · rw [hf.at 161 rfl, us_eq, us_ne (by decide)]
                                                      first
                                                      | rw [if_pos (by omega)]
                                                      | rw [if_neg (by omega)]
                                                    · rw [h4 j hj, us_ne (by decide), us_ne (by decide)]))
                                          · first
                                            | (exfalso; omega)
                                            | (refine w_ldR rfl rfl rfl ?_
                                               refine w_push rfl ?_
                                               refine w_callV rfl rfl rfl rfl rfl rfl rfl r_finds1 ?_
                                               try simp only [hD]
                                               refine w_retI rfl ?_
                                               exact ⟨rfl, rfl⟩)))
                                · first
                                  | (exfalso; omega)
                                  | (refine w_ldR rfl rfl rfl ?_
                                     refine w_push rfl ?_
                                     refine w_callV rfl rfl rfl rfl rfl rfl rfl r_finds1 ?_
                                     try simp only [hD]
                                     refine w_retI rfl ?_
                                     exact ⟨rfl, rfl⟩)))
                      · first
                        | (exfalso; omega)
                        | (refine w_ldR rfl rfl rfl ?_
                           refine w_push rfl ?_
                           refine w_callV rfl rfl rfl rfl rfl rfl rfl r_finds1 ?_
                           try simp only [hD]
                           refine w_retI rfl ?_
                           exact ⟨rfl, rfl⟩)))))
theorem sh_0 {b : Int} (hb : (b = 0 ∨ b = 8 ∨ b = 16 ∨ b = 32)) : ShN b 0 0 := by
  unfold ShN
  omega
theorem st_sheet {X : Nat → Int} {N : Int} {d : Nat} {s : mSt} {cnt : Int} (hI : Inv X N s cnt) {w b n : Int} (hrw : -2147483648 ≤ w ∧ w < 2147483648) (hrb : -2147483648 ≤ b ∧ b < 2147483648) (hrn : -2147483648 ≤ n ∧ n < 2147483648) : Step X N (d + 150) s cnt 130 254 [.inl w, .inl b, .inl n] := by
  have hI0 := hI
  obtain ⟨hD, -, -, -, -, hT, -, hX, hU⟩ := hI
  have hD0 := hD
  obtain ⟨⟨hM, hC, hN⟩, hV, h8⟩ := hD
  have hV0 := hV
  have hM0 := hM
  obtain ⟨vc, vpl, vga, vse, vne, veg, vre, vtu, vta, vwa, v36, v37, v39, v40, v42, v41, v43, v44, vl0, vl1, vlm⟩ := hV
  obtain ⟨hM39, hM40, hM41, hM43, hM44, hM36, hM37, hM38, hMc, hMw, hMp, hMt, hMb⟩ := hM
  by_cases hy : (0 ≤ w ∧ w ≤ 3) ∧ (b = 0 ∨ b = 8 ∨ b = 16 ∨ b = 32)
  · obtain ⟨hw, hb⟩ := hy
    by_cases h1 : b ≠ 0 ∧ n < 0
    · obtain ⟨r1, s1, k1, hr, hs1⟩ := x_sheet_s (d := d + 148) hD0 hrw hrb hrn hw hb h1
      have e : s1 147 = s 147 := by rw [hs1]; exact us_ne (by decide)
      obtain ⟨r2, s2, k2, hr2, hs2⟩ := m_sheet_s (d := d + 148) (s := s1) e hM0 hC hrw hrb hrn hw hb h1
      rw [hs2] at k2
      exact Step.mk (by first | exact ⟨(f1.at 1 rfl).trans hX.2.1, (congrFun (f1.at 0 rfl) 1).trans hX.2.2⟩ | exact ⟨hX.2.1, hX.2.2⟩ | exact ⟨by rw [hs1, us_ne (by decide)]; exact hX.2.1, by rw [hs1, us_ne (by decide)]; exact hX.2.2⟩ | exact ⟨by rw [hs1, us_ne (by decide), us_ne (by decide)]; exact hX.2.1, by rw [hs1, us_ne (by decide), us_ne (by decide)]; exact hX.2.2⟩ | exact ⟨by rw [e1, us_ne (by decide), f1.at 1 rfl]; exact hX.2.1, by rw [e1, us_ne (by decide), f1.at 0 rfl]; exact hX.2.2⟩ | exact ⟨by rw [ft.at 1 rfl, hx 1 (by decide) (by decide)]; exact hX.2.1, by rw [ft.at 0 rfl, et, newL_0, mup_ne (by decide)]; exact hX.2.2⟩) k1 k2 (by rw [hr, hr2]) (hI0.err2 hs1)
    · by_cases h2 : b ≠ 0 ∧ 40 < n
      · obtain ⟨r1, s1, k1, hr, hs1⟩ := x_sheet_b (d := d + 148) hD0 hrw hrb hrn hw hb h2
        have e : s1 147 = s 147 := by rw [hs1]; exact us_ne (by decide)
        obtain ⟨r2, s2, k2, hr2, hs2⟩ := m_sheet_b (d := d + 148) (s := s1) e hM0 hC hrw hrb hrn hw hb h2
        rw [hs2] at k2
        exact Step.mk (by first | exact ⟨(f1.at 1 rfl).trans hX.2.1, (congrFun (f1.at 0 rfl) 1).trans hX.2.2⟩ | exact ⟨hX.2.1, hX.2.2⟩ | exact ⟨by rw [hs1, us_ne (by decide)]; exact hX.2.1, by rw [hs1, us_ne (by decide)]; exact hX.2.2⟩ | exact ⟨by rw [hs1, us_ne (by decide), us_ne (by decide)]; exact hX.2.1, by rw [hs1, us_ne (by decide), us_ne (by decide)]; exact hX.2.2⟩ | exact ⟨by rw [e1, us_ne (by decide), f1.at 1 rfl]; exact hX.2.1, by rw [e1, us_ne (by decide), f1.at 0 rfl]; exact hX.2.2⟩ | exact ⟨by rw [ft.at 1 rfl, hx 1 (by decide) (by decide)]; exact hX.2.1, by rw [ft.at 0 rfl, et, newL_0, mup_ne (by decide)]; exact hX.2.2⟩) k1 k2 (by rw [hr, hr2]) (hI0.err2 hs1)
      · rcases (show w = 0 ∨ w = 1 ∨ w = 2 ∨ w = 3 by omega) with rfl | rfl | rfl | rfl
        · obtain ⟨r1, s1, k1, hr, g1, g2, g3, f1⟩ := x_sheet_0 (d := d + 148) hD0 hrw hrb hrn rfl hb h1 h2
          have e : s1 147 = s 147 := f1.at 147 rfl
          obtain ⟨r2, s2, k2, hr2, g5, g6, g7, g8, f2⟩ := m_sheet_y (d := d + 148) (s := s1) e hM0 hC hrw hrb hrn (by omega) hb h1 h2
          refine Step.mk (by first | exact ⟨(f1.at 1 rfl).trans hX.2.1, (congrFun (f1.at 0 rfl) 1).trans hX.2.2⟩ | exact ⟨hX.2.1, hX.2.2⟩ | exact ⟨by rw [hs1, us_ne (by decide)]; exact hX.2.1, by rw [hs1, us_ne (by decide)]; exact hX.2.2⟩ | exact ⟨by rw [hs1, us_ne (by decide), us_ne (by decide)]; exact hX.2.1, by rw [hs1, us_ne (by decide), us_ne (by decide)]; exact hX.2.2⟩ | exact ⟨by rw [e1, us_ne (by decide), f1.at 1 rfl]; exact hX.2.1, by rw [e1, us_ne (by decide), f1.at 0 rfl]; exact hX.2.2⟩ | exact ⟨by rw [ft.at 1 rfl, hx 1 (by decide) (by decide)]; exact hX.2.1, by rw [ft.at 0 rfl, et, newL_0, mup_ne (by decide)]; exact hX.2.2⟩) k1 k2 (by rw [hr, hr2]) (hI0.sht (A := [131, 138, 139, 160, 161, 162]) rfl (by omega) ((Fr.mono rfl f1).tr (Fr.mono rfl f2)) ?_)
          obtain ⟨hS0, hS1, hS2, hS3⟩ := hI0.2.2.2.2.1
          have A131 : s2 131 0 = b := by rw [f2.at 131 rfl, g1]; exact mup_eq _ _ _
          have A160 : s2 160 0 = b := by rw [g5]; exact mup_eq _ _ _
          have A161 : s2 161 0 = (if b = 0 then 0 else n) := by rw [g6]; exact mup_eq _ _ _
          have hsz : 0 ≤ (if b = 0 then 0 else n) ∧ (if b = 0 then 0 else n) ≤ 40 := by
            by_cases h0 : b = 0
            · rw [if_pos h0]; omega
            · rw [if_neg h0]; omega
          have g7b : ∀ q : Int, 0 ≤ q → q < 40 → s2 162 (40 * ((0 : Nat) : Int) + q).toNat = 0 := g7
          exact ⟨⟨A131.trans A160.symm, by rw [A160]; exact hb, by rw [A161]; exact hsz, by rw [f2.at 138 rfl, g2, A161], fun i i0 i1 => by rw [A160, f2.at (138 + 1) rfl, g3 i.toNat (by omega), g7b i i0 i1]; exact sh_0 hb⟩,
              ShR.cg hS1 (by rw [f2.at 131 rfl, g1, mup_ne (by decide)]) (by rw [g5, f1.at 160 rfl]; exact mup_ne (by decide)) (by rw [g6, f1.at 161 rfl]; exact mup_ne (by decide)) (by rw [f2.at 140 rfl, f1.at 140 rfl]) (by rw [f2.at (140 + 1) rfl, f1.at (140 + 1) rfl]) (fun i i0 i1 => by rw [g8 _ (by omega), f1.at 162 rfl]),
              ShR.cg hS2 (by rw [f2.at 131 rfl, g1, mup_ne (by decide)]) (by rw [g5, f1.at 160 rfl]; exact mup_ne (by decide)) (by rw [g6, f1.at 161 rfl]; exact mup_ne (by decide)) (by rw [f2.at 142 rfl, f1.at 142 rfl]) (by rw [f2.at (142 + 1) rfl, f1.at (142 + 1) rfl]) (fun i i0 i1 => by rw [g8 _ (by omega), f1.at 162 rfl]),
              ShR.cg hS3 (by rw [f2.at 131 rfl, g1, mup_ne (by decide)]) (by rw [g5, f1.at 160 rfl]; exact mup_ne (by decide)) (by rw [g6, f1.at 161 rfl]; exact mup_ne (by decide)) (by rw [f2.at 144 rfl, f1.at 144 rfl]) (by rw [f2.at (144 + 1) rfl, f1.at (144 + 1) rfl]) (fun i i0 i1 => by rw [g8 _ (by omega), f1.at 162 rfl])⟩
        · obtain ⟨r1, s1, k1, hr, g1, g2, g3, f1⟩ := x_sheet_1 (d := d + 148) hD0 hrw hrb hrn rfl hb h1 h2
          have e : s1 147 = s 147 := f1.at 147 rfl
          obtain ⟨r2, s2, k2, hr2, g5, g6, g7, g8, f2⟩ := m_sheet_y (d := d + 148) (s := s1) e hM0 hC hrw hrb hrn (by omega) hb h1 h2
          refine Step.mk (by first | exact ⟨(f1.at 1 rfl).trans hX.2.1, (congrFun (f1.at 0 rfl) 1).trans hX.2.2⟩ | exact ⟨hX.2.1, hX.2.2⟩ | exact ⟨by rw [hs1, us_ne (by decide)]; exact hX.2.1, by rw [hs1, us_ne (by decide)]; exact hX.2.2⟩ | exact ⟨by rw [hs1, us_ne (by decide), us_ne (by decide)]; exact hX.2.1, by rw [hs1, us_ne (by decide), us_ne (by decide)]; exact hX.2.2⟩ | exact ⟨by rw [e1, us_ne (by decide), f1.at 1 rfl]; exact hX.2.1, by rw [e1, us_ne (by decide), f1.at 0 rfl]; exact hX.2.2⟩ | exact ⟨by rw [ft.at 1 rfl, hx 1 (by decide) (by decide)]; exact hX.2.1, by rw [ft.at 0 rfl, et, newL_0, mup_ne (by decide)]; exact hX.2.2⟩) k1 k2 (by rw [hr, hr2]) (hI0.sht (A := [131, 140, 141, 160, 161, 162]) rfl (by omega) ((Fr.mono rfl f1).tr (Fr.mono rfl f2)) ?_)
          obtain ⟨hS0, hS1, hS2, hS3⟩ := hI0.2.2.2.2.1
          have A131 : s2 131 1 = b := by rw [f2.at 131 rfl, g1]; exact mup_eq _ _ _
          have A160 : s2 160 1 = b := by rw [g5]; exact mup_eq _ _ _
          have A161 : s2 161 1 = (if b = 0 then 0 else n) := by rw [g6]; exact mup_eq _ _ _
          have hsz : 0 ≤ (if b = 0 then 0 else n) ∧ (if b = 0 then 0 else n) ≤ 40 := by
            by_cases h0 : b = 0
            · rw [if_pos h0]; omega
            · rw [if_neg h0]; omega
          have g7b : ∀ q : Int, 0 ≤ q → q < 40 → s2 162 (40 * ((1 : Nat) : Int) + q).toNat = 0 := g7
          exact ⟨ShR.cg hS0 (by rw [f2.at 131 rfl, g1, mup_ne (by decide)]) (by rw [g5, f1.at 160 rfl]; exact mup_ne (by decide)) (by rw [g6, f1.at 161 rfl]; exact mup_ne (by decide)) (by rw [f2.at 138 rfl, f1.at 138 rfl]) (by rw [f2.at (138 + 1) rfl, f1.at (138 + 1) rfl]) (fun i i0 i1 => by rw [g8 _ (by omega), f1.at 162 rfl]),
              ⟨A131.trans A160.symm, by rw [A160]; exact hb, by rw [A161]; exact hsz, by rw [f2.at 140 rfl, g2, A161], fun i i0 i1 => by rw [A160, f2.at (140 + 1) rfl, g3 i.toNat (by omega), g7b i i0 i1]; exact sh_0 hb⟩,
              ShR.cg hS2 (by rw [f2.at 131 rfl, g1, mup_ne (by decide)]) (by rw [g5, f1.at 160 rfl]; exact mup_ne (by decide)) (by rw [g6, f1.at 161 rfl]; exact mup_ne (by decide)) (by rw [f2.at 142 rfl, f1.at 142 rfl]) (by rw [f2.at (142 + 1) rfl, f1.at (142 + 1) rfl]) (fun i i0 i1 => by rw [g8 _ (by omega), f1.at 162 rfl]),
              ShR.cg hS3 (by rw [f2.at 131 rfl, g1, mup_ne (by decide)]) (by rw [g5, f1.at 160 rfl]; exact mup_ne (by decide)) (by rw [g6, f1.at 161 rfl]; exact mup_ne (by decide)) (by rw [f2.at 144 rfl, f1.at 144 rfl]) (by rw [f2.at (144 + 1) rfl, f1.at (144 + 1) rfl]) (fun i i0 i1 => by rw [g8 _ (by omega), f1.at 162 rfl])⟩
        · obtain ⟨r1, s1, k1, hr, g1, g2, g3, f1⟩ := x_sheet_2 (d := d + 148) hD0 hrw hrb hrn rfl hb h1 h2
          have e : s1 147 = s 147 := f1.at 147 rfl
          obtain ⟨r2, s2, k2, hr2, g5, g6, g7, g8, f2⟩ := m_sheet_y (d := d + 148) (s := s1) e hM0 hC hrw hrb hrn (by omega) hb h1 h2
          refine Step.mk (by first | exact ⟨(f1.at 1 rfl).trans hX.2.1, (congrFun (f1.at 0 rfl) 1).trans hX.2.2⟩ | exact ⟨hX.2.1, hX.2.2⟩ | exact ⟨by rw [hs1, us_ne (by decide)]; exact hX.2.1, by rw [hs1, us_ne (by decide)]; exact hX.2.2⟩ | exact ⟨by rw [hs1, us_ne (by decide), us_ne (by decide)]; exact hX.2.1, by rw [hs1, us_ne (by decide), us_ne (by decide)]; exact hX.2.2⟩ | exact ⟨by rw [e1, us_ne (by decide), f1.at 1 rfl]; exact hX.2.1, by rw [e1, us_ne (by decide), f1.at 0 rfl]; exact hX.2.2⟩ | exact ⟨by rw [ft.at 1 rfl, hx 1 (by decide) (by decide)]; exact hX.2.1, by rw [ft.at 0 rfl, et, newL_0, mup_ne (by decide)]; exact hX.2.2⟩) k1 k2 (by rw [hr, hr2]) (hI0.sht (A := [131, 142, 143, 160, 161, 162]) rfl (by omega) ((Fr.mono rfl f1).tr (Fr.mono rfl f2)) ?_)
          obtain ⟨hS0, hS1, hS2, hS3⟩ := hI0.2.2.2.2.1
          have A131 : s2 131 2 = b := by rw [f2.at 131 rfl, g1]; exact mup_eq _ _ _
          have A160 : s2 160 2 = b := by rw [g5]; exact mup_eq _ _ _
          have A161 : s2 161 2 = (if b = 0 then 0 else n) := by rw [g6]; exact mup_eq _ _ _
          have hsz : 0 ≤ (if b = 0 then 0 else n) ∧ (if b = 0 then 0 else n) ≤ 40 := by
            by_cases h0 : b = 0
            · rw [if_pos h0]; omega
            · rw [if_neg h0]; omega
          have g7b : ∀ q : Int, 0 ≤ q → q < 40 → s2 162 (40 * ((2 : Nat) : Int) + q).toNat = 0 := g7
          exact ⟨ShR.cg hS0 (by rw [f2.at 131 rfl, g1, mup_ne (by decide)]) (by rw [g5, f1.at 160 rfl]; exact mup_ne (by decide)) (by rw [g6, f1.at 161 rfl]; exact mup_ne (by decide)) (by rw [f2.at 138 rfl, f1.at 138 rfl]) (by rw [f2.at (138 + 1) rfl, f1.at (138 + 1) rfl]) (fun i i0 i1 => by rw [g8 _ (by omega), f1.at 162 rfl]),
              ShR.cg hS1 (by rw [f2.at 131 rfl, g1, mup_ne (by decide)]) (by rw [g5, f1.at 160 rfl]; exact mup_ne (by decide)) (by rw [g6, f1.at 161 rfl]; exact mup_ne (by decide)) (by rw [f2.at 140 rfl, f1.at 140 rfl]) (by rw [f2.at (140 + 1) rfl, f1.at (140 + 1) rfl]) (fun i i0 i1 => by rw [g8 _ (by omega), f1.at 162 rfl]),
              ⟨A131.trans A160.symm, by rw [A160]; exact hb, by rw [A161]; exact hsz, by rw [f2.at 142 rfl, g2, A161], fun i i0 i1 => by rw [A160, f2.at (142 + 1) rfl, g3 i.toNat (by omega), g7b i i0 i1]; exact sh_0 hb⟩,
              ShR.cg hS3 (by rw [f2.at 131 rfl, g1, mup_ne (by decide)]) (by rw [g5, f1.at 160 rfl]; exact mup_ne (by decide)) (by rw [g6, f1.at 161 rfl]; exact mup_ne (by decide)) (by rw [f2.at 144 rfl, f1.at 144 rfl]) (by rw [f2.at (144 + 1) rfl, f1.at (144 + 1) rfl]) (fun i i0 i1 => by rw [g8 _ (by omega), f1.at 162 rfl])⟩
        · obtain ⟨r1, s1, k1, hr, g1, g2, g3, f1⟩ := x_sheet_3 (d := d + 148) hD0 hrw hrb hrn rfl hb h1 h2
          have e : s1 147 = s 147 := f1.at 147 rfl
          obtain ⟨r2, s2, k2, hr2, g5, g6, g7, g8, f2⟩ := m_sheet_y (d := d + 148) (s := s1) e hM0 hC hrw hrb hrn (by omega) hb h1 h2
          refine Step.mk (by first | exact ⟨(f1.at 1 rfl).trans hX.2.1, (congrFun (f1.at 0 rfl) 1).trans hX.2.2⟩ | exact ⟨hX.2.1, hX.2.2⟩ | exact ⟨by rw [hs1, us_ne (by decide)]; exact hX.2.1, by rw [hs1, us_ne (by decide)]; exact hX.2.2⟩ | exact ⟨by rw [hs1, us_ne (by decide), us_ne (by decide)]; exact hX.2.1, by rw [hs1, us_ne (by decide), us_ne (by decide)]; exact hX.2.2⟩ | exact ⟨by rw [e1, us_ne (by decide), f1.at 1 rfl]; exact hX.2.1, by rw [e1, us_ne (by decide), f1.at 0 rfl]; exact hX.2.2⟩ | exact ⟨by rw [ft.at 1 rfl, hx 1 (by decide) (by decide)]; exact hX.2.1, by rw [ft.at 0 rfl, et, newL_0, mup_ne (by decide)]; exact hX.2.2⟩) k1 k2 (by rw [hr, hr2]) (hI0.sht (A := [131, 144, 145, 160, 161, 162]) rfl (by omega) ((Fr.mono rfl f1).tr (Fr.mono rfl f2)) ?_)
          obtain ⟨hS0, hS1, hS2, hS3⟩ := hI0.2.2.2.2.1
          have A131 : s2 131 3 = b := by rw [f2.at 131 rfl, g1]; exact mup_eq _ _ _
          have A160 : s2 160 3 = b := by rw [g5]; exact mup_eq _ _ _
          have A161 : s2 161 3 = (if b = 0 then 0 else n) := by rw [g6]; exact mup_eq _ _ _
          have hsz : 0 ≤ (if b = 0 then 0 else n) ∧ (if b = 0 then 0 else n) ≤ 40 := by
            by_cases h0 : b = 0
            · rw [if_pos h0]; omega
            · rw [if_neg h0]; omega
          have g7b : ∀ q : Int, 0 ≤ q → q < 40 → s2 162 (40 * ((3 : Nat) : Int) + q).toNat = 0 := g7
          exact ⟨ShR.cg hS0 (by rw [f2.at 131 rfl, g1, mup_ne (by decide)]) (by rw [g5, f1.at 160 rfl]; exact mup_ne (by decide)) (by rw [g6, f1.at 161 rfl]; exact mup_ne (by decide)) (by rw [f2.at 138 rfl, f1.at 138 rfl]) (by rw [f2.at (138 + 1) rfl, f1.at (138 + 1) rfl]) (fun i i0 i1 => by rw [g8 _ (by omega), f1.at 162 rfl]),
              ShR.cg hS1 (by rw [f2.at 131 rfl, g1, mup_ne (by decide)]) (by rw [g5, f1.at 160 rfl]; exact mup_ne (by decide)) (by rw [g6, f1.at 161 rfl]; exact mup_ne (by decide)) (by rw [f2.at 140 rfl, f1.at 140 rfl]) (by rw [f2.at (140 + 1) rfl, f1.at (140 + 1) rfl]) (fun i i0 i1 => by rw [g8 _ (by omega), f1.at 162 rfl]),
              ShR.cg hS2 (by rw [f2.at 131 rfl, g1, mup_ne (by decide)]) (by rw [g5, f1.at 160 rfl]; exact mup_ne (by decide)) (by rw [g6, f1.at 161 rfl]; exact mup_ne (by decide)) (by rw [f2.at 142 rfl, f1.at 142 rfl]) (by rw [f2.at (142 + 1) rfl, f1.at (142 + 1) rfl]) (fun i i0 i1 => by rw [g8 _ (by omega), f1.at 162 rfl]),
              ⟨A131.trans A160.symm, by rw [A160]; exact hb, by rw [A161]; exact hsz, by rw [f2.at 144 rfl, g2, A161], fun i i0 i1 => by rw [A160, f2.at (144 + 1) rfl, g3 i.toNat (by omega), g7b i i0 i1]; exact sh_0 hb⟩⟩
  · obtain ⟨r1, s1, k1, hr, hs1⟩ := x_sheet_n (d := d + 148) hD0 hrw hrb hrn hy
    have e : s1 147 = s 147 := by rw [hs1]; exact us_ne (by decide)
    obtain ⟨r2, s2, k2, hr2, hs2⟩ := m_sheet_n (d := d + 148) (s := s1) e hM0 hC hrw hrb hrn hy
    rw [hs2] at k2
    exact Step.mk (by first | exact ⟨(f1.at 1 rfl).trans hX.2.1, (congrFun (f1.at 0 rfl) 1).trans hX.2.2⟩ | exact ⟨hX.2.1, hX.2.2⟩ | exact ⟨by rw [hs1, us_ne (by decide)]; exact hX.2.1, by rw [hs1, us_ne (by decide)]; exact hX.2.2⟩ | exact ⟨by rw [hs1, us_ne (by decide), us_ne (by decide)]; exact hX.2.1, by rw [hs1, us_ne (by decide), us_ne (by decide)]; exact hX.2.2⟩ | exact ⟨by rw [e1, us_ne (by decide), f1.at 1 rfl]; exact hX.2.1, by rw [e1, us_ne (by decide), f1.at 0 rfl]; exact hX.2.2⟩ | exact ⟨by rw [ft.at 1 rfl, hx 1 (by decide) (by decide)]; exact hX.2.1, by rw [ft.at 0 rfl, et, newL_0, mup_ne (by decide)]; exact hX.2.2⟩) k1 k2 (by rw [hr, hr2]) (hI0.err2 hs1)
