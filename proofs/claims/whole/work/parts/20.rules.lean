/-! ===== runs, rule by rule ===== -/
def Run (d mt j : Nat) (L : mL) (S : mS) (h : mH) (r : Option mAV) (h' : mH) : Prop := ∃ n, mrun mPr n d mt j L S h = some (r, h')
def Call (d mt : Nat) (as : List mAV) (h : mH) (r : Option mAV) (h' : mH) : Prop := (mArgs as).length ≤ (mPr mt).1 ∧ Run d mt 0 (mIn (mPr mt).1 as) [] h r h'
theorem mrun_mono {P : mP} : ∀ {n : Nat} {d mt j : Nat} {L : mL} {S : mS} {h : mH} {q}, mrun P n d mt j L S h = some q → ∀ k, n ≤ k → mrun P k d mt j L S h = some q
  | 0, d, mt, j, L, S, h, q, hr, k, hk => by unfold mrun at hr; cases hr
  | n + 1, d, mt, j, L, S, h, q, hr, k, hk => by
    obtain ⟨k, rfl⟩ : ∃ k0, k = k0 + 1 := ⟨k - 1, by omega⟩
    have hk' : n ≤ k := by omega
    unfold mrun at hr ⊢
    cases hop : (P mt).2 j with
    | none => rw [hop] at hr; cases hr
    | some op =>
      rw [hop] at hr
      dsimp only at hr ⊢
      cases ho : op d L S h with
      | none => rw [ho] at hr; cases hr
      | some out =>
        rw [ho] at hr
        match out, ho, hr with
        | .inl (j', L', S', h'), ho, hr => exact mrun_mono hr k hk'
        | .inr (.inl (mt', as, j', L', S')), ho, hr =>
          match d, ho, hr with
          | 0, ho, hr => exact hr
          | d' + 1, ho, hr =>
            dsimp only at hr ⊢
            split at hr
            · rename_i hlen
              rw [if_pos hlen]
              cases hc : mrun P n d' mt' 0 (mIn (P mt').1 as) [] h with
              | none => rw [hc] at hr; cases hr
              | some res =>
                rw [hc] at hr
                rw [mrun_mono hc k hk']
                exact mrun_mono hr k hk'
            · cases hr
        | .inr (.inr r), ho, hr => exact hr
section RR
variable {d mt j : Nat} {L : mL} {S : mS} {h : mH} {r : Option mAV} {h' : mH}
theorem Run.step {op : mOp} {j' : Nat} {L' : mL} {S' : mS} {h1 : mH} (hc : (mPr mt).2 j = some op) (ho : op d L S h = some (.inl (j', L', S', h1))) (k : Run d mt j' L' S' h1 r h') : Run d mt j L S h r h' := by
  obtain ⟨n, hn⟩ := k
  refine ⟨n + 1, ?_⟩
  unfold mrun
  rw [hc]
  dsimp only
  rw [ho]
  exact hn
theorem Run.call {op : mOp} {mt' : Nat} {as : List mAV} {j' : Nat} {L' : mL} {S' : mS} {rv : Option mAV} {h1 : mH} (hc : (mPr mt).2 j = some op) (ho : op (d + 1) L S h = some (.inr (.inl (mt', as, j', L', S')))) (hk : Call d mt' as h rv h1) (k : Run (d + 1) mt j' L' (mBack rv S') h1 r h') : Run (d + 1) mt j L S h r h' := by
  obtain ⟨n, hn⟩ := k
  obtain ⟨hl, n2, hn2⟩ := hk
  refine ⟨max n n2 + 1, ?_⟩
  unfold mrun
  rw [hc]
  dsimp only
  rw [ho]
  dsimp only
  rw [if_pos hl, mrun_mono hn2 _ (Nat.le_max_right _ _)]
  exact mrun_mono hn _ (Nat.le_max_left _ _)
theorem Run.ret {op : mOp} {rv : Option mAV} (hc : (mPr mt).2 j = some op) (ho : op d L S h = some (.inr (.inr rv))) : Run d mt j L S h rv h := by
  refine ⟨1, ?_⟩
  unfold mrun
  rw [hc]
  dsimp only
  rw [ho]
theorem Run.cast {r1 : Option mAV} {h1 : mH} (k : Run d mt j L S h r1 h1) (e1 : r1 = r) (e2 : h1 = h') : Run d mt j L S h r h' := e1 ▸ e2 ▸ k
theorem Call.cast {as : List mAV} {r1 : Option mAV} {h1 : mH} (k : Call d mt as h r1 h1) (e1 : r1 = r) (e2 : h1 = h') : Call d mt as h r h' := e1 ▸ e2 ▸ k
theorem w32_id {x : Int} (h1 : -2147483648 ≤ x) (h2 : x < 2147483648) : w32 x = x := by
  unfold w32
  exact Int32.toInt_ofInt_of_le h1 h2
theorem w64_id {x : Int} (h1 : -9223372036854775808 ≤ x) (h2 : x < 9223372036854775808) : w64 x = x := by
  unfold w64
  exact Int64.toInt_ofInt_of_le h1 h2
theorem x_push {v : mAV} {nx : Nat} (hc : (mPr mt).2 j = some (opPush v nx)) (k : Run d mt nx L (v :: S) h r h') : Run d mt j L S h r h' := Run.step hc rfl k
theorem x_ldI {x : Int} {i nx : Nat} (hc : (mPr mt).2 j = some (opLdI i nx)) (hl : L[i]? = some (some (.inl x))) (k : Run d mt nx L (.inl x :: S) h r h') : Run d mt j L S h r h' := Run.step hc (by unfold opLdI; rw [hl]) k
theorem x_ldN {x : Int} {i nx : Nat} (hc : (mPr mt).2 j = some (opLdN i nx)) (hl : L[i]? = some (some (.inl x))) (k : Run d mt nx L (.inl (w32 x) :: S) h r h') : Run d mt j L S h r h' := Run.step hc (by unfold opLdN; rw [hl]) k
theorem x_ldL {x : Int} {i nx : Nat} (hc : (mPr mt).2 j = some (opLdL i nx)) (hl : L[i]? = some (some (.inr (.inl x)))) (k : Run d mt nx L (.inr (.inl x) :: S) h r h') : Run d mt j L S h r h' := Run.step hc (by unfold opLdL; rw [hl]) k
theorem x_ldR {a i nx : Nat} (hc : (mPr mt).2 j = some (opLdR i nx)) (hl : L[i]? = some (some (.inr (.inr a)))) (ha : Nat.ble 1 a = true) (k : Run d mt nx L (.inr (.inr a) :: S) h r h') : Run d mt j L S h r h' := Run.step hc (by
  obtain ⟨b, rfl⟩ : ∃ b, a = b + 1 := ⟨a - 1, by have := Nat.le_of_ble_eq_true ha; omega⟩
  unfold opLdR; rw [hl]) k
theorem x_un {f : Int → Int} {x : Int} {nx : Nat} (hc : (mPr mt).2 j = some (opUn f nx)) (k : Run d mt nx L (.inl (f x) :: S) h r h') : Run d mt j L (.inl x :: S) h r h' := Run.step hc rfl k
theorem x_neg {x : Int} {nx : Nat} (hc : (mPr mt).2 j = some (opUn m_neg nx)) (k : Run d mt nx L (.inl (-x) :: S) h r h') : Run d mt j L (.inl x :: S) h r h' := Run.step hc rfl k
theorem x_bin {f : Int → Int → Int} {x y : Int} {nx : Nat} (hc : (mPr mt).2 j = some (opBin f nx)) (k : Run d mt nx L (.inl (f x y) :: S) h r h') : Run d mt j L (.inl y :: .inl x :: S) h r h' := Run.step hc rfl k
theorem x_add {x y : Int} {nx : Nat} (hc : (mPr mt).2 j = some (opBin m_add nx)) (k : Run d mt nx L (.inl (x + y) :: S) h r h') : Run d mt j L (.inl y :: .inl x :: S) h r h' := Run.step hc rfl k
theorem x_sub {x y : Int} {nx : Nat} (hc : (mPr mt).2 j = some (opBin m_sub nx)) (k : Run d mt nx L (.inl (x - y) :: S) h r h') : Run d mt j L (.inl y :: .inl x :: S) h r h' := Run.step hc rfl k
theorem x_mul {x y : Int} {nx : Nat} (hc : (mPr mt).2 j = some (opBin m_mul nx)) (k : Run d mt nx L (.inl (x * y) :: S) h r h') : Run d mt j L (.inl y :: .inl x :: S) h r h' := Run.step hc rfl k
theorem x_div {f : Int → Int → Int} {x y : Int} {nx : Nat} (hc : (mPr mt).2 j = some (opDiv f nx)) (hy : ¬ w32 y = 0) (k : Run d mt nx L (.inl (f x y) :: S) h r h') : Run d mt j L (.inl y :: .inl x :: S) h r h' := Run.step hc (by unfold opDiv; dsimp only; rw [if_neg hy]) k
theorem x_binL {f : Int → Int → Int} {x y : Int} {nx : Nat} (hc : (mPr mt).2 j = some (opBinL f nx)) (k : Run d mt nx L (.inr (.inl (f x y)) :: S) h r h') : Run d mt j L (.inr (.inl y) :: .inr (.inl x) :: S) h r h' := Run.step hc rfl k
theorem x_shL {f : Int → Int → Int} {x y : Int} {nx : Nat} (hc : (mPr mt).2 j = some (opShL f nx)) (k : Run d mt nx L (.inr (.inl (f x y)) :: S) h r h') : Run d mt j L (.inl y :: .inr (.inl x) :: S) h r h' := Run.step hc rfl k
theorem x_i2l {x : Int} {nx : Nat} (hc : (mPr mt).2 j = some (opI2L nx)) (k : Run d mt nx L (.inr (.inl (w32 x)) :: S) h r h') : Run d mt j L (.inl x :: S) h r h' := Run.step hc rfl k
theorem x_l2i {x : Int} {nx : Nat} (hc : (mPr mt).2 j = some (opL2I nx)) (k : Run d mt nx L (.inl (w32 x) :: S) h r h') : Run d mt j L (.inr (.inl x) :: S) h r h' := Run.step hc rfl k
theorem x_cmpL {x y : Int} {nx : Nat} (hc : (mPr mt).2 j = some (opCmpL nx)) (k : Run d mt nx L (.inl (mCmp x y) :: S) h r h') : Run d mt j L (.inr (.inl y) :: .inr (.inl x) :: S) h r h' := Run.step hc rfl k
theorem x_dupI {x : Int} {nx : Nat} (hc : (mPr mt).2 j = some (opDup nx)) (k : Run d mt nx L (.inl x :: .inl x :: S) h r h') : Run d mt j L (.inl x :: S) h r h' := Run.step hc rfl k
theorem x_dupR {x : Nat} {nx : Nat} (hc : (mPr mt).2 j = some (opDup nx)) (k : Run d mt nx L (.inr (.inr x) :: .inr (.inr x) :: S) h r h') : Run d mt j L (.inr (.inr x) :: S) h r h' := Run.step hc rfl k
theorem x_dup2 {x : Int} {a : Nat} {nx : Nat} (hc : (mPr mt).2 j = some (opDup2 nx)) (k : Run d mt nx L (.inl x :: .inr (.inr a) :: .inl x :: .inr (.inr a) :: S) h r h') : Run d mt j L (.inl x :: .inr (.inr a) :: S) h r h' := Run.step hc rfl k
theorem x_popI {x : Int} {nx : Nat} (hc : (mPr mt).2 j = some (opPop nx)) (k : Run d mt nx L S h r h') : Run d mt j L (.inl x :: S) h r h' := Run.step hc rfl k
theorem x_go {tg : Nat} (hc : (mPr mt).2 j = some (opGo tg)) (k : Run d mt tg L S h r h') : Run d mt j L S h r h' := Run.step hc rfl k
theorem x_sw {t : Int → Nat} {x : Int} {tg : Nat} (hc : (mPr mt).2 j = some (opSw t)) (ht : t (w32 x) = tg) (k : Run d mt tg L S h r h') : Run d mt j L (.inl x :: S) h r h' := Run.step hc (by unfold opSw; dsimp only; rw [ht]) k
theorem x_if {c : Int → Bool} {x : Int} {tg nx : Nat} (hc : (mPr mt).2 j = some (opIf c tg nx)) (k1 : c (w32 x) = true → Run d mt tg L S h r h') (k2 : ¬ c (w32 x) = true → Run d mt nx L S h r h') : Run d mt j L (.inl x :: S) h r h' := by
  by_cases hx : c (w32 x) = true
  · exact Run.step hc (by unfold opIf; dsimp only; rw [if_pos hx]) (k1 hx)
  · exact Run.step hc (by unfold opIf; dsimp only; rw [if_neg hx]) (k2 hx)
theorem x_ifc {c : Int → Int → Bool} {x y : Int} {tg nx : Nat} (hc : (mPr mt).2 j = some (opIfc c tg nx)) (k1 : c (w32 x) (w32 y) = true → Run d mt tg L S h r h') (k2 : ¬ c (w32 x) (w32 y) = true → Run d mt nx L S h r h') : Run d mt j L (.inl y :: .inl x :: S) h r h' := by
  by_cases hx : c (w32 x) (w32 y) = true
  · exact Run.step hc (by unfold opIfc; dsimp only; rw [if_pos hx]) (k1 hx)
  · exact Run.step hc (by unfold opIfc; dsimp only; rw [if_neg hx]) (k2 hx)
theorem x_ifEq0 {x : Int} {tg nx : Nat} (hc : (mPr mt).2 j = some (opIf jEq0 tg nx)) (k1 : w32 x = 0 → Run d mt tg L S h r h') (k2 : ¬ w32 x = 0 → Run d mt nx L S h r h') : Run d mt j L (.inl x :: S) h r h' := x_if hc (fun q => k1 (by unfold jEq0 at q; simpa using q)) (fun q => k2 (by unfold jEq0 at q; simpa using q))
theorem x_ifNe0 {x : Int} {tg nx : Nat} (hc : (mPr mt).2 j = some (opIf jNe0 tg nx)) (k1 : ¬ w32 x = 0 → Run d mt tg L S h r h') (k2 : w32 x = 0 → Run d mt nx L S h r h') : Run d mt j L (.inl x :: S) h r h' := x_if hc (fun q => k1 (by unfold jNe0 at q; simpa using q)) (fun q => k2 (by unfold jNe0 at q; simpa using q))
theorem x_ifLt0 {x : Int} {tg nx : Nat} (hc : (mPr mt).2 j = some (opIf jLt0 tg nx)) (k1 : w32 x < 0 → Run d mt tg L S h r h') (k2 : 0 ≤ w32 x → Run d mt nx L S h r h') : Run d mt j L (.inl x :: S) h r h' := x_if hc (fun q => k1 (by unfold jLt0 at q; simpa using q)) (fun q => k2 (by unfold jLt0 at q; simpa using q))
theorem x_ifGe0 {x : Int} {tg nx : Nat} (hc : (mPr mt).2 j = some (opIf jGe0 tg nx)) (k1 : 0 ≤ w32 x → Run d mt tg L S h r h') (k2 : w32 x < 0 → Run d mt nx L S h r h') : Run d mt j L (.inl x :: S) h r h' := x_if hc (fun q => k1 (by unfold jGe0 at q; simpa using q)) (fun q => k2 (by unfold jGe0 at q; simpa using q))
theorem x_ifGt0 {x : Int} {tg nx : Nat} (hc : (mPr mt).2 j = some (opIf jGt0 tg nx)) (k1 : 0 < w32 x → Run d mt tg L S h r h') (k2 : w32 x ≤ 0 → Run d mt nx L S h r h') : Run d mt j L (.inl x :: S) h r h' := x_if hc (fun q => k1 (by unfold jGt0 at q; simpa using q)) (fun q => k2 (by unfold jGt0 at q; simpa using q))
theorem x_ifLe0 {x : Int} {tg nx : Nat} (hc : (mPr mt).2 j = some (opIf jLe0 tg nx)) (k1 : w32 x ≤ 0 → Run d mt tg L S h r h') (k2 : 0 < w32 x → Run d mt nx L S h r h') : Run d mt j L (.inl x :: S) h r h' := x_if hc (fun q => k1 (by unfold jLe0 at q; simpa using q)) (fun q => k2 (by unfold jLe0 at q; simpa using q))
theorem x_icEq {x y : Int} {tg nx : Nat} (hc : (mPr mt).2 j = some (opIfc jEq tg nx)) (k1 : w32 x = w32 y → Run d mt tg L S h r h') (k2 : ¬ w32 x = w32 y → Run d mt nx L S h r h') : Run d mt j L (.inl y :: .inl x :: S) h r h' := x_ifc hc (fun q => k1 (by unfold jEq at q; simpa using q)) (fun q => k2 (by unfold jEq at q; simpa using q))
theorem x_icNe {x y : Int} {tg nx : Nat} (hc : (mPr mt).2 j = some (opIfc jNe tg nx)) (k1 : ¬ w32 x = w32 y → Run d mt tg L S h r h') (k2 : w32 x = w32 y → Run d mt nx L S h r h') : Run d mt j L (.inl y :: .inl x :: S) h r h' := x_ifc hc (fun q => k1 (by unfold jNe at q; simpa using q)) (fun q => k2 (by unfold jNe at q; simpa using q))
theorem x_icLt {x y : Int} {tg nx : Nat} (hc : (mPr mt).2 j = some (opIfc jLt tg nx)) (k1 : w32 x < w32 y → Run d mt tg L S h r h') (k2 : w32 y ≤ w32 x → Run d mt nx L S h r h') : Run d mt j L (.inl y :: .inl x :: S) h r h' := x_ifc hc (fun q => k1 (by unfold jLt at q; simpa using q)) (fun q => k2 (by unfold jLt at q; simpa using q))
theorem x_icGe {x y : Int} {tg nx : Nat} (hc : (mPr mt).2 j = some (opIfc jGe tg nx)) (k1 : w32 y ≤ w32 x → Run d mt tg L S h r h') (k2 : w32 x < w32 y → Run d mt nx L S h r h') : Run d mt j L (.inl y :: .inl x :: S) h r h' := x_ifc hc (fun q => k1 (by unfold jGe at q; simpa using q)) (fun q => k2 (by unfold jGe at q; simpa using q))
theorem x_icGt {x y : Int} {tg nx : Nat} (hc : (mPr mt).2 j = some (opIfc jGt tg nx)) (k1 : w32 y < w32 x → Run d mt tg L S h r h') (k2 : w32 x ≤ w32 y → Run d mt nx L S h r h') : Run d mt j L (.inl y :: .inl x :: S) h r h' := x_ifc hc (fun q => k1 (by unfold jGt at q; simpa using q)) (fun q => k2 (by unfold jGt at q; simpa using q))
theorem x_icLe {x y : Int} {tg nx : Nat} (hc : (mPr mt).2 j = some (opIfc jLe tg nx)) (k1 : w32 x ≤ w32 y → Run d mt tg L S h r h') (k2 : w32 y < w32 x → Run d mt nx L S h r h') : Run d mt j L (.inl y :: .inl x :: S) h r h' := x_ifc hc (fun q => k1 (by unfold jLe at q; simpa using q)) (fun q => k2 (by unfold jLe at q; simpa using q))
theorem x_irEq0 {x : Int} {tg nx : Nat} (hc : (mPr mt).2 j = some (opIf jEq0 tg nx)) (hx : -2147483648 ≤ x ∧ x < 2147483648) (k1 : x = 0 → Run d mt tg L S h r h') (k2 : ¬ x = 0 → Run d mt nx L S h r h') : Run d mt j L (.inl x :: S) h r h' := x_ifEq0 hc (fun q => k1 (by rw [w32_id hx.1 hx.2] at q; exact q)) (fun q => k2 (by rw [w32_id hx.1 hx.2] at q; exact q))
theorem x_irNe0 {x : Int} {tg nx : Nat} (hc : (mPr mt).2 j = some (opIf jNe0 tg nx)) (hx : -2147483648 ≤ x ∧ x < 2147483648) (k1 : ¬ x = 0 → Run d mt tg L S h r h') (k2 : x = 0 → Run d mt nx L S h r h') : Run d mt j L (.inl x :: S) h r h' := x_ifNe0 hc (fun q => k1 (by rw [w32_id hx.1 hx.2] at q; exact q)) (fun q => k2 (by rw [w32_id hx.1 hx.2] at q; exact q))
theorem x_irLt0 {x : Int} {tg nx : Nat} (hc : (mPr mt).2 j = some (opIf jLt0 tg nx)) (hx : -2147483648 ≤ x ∧ x < 2147483648) (k1 : x < 0 → Run d mt tg L S h r h') (k2 : 0 ≤ x → Run d mt nx L S h r h') : Run d mt j L (.inl x :: S) h r h' := x_ifLt0 hc (fun q => k1 (by rw [w32_id hx.1 hx.2] at q; exact q)) (fun q => k2 (by rw [w32_id hx.1 hx.2] at q; exact q))
theorem x_irGe0 {x : Int} {tg nx : Nat} (hc : (mPr mt).2 j = some (opIf jGe0 tg nx)) (hx : -2147483648 ≤ x ∧ x < 2147483648) (k1 : 0 ≤ x → Run d mt tg L S h r h') (k2 : x < 0 → Run d mt nx L S h r h') : Run d mt j L (.inl x :: S) h r h' := x_ifGe0 hc (fun q => k1 (by rw [w32_id hx.1 hx.2] at q; exact q)) (fun q => k2 (by rw [w32_id hx.1 hx.2] at q; exact q))
theorem x_irGt0 {x : Int} {tg nx : Nat} (hc : (mPr mt).2 j = some (opIf jGt0 tg nx)) (hx : -2147483648 ≤ x ∧ x < 2147483648) (k1 : 0 < x → Run d mt tg L S h r h') (k2 : x ≤ 0 → Run d mt nx L S h r h') : Run d mt j L (.inl x :: S) h r h' := x_ifGt0 hc (fun q => k1 (by rw [w32_id hx.1 hx.2] at q; exact q)) (fun q => k2 (by rw [w32_id hx.1 hx.2] at q; exact q))
theorem x_irLe0 {x : Int} {tg nx : Nat} (hc : (mPr mt).2 j = some (opIf jLe0 tg nx)) (hx : -2147483648 ≤ x ∧ x < 2147483648) (k1 : x ≤ 0 → Run d mt tg L S h r h') (k2 : 0 < x → Run d mt nx L S h r h') : Run d mt j L (.inl x :: S) h r h' := x_ifLe0 hc (fun q => k1 (by rw [w32_id hx.1 hx.2] at q; exact q)) (fun q => k2 (by rw [w32_id hx.1 hx.2] at q; exact q))
theorem x_crEq {x y : Int} {tg nx : Nat} (hc : (mPr mt).2 j = some (opIfc jEq tg nx)) (hx : -2147483648 ≤ x ∧ x < 2147483648) (hy : -2147483648 ≤ y ∧ y < 2147483648) (k1 : x = y → Run d mt tg L S h r h') (k2 : ¬ x = y → Run d mt nx L S h r h') : Run d mt j L (.inl y :: .inl x :: S) h r h' := x_icEq hc (fun q => k1 (by rw [w32_id hx.1 hx.2, w32_id hy.1 hy.2] at q; exact q)) (fun q => k2 (by rw [w32_id hx.1 hx.2, w32_id hy.1 hy.2] at q; exact q))
theorem x_crNe {x y : Int} {tg nx : Nat} (hc : (mPr mt).2 j = some (opIfc jNe tg nx)) (hx : -2147483648 ≤ x ∧ x < 2147483648) (hy : -2147483648 ≤ y ∧ y < 2147483648) (k1 : ¬ x = y → Run d mt tg L S h r h') (k2 : x = y → Run d mt nx L S h r h') : Run d mt j L (.inl y :: .inl x :: S) h r h' := x_icNe hc (fun q => k1 (by rw [w32_id hx.1 hx.2, w32_id hy.1 hy.2] at q; exact q)) (fun q => k2 (by rw [w32_id hx.1 hx.2, w32_id hy.1 hy.2] at q; exact q))
theorem x_crLt {x y : Int} {tg nx : Nat} (hc : (mPr mt).2 j = some (opIfc jLt tg nx)) (hx : -2147483648 ≤ x ∧ x < 2147483648) (hy : -2147483648 ≤ y ∧ y < 2147483648) (k1 : x < y → Run d mt tg L S h r h') (k2 : y ≤ x → Run d mt nx L S h r h') : Run d mt j L (.inl y :: .inl x :: S) h r h' := x_icLt hc (fun q => k1 (by rw [w32_id hx.1 hx.2, w32_id hy.1 hy.2] at q; exact q)) (fun q => k2 (by rw [w32_id hx.1 hx.2, w32_id hy.1 hy.2] at q; exact q))
theorem x_crGe {x y : Int} {tg nx : Nat} (hc : (mPr mt).2 j = some (opIfc jGe tg nx)) (hx : -2147483648 ≤ x ∧ x < 2147483648) (hy : -2147483648 ≤ y ∧ y < 2147483648) (k1 : y ≤ x → Run d mt tg L S h r h') (k2 : x < y → Run d mt nx L S h r h') : Run d mt j L (.inl y :: .inl x :: S) h r h' := x_icGe hc (fun q => k1 (by rw [w32_id hx.1 hx.2, w32_id hy.1 hy.2] at q; exact q)) (fun q => k2 (by rw [w32_id hx.1 hx.2, w32_id hy.1 hy.2] at q; exact q))
theorem x_crGt {x y : Int} {tg nx : Nat} (hc : (mPr mt).2 j = some (opIfc jGt tg nx)) (hx : -2147483648 ≤ x ∧ x < 2147483648) (hy : -2147483648 ≤ y ∧ y < 2147483648) (k1 : y < x → Run d mt tg L S h r h') (k2 : x ≤ y → Run d mt nx L S h r h') : Run d mt j L (.inl y :: .inl x :: S) h r h' := x_icGt hc (fun q => k1 (by rw [w32_id hx.1 hx.2, w32_id hy.1 hy.2] at q; exact q)) (fun q => k2 (by rw [w32_id hx.1 hx.2, w32_id hy.1 hy.2] at q; exact q))
theorem x_crLe {x y : Int} {tg nx : Nat} (hc : (mPr mt).2 j = some (opIfc jLe tg nx)) (hx : -2147483648 ≤ x ∧ x < 2147483648) (hy : -2147483648 ≤ y ∧ y < 2147483648) (k1 : x ≤ y → Run d mt tg L S h r h') (k2 : y < x → Run d mt nx L S h r h') : Run d mt j L (.inl y :: .inl x :: S) h r h' := x_icLe hc (fun q => k1 (by rw [w32_id hx.1 hx.2, w32_id hy.1 hy.2] at q; exact q)) (fun q => k2 (by rw [w32_id hx.1 hx.2, w32_id hy.1 hy.2] at q; exact q))
theorem x_i2lr {x : Int} {nx : Nat} (hc : (mPr mt).2 j = some (opI2L nx)) (hx : -2147483648 ≤ x ∧ x < 2147483648) (k : Run d mt nx L (.inr (.inl x) :: S) h r h') : Run d mt j L (.inl x :: S) h r h' := x_i2l hc (by rw [w32_id hx.1 hx.2]; exact k)
theorem x_m2 {f : Int → Int → Int} {x y : Int} {nx : Nat} (hc : (mPr mt).2 j = some (opM2 f nx)) (hS : Nat.ble (mWs S) 8 = true) (k : Run (d + 1) mt nx L (.inl (f x y) :: S) h r h') : Run (d + 1) mt j L (.inl y :: .inl x :: S) h r h' := Run.step hc (by
  show (if mWs S ≤ 8 then _ else _) = _
  rw [if_pos (Nat.le_of_ble_eq_true hS)]) k
theorem x_objI {a : Nat} {nx : Nat} (hc : (mPr mt).2 j = some (opObjI nx)) (ha : Nat.ble 1 a = true) (hS : Nat.ble (mWs S) 8 = true) (k : Run (d + 1) mt nx L S h r h') : Run (d + 1) mt j L (.inr (.inr a) :: S) h r h' := Run.step hc (by
  obtain ⟨b, rfl⟩ : ∃ b, a = b + 1 := ⟨a - 1, by have := Nat.le_of_ble_eq_true ha; omega⟩
  show (if mWs S ≤ 8 then _ else _) = _
  rw [if_pos (Nat.le_of_ble_eq_true hS)]) k
theorem x_get0 {cs : List Nat} {a c k nx : Nat} {fs : List mAV} {v : mAV} (hc : (mPr mt).2 j = some (opGet cs k nx)) (ha : Nat.ble 10 a = true) (hg : h.2.2 a = some (.inl (c, fs))) (hcs : cs.contains c = true) (hv : fs[k]? = some v) (kk : Run d mt nx L (v :: S) h r h') : Run d mt j L (.inr (.inr a) :: S) h r h' := Run.step hc (by
  have h1 : ¬ a < 10 := by have := Nat.le_of_ble_eq_true ha; omega
  unfold opGet
  dsimp only
  rw [if_neg h1, hg]
  dsimp only
  rw [if_pos hcs, hv]) kk
theorem x_put0 {cs : List Nat} {a c t k nx : Nat} {fs : List mAV} {v : mAV} (hc : (mPr mt).2 j = some (opPut cs t k nx)) (ha : Nat.ble 10 a = true) (hg : h.2.2 a = some (.inl (c, fs))) (hcs : cs.contains c = true) (hk : k < fs.length) (hf : mFit t v = true) (kk : Run d mt nx L S (h.1, h.2.1, mup h.2.2 a (eo c (fs.set k v))) r h') : Run d mt j L (v :: .inr (.inr a) :: S) h r h' := Run.step hc (by
  have h1 : ¬ a < 10 := by have := Nat.le_of_ble_eq_true ha; omega
  unfold opPut
  dsimp only
  rw [if_neg h1, hg]
  dsimp only
  rw [if_pos ⟨hcs, hk, hf⟩]) kk
theorem x_ald0 {a t nx n : Nat} {f : Nat → Int} {x : Int} (hc : (mPr mt).2 j = some (opALd 0 nx)) (ha : Nat.ble 10 a = true) (hg : h.2.2 a = some (.inr (.inl (0, n, f)))) (h1 : 0 ≤ w32 x) (h2 : w32 x < n) (kk : Run d mt nx L (.inl (f (w32 x).toNat) :: S) h r h') : Run d mt j L (.inl x :: .inr (.inr a) :: S) h r h' := Run.step hc (by
  have h3 : ¬ a < 10 := by have := Nat.le_of_ble_eq_true ha; omega
  unfold opALd
  dsimp only
  rw [if_neg h3, hg]
  dsimp only
  rw [if_pos ⟨rfl, h1, h2⟩]
  rfl) kk
theorem x_aldL0 {a t nx n : Nat} {f : Nat → Int} {x : Int} (hc : (mPr mt).2 j = some (opALd 1 nx)) (ha : Nat.ble 10 a = true) (hg : h.2.2 a = some (.inr (.inl (1, n, f)))) (h1 : 0 ≤ w32 x) (h2 : w32 x < n) (kk : Run d mt nx L (.inr (.inl (f (w32 x).toNat)) :: S) h r h') : Run d mt j L (.inl x :: .inr (.inr a) :: S) h r h' := Run.step hc (by
  have h3 : ¬ a < 10 := by have := Nat.le_of_ble_eq_true ha; omega
  unfold opALd
  dsimp only
  rw [if_neg h3, hg]
  dsimp only
  rw [if_pos ⟨rfl, h1, h2⟩]
  rfl) kk
theorem x_ast0 {a nx n : Nat} {f : Nat → Int} {x v : Int} (hc : (mPr mt).2 j = some (opASt nx)) (ha : Nat.ble 10 a = true) (hg : h.2.2 a = some (.inr (.inl (0, n, f)))) (h1 : 0 ≤ w32 x) (h2 : w32 x < n) (kk : Run d mt nx L S (h.1, h.2.1, mup h.2.2 a (ep 0 n (mup f (w32 x).toNat v))) r h') : Run d mt j L (.inl v :: .inl x :: .inr (.inr a) :: S) h r h' := Run.step hc (by
  have h3 : ¬ a < 10 := by have := Nat.le_of_ble_eq_true ha; omega
  unfold opASt
  dsimp only
  rw [if_neg h3, hg]
  dsimp only
  rw [if_pos ⟨rfl, h1, h2⟩]) kk
theorem x_astL0 {a nx n : Nat} {f : Nat → Int} {x v : Int} (hc : (mPr mt).2 j = some (opAStL nx)) (ha : Nat.ble 10 a = true) (hg : h.2.2 a = some (.inr (.inl (1, n, f)))) (h1 : 0 ≤ w32 x) (h2 : w32 x < n) (kk : Run d mt nx L S (h.1, h.2.1, mup h.2.2 a (ep 1 n (mup f (w32 x).toNat v))) r h') : Run d mt j L (.inr (.inl v) :: .inl x :: .inr (.inr a) :: S) h r h' := Run.step hc (by
  have h3 : ¬ a < 10 := by have := Nat.le_of_ble_eq_true ha; omega
  unfold opAStL
  dsimp only
  rw [if_neg h3, hg]
  dsimp only
  rw [if_pos ⟨rfl, h1, h2⟩]) kk
theorem x_rld0 {a t nx n : Nat} {f : Nat → Nat} {x : Int} (hc : (mPr mt).2 j = some (opRLd t nx)) (ha : Nat.ble 10 a = true) (hg : h.2.2 a = some (.inr (.inr (t, n, f)))) (h1 : 0 ≤ w32 x) (h2 : w32 x < n) (kk : Run d mt nx L (.inr (.inr (f (w32 x).toNat)) :: S) h r h') : Run d mt j L (.inl x :: .inr (.inr a) :: S) h r h' := Run.step hc (by
  have h3 : ¬ a < 10 := by have := Nat.le_of_ble_eq_true ha; omega
  unfold opRLd
  dsimp only
  rw [if_neg h3, hg]
  dsimp only
  rw [if_pos ⟨rfl, h1, h2⟩]) kk
theorem x_rst0 {a t nx n v c : Nat} {cs : List Nat} {fs : List mAV} {f : Nat → Nat} {x : Int} (hc : (mPr mt).2 j = some (opRSt t cs nx)) (ha : Nat.ble 10 a = true) (hv : Nat.ble 10 v = true) (hg : h.2.2 a = some (.inr (.inr (t, n, f)))) (hgv : h.2.2 v = some (.inl (c, fs))) (hcs : cs.contains c = true) (h1 : 0 ≤ w32 x) (h2 : w32 x < n) (kk : Run d mt nx L S (h.1, h.2.1, mup h.2.2 a (er t n (mup f (w32 x).toNat v))) r h') : Run d mt j L (.inr (.inr v) :: .inl x :: .inr (.inr a) :: S) h r h' := Run.step hc (by
  have h3 : ¬ a < 10 := by have := Nat.le_of_ble_eq_true ha; omega
  have h4 : ¬ v < 10 := by have := Nat.le_of_ble_eq_true hv; omega
  unfold opRSt
  dsimp only
  rw [if_neg h3, if_neg h4, hg, hgv]
  dsimp only
  rw [if_pos ⟨rfl, h1, h2, hcs⟩]) kk
theorem x_alen0 {a nx n : Nat} {f : Nat → Int} (hc : (mPr mt).2 j = some (opALen nx)) (ha : Nat.ble 10 a = true) (hg : h.2.2 a = some (.inr (.inl (0, n, f)))) (kk : Run d mt nx L (.inl (n : Int) :: S) h r h') : Run d mt j L (.inr (.inr a) :: S) h r h' := Run.step hc (by
  have h3 : ¬ a < 10 := by have := Nat.le_of_ble_eq_true ha; omega
  unfold opALen
  dsimp only
  rw [if_neg h3, hg]
  rfl) kk
theorem x_cpy0 {a b nx na nb : Nat} {f g : Nat → Int} {n sp dp : Int} (hc : (mPr mt).2 j = some (opCpy nx)) (ha : Nat.ble 10 a = true) (hb : Nat.ble 10 b = true) (hga : h.2.2 a = some (.inr (.inl (0, na, f)))) (hgb : h.2.2 b = some (.inr (.inl (0, nb, g)))) (h1 : 0 ≤ w32 n) (h2 : 0 ≤ w32 sp) (h3 : 0 ≤ w32 dp) (h4 : (w32 sp).toNat + (w32 n).toNat ≤ na) (h5 : (w32 dp).toNat + (w32 n).toNat ≤ nb) (hS : Nat.ble (mWs S) 8 = true)
    (kk : Run (d + 1) mt nx L S (h.1, h.2.1, mup h.2.2 b (ep 0 nb (mcpy f g (w32 sp).toNat (w32 dp).toNat (w32 n).toNat))) r h') : Run (d + 1) mt j L (.inl n :: .inl dp :: .inr (.inr b) :: .inl sp :: .inr (.inr a) :: S) h r h' := Run.step hc (by
  have h6 : ¬ a < 10 := by have := Nat.le_of_ble_eq_true ha; omega
  have h7 : ¬ b < 10 := by have := Nat.le_of_ble_eq_true hb; omega
  unfold opCpy
  dsimp only
  rw [if_neg h6, if_neg h7, hga, hgb]
  dsimp only
  rw [if_pos ⟨rfl, rfl, h1, h2, h3, h4, h5, Nat.le_of_ble_eq_true hS⟩]) kk
theorem x_call {mt' na nx : Nat} {rv : Option mAV} {h1 : mH} (hc : (mPr mt).2 j = some (opCall mt' na nx)) (hn : Nat.ble na S.length = true) (hS : Nat.ble (mWs (S.drop na)) 8 = true) (hk : Call d mt' (S.take na).reverse h rv h1) (k : Run (d + 1) mt nx L (mBack rv (S.drop na)) h1 r h') : Run (d + 1) mt j L S h r h' := Run.call hc (by
  unfold opCall
  rw [if_pos ⟨Nat.le_of_ble_eq_true hn, Nat.le_of_ble_eq_true hS⟩]) hk k
theorem x_callV0 {tb : List (Nat × Nat)} {mt' na nx a c : Nat} {as : List mAV} {fs : List mAV} {rv : Option mAV} {h1 : mH} (hc : (mPr mt).2 j = some (opCallV tb na nx)) (hn : Nat.ble na S.length = true) (hS : Nat.ble (mWs (S.drop na)) 8 = true) (hs : (S.take na).reverse = .inr (.inr a) :: as) (ha : Nat.ble 10 a = true) (hg : h.2.2 a = some (.inl (c, fs))) (ht : mTb tb c = some mt') (hk : Call d mt' (.inr (.inr a) :: as) h rv h1) (k : Run (d + 1) mt nx L (mBack rv (S.drop na)) h1 r h') : Run (d + 1) mt j L S h r h' := Run.call hc (by
  have h6 : ¬ a < 10 := by have := Nat.le_of_ble_eq_true ha; omega
  unfold opCallV
  rw [if_pos ⟨Nat.le_of_ble_eq_true hn, Nat.le_of_ble_eq_true hS⟩, hs]
  dsimp only
  rw [if_neg h6, hg]
  dsimp only
  rw [ht]) hk k
theorem x_callT {mt' na nx a : Nat} {as : List mAV} {rv : Option mAV} {h1 : mH} (hc : (mPr mt).2 j = some (opCallT mt' na nx)) (hn : Nat.ble na S.length = true) (hS : Nat.ble (mWs (S.drop na)) 8 = true) (hs : (S.take na).reverse = .inr (.inr a) :: as) (ha : a = 2 ∨ a = 4) (hk : Call d mt' (.inr (.inr a) :: as) h rv h1) (k : Run (d + 1) mt nx L (mBack rv (S.drop na)) h1 r h') : Run (d + 1) mt j L S h r h' := Run.call hc (by
  unfold opCallT
  rw [if_pos ⟨Nat.le_of_ble_eq_true hn, Nat.le_of_ble_eq_true hS⟩, hs]
  dsimp only
  rw [if_pos ha]) hk k
theorem x_retV (hc : (mPr mt).2 j = some opRetV) (e2 : h = h') : Run d mt j L [] h none h' := Run.cast (Run.ret hc rfl) rfl e2
theorem x_retI {x y : Int} (hc : (mPr mt).2 j = some (opRetI false)) (e1 : x = y) (e2 : h = h') : Run d mt j L [.inl x] h (some (.inl y)) h' := Run.cast (Run.ret hc rfl) (by rw [e1]) e2
theorem x_retB {x y : Int} (hc : (mPr mt).2 j = some (opRetI true)) (hx : x = 0 ∨ x = 1) (e1 : x = y) (e2 : h = h') : Run d mt j L [.inl x] h (some (.inl y)) h' := Run.cast (Run.ret hc (by
  unfold opRetI
  dsimp only
  rw [if_pos (Or.inr hx)])) (by rw [e1]) e2
theorem x_retL {x y : Int} (hc : (mPr mt).2 j = some opRetL) (e1 : x = y) (e2 : h = h') : Run d mt j L [.inr (.inl x)] h (some (.inr (.inl y))) h' := Run.cast (Run.ret hc rfl) (by rw [e1]) e2
theorem x_retR {x y : Nat} (hc : (mPr mt).2 j = some opRetR) (hx : Nat.ble 1 x = true) (e1 : x = y) (e2 : h = h') : Run d mt j L [.inr (.inr x)] h (some (.inr (.inr y))) h' := Run.cast (Run.ret (rv := some (.inr (.inr x))) hc (by
  obtain ⟨b, rfl⟩ : ∃ b, x = b + 1 := ⟨x - 1, by have := Nat.le_of_ble_eq_true hx; omega⟩
  rfl)) (by rw [e1]) e2
theorem x_StI_1_0 {a0 : Option mAV} {x : Int} {nx : Nat} (hc : (mPr mt).2 j = some (opStI 0 nx)) (k : Run d mt nx [some (.inl x)] S h r h') : Run d mt j [a0] (.inl x :: S) h r h' := Run.step hc (by
  have ok : mStOk [a0] 0 0 = true := by
    unfold mStOk
    simp
  unfold opStI
  dsimp only
  rw [if_pos ok]
  rfl) k
theorem x_StI_2_1 {a0 a1 : Option mAV} {x : Int} {nx : Nat} (hc : (mPr mt).2 j = some (opStI 1 nx)) (hn : mNotLong (some a0) = true) (k : Run d mt nx [a0, some (.inl x)] S h r h') : Run d mt j [a0, a1] (.inl x :: S) h r h' := Run.step hc (by
  have ok : mStOk [a0, a1] 1 0 = true := by
    unfold mStOk
    simp [hn]
  unfold opStI
  dsimp only
  rw [if_pos ok]
  rfl) k
theorem x_StI_3_1 {a0 a1 a2 : Option mAV} {x : Int} {nx : Nat} (hc : (mPr mt).2 j = some (opStI 1 nx)) (hn : mNotLong (some a0) = true) (k : Run d mt nx [a0, some (.inl x), a2] S h r h') : Run d mt j [a0, a1, a2] (.inl x :: S) h r h' := Run.step hc (by
  have ok : mStOk [a0, a1, a2] 1 0 = true := by
    unfold mStOk
    simp [hn]
  unfold opStI
  dsimp only
  rw [if_pos ok]
  rfl) k
theorem x_StI_3_2 {a0 a1 a2 : Option mAV} {x : Int} {nx : Nat} (hc : (mPr mt).2 j = some (opStI 2 nx)) (hn : mNotLong (some a1) = true) (k : Run d mt nx [a0, a1, some (.inl x)] S h r h') : Run d mt j [a0, a1, a2] (.inl x :: S) h r h' := Run.step hc (by
  have ok : mStOk [a0, a1, a2] 2 0 = true := by
    unfold mStOk
    simp [hn]
  unfold opStI
  dsimp only
  rw [if_pos ok]
  rfl) k
theorem x_StI_4_1 {a0 a1 a2 a3 : Option mAV} {x : Int} {nx : Nat} (hc : (mPr mt).2 j = some (opStI 1 nx)) (hn : mNotLong (some a0) = true) (k : Run d mt nx [a0, some (.inl x), a2, a3] S h r h') : Run d mt j [a0, a1, a2, a3] (.inl x :: S) h r h' := Run.step hc (by
  have ok : mStOk [a0, a1, a2, a3] 1 0 = true := by
    unfold mStOk
    simp [hn]
  unfold opStI
  dsimp only
  rw [if_pos ok]
  rfl) k
theorem x_StI_4_2 {a0 a1 a2 a3 : Option mAV} {x : Int} {nx : Nat} (hc : (mPr mt).2 j = some (opStI 2 nx)) (hn : mNotLong (some a1) = true) (k : Run d mt nx [a0, a1, some (.inl x), a3] S h r h') : Run d mt j [a0, a1, a2, a3] (.inl x :: S) h r h' := Run.step hc (by
  have ok : mStOk [a0, a1, a2, a3] 2 0 = true := by
    unfold mStOk
    simp [hn]
  unfold opStI
  dsimp only
  rw [if_pos ok]
  rfl) k
theorem x_StI_4_3 {a0 a1 a2 a3 : Option mAV} {x : Int} {nx : Nat} (hc : (mPr mt).2 j = some (opStI 3 nx)) (hn : mNotLong (some a2) = true) (k : Run d mt nx [a0, a1, a2, some (.inl x)] S h r h') : Run d mt j [a0, a1, a2, a3] (.inl x :: S) h r h' := Run.step hc (by
  have ok : mStOk [a0, a1, a2, a3] 3 0 = true := by
    unfold mStOk
    simp [hn]
  unfold opStI
  dsimp only
  rw [if_pos ok]
  rfl) k
theorem x_StI_5_1 {a0 a1 a2 a3 a4 : Option mAV} {x : Int} {nx : Nat} (hc : (mPr mt).2 j = some (opStI 1 nx)) (hn : mNotLong (some a0) = true) (k : Run d mt nx [a0, some (.inl x), a2, a3, a4] S h r h') : Run d mt j [a0, a1, a2, a3, a4] (.inl x :: S) h r h' := Run.step hc (by
  have ok : mStOk [a0, a1, a2, a3, a4] 1 0 = true := by
    unfold mStOk
    simp [hn]
  unfold opStI
  dsimp only
  rw [if_pos ok]
  rfl) k
theorem x_StI_5_2 {a0 a1 a2 a3 a4 : Option mAV} {x : Int} {nx : Nat} (hc : (mPr mt).2 j = some (opStI 2 nx)) (hn : mNotLong (some a1) = true) (k : Run d mt nx [a0, a1, some (.inl x), a3, a4] S h r h') : Run d mt j [a0, a1, a2, a3, a4] (.inl x :: S) h r h' := Run.step hc (by
  have ok : mStOk [a0, a1, a2, a3, a4] 2 0 = true := by
    unfold mStOk
    simp [hn]
  unfold opStI
  dsimp only
  rw [if_pos ok]
  rfl) k
theorem x_StI_5_3 {a0 a1 a2 a3 a4 : Option mAV} {x : Int} {nx : Nat} (hc : (mPr mt).2 j = some (opStI 3 nx)) (hn : mNotLong (some a2) = true) (k : Run d mt nx [a0, a1, a2, some (.inl x), a4] S h r h') : Run d mt j [a0, a1, a2, a3, a4] (.inl x :: S) h r h' := Run.step hc (by
  have ok : mStOk [a0, a1, a2, a3, a4] 3 0 = true := by
    unfold mStOk
    simp [hn]
  unfold opStI
  dsimp only
  rw [if_pos ok]
  rfl) k
theorem x_StI_5_4 {a0 a1 a2 a3 a4 : Option mAV} {x : Int} {nx : Nat} (hc : (mPr mt).2 j = some (opStI 4 nx)) (hn : mNotLong (some a3) = true) (k : Run d mt nx [a0, a1, a2, a3, some (.inl x)] S h r h') : Run d mt j [a0, a1, a2, a3, a4] (.inl x :: S) h r h' := Run.step hc (by
  have ok : mStOk [a0, a1, a2, a3, a4] 4 0 = true := by
    unfold mStOk
    simp [hn]
  unfold opStI
  dsimp only
  rw [if_pos ok]
  rfl) k
theorem x_StI_6_1 {a0 a1 a2 a3 a4 a5 : Option mAV} {x : Int} {nx : Nat} (hc : (mPr mt).2 j = some (opStI 1 nx)) (hn : mNotLong (some a0) = true) (k : Run d mt nx [a0, some (.inl x), a2, a3, a4, a5] S h r h') : Run d mt j [a0, a1, a2, a3, a4, a5] (.inl x :: S) h r h' := Run.step hc (by
  have ok : mStOk [a0, a1, a2, a3, a4, a5] 1 0 = true := by
    unfold mStOk
    simp [hn]
  unfold opStI
  dsimp only
  rw [if_pos ok]
  rfl) k
theorem x_StI_6_2 {a0 a1 a2 a3 a4 a5 : Option mAV} {x : Int} {nx : Nat} (hc : (mPr mt).2 j = some (opStI 2 nx)) (hn : mNotLong (some a1) = true) (k : Run d mt nx [a0, a1, some (.inl x), a3, a4, a5] S h r h') : Run d mt j [a0, a1, a2, a3, a4, a5] (.inl x :: S) h r h' := Run.step hc (by
  have ok : mStOk [a0, a1, a2, a3, a4, a5] 2 0 = true := by
    unfold mStOk
    simp [hn]
  unfold opStI
  dsimp only
  rw [if_pos ok]
  rfl) k
theorem x_StI_6_3 {a0 a1 a2 a3 a4 a5 : Option mAV} {x : Int} {nx : Nat} (hc : (mPr mt).2 j = some (opStI 3 nx)) (hn : mNotLong (some a2) = true) (k : Run d mt nx [a0, a1, a2, some (.inl x), a4, a5] S h r h') : Run d mt j [a0, a1, a2, a3, a4, a5] (.inl x :: S) h r h' := Run.step hc (by
  have ok : mStOk [a0, a1, a2, a3, a4, a5] 3 0 = true := by
    unfold mStOk
    simp [hn]
  unfold opStI
  dsimp only
  rw [if_pos ok]
  rfl) k
theorem x_StI_6_4 {a0 a1 a2 a3 a4 a5 : Option mAV} {x : Int} {nx : Nat} (hc : (mPr mt).2 j = some (opStI 4 nx)) (hn : mNotLong (some a3) = true) (k : Run d mt nx [a0, a1, a2, a3, some (.inl x), a5] S h r h') : Run d mt j [a0, a1, a2, a3, a4, a5] (.inl x :: S) h r h' := Run.step hc (by
  have ok : mStOk [a0, a1, a2, a3, a4, a5] 4 0 = true := by
    unfold mStOk
    simp [hn]
  unfold opStI
  dsimp only
  rw [if_pos ok]
  rfl) k
theorem x_StI_6_5 {a0 a1 a2 a3 a4 a5 : Option mAV} {x : Int} {nx : Nat} (hc : (mPr mt).2 j = some (opStI 5 nx)) (hn : mNotLong (some a4) = true) (k : Run d mt nx [a0, a1, a2, a3, a4, some (.inl x)] S h r h') : Run d mt j [a0, a1, a2, a3, a4, a5] (.inl x :: S) h r h' := Run.step hc (by
  have ok : mStOk [a0, a1, a2, a3, a4, a5] 5 0 = true := by
    unfold mStOk
    simp [hn]
  unfold opStI
  dsimp only
  rw [if_pos ok]
  rfl) k
theorem x_StI_7_1 {a0 a1 a2 a3 a4 a5 a6 : Option mAV} {x : Int} {nx : Nat} (hc : (mPr mt).2 j = some (opStI 1 nx)) (hn : mNotLong (some a0) = true) (k : Run d mt nx [a0, some (.inl x), a2, a3, a4, a5, a6] S h r h') : Run d mt j [a0, a1, a2, a3, a4, a5, a6] (.inl x :: S) h r h' := Run.step hc (by
  have ok : mStOk [a0, a1, a2, a3, a4, a5, a6] 1 0 = true := by
    unfold mStOk
    simp [hn]
  unfold opStI
  dsimp only
  rw [if_pos ok]
  rfl) k
theorem x_StI_7_2 {a0 a1 a2 a3 a4 a5 a6 : Option mAV} {x : Int} {nx : Nat} (hc : (mPr mt).2 j = some (opStI 2 nx)) (hn : mNotLong (some a1) = true) (k : Run d mt nx [a0, a1, some (.inl x), a3, a4, a5, a6] S h r h') : Run d mt j [a0, a1, a2, a3, a4, a5, a6] (.inl x :: S) h r h' := Run.step hc (by
  have ok : mStOk [a0, a1, a2, a3, a4, a5, a6] 2 0 = true := by
    unfold mStOk
    simp [hn]
  unfold opStI
  dsimp only
  rw [if_pos ok]
  rfl) k
theorem x_StI_7_3 {a0 a1 a2 a3 a4 a5 a6 : Option mAV} {x : Int} {nx : Nat} (hc : (mPr mt).2 j = some (opStI 3 nx)) (hn : mNotLong (some a2) = true) (k : Run d mt nx [a0, a1, a2, some (.inl x), a4, a5, a6] S h r h') : Run d mt j [a0, a1, a2, a3, a4, a5, a6] (.inl x :: S) h r h' := Run.step hc (by
  have ok : mStOk [a0, a1, a2, a3, a4, a5, a6] 3 0 = true := by
    unfold mStOk
    simp [hn]
  unfold opStI
  dsimp only
  rw [if_pos ok]
  rfl) k
theorem x_StI_7_4 {a0 a1 a2 a3 a4 a5 a6 : Option mAV} {x : Int} {nx : Nat} (hc : (mPr mt).2 j = some (opStI 4 nx)) (hn : mNotLong (some a3) = true) (k : Run d mt nx [a0, a1, a2, a3, some (.inl x), a5, a6] S h r h') : Run d mt j [a0, a1, a2, a3, a4, a5, a6] (.inl x :: S) h r h' := Run.step hc (by
  have ok : mStOk [a0, a1, a2, a3, a4, a5, a6] 4 0 = true := by
    unfold mStOk
    simp [hn]
  unfold opStI
  dsimp only
  rw [if_pos ok]
  rfl) k
theorem x_StI_7_5 {a0 a1 a2 a3 a4 a5 a6 : Option mAV} {x : Int} {nx : Nat} (hc : (mPr mt).2 j = some (opStI 5 nx)) (hn : mNotLong (some a4) = true) (k : Run d mt nx [a0, a1, a2, a3, a4, some (.inl x), a6] S h r h') : Run d mt j [a0, a1, a2, a3, a4, a5, a6] (.inl x :: S) h r h' := Run.step hc (by
  have ok : mStOk [a0, a1, a2, a3, a4, a5, a6] 5 0 = true := by
    unfold mStOk
    simp [hn]
  unfold opStI
  dsimp only
  rw [if_pos ok]
  rfl) k
theorem x_StI_7_6 {a0 a1 a2 a3 a4 a5 a6 : Option mAV} {x : Int} {nx : Nat} (hc : (mPr mt).2 j = some (opStI 6 nx)) (hn : mNotLong (some a5) = true) (k : Run d mt nx [a0, a1, a2, a3, a4, a5, some (.inl x)] S h r h') : Run d mt j [a0, a1, a2, a3, a4, a5, a6] (.inl x :: S) h r h' := Run.step hc (by
  have ok : mStOk [a0, a1, a2, a3, a4, a5, a6] 6 0 = true := by
    unfold mStOk
    simp [hn]
  unfold opStI
  dsimp only
  rw [if_pos ok]
  rfl) k
theorem x_StI_8_3 {a0 a1 a2 a3 a4 a5 a6 a7 : Option mAV} {x : Int} {nx : Nat} (hc : (mPr mt).2 j = some (opStI 3 nx)) (hn : mNotLong (some a2) = true) (k : Run d mt nx [a0, a1, a2, some (.inl x), a4, a5, a6, a7] S h r h') : Run d mt j [a0, a1, a2, a3, a4, a5, a6, a7] (.inl x :: S) h r h' := Run.step hc (by
  have ok : mStOk [a0, a1, a2, a3, a4, a5, a6, a7] 3 0 = true := by
    unfold mStOk
    simp [hn]
  unfold opStI
  dsimp only
  rw [if_pos ok]
  rfl) k
theorem x_StI_8_4 {a0 a1 a2 a3 a4 a5 a6 a7 : Option mAV} {x : Int} {nx : Nat} (hc : (mPr mt).2 j = some (opStI 4 nx)) (hn : mNotLong (some a3) = true) (k : Run d mt nx [a0, a1, a2, a3, some (.inl x), a5, a6, a7] S h r h') : Run d mt j [a0, a1, a2, a3, a4, a5, a6, a7] (.inl x :: S) h r h' := Run.step hc (by
  have ok : mStOk [a0, a1, a2, a3, a4, a5, a6, a7] 4 0 = true := by
    unfold mStOk
    simp [hn]
  unfold opStI
  dsimp only
  rw [if_pos ok]
  rfl) k
theorem x_StI_8_5 {a0 a1 a2 a3 a4 a5 a6 a7 : Option mAV} {x : Int} {nx : Nat} (hc : (mPr mt).2 j = some (opStI 5 nx)) (hn : mNotLong (some a4) = true) (k : Run d mt nx [a0, a1, a2, a3, a4, some (.inl x), a6, a7] S h r h') : Run d mt j [a0, a1, a2, a3, a4, a5, a6, a7] (.inl x :: S) h r h' := Run.step hc (by
  have ok : mStOk [a0, a1, a2, a3, a4, a5, a6, a7] 5 0 = true := by
    unfold mStOk
    simp [hn]
  unfold opStI
  dsimp only
  rw [if_pos ok]
  rfl) k
theorem x_StI_8_6 {a0 a1 a2 a3 a4 a5 a6 a7 : Option mAV} {x : Int} {nx : Nat} (hc : (mPr mt).2 j = some (opStI 6 nx)) (hn : mNotLong (some a5) = true) (k : Run d mt nx [a0, a1, a2, a3, a4, a5, some (.inl x), a7] S h r h') : Run d mt j [a0, a1, a2, a3, a4, a5, a6, a7] (.inl x :: S) h r h' := Run.step hc (by
  have ok : mStOk [a0, a1, a2, a3, a4, a5, a6, a7] 6 0 = true := by
    unfold mStOk
    simp [hn]
  unfold opStI
  dsimp only
  rw [if_pos ok]
  rfl) k
theorem x_StI_8_7 {a0 a1 a2 a3 a4 a5 a6 a7 : Option mAV} {x : Int} {nx : Nat} (hc : (mPr mt).2 j = some (opStI 7 nx)) (hn : mNotLong (some a6) = true) (k : Run d mt nx [a0, a1, a2, a3, a4, a5, a6, some (.inl x)] S h r h') : Run d mt j [a0, a1, a2, a3, a4, a5, a6, a7] (.inl x :: S) h r h' := Run.step hc (by
  have ok : mStOk [a0, a1, a2, a3, a4, a5, a6, a7] 7 0 = true := by
    unfold mStOk
    simp [hn]
  unfold opStI
  dsimp only
  rw [if_pos ok]
  rfl) k
theorem x_StI_10_6 {a0 a1 a2 a3 a4 a5 a6 a7 a8 a9 : Option mAV} {x : Int} {nx : Nat} (hc : (mPr mt).2 j = some (opStI 6 nx)) (hn : mNotLong (some a5) = true) (k : Run d mt nx [a0, a1, a2, a3, a4, a5, some (.inl x), a7, a8, a9] S h r h') : Run d mt j [a0, a1, a2, a3, a4, a5, a6, a7, a8, a9] (.inl x :: S) h r h' := Run.step hc (by
  have ok : mStOk [a0, a1, a2, a3, a4, a5, a6, a7, a8, a9] 6 0 = true := by
    unfold mStOk
    simp [hn]
  unfold opStI
  dsimp only
  rw [if_pos ok]
  rfl) k
theorem x_StI_10_7 {a0 a1 a2 a3 a4 a5 a6 a7 a8 a9 : Option mAV} {x : Int} {nx : Nat} (hc : (mPr mt).2 j = some (opStI 7 nx)) (hn : mNotLong (some a6) = true) (k : Run d mt nx [a0, a1, a2, a3, a4, a5, a6, some (.inl x), a8, a9] S h r h') : Run d mt j [a0, a1, a2, a3, a4, a5, a6, a7, a8, a9] (.inl x :: S) h r h' := Run.step hc (by
  have ok : mStOk [a0, a1, a2, a3, a4, a5, a6, a7, a8, a9] 7 0 = true := by
    unfold mStOk
    simp [hn]
  unfold opStI
  dsimp only
  rw [if_pos ok]
  rfl) k
theorem x_StI_10_8 {a0 a1 a2 a3 a4 a5 a6 a7 a8 a9 : Option mAV} {x : Int} {nx : Nat} (hc : (mPr mt).2 j = some (opStI 8 nx)) (hn : mNotLong (some a7) = true) (k : Run d mt nx [a0, a1, a2, a3, a4, a5, a6, a7, some (.inl x), a9] S h r h') : Run d mt j [a0, a1, a2, a3, a4, a5, a6, a7, a8, a9] (.inl x :: S) h r h' := Run.step hc (by
  have ok : mStOk [a0, a1, a2, a3, a4, a5, a6, a7, a8, a9] 8 0 = true := by
    unfold mStOk
    simp [hn]
  unfold opStI
  dsimp only
  rw [if_pos ok]
  rfl) k
theorem x_StI_10_9 {a0 a1 a2 a3 a4 a5 a6 a7 a8 a9 : Option mAV} {x : Int} {nx : Nat} (hc : (mPr mt).2 j = some (opStI 9 nx)) (hn : mNotLong (some a8) = true) (k : Run d mt nx [a0, a1, a2, a3, a4, a5, a6, a7, a8, some (.inl x)] S h r h') : Run d mt j [a0, a1, a2, a3, a4, a5, a6, a7, a8, a9] (.inl x :: S) h r h' := Run.step hc (by
  have ok : mStOk [a0, a1, a2, a3, a4, a5, a6, a7, a8, a9] 9 0 = true := by
    unfold mStOk
    simp [hn]
  unfold opStI
  dsimp only
  rw [if_pos ok]
  rfl) k
theorem x_StL_4_1 {a0 a1 a2 a3 : Option mAV} {x : Int} {nx : Nat} (hc : (mPr mt).2 j = some (opStL 1 nx)) (hn : mNotLong (some a0) = true) (k : Run d mt nx [a0, some (.inr (.inl x)), none, a3] S h r h') : Run d mt j [a0, a1, a2, a3] (.inr (.inl x) :: S) h r h' := Run.step hc (by
  have ok : mStOk [a0, a1, a2, a3] 1 1 = true := by
    unfold mStOk
    simp [hn]
  unfold opStL
  dsimp only
  rw [if_pos ok]
  rfl) k
theorem x_StL_10_4 {a0 a1 a2 a3 a4 a5 a6 a7 a8 a9 : Option mAV} {x : Int} {nx : Nat} (hc : (mPr mt).2 j = some (opStL 4 nx)) (hn : mNotLong (some a3) = true) (k : Run d mt nx [a0, a1, a2, a3, some (.inr (.inl x)), none, a6, a7, a8, a9] S h r h') : Run d mt j [a0, a1, a2, a3, a4, a5, a6, a7, a8, a9] (.inr (.inl x) :: S) h r h' := Run.step hc (by
  have ok : mStOk [a0, a1, a2, a3, a4, a5, a6, a7, a8, a9] 4 1 = true := by
    unfold mStOk
    simp [hn]
  unfold opStL
  dsimp only
  rw [if_pos ok]
  rfl) k
theorem x_StR_4_1 {a0 a1 a2 a3 : Option mAV} {x : Nat} {nx : Nat} (hc : (mPr mt).2 j = some (opStR 1 nx)) (hn : mNotLong (some a0) = true) (hx : Nat.ble 1 x = true) (k : Run d mt nx [a0, some (.inr (.inr x)), a2, a3] S h r h') : Run d mt j [a0, a1, a2, a3] (.inr (.inr x) :: S) h r h' := Run.step hc (by
  obtain ⟨b, rfl⟩ : ∃ b, x = b + 1 := ⟨x - 1, by have := Nat.le_of_ble_eq_true hx; omega⟩
  have ok : mStOk [a0, a1, a2, a3] 1 2 = true := by
    unfold mStOk
    simp [hn]
  unfold opStR
  dsimp only
  rw [if_pos ok]
  rfl) k
theorem x_StR_4_2 {a0 a1 a2 a3 : Option mAV} {x : Nat} {nx : Nat} (hc : (mPr mt).2 j = some (opStR 2 nx)) (hn : mNotLong (some a1) = true) (hx : Nat.ble 1 x = true) (k : Run d mt nx [a0, a1, some (.inr (.inr x)), a3] S h r h') : Run d mt j [a0, a1, a2, a3] (.inr (.inr x) :: S) h r h' := Run.step hc (by
  obtain ⟨b, rfl⟩ : ∃ b, x = b + 1 := ⟨x - 1, by have := Nat.le_of_ble_eq_true hx; omega⟩
  have ok : mStOk [a0, a1, a2, a3] 2 2 = true := by
    unfold mStOk
    simp [hn]
  unfold opStR
  dsimp only
  rw [if_pos ok]
  rfl) k
theorem x_StR_5_2 {a0 a1 a2 a3 a4 : Option mAV} {x : Nat} {nx : Nat} (hc : (mPr mt).2 j = some (opStR 2 nx)) (hn : mNotLong (some a1) = true) (hx : Nat.ble 1 x = true) (k : Run d mt nx [a0, a1, some (.inr (.inr x)), a3, a4] S h r h') : Run d mt j [a0, a1, a2, a3, a4] (.inr (.inr x) :: S) h r h' := Run.step hc (by
  obtain ⟨b, rfl⟩ : ∃ b, x = b + 1 := ⟨x - 1, by have := Nat.le_of_ble_eq_true hx; omega⟩
  have ok : mStOk [a0, a1, a2, a3, a4] 2 2 = true := by
    unfold mStOk
    simp [hn]
  unfold opStR
  dsimp only
  rw [if_pos ok]
  rfl) k
theorem x_StR_5_4 {a0 a1 a2 a3 a4 : Option mAV} {x : Nat} {nx : Nat} (hc : (mPr mt).2 j = some (opStR 4 nx)) (hn : mNotLong (some a3) = true) (hx : Nat.ble 1 x = true) (k : Run d mt nx [a0, a1, a2, a3, some (.inr (.inr x))] S h r h') : Run d mt j [a0, a1, a2, a3, a4] (.inr (.inr x) :: S) h r h' := Run.step hc (by
  obtain ⟨b, rfl⟩ : ∃ b, x = b + 1 := ⟨x - 1, by have := Nat.le_of_ble_eq_true hx; omega⟩
  have ok : mStOk [a0, a1, a2, a3, a4] 4 2 = true := by
    unfold mStOk
    simp [hn]
  unfold opStR
  dsimp only
  rw [if_pos ok]
  rfl) k
theorem x_StR_6_3 {a0 a1 a2 a3 a4 a5 : Option mAV} {x : Nat} {nx : Nat} (hc : (mPr mt).2 j = some (opStR 3 nx)) (hn : mNotLong (some a2) = true) (hx : Nat.ble 1 x = true) (k : Run d mt nx [a0, a1, a2, some (.inr (.inr x)), a4, a5] S h r h') : Run d mt j [a0, a1, a2, a3, a4, a5] (.inr (.inr x) :: S) h r h' := Run.step hc (by
  obtain ⟨b, rfl⟩ : ∃ b, x = b + 1 := ⟨x - 1, by have := Nat.le_of_ble_eq_true hx; omega⟩
  have ok : mStOk [a0, a1, a2, a3, a4, a5] 3 2 = true := by
    unfold mStOk
    simp [hn]
  unfold opStR
  dsimp only
  rw [if_pos ok]
  rfl) k
theorem x_inc_2_1 {a0 : Option mAV} {x c : Int} {nx : Nat} (hc : (mPr mt).2 j = some (opInc 1 c nx)) (hn : mNotLong (some a0) = true) (k : Run d mt nx [a0, some (.inl (x + c))] S h r h') : Run d mt j [a0, some (.inl x)] S h r h' := Run.step hc (by
  have ok : mStOk [a0, some (.inl x)] 1 0 = true := by
    unfold mStOk
    simp [hn]
  unfold opInc
  show (if mStOk [a0, some (.inl x)] 1 0 = true then _ else _) = _
  rw [if_pos ok]
  rfl) k
theorem x_inc_3_2 {a0 a1 : Option mAV} {x c : Int} {nx : Nat} (hc : (mPr mt).2 j = some (opInc 2 c nx)) (hn : mNotLong (some a1) = true) (k : Run d mt nx [a0, a1, some (.inl (x + c))] S h r h') : Run d mt j [a0, a1, some (.inl x)] S h r h' := Run.step hc (by
  have ok : mStOk [a0, a1, some (.inl x)] 2 0 = true := by
    unfold mStOk
    simp [hn]
  unfold opInc
  show (if mStOk [a0, a1, some (.inl x)] 2 0 = true then _ else _) = _
  rw [if_pos ok]
  rfl) k
theorem x_inc_4_2 {a0 a1 a3 : Option mAV} {x c : Int} {nx : Nat} (hc : (mPr mt).2 j = some (opInc 2 c nx)) (hn : mNotLong (some a1) = true) (k : Run d mt nx [a0, a1, some (.inl (x + c)), a3] S h r h') : Run d mt j [a0, a1, some (.inl x), a3] S h r h' := Run.step hc (by
  have ok : mStOk [a0, a1, some (.inl x), a3] 2 0 = true := by
    unfold mStOk
    simp [hn]
  unfold opInc
  show (if mStOk [a0, a1, some (.inl x), a3] 2 0 = true then _ else _) = _
  rw [if_pos ok]
  rfl) k
theorem x_inc_4_3 {a0 a1 a2 : Option mAV} {x c : Int} {nx : Nat} (hc : (mPr mt).2 j = some (opInc 3 c nx)) (hn : mNotLong (some a2) = true) (k : Run d mt nx [a0, a1, a2, some (.inl (x + c))] S h r h') : Run d mt j [a0, a1, a2, some (.inl x)] S h r h' := Run.step hc (by
  have ok : mStOk [a0, a1, a2, some (.inl x)] 3 0 = true := by
    unfold mStOk
    simp [hn]
  unfold opInc
  show (if mStOk [a0, a1, a2, some (.inl x)] 3 0 = true then _ else _) = _
  rw [if_pos ok]
  rfl) k
theorem x_inc_5_3 {a0 a1 a2 a4 : Option mAV} {x c : Int} {nx : Nat} (hc : (mPr mt).2 j = some (opInc 3 c nx)) (hn : mNotLong (some a2) = true) (k : Run d mt nx [a0, a1, a2, some (.inl (x + c)), a4] S h r h') : Run d mt j [a0, a1, a2, some (.inl x), a4] S h r h' := Run.step hc (by
  have ok : mStOk [a0, a1, a2, some (.inl x), a4] 3 0 = true := by
    unfold mStOk
    simp [hn]
  unfold opInc
  show (if mStOk [a0, a1, a2, some (.inl x), a4] 3 0 = true then _ else _) = _
  rw [if_pos ok]
  rfl) k
theorem x_inc_5_4 {a0 a1 a2 a3 : Option mAV} {x c : Int} {nx : Nat} (hc : (mPr mt).2 j = some (opInc 4 c nx)) (hn : mNotLong (some a3) = true) (k : Run d mt nx [a0, a1, a2, a3, some (.inl (x + c))] S h r h') : Run d mt j [a0, a1, a2, a3, some (.inl x)] S h r h' := Run.step hc (by
  have ok : mStOk [a0, a1, a2, a3, some (.inl x)] 4 0 = true := by
    unfold mStOk
    simp [hn]
  unfold opInc
  show (if mStOk [a0, a1, a2, a3, some (.inl x)] 4 0 = true then _ else _) = _
  rw [if_pos ok]
  rfl) k
theorem x_inc_6_2 {a0 a1 a3 a4 a5 : Option mAV} {x c : Int} {nx : Nat} (hc : (mPr mt).2 j = some (opInc 2 c nx)) (hn : mNotLong (some a1) = true) (k : Run d mt nx [a0, a1, some (.inl (x + c)), a3, a4, a5] S h r h') : Run d mt j [a0, a1, some (.inl x), a3, a4, a5] S h r h' := Run.step hc (by
  have ok : mStOk [a0, a1, some (.inl x), a3, a4, a5] 2 0 = true := by
    unfold mStOk
    simp [hn]
  unfold opInc
  show (if mStOk [a0, a1, some (.inl x), a3, a4, a5] 2 0 = true then _ else _) = _
  rw [if_pos ok]
  rfl) k
theorem x_inc_6_3 {a0 a1 a2 a4 a5 : Option mAV} {x c : Int} {nx : Nat} (hc : (mPr mt).2 j = some (opInc 3 c nx)) (hn : mNotLong (some a2) = true) (k : Run d mt nx [a0, a1, a2, some (.inl (x + c)), a4, a5] S h r h') : Run d mt j [a0, a1, a2, some (.inl x), a4, a5] S h r h' := Run.step hc (by
  have ok : mStOk [a0, a1, a2, some (.inl x), a4, a5] 3 0 = true := by
    unfold mStOk
    simp [hn]
  unfold opInc
  show (if mStOk [a0, a1, a2, some (.inl x), a4, a5] 3 0 = true then _ else _) = _
  rw [if_pos ok]
  rfl) k
theorem x_inc_6_4 {a0 a1 a2 a3 a5 : Option mAV} {x c : Int} {nx : Nat} (hc : (mPr mt).2 j = some (opInc 4 c nx)) (hn : mNotLong (some a3) = true) (k : Run d mt nx [a0, a1, a2, a3, some (.inl (x + c)), a5] S h r h') : Run d mt j [a0, a1, a2, a3, some (.inl x), a5] S h r h' := Run.step hc (by
  have ok : mStOk [a0, a1, a2, a3, some (.inl x), a5] 4 0 = true := by
    unfold mStOk
    simp [hn]
  unfold opInc
  show (if mStOk [a0, a1, a2, a3, some (.inl x), a5] 4 0 = true then _ else _) = _
  rw [if_pos ok]
  rfl) k
theorem x_inc_6_5 {a0 a1 a2 a3 a4 : Option mAV} {x c : Int} {nx : Nat} (hc : (mPr mt).2 j = some (opInc 5 c nx)) (hn : mNotLong (some a4) = true) (k : Run d mt nx [a0, a1, a2, a3, a4, some (.inl (x + c))] S h r h') : Run d mt j [a0, a1, a2, a3, a4, some (.inl x)] S h r h' := Run.step hc (by
  have ok : mStOk [a0, a1, a2, a3, a4, some (.inl x)] 5 0 = true := by
    unfold mStOk
    simp [hn]
  unfold opInc
  show (if mStOk [a0, a1, a2, a3, a4, some (.inl x)] 5 0 = true then _ else _) = _
  rw [if_pos ok]
  rfl) k
theorem x_inc_7_3 {a0 a1 a2 a4 a5 a6 : Option mAV} {x c : Int} {nx : Nat} (hc : (mPr mt).2 j = some (opInc 3 c nx)) (hn : mNotLong (some a2) = true) (k : Run d mt nx [a0, a1, a2, some (.inl (x + c)), a4, a5, a6] S h r h') : Run d mt j [a0, a1, a2, some (.inl x), a4, a5, a6] S h r h' := Run.step hc (by
  have ok : mStOk [a0, a1, a2, some (.inl x), a4, a5, a6] 3 0 = true := by
    unfold mStOk
    simp [hn]
  unfold opInc
  show (if mStOk [a0, a1, a2, some (.inl x), a4, a5, a6] 3 0 = true then _ else _) = _
  rw [if_pos ok]
  rfl) k
theorem x_inc_7_4 {a0 a1 a2 a3 a5 a6 : Option mAV} {x c : Int} {nx : Nat} (hc : (mPr mt).2 j = some (opInc 4 c nx)) (hn : mNotLong (some a3) = true) (k : Run d mt nx [a0, a1, a2, a3, some (.inl (x + c)), a5, a6] S h r h') : Run d mt j [a0, a1, a2, a3, some (.inl x), a5, a6] S h r h' := Run.step hc (by
  have ok : mStOk [a0, a1, a2, a3, some (.inl x), a5, a6] 4 0 = true := by
    unfold mStOk
    simp [hn]
  unfold opInc
  show (if mStOk [a0, a1, a2, a3, some (.inl x), a5, a6] 4 0 = true then _ else _) = _
  rw [if_pos ok]
  rfl) k
theorem x_inc_7_5 {a0 a1 a2 a3 a4 a6 : Option mAV} {x c : Int} {nx : Nat} (hc : (mPr mt).2 j = some (opInc 5 c nx)) (hn : mNotLong (some a4) = true) (k : Run d mt nx [a0, a1, a2, a3, a4, some (.inl (x + c)), a6] S h r h') : Run d mt j [a0, a1, a2, a3, a4, some (.inl x), a6] S h r h' := Run.step hc (by
  have ok : mStOk [a0, a1, a2, a3, a4, some (.inl x), a6] 5 0 = true := by
    unfold mStOk
    simp [hn]
  unfold opInc
  show (if mStOk [a0, a1, a2, a3, a4, some (.inl x), a6] 5 0 = true then _ else _) = _
  rw [if_pos ok]
  rfl) k
theorem x_inc_7_6 {a0 a1 a2 a3 a4 a5 : Option mAV} {x c : Int} {nx : Nat} (hc : (mPr mt).2 j = some (opInc 6 c nx)) (hn : mNotLong (some a5) = true) (k : Run d mt nx [a0, a1, a2, a3, a4, a5, some (.inl (x + c))] S h r h') : Run d mt j [a0, a1, a2, a3, a4, a5, some (.inl x)] S h r h' := Run.step hc (by
  have ok : mStOk [a0, a1, a2, a3, a4, a5, some (.inl x)] 6 0 = true := by
    unfold mStOk
    simp [hn]
  unfold opInc
  show (if mStOk [a0, a1, a2, a3, a4, a5, some (.inl x)] 6 0 = true then _ else _) = _
  rw [if_pos ok]
  rfl) k
theorem x_inc_8_5 {a0 a1 a2 a3 a4 a6 a7 : Option mAV} {x c : Int} {nx : Nat} (hc : (mPr mt).2 j = some (opInc 5 c nx)) (hn : mNotLong (some a4) = true) (k : Run d mt nx [a0, a1, a2, a3, a4, some (.inl (x + c)), a6, a7] S h r h') : Run d mt j [a0, a1, a2, a3, a4, some (.inl x), a6, a7] S h r h' := Run.step hc (by
  have ok : mStOk [a0, a1, a2, a3, a4, some (.inl x), a6, a7] 5 0 = true := by
    unfold mStOk
    simp [hn]
  unfold opInc
  show (if mStOk [a0, a1, a2, a3, a4, some (.inl x), a6, a7] 5 0 = true then _ else _) = _
  rw [if_pos ok]
  rfl) k
theorem x_inc_8_6 {a0 a1 a2 a3 a4 a5 a7 : Option mAV} {x c : Int} {nx : Nat} (hc : (mPr mt).2 j = some (opInc 6 c nx)) (hn : mNotLong (some a5) = true) (k : Run d mt nx [a0, a1, a2, a3, a4, a5, some (.inl (x + c)), a7] S h r h') : Run d mt j [a0, a1, a2, a3, a4, a5, some (.inl x), a7] S h r h' := Run.step hc (by
  have ok : mStOk [a0, a1, a2, a3, a4, a5, some (.inl x), a7] 6 0 = true := by
    unfold mStOk
    simp [hn]
  unfold opInc
  show (if mStOk [a0, a1, a2, a3, a4, a5, some (.inl x), a7] 6 0 = true then _ else _) = _
  rw [if_pos ok]
  rfl) k
theorem x_inc_8_7 {a0 a1 a2 a3 a4 a5 a6 : Option mAV} {x c : Int} {nx : Nat} (hc : (mPr mt).2 j = some (opInc 7 c nx)) (hn : mNotLong (some a6) = true) (k : Run d mt nx [a0, a1, a2, a3, a4, a5, a6, some (.inl (x + c))] S h r h') : Run d mt j [a0, a1, a2, a3, a4, a5, a6, some (.inl x)] S h r h' := Run.step hc (by
  have ok : mStOk [a0, a1, a2, a3, a4, a5, a6, some (.inl x)] 7 0 = true := by
    unfold mStOk
    simp [hn]
  unfold opInc
  show (if mStOk [a0, a1, a2, a3, a4, a5, a6, some (.inl x)] 7 0 = true then _ else _) = _
  rw [if_pos ok]
  rfl) k
theorem x_inc_10_6 {a0 a1 a2 a3 a4 a5 a7 a8 a9 : Option mAV} {x c : Int} {nx : Nat} (hc : (mPr mt).2 j = some (opInc 6 c nx)) (hn : mNotLong (some a5) = true) (k : Run d mt nx [a0, a1, a2, a3, a4, a5, some (.inl (x + c)), a7, a8, a9] S h r h') : Run d mt j [a0, a1, a2, a3, a4, a5, some (.inl x), a7, a8, a9] S h r h' := Run.step hc (by
  have ok : mStOk [a0, a1, a2, a3, a4, a5, some (.inl x), a7, a8, a9] 6 0 = true := by
    unfold mStOk
    simp [hn]
  unfold opInc
  show (if mStOk [a0, a1, a2, a3, a4, a5, some (.inl x), a7, a8, a9] 6 0 = true then _ else _) = _
  rw [if_pos ok]
  rfl) k
theorem x_inc_10_8 {a0 a1 a2 a3 a4 a5 a6 a7 a9 : Option mAV} {x c : Int} {nx : Nat} (hc : (mPr mt).2 j = some (opInc 8 c nx)) (hn : mNotLong (some a7) = true) (k : Run d mt nx [a0, a1, a2, a3, a4, a5, a6, a7, some (.inl (x + c)), a9] S h r h') : Run d mt j [a0, a1, a2, a3, a4, a5, a6, a7, some (.inl x), a9] S h r h' := Run.step hc (by
  have ok : mStOk [a0, a1, a2, a3, a4, a5, a6, a7, some (.inl x), a9] 8 0 = true := by
    unfold mStOk
    simp [hn]
  unfold opInc
  show (if mStOk [a0, a1, a2, a3, a4, a5, a6, a7, some (.inl x), a9] 8 0 = true then _ else _) = _
  rw [if_pos ok]
  rfl) k
end RR
