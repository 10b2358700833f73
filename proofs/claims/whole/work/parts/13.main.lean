/-! ===== the theorem of the small machine ===== -/
/-- the facts of each method: pcs its instructions' places -/
def m_Sys (P : mP) (I : mInf) (pcs : Nat → Nat → Nat) : Prop :=
  ∀ mt : Nat, (∀ (j : Nat) (op : mOp), (P mt).2 j = some op → m_All (I mt).1.cls (I mt).2.1 (I mt).2.2.1 (I mt).2.2.2 ((I mt).1.name == "<init>") (pcs mt) I j op) ∧
    ((P mt).2 0 = none ∨ (plainName (I mt).1.cls = true ∧ (P mt).1 = (I mt).2.2.1 ∧ pcs mt 0 = 0))
theorem m_inArgs (E : mEnv) : ∀ (as : List mAV) (i k : Nat) (v : mAV), (mArgs as)[i]? = some (some v) → (k + i, m_v E v) ∈ lv_args k (as.map (m_v E))
  | [], i, k, v, h => by simp [mArgs] at h
  | .inl x :: as, i, k, v, h => by
    rw [List.map_cons]
    unfold lv_args
    unfold mArgs at h
    match i with
    | 0 => cases h; exact List.mem_cons_self
    | i + 1 =>
      refine List.mem_cons_of_mem _ ?_
      rw [if_neg (by show ¬ (1 : Nat) = 2; decide), show k + (i + 1) = k + 1 + i by omega]
      exact m_inArgs E as i (k + 1) v (by simpa using h)
  | .inr (.inl x) :: as, i, k, v, h => by
    rw [List.map_cons]
    unfold lv_args
    unfold mArgs at h
    match i with
    | 0 => cases h; exact List.mem_cons_self
    | 1 => cases h
    | i + 2 =>
      refine List.mem_cons_of_mem _ ?_
      rw [if_pos (show (m_v E (.inr (.inl x))).category = 2 from rfl), show k + (i + 2) = k + 2 + i by omega]
      exact m_inArgs E as i (k + 2) v (by simpa using h)
  | .inr (.inr a) :: as, i, k, v, h => by
    rw [List.map_cons]
    unfold lv_args
    unfold mArgs at h
    match i with
    | 0 => cases h; exact List.mem_cons_self
    | i + 1 =>
      refine List.mem_cons_of_mem _ ?_
      rw [if_neg (by rw [m_cat]; show ¬ (1 : Nat) = 2; decide), show k + (i + 1) = k + 1 + i by omega]
      exact m_inArgs E as i (k + 1) v (by simpa using h)
theorem m_slLen (E : mEnv) : ∀ as : List mAV, (lg_sl (as.map (m_v E))).length = (mArgs as).length
  | [] => rfl
  | .inl x :: as => by
    have := m_slLen E as
    unfold lg_sl at this ⊢
    rw [List.map_cons, List.flatMap_cons, List.length_append, this, if_neg (by show ¬ (1 : Nat) = 2; decide)]
    rw [show mArgs (.inl x :: as) = some (.inl x) :: mArgs as from rfl]
    simp
    omega
  | .inr (.inl x) :: as => by
    have := m_slLen E as
    unfold lg_sl at this ⊢
    rw [List.map_cons, List.flatMap_cons, List.length_append, this, if_pos (show (m_v E (.inr (.inl x))).category = 2 from rfl)]
    rw [show mArgs (.inr (.inl x) :: as) = some (.inr (.inl x)) :: none :: mArgs as from rfl]
    simp
    omega
  | .inr (.inr a) :: as => by
    have := m_slLen E as
    unfold lg_sl at this ⊢
    rw [List.map_cons, List.flatMap_cons, List.length_append, this, if_neg (by rw [m_cat]; show ¬ (1 : Nat) = 2; decide)]
    rw [show mArgs (.inr (.inr a) :: as) = some (.inr (.inr a)) :: mArgs as from rfl]
    simp
    omega
theorem m_inF (E : mEnv) {n : Nat} {as : List mAV} (h : (mArgs as).length ≤ n) : (mIn n as).length = n ∧ m_F E (mIn n as) ((lg_sl (as.map (m_v E)) ++ List.replicate (n - (lg_sl (as.map (m_v E))).length) Slot.unset).toArray) := by
  have hl : (mIn n as).length = n := by unfold mIn; simp; omega
  refine ⟨hl, _, by rw [hl]; exact lv_entry (as.map (m_v E)) (by rw [m_slLen]; exact h), fun i v hv => ?_⟩
  have h1 : (mArgs as)[i]? = some (some v) := by
    unfold mIn at hv
    by_cases hi : i < (mArgs as).length
    · rwa [List.getElem?_append_left hi] at hv
    · rw [List.getElem?_append_right (by omega)] at hv
      have := List.eq_of_mem_replicate (List.mem_of_getElem? hv)
      cases this
  have := m_inArgs E as i 0 v h1
  rwa [Nat.zero_add] at this
section MM
variable {P : mP} {I : mInf} {pcs : Nat → Nat → Nat}
def m_Claim (P : mP) (I : mInf) (pcs : Nat → Nat → Nat) (n : Nat) : Prop := ∀ (d mt j : Nat) (L : mL) (S : mS) (h : mH) (rv : Option mAV) (hF : mH), mrun P n d mt j L S h = some (rv, hF) →
  (h.1 ≤ hF.1 ∧ h.2.1 ≤ hF.2.1) ∧ ∀ (p : Program) (l : Launch) (e : Env) (R : Room) (s : State) (m : MethodId) (args : Array Value) (below : List Frame) (meth : Method) (c : Code) (Q : State → Prop) (E : mEnv) (h0 : mH),
    m_X p s m args meth c R (I mt).1.cls (I mt).2.1 (I mt).2.2.1 (I mt).2.2.2 ((I mt).1.name == "<init>") E h0 d → L.length = (I mt).2.2.1 → h0.1 ≤ h.1 → h0.2.1 ≤ h.2.1 → hF.1 - h0.1 ≤ R.cells → hF.2.1 - h0.2.1 ≤ R.slots →
    m_End p l e R s m args below meth c Q E h0 (I mt).2.1 (I mt).2.2.2 rv hF → m_Go p l e R s m args below meth c Q E h0 (pcs mt j) L S h
theorem m_met (hS : m_Sys P I pcs) {n : Nat} (ih : m_Claim P I pcs n) {d mt : Nat} {as : List mAV} {h h1 : mH} {rv : Option mAV} (hr : mrun P n d mt 0 (mIn (P mt).1 as) [] h = some (rv, h1)) (hl : (mArgs as).length ≤ (P mt).1) (l : Launch) (E : mEnv) : m_Met l I E mt as h rv h1 d := by
  obtain ⟨⟨g1, g2⟩, hgo⟩ := ih _ _ _ _ _ _ _ _ hr
  have hne : ¬ (P mt).2 0 = none := by
    intro hq
    cases n with
    | zero => unfold mrun at hr; cases hr
    | succ n => unfold mrun at hr; rw [hq] at hr; cases hr
  obtain ⟨f1, f2, f3⟩ := (hS mt).2.resolve_left hne
  refine Met.ofW (cc := (I mt).2.1) (maxL := (I mt).2.2.1) (ret := (I mt).2.2.2) f1 rfl ?_
  intro p e s m args below meth c s₁ B hml hv
  obtain ⟨rfl, hW, hK, hC⟩ := hv
  have hts0 := atoms_spec (ws := m_wsOf I mt) B.pre
  have hin := m_inF E hl
  rw [f2] at hin
  have hX : m_X p s m (as.map (m_v E)).toArray meth c (headSpec (m_wsOf I mt) { frames := d, cells := h1.1 - h.1, slots := h1.2.1 - h.2.1, locals := 40 * d }).room (I mt).1.cls (I mt).2.1 (I mt).2.2.1 (I mt).2.2.2 ((I mt).1.name == "<init>") E h d :=
    ⟨B.exec, B.bytes, hml, findClass_of_methodNamed B.named, fun w hw => hts0 w (List.mem_cons_of_mem _ hw), B.returns, B.notSynchronized, fun hi => by
      rw [(name_of_methodNamed B.named B.method).1]
      simpa using hi, hK, hC, hW.1, hW.2.1.1, Nat.le_refl _, Nat.le_refl _⟩
  have k := hgo p l e _ s m _ below meth c (MQ below (m_Q E rv h1) (as.map (m_v E)).toArray s (h1.1 - h.1) (h1.2.1 - h.2.1) (m_A E)) E h hX (by rw [f2]; exact hin.1) (Nat.le_refl _) (Nat.le_refl _) (Nat.le_refl _) (Nat.le_refl _) ?_ s.heap [] _ hW va_S.rf (by rw [f2]; exact hin.2)
  · rw [Nat.sub_self, Nat.sub_self, f3] at k
    rw [lg_entry_eq]
    exact k
  · intro hok H locs ls pc hd hW1 hS1
    match rv, hok, hd, hW1, hr with
    | none, hok, hd, hW1, hr => exact W.vret B.exec B.bytes (by rw [B.returns]; exact hok) (fun t ht _ => ⟨⟨(), rfl, trivial, by show m_W E h1 t.heap; rw [ht]; exact hW1⟩, hS1.F ht⟩) hS1.2.2 hd B.notSynchronized
    | some (.inl x), hok, hd, hW1, hr =>
      rcases hok with hok | ⟨hok, hx⟩ | ⟨hok, hx⟩
      · exact W.iret B.exec B.bytes (by rw [B.returns]; exact hok) (fun t ht _ => ⟨⟨_, (), rfl, rfl, by show m_W E h1 t.heap; rw [ht]; exact hW1⟩, hS1.F ht⟩) hS1.2.2 hd B.notSynchronized
      · refine W.zret (ty := .boolean) B.exec B.bytes (by rw [B.returns]; exact hok) ?_ (fun t ht _ => ⟨⟨_, (), rfl, rfl, by show m_W E h1 t.heap; rw [ht]; exact hW1⟩, hS1.F ht⟩) hS1.2.2 hd B.notSynchronized
        rcases hx with rfl | rfl <;> rfl
      · refine W.zret (ty := .byte) B.exec B.bytes (by rw [B.returns]; exact hok) ?_ (fun t ht _ => ⟨⟨_, (), rfl, rfl, by show m_W E h1 t.heap; rw [ht]; exact hW1⟩, hS1.F ht⟩) hS1.2.2 hd B.notSynchronized
        rcases hx with rfl | rfl <;> rfl
    | some (.inr (.inl x)), hok, hd, hW1, hr => exact W.lret B.exec B.bytes (by rw [B.returns]; exact hok) (fun t ht _ => ⟨⟨_, (), rfl, rfl, by show m_W E h1 t.heap; rw [ht]; exact hW1⟩, hS1.F ht⟩) hS1.2.2 hd B.notSynchronized
    | some (.inr (.inr a)), hok, hd, hW1, hr =>
      obtain ⟨ha, nm, hn⟩ := hok
      have ev : m_v E (.inr (.inr a)) = .ref (m_ad E a) := by simp [m_v, ha]
      show W _ _ _ _ _ _ _ _ _ _ _ _ _ _ _ (F0 m pc ls [m_v E (.inr (.inr a))])
      rw [ev]
      exact W.aret B.exec B.bytes (by rw [B.returns]; exact hn) (Or.inl ⟨nm, rfl⟩) (Or.inr ⟨_, rfl⟩) (fun t ht _ => ⟨⟨(), _, rfl, trivial, rfl, ha, by show m_W E h1 t.heap; rw [ht]; exact hW1⟩, hS1.F ht⟩) hS1.2.2 hd B.notSynchronized
theorem m_sound (hS : m_Sys P I pcs) : ∀ n : Nat, m_Claim P I pcs n
  | 0 => fun d mt j L S h rv hF hr => by unfold mrun at hr; cases hr
  | n + 1 => by
    intro d mt j L S h rv hF hr
    have ih := m_sound hS n
    unfold mrun at hr
    cases hop : (P mt).2 j with
    | none => rw [hop] at hr; cases hr
    | some op =>
      rw [hop] at hr
      dsimp only at hr
      obtain ⟨c1, c2, c3⟩ := (hS mt).1 j op hop
      cases ho : op d L S h with
      | none => rw [ho] at hr; cases hr
      | some out =>
        rw [ho] at hr
        match out, ho, hr with
        | .inl (j', L', S', h'), ho, hr =>
          obtain ⟨⟨a1, a2, a3⟩, st⟩ := c1 d L S h j' L' S' h' ho
          obtain ⟨⟨b1, b2⟩, k⟩ := ih _ _ _ _ _ _ _ _ hr
          refine ⟨⟨Nat.le_trans a1 b1, Nat.le_trans a2 b2⟩, ?_⟩
          intro p l e R s m args below meth c Q E h0 hX hL g1 g2 g3 g4 hE
          exact st p l e R s m args below meth c Q E h0 hX hL g1 g2 (by omega) (by omega) (k p l e R s m args below meth c Q E h0 hX (a3.trans hL) (Nat.le_trans g1 a1) (Nat.le_trans g2 a2) g3 g4 hE)
        | .inr (.inl (mt', as, j', L', S')), ho, hr =>
          match d, ho, hr with
          | 0, ho, hr => cases hr
          | d' + 1, ho, hr =>
            dsimp only at hr
            split at hr
            · rename_i hlen
              cases hc : mrun P n d' mt' 0 (mIn (P mt').1 as) [] h with
              | none => rw [hc] at hr; cases hr
              | some res =>
                obtain ⟨r1, h1⟩ := res
                rw [hc] at hr
                obtain ⟨rfl, st⟩ := c2 d' L S h mt' as j' L' S' ho
                obtain ⟨⟨a1, a2⟩, -⟩ := ih _ _ _ _ _ _ _ _ hc
                obtain ⟨⟨b1, b2⟩, k⟩ := ih _ _ _ _ _ _ _ _ hr
                refine ⟨⟨Nat.le_trans a1 b1, Nat.le_trans a2 b2⟩, ?_⟩
                intro p l e R s m args below meth c Q E h0 hX hL g1 g2 g3 g4 hE
                exact st r1 h1 a1 a2 p l e R s m args below meth c Q E h0 hX hL g1 g2 (by omega) (by omega) (m_met hS ih hc hlen l E) (k p l e R s m args below meth c Q E h0 hX hL (Nat.le_trans g1 a1) (Nat.le_trans g2 a2) g3 g4 hE)
            · cases hr
        | .inr (.inr r), ho, hr =>
          cases hr
          refine ⟨⟨Nat.le_refl _, Nat.le_refl _⟩, ?_⟩
          intro p l e R s m args below meth c Q E h0 hX hL g1 g2 g3 g4 hE
          exact c3 d L S h _ ho p l e R s m args below meth c Q E h0 hX hE
end MM
