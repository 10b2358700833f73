/-! ===== calls and ends ===== -/
abbrev mInf : Type := Nat → MethodName × ByteArray × Nat × Option FieldType
def m_wsOf (I : mInf) (mt : Nat) : List Cond := Cond.code (I mt).1 (I mt).2.1 (I mt).2.2.1 (I mt).2.2.2 :: m_tbl
def m_Q (E : mEnv) (rv : Option mAV) (h1 : mH) : Array Value → State → Outcome → State → Prop := match rv with
  | none => va_Qv (fun _ : Unit => True) (fun _ t => m_W E h1 t.heap) (m_A E)
  | some (.inl x) => va_Qi (fun r (_ : Unit) => r = Int32.ofInt x) (fun _ t => m_W E h1 t.heap) (m_A E)
  | some (.inr (.inl x)) => va_Ql (fun r (_ : Unit) => r = Int64.ofInt x) (fun _ t => m_W E h1 t.heap) (m_A E)
  | some (.inr (.inr a)) => va_Qr (fun _ : Unit => True) (fun _ ra t => ra = m_ad E a ∧ ¬ a = 0 ∧ m_W E h1 t.heap) (m_A E)
def m_Pc (E : mEnv) (as : List mAV) (h : mH) : Array Value → State → Prop := va_Pc (as.map (m_v E)) (m_B E h)
def m_Met (l : Launch) (I : mInf) (E : mEnv) (mt : Nat) (as : List mAV) (h : mH) (rv : Option mAV) (h1 : mH) (dd : Nat) : Prop :=
  Met l (I mt).1 (m_wsOf I mt) { frames := dd, cells := h1.1 - h.1, slots := h1.2.1 - h.2.1, locals := 40 * dd } (m_Pc E as h) (m_Q E rv h1) (h1.1 - h.1) (h1.2.1 - h.2.1) (m_A E)
theorem m_blind (E : mEnv) (as : List mAV) (h : mH) : FrameBlind (m_Pc E as h) := by
  intro a U g mk hq
  obtain ⟨q1, q2, q3, q4⟩ := hq
  exact ⟨q1, q2, va_K.moved (u := U) (U := U.calling g mk a) (Vm.Alike.refl U.vm) q3, m_CC.mv (u := U) (U := U.calling g mk a) (fun _ _ _ _ hv => vk_R.same rfl hv) (m_nstS rfl) (Vm.Alike.refl U.vm) (fun _ _ _ => rfl) q4⟩
section CL
variable {p : Program} {l : Launch} {e : Env} {R : Room} {s : State} {m : MethodId} {args : Array Value} {below : List Frame} {meth : Method} {c : Code} {H : Heap} {locs : List Loc} {Q : State → Prop}
variable {own : String} {cc : ByteArray} {nL : Nat} {ret : Option FieldType} {ini : Bool} {E : mEnv} {h0 : mH} {d : Nat}
theorem m_pre {h : mH} (hX : m_X p s m args meth c R own cc nL ret ini E h0 d) (hW : m_W E h H) (hS : va_S (m_A E) s.heap H locs) (as : List mAV) : ∀ U : State, U.heap = H → s.WarmedH U.vm → m_Pc E as h (as.map (m_v E)).toArray U := by
  intro U hU hwm
  refine ⟨rfl, by rw [hU]; exact hW, va_K.moved hwm.alike hX.2.2.2.2.2.2.2.2.1, hX.2.2.2.2.2.2.2.2.2.1.mv (fun _ _ _ _ hv => vk_R.warm hwm hv) (m_nstW hwm) hwm.alike (fun q q1 q2 => ?_)⟩
  rw [hU]
  exact hS.2.1 q q1 q2
/-- behind a call -/
theorem m_callEnd {h h1 : mH} {rv : Option mAV} {S' : mS} {L : mL} {ls : Array Slot} {pc : Nat} {st0 : List Value} {a : Array Value} (hX : m_X p s m args meth c R own cc nL ret ini E h0 d) (hS : va_S (m_A E) s.heap H locs) (hF : m_F E L ls) (g0 : h0.1 ≤ h.1) (g1 : h0.2.1 ≤ h.2.1) (g2 : h.1 ≤ h1.1) (g3 : h.2.1 ≤ h1.2.1)
    (hgo : m_Go p l e R s m args below meth c Q E h0 (pc + 3) L (mBack rv S') h1)
    (hr : va_Run p l e R s m args below meth c H locs (h.1 - h0.1) (h.2.1 - h0.2.1) (h1.1 - h.1) (h1.2.1 - h.2.1) (F0 m pc ls st0) (S'.map (m_v E)) (m_Q E rv h1 a) (m_A E)) :
    W p l e R s m args below meth c H locs (h.1 - h0.1) (h.2.1 - h0.2.1) Q (F0 m pc ls st0) := by
  match rv with
  | none =>
    refine va_callv (a := a) hr hS (fun q _ hq => hq) (fun q hq => hq) fun u t H1 locs1 ht hvm hpo hB hz hk hS1 => ?_
    rw [ht] at hB
    exact W.widen (k := h1.1 - h0.1) (n := h1.2.1 - h0.2.1) (by omega) (by omega) (hgo H1 locs1 ls hB hS1 hF)
  | some (.inl x) =>
    refine va_calli (a := a) hr hS (fun q _ hq => hq) (fun q hq => hq) fun r u t H1 locs1 ht hvm hpo hB hz hk hS1 => ?_
    rw [ht] at hB
    rw [hpo]
    exact W.widen (k := h1.1 - h0.1) (n := h1.2.1 - h0.2.1) (by omega) (by omega) (hgo H1 locs1 ls hB hS1 hF)
  | some (.inr (.inl x)) =>
    refine va_calll (a := a) hr hS (fun q _ hq => hq) (fun q hq => hq) fun r u t H1 locs1 ht hvm hpo hB hz hk hS1 => ?_
    rw [ht] at hB
    rw [hpo]
    exact W.widen (k := h1.1 - h0.1) (n := h1.2.1 - h0.2.1) (by omega) (by omega) (hgo H1 locs1 ls hB hS1 hF)
  | some (.inr (.inr b)) =>
    refine va_callr (a := a) hr hS (fun q _ hq => hq) (fun q hq => hq) fun u ra t H1 locs1 ht hvm hpo hB hz hk hS1 => ?_
    rw [ht] at hB
    obtain ⟨hB1, hB2, hB3⟩ := hB
    rw [hB1]
    have k := hgo H1 locs1 ls hB3 hS1 hF
    rw [show (mBack (some (.inr (.inr b))) S').map (m_v E) = .ref (m_ad E b) :: S'.map (m_v E) by
      show m_v E (.inr (.inr b)) :: _ = _
      simp [m_v, hB2]] at k
    exact W.widen (k := h1.1 - h0.1) (n := h1.2.1 - h0.2.1) (by omega) (by omega) k
/-- an inherited method, called by super -/
theorem m_callSO {T : State} {cells slots : Nat} (X : Stand p l e R s m args below meth c T locs cells slots) (hexec : p.tables.exec = Jvm.exec) {own owner : String} {index : Nat} {x : MethodName} {bytes : ByteArray} {maxL : Nat} {ret : Option FieldType}
    (hown : s.vm.findClass own = some m.cls) (hlink : (Cond.methodLink own index x).before args s = true) (hsame : (Cond.sameMethod x.cls owner x.name x.desc).before args s = true) (hsup : (Cond.superclass own x.cls).before args s = true) (hsup2 : (Cond.superclass x.cls owner).before args s = true)
    (hinst : (Cond.instanceMethod ⟨owner, x.name, x.desc⟩).before args s = true) (hcode : (Cond.code ⟨owner, x.name, x.desc⟩ bytes maxL ret).before args s = true) (hno : x.name ≠ "<init>")
    {W : Nat} {Pre : Pt → Array Value → Prop} {Post : Pt → Array Value → Option Value → Pt → Prop} (hK : Back l R p e below s args ⟨owner, x.name, x.desc⟩ 3 W Pre Post)
    {b : Addr} {cellB : Cell} {kB : Class} (hcell : T.heap[b]? = some cellB) (hobj : cellB.vm.isStatics = false) (hkB : s.vm.classes[cellB.cls]? = some kB)
    {g : JFrame} (hg : g.method = m) (hsize : g.locals.size = c.maxLocals) {argsL rest : List Value} (hlen : ∀ sig, parseMethodDescriptor x.desc = some sig → argsL.length = sig.parameters.length)
    (hstack : g.stack = argsL.reverse ++ .ref b :: rest) (hW : 2 * g.monitorRoom + (rest.map fun v => v.category).sum ≤ W) (hdg : decode c.code g.pc = .ok (.invokespecial index, 3))
    (hpre : ∀ vm₁, s.WarmedH vm₁ → Pre ⟨T.setVm vm₁, locs, cells, slots⟩ (Value.ref b :: argsL).toArray) :
    ∃ (v : Option Value) (vm₁ : Vm) (B : Pt), s.WarmedH vm₁ ∧ Stand p l e R s m args below meth c B.U B.locs B.cells B.slots ∧ Post ⟨T.setVm vm₁, locs, cells, slots⟩ (Value.ref b :: argsL).toArray v B ∧
      ∀ target, Steps p.tables e below (B.U.setTop { g with pc := g.pc + 3, stack := v.toList ++ rest }) target → Steps p.tables e below (T.setTop g) target := by
  obtain ⟨mk, methM, hnamed, hmethM, hstM, habM⟩ := Cond.instanceMethod_spec hinst
  obtain ⟨methM', cM, hmethM', -, -, -, -, -, -, hsigM⟩ := Cond.code_spec hnamed hcode
  cases hmethM.symm.trans hmethM'
  obtain ⟨ps, dk, kp, hps, hdk, hkp, hsuper, -, -, hnid⟩ := Cond.superclass_spec hown hsup
  obtain ⟨po, dk2, kp2, hpo, hdk2, hkp2, hsuper2, -, -, -⟩ := Cond.superclass_spec hps hsup2
  have hpm : po = mk.cls := Option.some.inj (hpo.symm.trans (findClass_of_methodNamed hnamed))
  have hsub : s.vm.isSubclass ps mk.cls = true := by
    rw [← hpm]
    have hsz : ps < s.vm.classes.size := (Array.getElem?_eq_some_iff.mp hdk2).1
    obtain ⟨n2, hsz2⟩ : ∃ n2, s.vm.classes.size = n2 + 1 := ⟨_, (Nat.succ_pred_eq_of_pos (Nat.lt_of_le_of_lt (Nat.zero_le _) hsz)).symm⟩
    unfold Vm.isSubclass
    rw [hsz2]
    simp [Vm.isSubclassAux, hdk2, hsuper2]
  obtain ⟨vm₁, X₁, hstep₁⟩ := X.invokespecialUp hexec hown hlink hsame hnamed hmethM hstM habM hno hdk hnid hps hsuper hsub (a := b) (cell := cellB) hcell
    (fun z h => by rw [h] at hobj; cases hobj) hkB (g := g) hg (argsL := argsL) (rest := rest) (hlen _ hsigM) hstack hdg
  obtain ⟨v, B, X', hpost, hsteps⟩ := hK m meth c ⟨T.setVm vm₁, locs, cells, slots⟩ { g with stack := rest } (.invokespecial index) mk (Value.ref b :: argsL).toArray X₁ hg hsize hdg hW (X₁.named hnamed) (hpre vm₁ X₁.warmed)
  exact ⟨v, vm₁, B, X₁.warmed, X', hpost, fun target h => hstep₁ _ (by rw [doInvoke_state]; exact hsteps.trans h)⟩
theorem m_runSO {h h1 : mH} {x : MethodName} {owner C : String} {bytes : ByteArray} {maxL n index mc ms cells slots : Nat} {rt : Option FieldType} {ws : List Cond} {rm : Room} {Pc : Array Value → State → Prop} {Qc : Array Value → State → Outcome → State → Prop} {free : Addr → Prop} {cC : ClassId} {b : Addr} {As rest : List Value} {g : JFrame}
    (hat : ClassAt s C cC) (S : CallFix p m c cc nL s args m_tbl own) (hM : Met l ⟨owner, x.name, x.desc⟩ ws rm Pc Qc mc ms free) (hrc : rm.cells = mc) (hrs : rm.slots = ms) (hfr : rm.frames + 1 ≤ R.frames) (hlo : 8 + (maxL + 11) + rm.locals ≤ R.locals) (hG : GoodIn m_tbl ws) (hcw : Cond.code ⟨owner, x.name, x.desc⟩ bytes maxL rt ∈ ws)
    (l1 : Cond.methodLink own index x ∈ m_tbl) (l2 : Cond.sameMethod x.cls owner x.name x.desc ∈ m_tbl) (l3 : Cond.superclass own x.cls ∈ m_tbl) (l3' : Cond.superclass x.cls owner ∈ m_tbl) (l4 : Cond.instanceMethod ⟨owner, x.name, x.desc⟩ ∈ m_tbl) (l5 : Cond.initialized owner ∈ m_tbl) (hno : x.name ≠ "<init>") (hlen : (parseMethodDescriptor x.desc).map (fun d => d.parameters.length) = some n)
    (hp : PreV s H C b Pc As)
    (hg : g.method = m) (hn : As.length = n) (hsize : g.locals.size = nL) (hstack : g.stack = As.reverse ++ .ref b :: rest) (hW : 2 * g.monitorRoom + (rest.map fun v => v.category).sum ≤ 8) (hdg : decode cc g.pc = .ok (.invokespecial index, 3)) (hf : cells + mc ≤ R.cells ∧ slots + ms ≤ R.slots) :
    va_Run p l e R s m args below meth c H locs cells slots mc ms g rest (Qc (Value.ref b :: As).toArray) (free) := by
  obtain ⟨hx, hb, hml, ho, hts⟩ := S
  have hws : ∀ w ∈ ws, ∀ (a' : Array Value) (U : State), s.WarmedH U.vm → w.before a' U = true := fun w hw a' U hW => word_at hW (hG w hw).2 (hts w (hG w hw).1)
  have hK : Back l R p e below s args ⟨owner, x.name, x.desc⟩ 3 8 (PreOf R mc ms Pc) (PostOf Qc mc ms free) := back_of (bytes := bytes) (maxL := maxL) (ret := rt) hM hp.1 hrc hrs hfr hlo hws hcw (fun a' U hW => word_at hW (Or.inl (by first | rfl | simp [Cond.onTables, Cond.keeps, Cond.steady])) (hts _ l5))
  obtain ⟨-, ⟨cellB, hcB, hoB, hclB⟩, hPc⟩ := hp
  obtain ⟨hfc, kB, hkB, -⟩ := hat
  cases hfc.symm.trans hclB
  intro T hT X
  obtain ⟨v, vm₁, ⟨U', l2, c2, s2⟩, hW₁, X', ⟨g', mk, t, L, e1, e2, hq, h1, hL, h2, h3⟩, st⟩ := m_callSO X hx (bytes := bytes) (maxL := maxL) (ret := rt) ho (hts _ l1) (hts _ l2) (hts _ l3) (hts _ l3') (hts _ l4) (hts _ (hG _ hcw).1) hno hK (by rw [hT]; exact hcB) hoB hkB hg (hsize.trans hml.symm) (argsL := As) (rest := rest) (fun sig h => by
      rw [h] at hlen
      exact hn.trans (Option.some.inj hlen).symm) hstack hW (by rw [hb]; exact hdg)
    (fun vm₁ hW₁ => ⟨hf.1, hf.2, hPc (T.setVm vm₁) hT hW₁⟩)
  dsimp only [Pt.U, Pt.locs, Pt.cells, Pt.slots] at X' e1 e2 h1 h2 h3 st
  subst h1; subst h2; subst h3
  exact ⟨v, (T.setVm vm₁).calling g' mk (Value.ref b :: As).toArray, t, U', L, hT, X', hL, e1, e2, hq, st⟩
end CL
