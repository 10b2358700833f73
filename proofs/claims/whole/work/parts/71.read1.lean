/-! ===== the text: the class's reading, plainly ===== -/
/-- is a number or a name due; place; what is written; what waits (the last first); how many are open; how deep; where a comparison stands -/
abbrev Kst := Bool × Int × List Int × List Int × Int × Int × Int
def wdP (r : Int) : List Int → List Int → List Int × List Int
  | dr, [] => (dr, [])
  | dr, c :: q => if r ≤ rk c then wdP r (dr ++ [10000 + c]) q else (dr, c :: q)
def wnP : List Int → List Int → Int → List Int × List Int × Int
  | dr, [], op => (dr, [], op)
  | dr, c :: q, op => if c = 33 then wnP (dr ++ [10033]) q (op - 1) else (dr, c :: q, op)
def dkK (T : Nat → Int) (n p : Int) : Int := (dgP T n 4 (p, -1, 0, []) 0).1.1 - p
def dvK (T : Nat → Int) (n p : Int) : Int := (dgP T n 4 (p, -1, 0, []) 0).2
def odK (T : Nat → Int) (n u p : Int) : Int := if 0 < dkK T n p then dvK T n p else -1 - nmF u (T p.toNat)
def odP (T : Nat → Int) (n p : Int) : Int := if 0 < dkK T n p then dkK T n p else 1
def onD (b dp : Int) : Int := if b = 40 then dp + 1 else dp
def onC (b dp cm : Int) : Int := if b = 40 then m_and cm (m_xor (m_shl 1 (dp + 1)) (-1)) else cm
def cmK (b dp cm : Int) : Int := if rk b = 3 then m_or cm (m_shl 1 dp) else if rk b < 3 then m_and cm (m_xor (m_shl 1 dp) (-1)) else cm
def kstep (T : Nat → Int) (n u : Int) : Kst → Kst ⊕ (Int × List Int)
  | (due, p, dr, pe, op, dp, cm) =>
    if p < n then
      (if due = true then
        (if 0 < dkK T n p ∨ 0 ≤ nmF u (T p.toNat) then .inl (false, p + odP T n p, (wnP (dr ++ [odK T n u p]) pe op).1, (wnP (dr ++ [odK T n u p]) pe op).2.1, (wnP (dr ++ [odK T n u p]) pe op).2.2, dp, cm)
         else if (T p.toNat = 33 ∨ T p.toNat = 40) ∧ op < 5 then .inl (true, p + 1, dr, T p.toNat :: pe, op + 1, onD (T p.toNat) dp, onC (T p.toNat) dp cm)
         else .inr (p, []))
       else if T p.toNat = 41 ∧ ¬ dp = 0 then .inl (false, p + 1, (wnP (wdP 1 dr pe).1 (wdP 1 dr pe).2.tail (op - 1)).1, (wnP (wdP 1 dr pe).1 (wdP 1 dr pe).2.tail (op - 1)).2.1, (wnP (wdP 1 dr pe).1 (wdP 1 dr pe).2.tail (op - 1)).2.2, dp - 1, cm)
       else if rk (T p.toNat) = 0 ∨ (rk (T p.toNat) = 3 ∧ ¬ m_and cm (m_shl 1 dp) = 0) then .inr (p, [])
       else .inl (true, p + 1, (wdP (rk (T p.toNat)) dr pe).1, T p.toNat :: (wdP (rk (T p.toNat)) dr pe).2, op, dp, cmK (T p.toNat) dp cm))
    else if due = true ∨ 0 < dp then .inr (p, []) else .inr (-1, (wdP 1 dr pe).1)
def krun (T : Nat → Int) (n u : Int) : Nat → Kst → Option (Int × List Int)
  | 0, _ => none
  | m + 1, k => match kstep T n u k with
    | .inl k' => krun T n u m k'
    | .inr r => some r
def Rch (T : Nat → Int) (n u : Int) (k k' : Kst) : Prop := ∀ m r, krun T n u m k' = some r → ∃ m', krun T n u m' k = some r
def Kfi (T : Nat → Int) (n u : Int) (k : Kst) (r : Int × List Int) : Prop := ∃ m, krun T n u m k = some r
section KS
variable {T : Nat → Int} {n u : Int}
theorem Rch.rf {k : Kst} : Rch T n u k k := fun m _ h => ⟨m, h⟩
theorem Rch.tr {k k1 k2 : Kst} (h : Rch T n u k k1) (g : Rch T n u k1 k2) : Rch T n u k k2 := fun m r e => by
  obtain ⟨m1, e1⟩ := g m r e
  exact h m1 r e1
theorem Rch.fi {k k1 : Kst} {r : Int × List Int} (h : Rch T n u k k1) (g : Kfi T n u k1 r) : Kfi T n u k r := by
  obtain ⟨m, e⟩ := g
  exact h m r e
theorem Rch.one {k k1 : Kst} (h : kstep T n u k = .inl k1) : Rch T n u k k1 := fun m r e => ⟨m + 1, by
  simp only [krun, h]
  exact e⟩
theorem Kfi.one {k : Kst} {r : Int × List Int} (h : kstep T n u k = .inr r) : Kfi T n u k r := ⟨1, by simp only [krun, h]⟩
variable {p op dp cm : Int} {dr pe : List Int}
theorem ks_opd (h : p < n) (h1 : 0 < dkK T n p ∨ 0 ≤ nmF u (T p.toNat)) : kstep T n u (true, p, dr, pe, op, dp, cm) = .inl (false, p + odP T n p, (wnP (dr ++ [odK T n u p]) pe op).1, (wnP (dr ++ [odK T n u p]) pe op).2.1, (wnP (dr ++ [odK T n u p]) pe op).2.2, dp, cm) := by
  unfold kstep
  dsimp only
  rw [if_pos h, if_pos rfl, if_pos h1]
theorem ks_open (h : p < n) (h1 : ¬ (0 < dkK T n p ∨ 0 ≤ nmF u (T p.toNat))) (h2 : (T p.toNat = 33 ∨ T p.toNat = 40) ∧ op < 5) : kstep T n u (true, p, dr, pe, op, dp, cm) = .inl (true, p + 1, dr, T p.toNat :: pe, op + 1, onD (T p.toNat) dp, onC (T p.toNat) dp cm) := by
  unfold kstep
  dsimp only
  rw [if_pos h, if_pos rfl, if_neg h1, if_pos h2]
theorem ks_bad (h : p < n) (h1 : ¬ (0 < dkK T n p ∨ 0 ≤ nmF u (T p.toNat))) (h2 : ¬ ((T p.toNat = 33 ∨ T p.toNat = 40) ∧ op < 5)) : kstep T n u (true, p, dr, pe, op, dp, cm) = .inr (p, []) := by
  unfold kstep
  dsimp only
  rw [if_pos h, if_pos rfl, if_neg h1, if_neg h2]
theorem ks_close (h : p < n) (h1 : T p.toNat = 41 ∧ ¬ dp = 0) : kstep T n u (false, p, dr, pe, op, dp, cm) = .inl (false, p + 1, (wnP (wdP 1 dr pe).1 (wdP 1 dr pe).2.tail (op - 1)).1, (wnP (wdP 1 dr pe).1 (wdP 1 dr pe).2.tail (op - 1)).2.1, (wnP (wdP 1 dr pe).1 (wdP 1 dr pe).2.tail (op - 1)).2.2, dp - 1, cm) := by
  unfold kstep
  dsimp only
  rw [if_pos h, if_neg Bool.false_ne_true, if_pos h1]
theorem ks_rej (h : p < n) (h1 : ¬ (T p.toNat = 41 ∧ ¬ dp = 0)) (h2 : rk (T p.toNat) = 0 ∨ (rk (T p.toNat) = 3 ∧ ¬ m_and cm (m_shl 1 dp) = 0)) : kstep T n u (false, p, dr, pe, op, dp, cm) = .inr (p, []) := by
  unfold kstep
  dsimp only
  rw [if_pos h, if_neg Bool.false_ne_true, if_neg h1, if_pos h2]
theorem ks_join (h : p < n) (h1 : ¬ (T p.toNat = 41 ∧ ¬ dp = 0)) (h2 : ¬ (rk (T p.toNat) = 0 ∨ (rk (T p.toNat) = 3 ∧ ¬ m_and cm (m_shl 1 dp) = 0))) : kstep T n u (false, p, dr, pe, op, dp, cm) = .inl (true, p + 1, (wdP (rk (T p.toNat)) dr pe).1, T p.toNat :: (wdP (rk (T p.toNat)) dr pe).2, op, dp, cmK (T p.toNat) dp cm) := by
  unfold kstep
  dsimp only
  rw [if_pos h, if_neg Bool.false_ne_true, if_neg h1, if_neg h2]
theorem ks_end {due : Bool} (h : ¬ p < n) (h1 : due = true ∨ 0 < dp) : kstep T n u (due, p, dr, pe, op, dp, cm) = .inr (p, []) := by
  unfold kstep
  dsimp only
  rw [if_neg h, if_pos h1]
theorem ks_done (h : ¬ p < n) (h1 : ¬ 0 < dp) : kstep T n u (false, p, dr, pe, op, dp, cm) = .inr (-1, (wdP 1 dr pe).1) := by
  unfold kstep
  dsimp only
  rw [if_neg h, if_neg (fun e => by
    rcases e with e | e
    · exact Bool.false_ne_true e
    · exact h1 e)]
end KS
theorem wdP_all {r : Int} : ∀ (E dr S : List Int), (∀ c ∈ E, r ≤ rk c) → (∀ c q, S = c :: q → rk c < r) → wdP r dr (E ++ S) = (dr ++ E.map (fun c => 10000 + c), S)
  | [], dr, S, _, hS => by
    cases S with
    | nil => simp [wdP]
    | cons c q =>
      have h := hS c q rfl
      rw [List.nil_append, wdP, if_neg (by omega)]
      simp
  | e :: E, dr, S, hE, hS => by
    have h1 := hE e (List.mem_cons_self ..)
    rw [List.cons_append, wdP, if_pos h1, wdP_all E _ S (fun c hc => hE c (List.mem_cons_of_mem _ hc)) hS]
    simp
theorem wnP_all : ∀ (j : Nat) (dr S : List Int) (op : Int), (∀ c q, S = c :: q → ¬ c = 33) → wnP dr (List.replicate j 33 ++ S) op = (dr ++ List.replicate j 10033, S, op - (j : Int))
  | 0, dr, S, op, hS => by
    cases S with
    | nil => simp [wnP]
    | cons c q =>
      have h := hS c q rfl
      simp [wnP, h]
  | j + 1, dr, S, op, hS => by
    rw [List.replicate_succ, List.cons_append, wnP, if_pos rfl, wnP_all j _ S _ hS]
    refine Prod.ext ?_ (Prod.ext rfl ?_)
    · simp [List.replicate_succ]
    · show op - 1 - (j : Int) = op - ((j + 1 : Nat) : Int)
      omega
/-! what the bits tell -/
def Bz (cm e : Int) : Prop := m_and cm (m_shl 1 e) = 0
def Cmk (cm : Int) : Prop := 0 ≤ cm ∧ cm < 64
def Agb (d cm cm' : Int) : Prop := ∀ e, 0 ≤ e → e < d → (Bz cm' e ↔ Bz cm e)
theorem Agb.rf {d cm : Int} : Agb d cm cm := fun _ _ _ => Iff.rfl
theorem Agb.tr {d a b c : Int} (h : Agb d a b) (g : Agb d b c) : Agb d a c := fun e h1 h2 => (g e h1 h2).trans (h e h1 h2)
theorem Agb.mono {d d' a b : Int} (k : d ≤ d') (h : Agb d' a b) : Agb d a b := fun e h1 h2 => h e h1 (by omega)
theorem bt_clr {cm d : Int} (hc : Cmk cm) (hd : 0 ≤ d ∧ d ≤ 5) : Cmk (m_and cm (m_xor (m_shl 1 d) (-1))) ∧ Bz (m_and cm (m_xor (m_shl 1 d) (-1))) d ∧ ∀ e, 0 ≤ e → e ≤ 5 → ¬ e = d → (Bz (m_and cm (m_xor (m_shl 1 d) (-1))) e ↔ Bz cm e) := by
  obtain ⟨h1, h2⟩ := hc
  obtain ⟨c, rfl⟩ : ∃ c : Nat, cm = (c : Int) := ⟨cm.toNat, by omega⟩
  obtain ⟨q, rfl⟩ : ∃ q : Nat, d = (q : Int) := ⟨d.toNat, by omega⟩
  have h : ∀ (c : Fin 64) (q : Fin 6), (0 ≤ m_and (c.val : Int) (m_xor (m_shl 1 (q.val : Int)) (-1)) ∧ m_and (c.val : Int) (m_xor (m_shl 1 (q.val : Int)) (-1)) < 64) ∧ m_and (m_and (c.val : Int) (m_xor (m_shl 1 (q.val : Int)) (-1))) (m_shl 1 (q.val : Int)) = 0 ∧ ∀ e : Fin 6, ¬ e = q → (m_and (m_and (c.val : Int) (m_xor (m_shl 1 (q.val : Int)) (-1))) (m_shl 1 (e.val : Int)) = 0 ↔ m_and (c.val : Int) (m_shl 1 (e.val : Int)) = 0) := by decide +kernel
  obtain ⟨a, b, g⟩ := h ⟨c, by omega⟩ ⟨q, by omega⟩
  refine ⟨a, b, fun e e1 e2 e3 => ?_⟩
  obtain ⟨w, rfl⟩ : ∃ w : Nat, e = (w : Int) := ⟨e.toNat, by omega⟩
  exact g ⟨w, by omega⟩ (fun z => e3 (by rw [Fin.mk.injEq] at z; rw [z]))
theorem bt_set {cm d : Int} (hc : Cmk cm) (hd : 0 ≤ d ∧ d ≤ 5) : Cmk (m_or cm (m_shl 1 d)) ∧ ¬ Bz (m_or cm (m_shl 1 d)) d ∧ ∀ e, 0 ≤ e → e ≤ 5 → ¬ e = d → (Bz (m_or cm (m_shl 1 d)) e ↔ Bz cm e) := by
  obtain ⟨h1, h2⟩ := hc
  obtain ⟨c, rfl⟩ : ∃ c : Nat, cm = (c : Int) := ⟨cm.toNat, by omega⟩
  obtain ⟨q, rfl⟩ : ∃ q : Nat, d = (q : Int) := ⟨d.toNat, by omega⟩
  have h : ∀ (c : Fin 64) (q : Fin 6), (0 ≤ m_or (c.val : Int) (m_shl 1 (q.val : Int)) ∧ m_or (c.val : Int) (m_shl 1 (q.val : Int)) < 64) ∧ ¬ m_and (m_or (c.val : Int) (m_shl 1 (q.val : Int))) (m_shl 1 (q.val : Int)) = 0 ∧ ∀ e : Fin 6, ¬ e = q → (m_and (m_or (c.val : Int) (m_shl 1 (q.val : Int))) (m_shl 1 (e.val : Int)) = 0 ↔ m_and (c.val : Int) (m_shl 1 (e.val : Int)) = 0) := by decide +kernel
  obtain ⟨a, b, g⟩ := h ⟨c, by omega⟩ ⟨q, by omega⟩
  refine ⟨a, b, fun e e1 e2 e3 => ?_⟩
  obtain ⟨w, rfl⟩ : ∃ w : Nat, e = (w : Int) := ⟨e.toNat, by omega⟩
  exact g ⟨w, by omega⟩ (fun z => e3 (by rw [Fin.mk.injEq] at z; rw [z]))
theorem cmK_ok {b dp cm : Int} (hc : Cmk cm) (hd : 0 ≤ dp ∧ dp ≤ 5) : Cmk (cmK b dp cm) ∧ (rk b < 3 → Bz (cmK b dp cm) dp) ∧ (rk b = 3 → ¬ Bz (cmK b dp cm) dp) ∧ Agb dp cm (cmK b dp cm) ∧ (3 < rk b → cmK b dp cm = cm) := by
  unfold cmK
  by_cases h1 : rk b = 3
  · rw [if_pos h1]
    obtain ⟨a1, a2, a3⟩ := bt_set hc hd
    exact ⟨a1, fun h => by omega, fun _ => a2, fun e e1 e2 => a3 e e1 (by omega) (by omega), fun h => by omega⟩
  · rw [if_neg h1]
    by_cases h2 : rk b < 3
    · rw [if_pos h2]
      obtain ⟨a1, a2, a3⟩ := bt_clr hc hd
      exact ⟨a1, fun _ => a2, fun h => by omega, fun e e1 e2 => a3 e e1 (by omega) (by omega), fun h => by omega⟩
    · rw [if_neg h2]
      exact ⟨hc, fun h => by omega, fun h => by omega, Agb.rf, fun _ => rfl⟩
