/-! ===== the reference: what is counted, what shines, ways ===== -/
theorem mSwT_df {lo : Int} {tg : List Nat} {df : Nat} {x : Int} (h : x < lo ∨ lo + tg.length ≤ x) : mSwT lo tg df x = df := by
  unfold mSwT
  by_cases e : x < lo
  · rw [if_pos e]
  · rw [if_neg e, List.getElem?_eq_none (by omega)]
    rfl
theorem MOk_w {d : Nat → Int} (hM : MOk d) {w : Int} (hw : 0 ≤ w ∧ w < 6) : (0 ≤ d (45 + 4 * w + 0).toNat ∧ d (45 + 4 * w + 0).toNat ≤ 6) ∧ (0 ≤ d (45 + 4 * w + 1).toNat ∧ d (45 + 4 * w + 1).toNat ≤ 9) ∧ (0 ≤ d (45 + 4 * w + 2).toNat ∧ d (45 + 4 * w + 2).toNat ≤ 35) ∧ (0 ≤ d (45 + 4 * w + 3).toNat ∧ d (45 + 4 * w + 3).toNat ≤ 99999) := by
  obtain ⟨_, _, _, _, _, _, _, _, _, h, _⟩ := hM
  have := h w.toNat (by omega)
  rw [show (45 + 4 * w + 0).toNat = 45 + 4 * w.toNat by omega, show (45 + 4 * w + 1).toNat = 46 + 4 * w.toNat by omega, show (45 + 4 * w + 2).toNat = 47 + 4 * w.toNat by omega, show (45 + 4 * w + 3).toNat = 48 + 4 * w.toNat by omega]
  exact this
theorem MOk_p {d : Nat → Int} (hM : MOk d) {p : Int} (hp : 0 ≤ p ∧ p < 10) : (0 ≤ d (69 + 4 * p + 0).toNat ∧ d (69 + 4 * p + 0).toNat ≤ 35) ∧ (0 ≤ d (69 + 4 * p + 1).toNat ∧ d (69 + 4 * p + 1).toNat ≤ 20) ∧ (0 ≤ d (69 + 4 * p + 2).toNat ∧ d (69 + 4 * p + 2).toNat ≤ 9999) ∧ (0 ≤ d (69 + 4 * p + 3).toNat ∧ d (69 + 4 * p + 3).toNat ≤ 9999) := by
  obtain ⟨_, _, _, _, _, _, _, _, _, _, h, _⟩ := hM
  have := h p.toNat (by omega)
  rw [show (69 + 4 * p + 0).toNat = 69 + 4 * p.toNat by omega, show (69 + 4 * p + 1).toNat = 70 + 4 * p.toNat by omega, show (69 + 4 * p + 2).toNat = 71 + 4 * p.toNat by omega, show (69 + 4 * p + 3).toNat = 72 + 4 * p.toNat by omega]
  exact this
theorem MOk_c {d : Nat → Int} (hM : MOk d) {c : Int} (hc : 0 ≤ c ∧ c < 36) : 0 ≤ d (0 + c).toNat ∧ d (0 + c).toNat ≤ 3 := by
  obtain ⟨_, _, _, _, _, _, _, _, h, _⟩ := hM
  have := h c.toNat (by omega)
  rw [show (0 + c).toNat = c.toNat by omega]
  exact this
def shK (k m n : Int) : Int := if k = 1 then (9 + m) / 2 else if k = 2 then 9 + m - 2 else if k = 3 then 9 + m + 3 else if k = 4 then (if n % 2 = 1 then 0 else (9 + m) / 2) else if k = 5 then 9 + m - 2 - m else if k = 6 then (if n % 3 = 0 then 0 else 9 + m + 3) else 9 + m
def shn (d : Nat → Int) (w : Int) : Int := shK (d (45 + 4 * w + 0).toNat) (d (45 + 4 * w + 1).toNat) (d 38)
def dmK (k : Int) : Int := if k = 2 then 2 else if k = 5 then 3 else 1
def dms (d : Nat → Int) (w : Int) : Int := dmK (d (45 + 4 * w + 0).toNat)
def nxc (c way : Int) : Int := if way = 0 then (if c - 6 < 0 then -1 else c - 6) else if way = 1 then (if c % 6 = 5 then -1 else c + 1) else if way = 2 then (if 35 < c + 6 then -1 else c + 6) else (if c % 6 = 0 then -1 else c - 1)
def trn (way g : Int) : Int := if g = 2 then (if way < 2 then 1 - way else 5 - way) else if g = 3 then 3 - way else way
def doneV (z v w : Int) : Int :=
  if z = 124 then (if w32 v ≠ 0 ∨ w32 w ≠ 0 then 1 else 0) else if z = 38 then (if w32 v ≠ 0 ∧ w32 w ≠ 0 then 1 else 0)
  else if z = 60 then (if w32 v < w32 w then 1 else 0) else if z = 61 then (if w32 v = w32 w then 1 else 0) else if z = 62 then (if w32 w < w32 v then 1 else 0)
  else if z = 43 then v + w else if z = 45 then v - w else if z = 42 then v * w
  else if z = 47 then (if w32 w = 0 then 0 else m_div v w) else (if w32 w = 0 then 0 else m_rem v w)
theorem r_shinesOf {d : Nat} {s : mSt} (hM : MOk (s 147)) {w : Int} (hw : 0 ≤ w ∧ w < 6) : Call (d + 1) 198 [.inr (.inr 146), .inl w] (encA s) (some (.inl (shn (s 147) w))) (encA (s)) := by
  refine ⟨Nat.le_of_ble_eq_true rfl, ?_⟩
  show Run (d + 1) 198 0 [some (.inr (.inr 146)), some (.inl w), none, none] [] (encA s) (some (.inl (shn (s 147) w))) (encA (s))
  have hMW := MOk_w hM hw
  obtain ⟨hM39, hM40, hM41, hM43, hM44, hM36, hM37, hM38, hMc, hMw, hMp, hMt, hMb⟩ := hM
  refine x_ldR rfl rfl rfl ?_
  refine x_ldI rfl rfl ?_
  refine x_push rfl ?_
  refine x_callV rfl rfl rfl rfl rfl rfl rfl (r_ofIt (by omega) (by omega)) ?_
  refine x_StI_4_2 rfl rfl ?_
  refine x_push rfl ?_
  refine x_ldI rfl rfl ?_
  refine x_add rfl ?_
  refine x_StI_4_3 rfl rfl ?_
  refine x_ldR rfl rfl rfl ?_
  refine x_ldI rfl rfl ?_
  refine x_push rfl ?_
  refine x_callV rfl rfl rfl rfl rfl rfl rfl (r_ofIt (by omega) (by omega)) ?_
  obtain h_1 | h_1 | h_1 | h_1 | h_1 | h_1 | h_1 := (by omega : (s 147 (45 + 4 * w + 0).toNat) = 1 ∨ (s 147 (45 + 4 * w + 0).toNat) = 2 ∨ (s 147 (45 + 4 * w + 0).toNat) = 3 ∨ (s 147 (45 + 4 * w + 0).toNat) = 4 ∨ (s 147 (45 + 4 * w + 0).toNat) = 5 ∨ (s 147 (45 + 4 * w + 0).toNat) = 6 ∨ ((s 147 (45 + 4 * w + 0).toNat) < 1 ∨ 7 ≤ (s 147 (45 + 4 * w + 0).toNat)))
  · first
    | (exfalso; omega)
    | (refine x_sw (tg := 14) rfl (by rw [w32_id (by omega) (by omega), h_1]; rfl) ?_
       refine x_ldI rfl rfl ?_
       refine x_push rfl ?_
       refine x_div rfl (by decide) ?_
       exact x_retI rfl (by (unfold shn shK; (try rw [m_rem_pos (by omega) (by omega)] at *); simp (disch := omega) only [m_div_pos, if_pos, if_neg])) (by rfl))
  · first
    | (exfalso; omega)
    | (refine x_sw (tg := 32) rfl (by rw [w32_id (by omega) (by omega), h_1]; rfl) ?_
       refine x_ldI rfl rfl ?_
       refine x_push rfl ?_
       refine x_sub rfl ?_
       exact x_retI rfl (by (unfold shn shK; (try rw [m_rem_pos (by omega) (by omega)] at *); simp (disch := omega) only [m_div_pos, if_pos, if_neg])) (by rfl))
  · first
    | (exfalso; omega)
    | (refine x_sw (tg := 42) rfl (by rw [w32_id (by omega) (by omega), h_1]; rfl) ?_
       refine x_ldI rfl rfl ?_
       refine x_push rfl ?_
       refine x_add rfl ?_
       exact x_retI rfl (by (unfold shn shK; (try rw [m_rem_pos (by omega) (by omega)] at *); simp (disch := omega) only [m_div_pos, if_pos, if_neg])) (by rfl))
  · first
    | (exfalso; omega)
    | (refine x_sw (tg := 18) rfl (by rw [w32_id (by omega) (by omega), h_1]; rfl) ?_
       refine x_ldR rfl rfl rfl ?_
       first | refine x_getI rfl rfl rfl rfl rfl ?_ | refine x_getR rfl rfl rfl rfl rfl ?_
       refine x_push rfl ?_
       refine x_aldk 38 rfl rfl rfl rfl rfl rfl ?_
       refine x_push rfl ?_
       refine x_div rfl (by decide) ?_
       refine x_push rfl ?_
       refine x_crNe rfl (by first | omega | (rw [m_rem_pos (by omega) (by omega)]; omega)) (by first | omega | (rw [m_rem_pos (by omega) (by omega)]; omega)) (fun h_2 => ?_) (fun h_2 => ?_)
       · first
         | (exfalso; omega)
         | (refine x_ldI rfl rfl ?_
            refine x_push rfl ?_
            refine x_div rfl (by decide) ?_
            exact x_retI rfl (by (unfold shn shK; (try rw [m_rem_pos (by omega) (by omega)] at *); simp (disch := omega) only [m_div_pos, if_pos, if_neg])) (by rfl))
       · first
         | (exfalso; omega)
         | (refine x_push rfl ?_
            refine x_go rfl ?_
            exact x_retI rfl (by (unfold shn shK; (try rw [m_rem_pos (by omega) (by omega)] at *); simp (disch := omega) only [m_div_pos, if_pos, if_neg])) (by rfl)))
  · first
    | (exfalso; omega)
    | (refine x_sw (tg := 36) rfl (by rw [w32_id (by omega) (by omega), h_1]; rfl) ?_
       refine x_ldI rfl rfl ?_
       refine x_push rfl ?_
       refine x_sub rfl ?_
       refine x_ldI rfl rfl ?_
       refine x_sub rfl ?_
       exact x_retI rfl (by (unfold shn shK; (try rw [m_rem_pos (by omega) (by omega)] at *); simp (disch := omega) only [m_div_pos, if_pos, if_neg])) (by rfl))
  · first
    | (exfalso; omega)
    | (refine x_sw (tg := 46) rfl (by rw [w32_id (by omega) (by omega), h_1]; rfl) ?_
       refine x_ldR rfl rfl rfl ?_
       first | refine x_getI rfl rfl rfl rfl rfl ?_ | refine x_getR rfl rfl rfl rfl rfl ?_
       refine x_push rfl ?_
       refine x_aldk 38 rfl rfl rfl rfl rfl rfl ?_
       refine x_push rfl ?_
       refine x_div rfl (by decide) ?_
       refine x_irNe0 rfl (by first | omega | (rw [m_rem_pos (by omega) (by omega)]; omega)) (fun h_3 => ?_) (fun h_3 => ?_)
       · first
         | (exfalso; omega)
         | (refine x_ldI rfl rfl ?_
            refine x_push rfl ?_
            refine x_add rfl ?_
            exact x_retI rfl (by (unfold shn shK; (try rw [m_rem_pos (by omega) (by omega)] at *); simp (disch := omega) only [m_div_pos, if_pos, if_neg])) (by rfl))
       · first
         | (exfalso; omega)
         | (refine x_push rfl ?_
            refine x_go rfl ?_
            exact x_retI rfl (by (unfold shn shK; (try rw [m_rem_pos (by omega) (by omega)] at *); simp (disch := omega) only [m_div_pos, if_pos, if_neg])) (by rfl)))
  · first
    | (exfalso; omega)
    | (refine x_sw (tg := 59) rfl (mSwT_df (by rw [w32_id (by omega) (by omega)]; exact h_1)) ?_
       refine x_ldI rfl rfl ?_
       exact x_retI rfl (by (unfold shn shK; (try rw [m_rem_pos (by omega) (by omega)] at *); simp (disch := omega) only [m_div_pos, if_pos, if_neg])) (by rfl))
theorem r_dimsOf {d : Nat} {s : mSt} (hM : MOk (s 147)) {w : Int} (hw : 0 ≤ w ∧ w < 6) : Call (d + 1) 199 [.inr (.inr 146), .inl w] (encA s) (some (.inl (dms (s 147) w))) (encA (s)) := by
  refine ⟨Nat.le_of_ble_eq_true rfl, ?_⟩
  show Run (d + 1) 199 0 [some (.inr (.inr 146)), some (.inl w), none] [] (encA s) (some (.inl (dms (s 147) w))) (encA (s))
  have hMW := MOk_w hM hw
  obtain ⟨hM39, hM40, hM41, hM43, hM44, hM36, hM37, hM38, hMc, hMw, hMp, hMt, hMb⟩ := hM
  refine x_ldR rfl rfl rfl ?_
  refine x_ldI rfl rfl ?_
  refine x_push rfl ?_
  refine x_callV rfl rfl rfl rfl rfl rfl rfl (r_ofIt (by omega) (by omega)) ?_
  refine x_StI_3_2 rfl rfl ?_
  refine x_ldI rfl rfl ?_
  refine x_push rfl ?_
  refine x_crNe rfl (by omega) (by omega) (fun h_1 => ?_) (fun h_1 => ?_)
  · first
    | (exfalso; omega)
    | (refine x_ldI rfl rfl ?_
       refine x_push rfl ?_
       refine x_crNe rfl (by omega) (by omega) (fun h_2 => ?_) (fun h_2 => ?_)
       · first
         | (exfalso; omega)
         | (refine x_push rfl ?_
            exact x_retI rfl (by (unfold dms dmK; simp (disch := omega) only [if_pos, if_neg])) (by rfl))
       · first
         | (exfalso; omega)
         | (refine x_push rfl ?_
            refine x_go rfl ?_
            exact x_retI rfl (by (unfold dms dmK; simp (disch := omega) only [if_pos, if_neg])) (by rfl)))
  · first
    | (exfalso; omega)
    | (refine x_push rfl ?_
       refine x_go rfl ?_
       exact x_retI rfl (by (unfold dms dmK; simp (disch := omega) only [if_pos, if_neg])) (by rfl))
theorem r_nextTo {d : Nat} {s : mSt} {c way : Int} (hc : 0 ≤ c ∧ c < 36) (hw : 0 ≤ way ∧ way < 4) : Call (d + 0) 200 [.inl c, .inl way] (encA s) (some (.inl (nxc c way))) (encA (s)) := by
  refine ⟨Nat.le_of_ble_eq_true rfl, ?_⟩
  show Run (d + 0) 200 0 [some (.inl c), some (.inl way)] [] (encA s) (some (.inl (nxc c way))) (encA (s))
  refine x_ldI rfl rfl ?_
  obtain h_1 | h_1 | h_1 | h_1 := (by omega : way = 0 ∨ way = 1 ∨ way = 2 ∨ (way < 0 ∨ 3 ≤ way))
  · first
    | (exfalso; omega)
    | (refine x_sw (tg := 2) rfl (by rw [w32_id (by omega) (by omega), h_1]; rfl) ?_
       refine x_ldI rfl rfl ?_
       refine x_push rfl ?_
       refine x_sub rfl ?_
       refine x_irGe0 rfl (by first | omega | (rw [m_rem_pos (by omega) (by omega)]; omega)) (fun h_2 => ?_) (fun h_2 => ?_)
       · first
         | (exfalso; omega)
         | (refine x_ldI rfl rfl ?_
            refine x_push rfl ?_
            refine x_sub rfl ?_
            exact x_retI rfl (by (unfold nxc; (try rw [m_rem_pos (by omega) (by omega)] at *); simp (disch := omega) only [if_pos, if_neg])) (by rfl))
       · first
         | (exfalso; omega)
         | (refine x_push rfl ?_
            refine x_go rfl ?_
            exact x_retI rfl (by (unfold nxc; (try rw [m_rem_pos (by omega) (by omega)] at *); simp (disch := omega) only [if_pos, if_neg])) (by rfl)))
  · first
    | (exfalso; omega)
    | (refine x_sw (tg := 12) rfl (by rw [w32_id (by omega) (by omega), h_1]; rfl) ?_
       refine x_ldI rfl rfl ?_
       refine x_push rfl ?_
       refine x_div rfl (by decide) ?_
       refine x_push rfl ?_
       refine x_crNe rfl (by first | omega | (rw [m_rem_pos (by omega) (by omega)]; omega)) (by first | omega | (rw [m_rem_pos (by omega) (by omega)]; omega)) (fun h_3 => ?_) (fun h_3 => ?_)
       · first
         | (exfalso; omega)
         | (refine x_ldI rfl rfl ?_
            refine x_push rfl ?_
            refine x_add rfl ?_
            exact x_retI rfl (by (unfold nxc; (try rw [m_rem_pos (by omega) (by omega)] at *); simp (disch := omega) only [if_pos, if_neg])) (by rfl))
       · first
         | (exfalso; omega)
         | (refine x_push rfl ?_
            refine x_go rfl ?_
            exact x_retI rfl (by (unfold nxc; (try rw [m_rem_pos (by omega) (by omega)] at *); simp (disch := omega) only [if_pos, if_neg])) (by rfl)))
  · first
    | (exfalso; omega)
    | (refine x_sw (tg := 23) rfl (by rw [w32_id (by omega) (by omega), h_1]; rfl) ?_
       refine x_ldI rfl rfl ?_
       refine x_push rfl ?_
       refine x_add rfl ?_
       refine x_push rfl ?_
       refine x_crLe rfl (by first | omega | (rw [m_rem_pos (by omega) (by omega)]; omega)) (by first | omega | (rw [m_rem_pos (by omega) (by omega)]; omega)) (fun h_4 => ?_) (fun h_4 => ?_)
       · first
         | (exfalso; omega)
         | (refine x_ldI rfl rfl ?_
            refine x_push rfl ?_
            refine x_add rfl ?_
            exact x_retI rfl (by (unfold nxc; (try rw [m_rem_pos (by omega) (by omega)] at *); simp (disch := omega) only [if_pos, if_neg])) (by rfl))
       · first
         | (exfalso; omega)
         | (refine x_push rfl ?_
            refine x_go rfl ?_
            exact x_retI rfl (by (unfold nxc; (try rw [m_rem_pos (by omega) (by omega)] at *); simp (disch := omega) only [if_pos, if_neg])) (by rfl)))
  · first
    | (exfalso; omega)
    | (refine x_sw (tg := 34) rfl (mSwT_df (by rw [w32_id (by omega) (by omega)]; exact h_1)) ?_
       refine x_ldI rfl rfl ?_
       refine x_push rfl ?_
       refine x_div rfl (by decide) ?_
       refine x_irNe0 rfl (by first | omega | (rw [m_rem_pos (by omega) (by omega)]; omega)) (fun h_5 => ?_) (fun h_5 => ?_)
       · first
         | (exfalso; omega)
         | (refine x_ldI rfl rfl ?_
            refine x_push rfl ?_
            refine x_sub rfl ?_
            exact x_retI rfl (by (unfold nxc; (try rw [m_rem_pos (by omega) (by omega)] at *); simp (disch := omega) only [if_pos, if_neg])) (by rfl))
       · first
         | (exfalso; omega)
         | (refine x_push rfl ?_
            refine x_go rfl ?_
            exact x_retI rfl (by (unfold nxc; (try rw [m_rem_pos (by omega) (by omega)] at *); simp (disch := omega) only [if_pos, if_neg])) (by rfl)))
theorem r_turned {d : Nat} {s : mSt} {way g : Int} (hw : 0 ≤ way ∧ way < 4) (hg : 0 ≤ g ∧ g ≤ 3) : Call (d + 0) 201 [.inl way, .inl g] (encA s) (some (.inl (trn way g))) (encA (s)) := by
  refine ⟨Nat.le_of_ble_eq_true rfl, ?_⟩
  show Run (d + 0) 201 0 [some (.inl way), some (.inl g)] [] (encA s) (some (.inl (trn way g))) (encA (s))
  refine x_ldI rfl rfl ?_
  refine x_push rfl ?_
  refine x_crNe rfl (by omega) (by omega) (fun h_1 => ?_) (fun h_1 => ?_)
  · first
    | (exfalso; omega)
    | (refine x_ldI rfl rfl ?_
       refine x_push rfl ?_
       refine x_crNe rfl (by omega) (by omega) (fun h_2 => ?_) (fun h_2 => ?_)
       · first
         | (exfalso; omega)
         | (refine x_ldI rfl rfl ?_
            exact x_retI rfl (by (unfold trn; simp (disch := omega) only [if_pos, if_neg])) (by rfl))
       · first
         | (exfalso; omega)
         | (refine x_push rfl ?_
            refine x_ldI rfl rfl ?_
            refine x_sub rfl ?_
            refine x_go rfl ?_
            exact x_retI rfl (by (unfold trn; simp (disch := omega) only [if_pos, if_neg])) (by rfl)))
  · first
    | (exfalso; omega)
    | (refine x_ldI rfl rfl ?_
       refine x_push rfl ?_
       refine x_crGe rfl (by omega) (by omega) (fun h_3 => ?_) (fun h_3 => ?_)
       · first
         | (exfalso; omega)
         | (refine x_push rfl ?_
            refine x_ldI rfl rfl ?_
            refine x_sub rfl ?_
            refine x_go rfl ?_
            exact x_retI rfl (by (unfold trn; simp (disch := omega) only [if_pos, if_neg])) (by rfl))
       · first
         | (exfalso; omega)
         | (refine x_push rfl ?_
            refine x_ldI rfl rfl ?_
            refine x_sub rfl ?_
            refine x_go rfl ?_
            exact x_retI rfl (by (unfold trn; simp (disch := omega) only [if_pos, if_neg])) (by rfl)))
theorem r_drawn {d : Nat} {s : mSt}  : Call (d + 0) 224 [.inr (.inr 146)] (encA s) (some (.inl (m_ushr (s 147 42 * 1103515245 + 12345) 8))) (encA (us s 147 42 (s 147 42 * 1103515245 + 12345))) := by
  refine ⟨Nat.le_of_ble_eq_true rfl, ?_⟩
  show Run (d + 0) 224 0 [some (.inr (.inr 146))] [] (encA s) (some (.inl (m_ushr (s 147 42 * 1103515245 + 12345) 8))) (encA (us s 147 42 (s 147 42 * 1103515245 + 12345)))
  refine x_ldR rfl rfl rfl ?_
  first | refine x_getI rfl rfl rfl rfl rfl ?_ | refine x_getR rfl rfl rfl rfl rfl ?_
  refine x_push rfl ?_
  refine x_ldR rfl rfl rfl ?_
  first | refine x_getI rfl rfl rfl rfl rfl ?_ | refine x_getR rfl rfl rfl rfl rfl ?_
  refine x_push rfl ?_
  refine x_aldk 42 rfl rfl rfl rfl rfl rfl ?_
  refine x_push rfl ?_
  refine x_mul rfl ?_
  refine x_push rfl ?_
  refine x_add rfl ?_
  refine x_astk 42 rfl rfl rfl rfl rfl rfl ?_
  refine x_ldR rfl rfl rfl ?_
  first | refine x_getI rfl rfl rfl rfl rfl ?_ | refine x_getR rfl rfl rfl rfl rfl ?_
  refine x_push rfl ?_
  refine x_aldk 42 rfl rfl rfl rfl rfl rfl ?_
  refine x_push rfl ?_
  refine x_bin rfl ?_
  exact x_retI rfl (by (first | rfl | omega)) (by rfl)
