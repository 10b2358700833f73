/-! ===== the text: the class's opens, closes, joins ===== -/
theorem k_opens35 {d : Nat} {s : mSt} {dr pe : List Int} {b op dp cm : Int} (hK : KS35 s dr pe op dp cm) (hl : dr.length + pe.length < 50) (hb : ∀ c ∈ pe, 0 ≤ c ∧ c ≤ 255) (hbb : 0 ≤ b ∧ b ≤ 255) (hop : -200 ≤ op ∧ op ≤ 5) (hdp : 0 ≤ dp ∧ dp ≤ 50)  : CI (d + 1) 43 [.inr (.inr 35), .inl b] (s) (fun r s1 => r = bI ((b = 33 ∨ b = 40) ∧ op < 5) ∧ (((b = 33 ∨ b = 40) ∧ op < 5) → KS35 s1 dr (b :: pe) (op + 1) (onD b dp) (onC b dp cm) ∧ Fr [35, 41, 42] s s1) ∧ (¬ ((b = 33 ∨ b = 40) ∧ op < 5) → s = s1)) := by
  refine CI.mk rfl ?_
  show WP (d + 1) 43 0 [some (.inr (.inr 35)), some (.inl b)] [] (encA (s)) _
  obtain ⟨h1, h2, h3, h4, h5, h6, h7, h0⟩ := id hK
  refine w_ldI rfl rfl ?_
  refine w_push rfl ?_
  refine w_crEq rfl (by omega) (by omega) (fun b2 => ?_) (fun b2 => ?_)
  · first
    | (exfalso; omega)
    | (refine w_ldR rfl rfl rfl ?_
       first | refine w_getI rfl rfl rfl rfl rfl ?_ | refine w_getR rfl rfl rfl rfl rfl ?_
       rw [h5]
       refine w_push rfl ?_
       refine w_crLt rfl (by omega) (by omega) (fun b9 => ?_) (fun b9 => ?_)
       · first
         | (exfalso; omega)
         | (refine w_ldR rfl rfl rfl ?_
            first | refine w_getI rfl rfl rfl rfl rfl ?_ | refine w_getR rfl rfl rfl rfl rfl ?_
            refine w_ldI rfl rfl ?_
            refine w_callWI rfl rfl rfl rfl rfl rfl rfl (k_addk41 (k := pe.length) h3 (by omega)) (fun v15 s15 p15 => ?_)
            obtain ⟨rfl, rfl⟩ := p15
            refine w_popI rfl ?_
            refine w_ldR rfl rfl rfl ?_
            first | refine w_dupI rfl ?_ | refine w_dupR rfl ?_
            first | refine w_getI rfl rfl rfl rfl rfl ?_ | refine w_getR rfl rfl rfl rfl rfl ?_
            rw [us_ne (by decide), us_ne (by decide), h5]
            refine w_push rfl ?_
            refine w_add rfl ?_
            refine w_putI rfl rfl rfl rfl rfl rfl rfl ?_
            refine w_ldI rfl rfl ?_
            refine w_push rfl ?_
            refine w_crNe rfl (by omega) (by omega) (fun b25 => ?_) (fun b25 => ?_)
            · first
              | (exfalso; omega)
              | (refine w_push rfl ?_
                 refine w_retB rfl (by first | exact bI_01 _ | decide | omega) ?_
                 first
                 | (have e1 : onD b dp = dp := if_neg (by omega)
                    have e2 : onC b dp cm = cm := if_neg (by omega)
                    refine ⟨?_, fun _ => ⟨?_, Fr.tr (Fr.tr (Fr.us rfl) (Fr.us rfl)) (Fr.us rfl)⟩, fun z => absurd (by omega) z⟩
                    · unfold bI
                      rw [if_pos (by omega)]
                    · rw [e1, e2]
                      exact hK.push.f5)
                 | (have e1 : onD b dp = dp + 1 := if_pos (by omega)
                    have e2 : onC b dp cm = m_and cm (m_xor (m_shl 1 (dp + 1)) (-1)) := if_pos (by omega)
                    refine ⟨?_, fun _ => ⟨?_, Fr.tr (Fr.tr (Fr.tr (Fr.tr (Fr.us rfl) (Fr.us rfl)) (Fr.us rfl)) (Fr.us rfl)) (Fr.us rfl)⟩, fun z => absurd (by omega) z⟩
                    · unfold bI
                      rw [if_pos (by omega)]
                    · rw [e1, e2]
                      exact hK.push.f5.f6.f7))
            · first
              | (exfalso; omega)
              | (refine w_ldR rfl rfl rfl ?_
                 first | refine w_dupI rfl ?_ | refine w_dupR rfl ?_
                 first | refine w_getI rfl rfl rfl rfl rfl ?_ | refine w_getR rfl rfl rfl rfl rfl ?_
                 rw [us_eq, mup_ne (by decide), us_ne (by decide), us_ne (by decide), h6]
                 refine w_push rfl ?_
                 refine w_add rfl ?_
                 refine w_putI rfl rfl rfl rfl rfl rfl rfl ?_
                 refine w_ldR rfl rfl rfl ?_
                 first | refine w_dupI rfl ?_ | refine w_dupR rfl ?_
                 first | refine w_getI rfl rfl rfl rfl rfl ?_ | refine w_getR rfl rfl rfl rfl rfl ?_
                 rw [us_eq, mup_ne (by decide), us_eq, mup_ne (by decide), us_ne (by decide), us_ne (by decide), h7]
                 refine w_push rfl ?_
                 refine w_ldR rfl rfl rfl ?_
                 first | refine w_getI rfl rfl rfl rfl rfl ?_ | refine w_getR rfl rfl rfl rfl rfl ?_
                 rw [us_eq, mup_eq]
                 refine w_bin rfl ?_
                 refine w_push rfl ?_
                 refine w_bin rfl ?_
                 refine w_bin rfl ?_
                 refine w_putI rfl rfl rfl rfl rfl rfl rfl ?_
                 refine w_push rfl ?_
                 refine w_retB rfl (by first | exact bI_01 _ | decide | omega) ?_
                 first
                 | (have e1 : onD b dp = dp := if_neg (by omega)
                    have e2 : onC b dp cm = cm := if_neg (by omega)
                    refine ⟨?_, fun _ => ⟨?_, Fr.tr (Fr.tr (Fr.us rfl) (Fr.us rfl)) (Fr.us rfl)⟩, fun z => absurd (by omega) z⟩
                    · unfold bI
                      rw [if_pos (by omega)]
                    · rw [e1, e2]
                      exact hK.push.f5)
                 | (have e1 : onD b dp = dp + 1 := if_pos (by omega)
                    have e2 : onC b dp cm = m_and cm (m_xor (m_shl 1 (dp + 1)) (-1)) := if_pos (by omega)
                    refine ⟨?_, fun _ => ⟨?_, Fr.tr (Fr.tr (Fr.tr (Fr.tr (Fr.us rfl) (Fr.us rfl)) (Fr.us rfl)) (Fr.us rfl)) (Fr.us rfl)⟩, fun z => absurd (by omega) z⟩
                    · unfold bI
                      rw [if_pos (by omega)]
                    · rw [e1, e2]
                      exact hK.push.f5.f6.f7)))
       · first
         | (exfalso; omega)
         | (refine w_push rfl ?_
            refine w_retB rfl (by first | exact bI_01 _ | decide | omega) ?_
            refine ⟨?_, fun z => absurd z (by omega), fun _ => rfl⟩
            unfold bI
            rw [if_neg (by omega)]))
  · first
    | (exfalso; omega)
    | (refine w_ldI rfl rfl ?_
       refine w_push rfl ?_
       refine w_crNe rfl (by omega) (by omega) (fun b5 => ?_) (fun b5 => ?_)
       · first
         | (exfalso; omega)
         | (refine w_push rfl ?_
            refine w_retB rfl (by first | exact bI_01 _ | decide | omega) ?_
            refine ⟨?_, fun z => absurd z (by omega), fun _ => rfl⟩
            unfold bI
            rw [if_neg (by omega)])
       · first
         | (exfalso; omega)
         | (refine w_ldR rfl rfl rfl ?_
            first | refine w_getI rfl rfl rfl rfl rfl ?_ | refine w_getR rfl rfl rfl rfl rfl ?_
            rw [h5]
            refine w_push rfl ?_
            refine w_crLt rfl (by omega) (by omega) (fun b9 => ?_) (fun b9 => ?_)
            · first
              | (exfalso; omega)
              | (refine w_ldR rfl rfl rfl ?_
                 first | refine w_getI rfl rfl rfl rfl rfl ?_ | refine w_getR rfl rfl rfl rfl rfl ?_
                 refine w_ldI rfl rfl ?_
                 refine w_callWI rfl rfl rfl rfl rfl rfl rfl (k_addk41 (k := pe.length) h3 (by omega)) (fun v15 s15 p15 => ?_)
                 obtain ⟨rfl, rfl⟩ := p15
                 refine w_popI rfl ?_
                 refine w_ldR rfl rfl rfl ?_
                 first | refine w_dupI rfl ?_ | refine w_dupR rfl ?_
                 first | refine w_getI rfl rfl rfl rfl rfl ?_ | refine w_getR rfl rfl rfl rfl rfl ?_
                 rw [us_ne (by decide), us_ne (by decide), h5]
                 refine w_push rfl ?_
                 refine w_add rfl ?_
                 refine w_putI rfl rfl rfl rfl rfl rfl rfl ?_
                 refine w_ldI rfl rfl ?_
                 refine w_push rfl ?_
                 refine w_crNe rfl (by omega) (by omega) (fun b25 => ?_) (fun b25 => ?_)
                 · first
                   | (exfalso; omega)
                   | (refine w_push rfl ?_
                      refine w_retB rfl (by first | exact bI_01 _ | decide | omega) ?_
                      first
                      | (have e1 : onD b dp = dp := if_neg (by omega)
                         have e2 : onC b dp cm = cm := if_neg (by omega)
                         refine ⟨?_, fun _ => ⟨?_, Fr.tr (Fr.tr (Fr.us rfl) (Fr.us rfl)) (Fr.us rfl)⟩, fun z => absurd (by omega) z⟩
                         · unfold bI
                           rw [if_pos (by omega)]
                         · rw [e1, e2]
                           exact hK.push.f5)
                      | (have e1 : onD b dp = dp + 1 := if_pos (by omega)
                         have e2 : onC b dp cm = m_and cm (m_xor (m_shl 1 (dp + 1)) (-1)) := if_pos (by omega)
                         refine ⟨?_, fun _ => ⟨?_, Fr.tr (Fr.tr (Fr.tr (Fr.tr (Fr.us rfl) (Fr.us rfl)) (Fr.us rfl)) (Fr.us rfl)) (Fr.us rfl)⟩, fun z => absurd (by omega) z⟩
                         · unfold bI
                           rw [if_pos (by omega)]
                         · rw [e1, e2]
                           exact hK.push.f5.f6.f7))
                 · first
                   | (exfalso; omega)
                   | (refine w_ldR rfl rfl rfl ?_
                      first | refine w_dupI rfl ?_ | refine w_dupR rfl ?_
                      first | refine w_getI rfl rfl rfl rfl rfl ?_ | refine w_getR rfl rfl rfl rfl rfl ?_
                      rw [us_eq, mup_ne (by decide), us_ne (by decide), us_ne (by decide), h6]
                      refine w_push rfl ?_
                      refine w_add rfl ?_
                      refine w_putI rfl rfl rfl rfl rfl rfl rfl ?_
                      refine w_ldR rfl rfl rfl ?_
                      first | refine w_dupI rfl ?_ | refine w_dupR rfl ?_
                      first | refine w_getI rfl rfl rfl rfl rfl ?_ | refine w_getR rfl rfl rfl rfl rfl ?_
                      rw [us_eq, mup_ne (by decide), us_eq, mup_ne (by decide), us_ne (by decide), us_ne (by decide), h7]
                      refine w_push rfl ?_
                      refine w_ldR rfl rfl rfl ?_
                      first | refine w_getI rfl rfl rfl rfl rfl ?_ | refine w_getR rfl rfl rfl rfl rfl ?_
                      rw [us_eq, mup_eq]
                      refine w_bin rfl ?_
                      refine w_push rfl ?_
                      refine w_bin rfl ?_
                      refine w_bin rfl ?_
                      refine w_putI rfl rfl rfl rfl rfl rfl rfl ?_
                      refine w_push rfl ?_
                      refine w_retB rfl (by first | exact bI_01 _ | decide | omega) ?_
                      first
                      | (have e1 : onD b dp = dp := if_neg (by omega)
                         have e2 : onC b dp cm = cm := if_neg (by omega)
                         refine ⟨?_, fun _ => ⟨?_, Fr.tr (Fr.tr (Fr.us rfl) (Fr.us rfl)) (Fr.us rfl)⟩, fun z => absurd (by omega) z⟩
                         · unfold bI
                           rw [if_pos (by omega)]
                         · rw [e1, e2]
                           exact hK.push.f5)
                      | (have e1 : onD b dp = dp + 1 := if_pos (by omega)
                         have e2 : onC b dp cm = m_and cm (m_xor (m_shl 1 (dp + 1)) (-1)) := if_pos (by omega)
                         refine ⟨?_, fun _ => ⟨?_, Fr.tr (Fr.tr (Fr.tr (Fr.tr (Fr.us rfl) (Fr.us rfl)) (Fr.us rfl)) (Fr.us rfl)) (Fr.us rfl)⟩, fun z => absurd (by omega) z⟩
                         · unfold bI
                           rw [if_pos (by omega)]
                         · rw [e1, e2]
                           exact hK.push.f5.f6.f7)))
            · first
              | (exfalso; omega)
              | (refine w_push rfl ?_
                 refine w_retB rfl (by first | exact bI_01 _ | decide | omega) ?_
                 refine ⟨?_, fun z => absurd z (by omega), fun _ => rfl⟩
                 unfold bI
                 rw [if_neg (by omega)])))
theorem k_closes35 {d : Nat} {s : mSt} {dr pe : List Int} {b op dp cm : Int} (hK : KS35 s dr pe op dp cm) (hl : dr.length + pe.length < 50) (hb : ∀ c ∈ pe, 0 ≤ c ∧ c ≤ 255) (hbb : 0 ≤ b ∧ b ≤ 255) (hop : -200 ≤ op ∧ op ≤ 5) (hdp : 0 ≤ dp ∧ dp ≤ 50)  : CI (d + 3) 44 [.inr (.inr 35), .inl b] (s) (fun r s1 => r = bI (b = 41 ∧ ¬ dp = 0) ∧ ((b = 41 ∧ ¬ dp = 0) → KS35 s1 (wnP (wdP 1 dr pe).1 (wdP 1 dr pe).2.tail (op - 1)).1 (wnP (wdP 1 dr pe).1 (wdP 1 dr pe).2.tail (op - 1)).2.1 (wnP (wdP 1 dr pe).1 (wdP 1 dr pe).2.tail (op - 1)).2.2 (dp - 1) cm ∧ Fr [35, 39, 40, 41] s s1) ∧ (¬ (b = 41 ∧ ¬ dp = 0) → s = s1)) := by
  refine CI.mk rfl ?_
  show WP (d + 3) 44 0 [some (.inr (.inr 35)), some (.inl b)] [] (encA (s)) _
  obtain ⟨h1, h2, h3, h4, h5, h6, h7, h0⟩ := id hK
  obtain ⟨l1, l2, l3⟩ := wdP_len (r := 1) pe dr
  refine w_ldI rfl rfl ?_
  refine w_push rfl ?_
  refine w_crNe rfl (by omega) (by omega) (fun b2 => ?_) (fun b2 => ?_)
  · first
    | (exfalso; omega)
    | (refine w_push rfl ?_
       refine w_retB rfl (by first | exact bI_01 _ | decide | omega) ?_
       refine ⟨?_, fun z => absurd z (by omega), fun _ => rfl⟩
       unfold bI
       rw [if_neg (by omega)])
  · first
    | (exfalso; omega)
    | (refine w_ldR rfl rfl rfl ?_
       first | refine w_getI rfl rfl rfl rfl rfl ?_ | refine w_getR rfl rfl rfl rfl rfl ?_
       rw [h6]
       refine w_irNe0 rfl (by omega) (fun b5 => ?_) (fun b5 => ?_)
       · first
         | (exfalso; omega)
         | (refine w_ldR rfl rfl rfl ?_
            refine w_push rfl ?_
            refine w_callWN rfl rfl rfl rfl rfl rfl rfl (k_wd35 (r := 0) (by omega) hK (by omega) hb) (fun s10 p10 => ?_)
            obtain ⟨gK, gF⟩ := p10
            rw [show max (1 : Int) 0 = 1 by decide] at gK
            obtain ⟨g1, g2, g3, g4, g5, g6, g7, g0⟩ := id gK
            refine w_ldR rfl rfl rfl ?_
            first | refine w_getI rfl rfl rfl rfl rfl ?_ | refine w_getR rfl rfl rfl rfl rfl ?_
            refine w_callWI rfl rfl rfl rfl rfl rfl rfl (k_rmlt41 (k := (wdP 1 dr pe).2.length) g3 (by omega)) (fun v13 s13 p13 => ?_)
            subst p13
            refine w_popI rfl ?_
            refine w_ldR rfl rfl rfl ?_
            first | refine w_dupI rfl ?_ | refine w_dupR rfl ?_
            first | refine w_getI rfl rfl rfl rfl rfl ?_ | refine w_getR rfl rfl rfl rfl rfl ?_
            rw [us_ne (by decide), g5]
            refine w_push rfl ?_
            refine w_sub rfl ?_
            refine w_putI rfl rfl rfl rfl rfl rfl rfl ?_
            refine w_ldR rfl rfl rfl ?_
            first | refine w_dupI rfl ?_ | refine w_dupR rfl ?_
            first | refine w_getI rfl rfl rfl rfl rfl ?_ | refine w_getR rfl rfl rfl rfl rfl ?_
            rw [us_eq, mup_ne (by decide), us_ne (by decide), g6]
            refine w_push rfl ?_
            refine w_sub rfl ?_
            refine w_putI rfl rfl rfl rfl rfl rfl rfl ?_
            refine w_ldR rfl rfl rfl ?_
            refine w_callWN rfl rfl rfl rfl rfl rfl rfl (k_wn35 gK.tl.f5.f6 (by rw [List.length_tail]; omega) (fun x hx => hb x (l3 x (List.mem_of_mem_tail hx)))) (fun s28 p28 => ?_)
            obtain ⟨nK, nF⟩ := p28
            refine w_push rfl ?_
            refine w_retB rfl (by first | exact bI_01 _ | decide | omega) ?_
            refine ⟨?_, fun _ => ⟨nK, Fr.tr (Fr.mono rfl gF) (Fr.tr (Fr.tr (Fr.tr (Fr.us rfl) (Fr.us rfl)) (Fr.us rfl)) nF)⟩, fun z => absurd (by omega) z⟩
            unfold bI
            rw [if_pos (by omega)])
       · first
         | (exfalso; omega)
         | (refine w_push rfl ?_
            refine w_retB rfl (by first | exact bI_01 _ | decide | omega) ?_
            refine ⟨?_, fun z => absurd z (by omega), fun _ => rfl⟩
            unfold bI
            rw [if_neg (by omega)]))
theorem y_join35 {d : Nat} {s : mSt} {P : Int → mSt → Prop} {x3 : Option mAV} {dr pe : List Int} {b op dp cm : Int} (hK : KS35 s dr pe op dp cm) (hl : dr.length + pe.length < 50) (hb : ∀ c ∈ pe, 0 ≤ c ∧ c ≤ 255) (hbb : 0 ≤ b ∧ b ≤ 255) (hr1 : 1 ≤ rk b) (kk : ∀ s1, KS35 s1 (wdP (rk b) dr pe).1 (b :: (wdP (rk b) dr pe).2) op dp cm → Fr [35, 39, 40, 41, 42] s s1 → P 1 s1) : WP (d + 3) 45 43 [some (.inr (.inr 35)), some (.inl b), some (.inl (rk b)), x3] [] (encA (s)) (QI P) := by
  obtain ⟨l1, l2, l3⟩ := wdP_len (r := rk b) pe dr
  have hrk := rk_rng b
  refine w_ldR rfl rfl rfl ?_
  refine w_ldI rfl rfl ?_
  refine w_callWN rfl rfl rfl rfl rfl rfl rfl (k_wd35 (r := rk b) (by omega) hK (by omega) hb) (fun s45 p45 => ?_)
  obtain ⟨gK, gF⟩ := p45
  rw [show max (1 : Int) (rk b) = rk b by omega] at gK
  refine w_ldR rfl rfl rfl ?_
  first | refine w_getI rfl rfl rfl rfl rfl ?_ | refine w_getR rfl rfl rfl rfl rfl ?_
  refine w_ldI rfl rfl ?_
  refine w_callWI rfl rfl rfl rfl rfl rfl rfl (k_addk41 (k := (wdP (rk b) dr pe).2.length) gK.2.2.1 (by omega)) (fun v49 s49 p49 => ?_)
  obtain ⟨rfl, rfl⟩ := p49
  refine w_popI rfl ?_
  refine w_push rfl ?_
  refine w_retB rfl (by first | exact bI_01 _ | decide | omega) ?_
  exact kk _ gK.push (Fr.tr (Fr.mono rfl gF) (Fr.tr (Fr.us rfl) (Fr.us rfl)))
theorem k_joins35 {d : Nat} {s : mSt} {dr pe : List Int} {b op dp cm : Int} (hK : KS35 s dr pe op dp cm) (hl : dr.length + pe.length < 50) (hb : ∀ c ∈ pe, 0 ≤ c ∧ c ≤ 255) (hbb : 0 ≤ b ∧ b ≤ 255) (hop : -200 ≤ op ∧ op ≤ 5) (hdp : 0 ≤ dp ∧ dp ≤ 50)  : CI (d + 3) 45 [.inr (.inr 35), .inl b] (s) (fun r s1 => r = bI (¬ (rk b = 0 ∨ (rk b = 3 ∧ ¬ m_and cm (m_shl 1 dp) = 0))) ∧ ((¬ (rk b = 0 ∨ (rk b = 3 ∧ ¬ m_and cm (m_shl 1 dp) = 0))) → KS35 s1 (wdP (rk b) dr pe).1 (b :: (wdP (rk b) dr pe).2) op dp (cmK b dp cm) ∧ Fr [35, 39, 40, 41, 42] s s1) ∧ (¬ (¬ (rk b = 0 ∨ (rk b = 3 ∧ ¬ m_and cm (m_shl 1 dp) = 0))) → s = s1)) := by
  refine CI.mk rfl ?_
  show WP (d + 3) 45 0 [some (.inr (.inr 35)), some (.inl b), none, none] [] (encA (s)) _
  obtain ⟨h1, h2, h3, h4, h5, h6, h7, h0⟩ := id hK
  obtain ⟨l1, l2, l3⟩ := wdP_len (r := rk b) pe dr
  have hrk := rk_rng b
  have hma := m_and_rng cm (m_shl 1 dp)
  refine w_ldI rfl rfl ?_
  refine w_call rfl rfl rfl (k_rank (by omega)) ?_
  refine w_StI_4_2 rfl rfl ?_
  refine w_ldI rfl rfl ?_
  refine w_irNe0 rfl (by omega) (fun b4 => ?_) (fun b4 => ?_)
  · first
    | (exfalso; omega)
    | (refine w_push rfl ?_
       refine w_ldR rfl rfl rfl ?_
       first | refine w_getI rfl rfl rfl rfl rfl ?_ | refine w_getR rfl rfl rfl rfl rfl ?_
       rw [h6]
       refine w_bin rfl ?_
       refine w_StI_4_3 rfl rfl ?_
       refine w_ldI rfl rfl ?_
       refine w_push rfl ?_
       refine w_crNe rfl (by omega) (by omega) (fun b14 => ?_) (fun b14 => ?_)
       · first
         | (exfalso; omega)
         | (refine w_ldI rfl rfl ?_
            refine w_push rfl ?_
            refine w_crNe rfl (by omega) (by omega) (fun b24 => ?_) (fun b24 => ?_)
            · first
              | (exfalso; omega)
              | (refine w_ldI rfl rfl ?_
                 refine w_push rfl ?_
                 refine w_crGe rfl (by omega) (by omega) (fun b34 => ?_) (fun b34 => ?_)
                 · first
                   | (exfalso; omega)
                   | (first
                      | (have ex : cmK b dp cm = m_or cm (m_shl 1 dp) := if_pos (by omega)
                         exact y_join35 (hK.f7 (x := m_or cm (m_shl 1 dp))) hl hb hbb (by omega) (fun s1 k f => ⟨(if_pos (by omega)).symm, fun _ => ⟨by rw [ex]; exact k, Fr.tr (Fr.us rfl) f⟩, fun z => absurd (by omega) z⟩))
                      | (have ex : cmK b dp cm = m_and cm (m_xor (m_shl 1 dp) (-1)) := (if_neg (by omega)).trans (if_pos (by omega))
                         exact y_join35 (hK.f7 (x := m_and cm (m_xor (m_shl 1 dp) (-1)))) hl hb hbb (by omega) (fun s1 k f => ⟨(if_pos (by omega)).symm, fun _ => ⟨by rw [ex]; exact k, Fr.tr (Fr.us rfl) f⟩, fun z => absurd (by omega) z⟩))
                      | (have ex : cmK b dp cm = cm := (if_neg (by omega)).trans (if_neg (by omega))
                         exact y_join35 hK hl hb hbb (by omega) (fun s1 k f => ⟨(if_pos (by omega)).symm, fun _ => ⟨by rw [ex]; exact k, f⟩, fun z => absurd (by omega) z⟩)))
                 · first
                   | (exfalso; omega)
                   | (refine w_ldR rfl rfl rfl ?_
                      first | refine w_dupI rfl ?_ | refine w_dupR rfl ?_
                      first | refine w_getI rfl rfl rfl rfl rfl ?_ | refine w_getR rfl rfl rfl rfl rfl ?_
                      rw [h7]
                      refine w_ldI rfl rfl ?_
                      refine w_push rfl ?_
                      refine w_bin rfl ?_
                      refine w_bin rfl ?_
                      refine w_putI rfl rfl rfl rfl rfl rfl rfl ?_
                      first
                      | (have ex : cmK b dp cm = m_or cm (m_shl 1 dp) := if_pos (by omega)
                         exact y_join35 (hK.f7 (x := m_or cm (m_shl 1 dp))) hl hb hbb (by omega) (fun s1 k f => ⟨(if_pos (by omega)).symm, fun _ => ⟨by rw [ex]; exact k, Fr.tr (Fr.us rfl) f⟩, fun z => absurd (by omega) z⟩))
                      | (have ex : cmK b dp cm = m_and cm (m_xor (m_shl 1 dp) (-1)) := (if_neg (by omega)).trans (if_pos (by omega))
                         exact y_join35 (hK.f7 (x := m_and cm (m_xor (m_shl 1 dp) (-1)))) hl hb hbb (by omega) (fun s1 k f => ⟨(if_pos (by omega)).symm, fun _ => ⟨by rw [ex]; exact k, Fr.tr (Fr.us rfl) f⟩, fun z => absurd (by omega) z⟩))
                      | (have ex : cmK b dp cm = cm := (if_neg (by omega)).trans (if_neg (by omega))
                         exact y_join35 hK hl hb hbb (by omega) (fun s1 k f => ⟨(if_pos (by omega)).symm, fun _ => ⟨by rw [ex]; exact k, f⟩, fun z => absurd (by omega) z⟩))))
            · first
              | (exfalso; omega)
              | (refine w_ldR rfl rfl rfl ?_
                 first | refine w_dupI rfl ?_ | refine w_dupR rfl ?_
                 first | refine w_getI rfl rfl rfl rfl rfl ?_ | refine w_getR rfl rfl rfl rfl rfl ?_
                 rw [h7]
                 refine w_ldI rfl rfl ?_
                 refine w_bin rfl ?_
                 refine w_putI rfl rfl rfl rfl rfl rfl rfl ?_
                 refine w_go rfl ?_
                 first
                 | (have ex : cmK b dp cm = m_or cm (m_shl 1 dp) := if_pos (by omega)
                    exact y_join35 (hK.f7 (x := m_or cm (m_shl 1 dp))) hl hb hbb (by omega) (fun s1 k f => ⟨(if_pos (by omega)).symm, fun _ => ⟨by rw [ex]; exact k, Fr.tr (Fr.us rfl) f⟩, fun z => absurd (by omega) z⟩))
                 | (have ex : cmK b dp cm = m_and cm (m_xor (m_shl 1 dp) (-1)) := (if_neg (by omega)).trans (if_pos (by omega))
                    exact y_join35 (hK.f7 (x := m_and cm (m_xor (m_shl 1 dp) (-1)))) hl hb hbb (by omega) (fun s1 k f => ⟨(if_pos (by omega)).symm, fun _ => ⟨by rw [ex]; exact k, Fr.tr (Fr.us rfl) f⟩, fun z => absurd (by omega) z⟩))
                 | (have ex : cmK b dp cm = cm := (if_neg (by omega)).trans (if_neg (by omega))
                    exact y_join35 hK hl hb hbb (by omega) (fun s1 k f => ⟨(if_pos (by omega)).symm, fun _ => ⟨by rw [ex]; exact k, f⟩, fun z => absurd (by omega) z⟩))))
       · first
         | (exfalso; omega)
         | (refine w_ldR rfl rfl rfl ?_
            first | refine w_getI rfl rfl rfl rfl rfl ?_ | refine w_getR rfl rfl rfl rfl rfl ?_
            rw [h7]
            refine w_ldI rfl rfl ?_
            refine w_bin rfl ?_
            refine w_irEq0 rfl (by omega) (fun b19 => ?_) (fun b19 => ?_)
            · first
              | (exfalso; omega)
              | (refine w_ldI rfl rfl ?_
                 refine w_push rfl ?_
                 refine w_crNe rfl (by omega) (by omega) (fun b24 => ?_) (fun b24 => ?_)
                 · first
                   | (exfalso; omega)
                   | (refine w_ldI rfl rfl ?_
                      refine w_push rfl ?_
                      refine w_crGe rfl (by omega) (by omega) (fun b34 => ?_) (fun b34 => ?_)
                      · first
                        | (exfalso; omega)
                        | (first
                           | (have ex : cmK b dp cm = m_or cm (m_shl 1 dp) := if_pos (by omega)
                              exact y_join35 (hK.f7 (x := m_or cm (m_shl 1 dp))) hl hb hbb (by omega) (fun s1 k f => ⟨(if_pos (by omega)).symm, fun _ => ⟨by rw [ex]; exact k, Fr.tr (Fr.us rfl) f⟩, fun z => absurd (by omega) z⟩))
                           | (have ex : cmK b dp cm = m_and cm (m_xor (m_shl 1 dp) (-1)) := (if_neg (by omega)).trans (if_pos (by omega))
                              exact y_join35 (hK.f7 (x := m_and cm (m_xor (m_shl 1 dp) (-1)))) hl hb hbb (by omega) (fun s1 k f => ⟨(if_pos (by omega)).symm, fun _ => ⟨by rw [ex]; exact k, Fr.tr (Fr.us rfl) f⟩, fun z => absurd (by omega) z⟩))
                           | (have ex : cmK b dp cm = cm := (if_neg (by omega)).trans (if_neg (by omega))
                              exact y_join35 hK hl hb hbb (by omega) (fun s1 k f => ⟨(if_pos (by omega)).symm, fun _ => ⟨by rw [ex]; exact k, f⟩, fun z => absurd (by omega) z⟩)))
                      · first
                        | (exfalso; omega)
                        | (refine w_ldR rfl rfl rfl ?_
                           first | refine w_dupI rfl ?_ | refine w_dupR rfl ?_
                           first | refine w_getI rfl rfl rfl rfl rfl ?_ | refine w_getR rfl rfl rfl rfl rfl ?_
                           rw [h7]
                           refine w_ldI rfl rfl ?_
                           refine w_push rfl ?_
                           refine w_bin rfl ?_
                           refine w_bin rfl ?_
                           refine w_putI rfl rfl rfl rfl rfl rfl rfl ?_
                           first
                           | (have ex : cmK b dp cm = m_or cm (m_shl 1 dp) := if_pos (by omega)
                              exact y_join35 (hK.f7 (x := m_or cm (m_shl 1 dp))) hl hb hbb (by omega) (fun s1 k f => ⟨(if_pos (by omega)).symm, fun _ => ⟨by rw [ex]; exact k, Fr.tr (Fr.us rfl) f⟩, fun z => absurd (by omega) z⟩))
                           | (have ex : cmK b dp cm = m_and cm (m_xor (m_shl 1 dp) (-1)) := (if_neg (by omega)).trans (if_pos (by omega))
                              exact y_join35 (hK.f7 (x := m_and cm (m_xor (m_shl 1 dp) (-1)))) hl hb hbb (by omega) (fun s1 k f => ⟨(if_pos (by omega)).symm, fun _ => ⟨by rw [ex]; exact k, Fr.tr (Fr.us rfl) f⟩, fun z => absurd (by omega) z⟩))
                           | (have ex : cmK b dp cm = cm := (if_neg (by omega)).trans (if_neg (by omega))
                              exact y_join35 hK hl hb hbb (by omega) (fun s1 k f => ⟨(if_pos (by omega)).symm, fun _ => ⟨by rw [ex]; exact k, f⟩, fun z => absurd (by omega) z⟩))))
                 · first
                   | (exfalso; omega)
                   | (refine w_ldR rfl rfl rfl ?_
                      first | refine w_dupI rfl ?_ | refine w_dupR rfl ?_
                      first | refine w_getI rfl rfl rfl rfl rfl ?_ | refine w_getR rfl rfl rfl rfl rfl ?_
                      rw [h7]
                      refine w_ldI rfl rfl ?_
                      refine w_bin rfl ?_
                      refine w_putI rfl rfl rfl rfl rfl rfl rfl ?_
                      refine w_go rfl ?_
                      first
                      | (have ex : cmK b dp cm = m_or cm (m_shl 1 dp) := if_pos (by omega)
                         exact y_join35 (hK.f7 (x := m_or cm (m_shl 1 dp))) hl hb hbb (by omega) (fun s1 k f => ⟨(if_pos (by omega)).symm, fun _ => ⟨by rw [ex]; exact k, Fr.tr (Fr.us rfl) f⟩, fun z => absurd (by omega) z⟩))
                      | (have ex : cmK b dp cm = m_and cm (m_xor (m_shl 1 dp) (-1)) := (if_neg (by omega)).trans (if_pos (by omega))
                         exact y_join35 (hK.f7 (x := m_and cm (m_xor (m_shl 1 dp) (-1)))) hl hb hbb (by omega) (fun s1 k f => ⟨(if_pos (by omega)).symm, fun _ => ⟨by rw [ex]; exact k, Fr.tr (Fr.us rfl) f⟩, fun z => absurd (by omega) z⟩))
                      | (have ex : cmK b dp cm = cm := (if_neg (by omega)).trans (if_neg (by omega))
                         exact y_join35 hK hl hb hbb (by omega) (fun s1 k f => ⟨(if_pos (by omega)).symm, fun _ => ⟨by rw [ex]; exact k, f⟩, fun z => absurd (by omega) z⟩))))
            · first
              | (exfalso; omega)
              | (refine w_push rfl ?_
                 refine w_retB rfl (by first | exact bI_01 _ | decide | omega) ?_
                 refine ⟨?_, fun z => absurd z (by omega), fun _ => rfl⟩
                 unfold bI
                 rw [if_neg (by omega)])))
  · first
    | (exfalso; omega)
    | (refine w_push rfl ?_
       refine w_retB rfl (by first | exact bI_01 _ | decide | omega) ?_
       refine ⟨?_, fun z => absurd z (by omega), fun _ => rfl⟩
       unfold bI
       rw [if_neg (by omega)])
theorem k_opens43 {d : Nat} {s : mSt} {dr pe : List Int} {b op dp cm : Int} (hK : KS43 s dr pe op dp cm) (hl : dr.length + pe.length < 50) (hb : ∀ c ∈ pe, 0 ≤ c ∧ c ≤ 255) (hbb : 0 ≤ b ∧ b ≤ 255) (hop : -200 ≤ op ∧ op ≤ 5) (hdp : 0 ≤ dp ∧ dp ≤ 50)  : CI (d + 1) 43 [.inr (.inr 43), .inl b] (s) (fun r s1 => r = bI ((b = 33 ∨ b = 40) ∧ op < 5) ∧ (((b = 33 ∨ b = 40) ∧ op < 5) → KS43 s1 dr (b :: pe) (op + 1) (onD b dp) (onC b dp cm) ∧ Fr [43, 49, 50] s s1) ∧ (¬ ((b = 33 ∨ b = 40) ∧ op < 5) → s = s1)) := by
  refine CI.mk rfl ?_
  show WP (d + 1) 43 0 [some (.inr (.inr 43)), some (.inl b)] [] (encA (s)) _
  obtain ⟨h1, h2, h3, h4, h5, h6, h7, h0⟩ := id hK
  refine w_ldI rfl rfl ?_
  refine w_push rfl ?_
  refine w_crEq rfl (by omega) (by omega) (fun b2 => ?_) (fun b2 => ?_)
  · first
    | (exfalso; omega)
    | (refine w_ldR rfl rfl rfl ?_
       first | refine w_getI rfl rfl rfl rfl rfl ?_ | refine w_getR rfl rfl rfl rfl rfl ?_
       rw [h5]
       refine w_push rfl ?_
       refine w_crLt rfl (by omega) (by omega) (fun b9 => ?_) (fun b9 => ?_)
       · first
         | (exfalso; omega)
         | (refine w_ldR rfl rfl rfl ?_
            first | refine w_getI rfl rfl rfl rfl rfl ?_ | refine w_getR rfl rfl rfl rfl rfl ?_
            refine w_ldI rfl rfl ?_
            refine w_callWI rfl rfl rfl rfl rfl rfl rfl (k_addk49 (k := pe.length) h3 (by omega)) (fun v15 s15 p15 => ?_)
            obtain ⟨rfl, rfl⟩ := p15
            refine w_popI rfl ?_
            refine w_ldR rfl rfl rfl ?_
            first | refine w_dupI rfl ?_ | refine w_dupR rfl ?_
            first | refine w_getI rfl rfl rfl rfl rfl ?_ | refine w_getR rfl rfl rfl rfl rfl ?_
            rw [us_ne (by decide), us_ne (by decide), h5]
            refine w_push rfl ?_
            refine w_add rfl ?_
            refine w_putI rfl rfl rfl rfl rfl rfl rfl ?_
            refine w_ldI rfl rfl ?_
            refine w_push rfl ?_
            refine w_crNe rfl (by omega) (by omega) (fun b25 => ?_) (fun b25 => ?_)
            · first
              | (exfalso; omega)
              | (refine w_push rfl ?_
                 refine w_retB rfl (by first | exact bI_01 _ | decide | omega) ?_
                 first
                 | (have e1 : onD b dp = dp := if_neg (by omega)
                    have e2 : onC b dp cm = cm := if_neg (by omega)
                    refine ⟨?_, fun _ => ⟨?_, Fr.tr (Fr.tr (Fr.us rfl) (Fr.us rfl)) (Fr.us rfl)⟩, fun z => absurd (by omega) z⟩
                    · unfold bI
                      rw [if_pos (by omega)]
                    · rw [e1, e2]
                      exact hK.push.f5)
                 | (have e1 : onD b dp = dp + 1 := if_pos (by omega)
                    have e2 : onC b dp cm = m_and cm (m_xor (m_shl 1 (dp + 1)) (-1)) := if_pos (by omega)
                    refine ⟨?_, fun _ => ⟨?_, Fr.tr (Fr.tr (Fr.tr (Fr.tr (Fr.us rfl) (Fr.us rfl)) (Fr.us rfl)) (Fr.us rfl)) (Fr.us rfl)⟩, fun z => absurd (by omega) z⟩
                    · unfold bI
                      rw [if_pos (by omega)]
                    · rw [e1, e2]
                      exact hK.push.f5.f6.f7))
            · first
              | (exfalso; omega)
              | (refine w_ldR rfl rfl rfl ?_
                 first | refine w_dupI rfl ?_ | refine w_dupR rfl ?_
                 first | refine w_getI rfl rfl rfl rfl rfl ?_ | refine w_getR rfl rfl rfl rfl rfl ?_
                 rw [us_eq, mup_ne (by decide), us_ne (by decide), us_ne (by decide), h6]
                 refine w_push rfl ?_
                 refine w_add rfl ?_
                 refine w_putI rfl rfl rfl rfl rfl rfl rfl ?_
                 refine w_ldR rfl rfl rfl ?_
                 first | refine w_dupI rfl ?_ | refine w_dupR rfl ?_
                 first | refine w_getI rfl rfl rfl rfl rfl ?_ | refine w_getR rfl rfl rfl rfl rfl ?_
                 rw [us_eq, mup_ne (by decide), us_eq, mup_ne (by decide), us_ne (by decide), us_ne (by decide), h7]
                 refine w_push rfl ?_
                 refine w_ldR rfl rfl rfl ?_
                 first | refine w_getI rfl rfl rfl rfl rfl ?_ | refine w_getR rfl rfl rfl rfl rfl ?_
                 rw [us_eq, mup_eq]
                 refine w_bin rfl ?_
                 refine w_push rfl ?_
                 refine w_bin rfl ?_
                 refine w_bin rfl ?_
                 refine w_putI rfl rfl rfl rfl rfl rfl rfl ?_
                 refine w_push rfl ?_
                 refine w_retB rfl (by first | exact bI_01 _ | decide | omega) ?_
                 first
                 | (have e1 : onD b dp = dp := if_neg (by omega)
                    have e2 : onC b dp cm = cm := if_neg (by omega)
                    refine ⟨?_, fun _ => ⟨?_, Fr.tr (Fr.tr (Fr.us rfl) (Fr.us rfl)) (Fr.us rfl)⟩, fun z => absurd (by omega) z⟩
                    · unfold bI
                      rw [if_pos (by omega)]
                    · rw [e1, e2]
                      exact hK.push.f5)
                 | (have e1 : onD b dp = dp + 1 := if_pos (by omega)
                    have e2 : onC b dp cm = m_and cm (m_xor (m_shl 1 (dp + 1)) (-1)) := if_pos (by omega)
                    refine ⟨?_, fun _ => ⟨?_, Fr.tr (Fr.tr (Fr.tr (Fr.tr (Fr.us rfl) (Fr.us rfl)) (Fr.us rfl)) (Fr.us rfl)) (Fr.us rfl)⟩, fun z => absurd (by omega) z⟩
                    · unfold bI
                      rw [if_pos (by omega)]
                    · rw [e1, e2]
                      exact hK.push.f5.f6.f7)))
       · first
         | (exfalso; omega)
         | (refine w_push rfl ?_
            refine w_retB rfl (by first | exact bI_01 _ | decide | omega) ?_
            refine ⟨?_, fun z => absurd z (by omega), fun _ => rfl⟩
            unfold bI
            rw [if_neg (by omega)]))
  · first
    | (exfalso; omega)
    | (refine w_ldI rfl rfl ?_
       refine w_push rfl ?_
       refine w_crNe rfl (by omega) (by omega) (fun b5 => ?_) (fun b5 => ?_)
       · first
         | (exfalso; omega)
         | (refine w_push rfl ?_
            refine w_retB rfl (by first | exact bI_01 _ | decide | omega) ?_
            refine ⟨?_, fun z => absurd z (by omega), fun _ => rfl⟩
            unfold bI
            rw [if_neg (by omega)])
       · first
         | (exfalso; omega)
         | (refine w_ldR rfl rfl rfl ?_
            first | refine w_getI rfl rfl rfl rfl rfl ?_ | refine w_getR rfl rfl rfl rfl rfl ?_
            rw [h5]
            refine w_push rfl ?_
            refine w_crLt rfl (by omega) (by omega) (fun b9 => ?_) (fun b9 => ?_)
            · first
              | (exfalso; omega)
              | (refine w_ldR rfl rfl rfl ?_
                 first | refine w_getI rfl rfl rfl rfl rfl ?_ | refine w_getR rfl rfl rfl rfl rfl ?_
                 refine w_ldI rfl rfl ?_
                 refine w_callWI rfl rfl rfl rfl rfl rfl rfl (k_addk49 (k := pe.length) h3 (by omega)) (fun v15 s15 p15 => ?_)
                 obtain ⟨rfl, rfl⟩ := p15
                 refine w_popI rfl ?_
                 refine w_ldR rfl rfl rfl ?_
                 first | refine w_dupI rfl ?_ | refine w_dupR rfl ?_
                 first | refine w_getI rfl rfl rfl rfl rfl ?_ | refine w_getR rfl rfl rfl rfl rfl ?_
                 rw [us_ne (by decide), us_ne (by decide), h5]
                 refine w_push rfl ?_
                 refine w_add rfl ?_
                 refine w_putI rfl rfl rfl rfl rfl rfl rfl ?_
                 refine w_ldI rfl rfl ?_
                 refine w_push rfl ?_
                 refine w_crNe rfl (by omega) (by omega) (fun b25 => ?_) (fun b25 => ?_)
                 · first
                   | (exfalso; omega)
                   | (refine w_push rfl ?_
                      refine w_retB rfl (by first | exact bI_01 _ | decide | omega) ?_
                      first
                      | (have e1 : onD b dp = dp := if_neg (by omega)
                         have e2 : onC b dp cm = cm := if_neg (by omega)
                         refine ⟨?_, fun _ => ⟨?_, Fr.tr (Fr.tr (Fr.us rfl) (Fr.us rfl)) (Fr.us rfl)⟩, fun z => absurd (by omega) z⟩
                         · unfold bI
                           rw [if_pos (by omega)]
                         · rw [e1, e2]
                           exact hK.push.f5)
                      | (have e1 : onD b dp = dp + 1 := if_pos (by omega)
                         have e2 : onC b dp cm = m_and cm (m_xor (m_shl 1 (dp + 1)) (-1)) := if_pos (by omega)
                         refine ⟨?_, fun _ => ⟨?_, Fr.tr (Fr.tr (Fr.tr (Fr.tr (Fr.us rfl) (Fr.us rfl)) (Fr.us rfl)) (Fr.us rfl)) (Fr.us rfl)⟩, fun z => absurd (by omega) z⟩
                         · unfold bI
                           rw [if_pos (by omega)]
                         · rw [e1, e2]
                           exact hK.push.f5.f6.f7))
                 · first
                   | (exfalso; omega)
                   | (refine w_ldR rfl rfl rfl ?_
                      first | refine w_dupI rfl ?_ | refine w_dupR rfl ?_
                      first | refine w_getI rfl rfl rfl rfl rfl ?_ | refine w_getR rfl rfl rfl rfl rfl ?_
                      rw [us_eq, mup_ne (by decide), us_ne (by decide), us_ne (by decide), h6]
                      refine w_push rfl ?_
                      refine w_add rfl ?_
                      refine w_putI rfl rfl rfl rfl rfl rfl rfl ?_
                      refine w_ldR rfl rfl rfl ?_
                      first | refine w_dupI rfl ?_ | refine w_dupR rfl ?_
                      first | refine w_getI rfl rfl rfl rfl rfl ?_ | refine w_getR rfl rfl rfl rfl rfl ?_
                      rw [us_eq, mup_ne (by decide), us_eq, mup_ne (by decide), us_ne (by decide), us_ne (by decide), h7]
                      refine w_push rfl ?_
                      refine w_ldR rfl rfl rfl ?_
                      first | refine w_getI rfl rfl rfl rfl rfl ?_ | refine w_getR rfl rfl rfl rfl rfl ?_
                      rw [us_eq, mup_eq]
                      refine w_bin rfl ?_
                      refine w_push rfl ?_
                      refine w_bin rfl ?_
                      refine w_bin rfl ?_
                      refine w_putI rfl rfl rfl rfl rfl rfl rfl ?_
                      refine w_push rfl ?_
                      refine w_retB rfl (by first | exact bI_01 _ | decide | omega) ?_
                      first
                      | (have e1 : onD b dp = dp := if_neg (by omega)
                         have e2 : onC b dp cm = cm := if_neg (by omega)
                         refine ⟨?_, fun _ => ⟨?_, Fr.tr (Fr.tr (Fr.us rfl) (Fr.us rfl)) (Fr.us rfl)⟩, fun z => absurd (by omega) z⟩
                         · unfold bI
                           rw [if_pos (by omega)]
                         · rw [e1, e2]
                           exact hK.push.f5)
                      | (have e1 : onD b dp = dp + 1 := if_pos (by omega)
                         have e2 : onC b dp cm = m_and cm (m_xor (m_shl 1 (dp + 1)) (-1)) := if_pos (by omega)
                         refine ⟨?_, fun _ => ⟨?_, Fr.tr (Fr.tr (Fr.tr (Fr.tr (Fr.us rfl) (Fr.us rfl)) (Fr.us rfl)) (Fr.us rfl)) (Fr.us rfl)⟩, fun z => absurd (by omega) z⟩
                         · unfold bI
                           rw [if_pos (by omega)]
                         · rw [e1, e2]
                           exact hK.push.f5.f6.f7)))
            · first
              | (exfalso; omega)
              | (refine w_push rfl ?_
                 refine w_retB rfl (by first | exact bI_01 _ | decide | omega) ?_
                 refine ⟨?_, fun z => absurd z (by omega), fun _ => rfl⟩
                 unfold bI
                 rw [if_neg (by omega)])))
theorem k_closes43 {d : Nat} {s : mSt} {dr pe : List Int} {b op dp cm : Int} (hK : KS43 s dr pe op dp cm) (hl : dr.length + pe.length < 50) (hb : ∀ c ∈ pe, 0 ≤ c ∧ c ≤ 255) (hbb : 0 ≤ b ∧ b ≤ 255) (hop : -200 ≤ op ∧ op ≤ 5) (hdp : 0 ≤ dp ∧ dp ≤ 50)  : CI (d + 3) 44 [.inr (.inr 43), .inl b] (s) (fun r s1 => r = bI (b = 41 ∧ ¬ dp = 0) ∧ ((b = 41 ∧ ¬ dp = 0) → KS43 s1 (wnP (wdP 1 dr pe).1 (wdP 1 dr pe).2.tail (op - 1)).1 (wnP (wdP 1 dr pe).1 (wdP 1 dr pe).2.tail (op - 1)).2.1 (wnP (wdP 1 dr pe).1 (wdP 1 dr pe).2.tail (op - 1)).2.2 (dp - 1) cm ∧ Fr [43, 47, 48, 49] s s1) ∧ (¬ (b = 41 ∧ ¬ dp = 0) → s = s1)) := by
  refine CI.mk rfl ?_
  show WP (d + 3) 44 0 [some (.inr (.inr 43)), some (.inl b)] [] (encA (s)) _
  obtain ⟨h1, h2, h3, h4, h5, h6, h7, h0⟩ := id hK
  obtain ⟨l1, l2, l3⟩ := wdP_len (r := 1) pe dr
  refine w_ldI rfl rfl ?_
  refine w_push rfl ?_
  refine w_crNe rfl (by omega) (by omega) (fun b2 => ?_) (fun b2 => ?_)
  · first
    | (exfalso; omega)
    | (refine w_push rfl ?_
       refine w_retB rfl (by first | exact bI_01 _ | decide | omega) ?_
       refine ⟨?_, fun z => absurd z (by omega), fun _ => rfl⟩
       unfold bI
       rw [if_neg (by omega)])
  · first
    | (exfalso; omega)
    | (refine w_ldR rfl rfl rfl ?_
       first | refine w_getI rfl rfl rfl rfl rfl ?_ | refine w_getR rfl rfl rfl rfl rfl ?_
       rw [h6]
       refine w_irNe0 rfl (by omega) (fun b5 => ?_) (fun b5 => ?_)
       · first
         | (exfalso; omega)
         | (refine w_ldR rfl rfl rfl ?_
            refine w_push rfl ?_
            refine w_callWN rfl rfl rfl rfl rfl rfl rfl (k_wd43 (r := 0) (by omega) hK (by omega) hb) (fun s10 p10 => ?_)
            obtain ⟨gK, gF⟩ := p10
            rw [show max (1 : Int) 0 = 1 by decide] at gK
            obtain ⟨g1, g2, g3, g4, g5, g6, g7, g0⟩ := id gK
            refine w_ldR rfl rfl rfl ?_
            first | refine w_getI rfl rfl rfl rfl rfl ?_ | refine w_getR rfl rfl rfl rfl rfl ?_
            refine w_callWI rfl rfl rfl rfl rfl rfl rfl (k_rmlt49 (k := (wdP 1 dr pe).2.length) g3 (by omega)) (fun v13 s13 p13 => ?_)
            subst p13
            refine w_popI rfl ?_
            refine w_ldR rfl rfl rfl ?_
            first | refine w_dupI rfl ?_ | refine w_dupR rfl ?_
            first | refine w_getI rfl rfl rfl rfl rfl ?_ | refine w_getR rfl rfl rfl rfl rfl ?_
            rw [us_ne (by decide), g5]
            refine w_push rfl ?_
            refine w_sub rfl ?_
            refine w_putI rfl rfl rfl rfl rfl rfl rfl ?_
            refine w_ldR rfl rfl rfl ?_
            first | refine w_dupI rfl ?_ | refine w_dupR rfl ?_
            first | refine w_getI rfl rfl rfl rfl rfl ?_ | refine w_getR rfl rfl rfl rfl rfl ?_
            rw [us_eq, mup_ne (by decide), us_ne (by decide), g6]
            refine w_push rfl ?_
            refine w_sub rfl ?_
            refine w_putI rfl rfl rfl rfl rfl rfl rfl ?_
            refine w_ldR rfl rfl rfl ?_
            refine w_callWN rfl rfl rfl rfl rfl rfl rfl (k_wn43 gK.tl.f5.f6 (by rw [List.length_tail]; omega) (fun x hx => hb x (l3 x (List.mem_of_mem_tail hx)))) (fun s28 p28 => ?_)
            obtain ⟨nK, nF⟩ := p28
            refine w_push rfl ?_
            refine w_retB rfl (by first | exact bI_01 _ | decide | omega) ?_
            refine ⟨?_, fun _ => ⟨nK, Fr.tr (Fr.mono rfl gF) (Fr.tr (Fr.tr (Fr.tr (Fr.us rfl) (Fr.us rfl)) (Fr.us rfl)) nF)⟩, fun z => absurd (by omega) z⟩
            unfold bI
            rw [if_pos (by omega)])
       · first
         | (exfalso; omega)
         | (refine w_push rfl ?_
            refine w_retB rfl (by first | exact bI_01 _ | decide | omega) ?_
            refine ⟨?_, fun z => absurd z (by omega), fun _ => rfl⟩
            unfold bI
            rw [if_neg (by omega)]))
theorem y_join43 {d : Nat} {s : mSt} {P : Int → mSt → Prop} {x3 : Option mAV} {dr pe : List Int} {b op dp cm : Int} (hK : KS43 s dr pe op dp cm) (hl : dr.length + pe.length < 50) (hb : ∀ c ∈ pe, 0 ≤ c ∧ c ≤ 255) (hbb : 0 ≤ b ∧ b ≤ 255) (hr1 : 1 ≤ rk b) (kk : ∀ s1, KS43 s1 (wdP (rk b) dr pe).1 (b :: (wdP (rk b) dr pe).2) op dp cm → Fr [43, 47, 48, 49, 50] s s1 → P 1 s1) : WP (d + 3) 45 43 [some (.inr (.inr 43)), some (.inl b), some (.inl (rk b)), x3] [] (encA (s)) (QI P) := by
  obtain ⟨l1, l2, l3⟩ := wdP_len (r := rk b) pe dr
  have hrk := rk_rng b
  refine w_ldR rfl rfl rfl ?_
  refine w_ldI rfl rfl ?_
  refine w_callWN rfl rfl rfl rfl rfl rfl rfl (k_wd43 (r := rk b) (by omega) hK (by omega) hb) (fun s45 p45 => ?_)
  obtain ⟨gK, gF⟩ := p45
  rw [show max (1 : Int) (rk b) = rk b by omega] at gK
  refine w_ldR rfl rfl rfl ?_
  first | refine w_getI rfl rfl rfl rfl rfl ?_ | refine w_getR rfl rfl rfl rfl rfl ?_
  refine w_ldI rfl rfl ?_
  refine w_callWI rfl rfl rfl rfl rfl rfl rfl (k_addk49 (k := (wdP (rk b) dr pe).2.length) gK.2.2.1 (by omega)) (fun v49 s49 p49 => ?_)
  obtain ⟨rfl, rfl⟩ := p49
  refine w_popI rfl ?_
  refine w_push rfl ?_
  refine w_retB rfl (by first | exact bI_01 _ | decide | omega) ?_
  exact kk _ gK.push (Fr.tr (Fr.mono rfl gF) (Fr.tr (Fr.us rfl) (Fr.us rfl)))
theorem k_joins43 {d : Nat} {s : mSt} {dr pe : List Int} {b op dp cm : Int} (hK : KS43 s dr pe op dp cm) (hl : dr.length + pe.length < 50) (hb : ∀ c ∈ pe, 0 ≤ c ∧ c ≤ 255) (hbb : 0 ≤ b ∧ b ≤ 255) (hop : -200 ≤ op ∧ op ≤ 5) (hdp : 0 ≤ dp ∧ dp ≤ 50)  : CI (d + 3) 45 [.inr (.inr 43), .inl b] (s) (fun r s1 => r = bI (¬ (rk b = 0 ∨ (rk b = 3 ∧ ¬ m_and cm (m_shl 1 dp) = 0))) ∧ ((¬ (rk b = 0 ∨ (rk b = 3 ∧ ¬ m_and cm (m_shl 1 dp) = 0))) → KS43 s1 (wdP (rk b) dr pe).1 (b :: (wdP (rk b) dr pe).2) op dp (cmK b dp cm) ∧ Fr [43, 47, 48, 49, 50] s s1) ∧ (¬ (¬ (rk b = 0 ∨ (rk b = 3 ∧ ¬ m_and cm (m_shl 1 dp) = 0))) → s = s1)) := by
  refine CI.mk rfl ?_
  show WP (d + 3) 45 0 [some (.inr (.inr 43)), some (.inl b), none, none] [] (encA (s)) _
  obtain ⟨h1, h2, h3, h4, h5, h6, h7, h0⟩ := id hK
  obtain ⟨l1, l2, l3⟩ := wdP_len (r := rk b) pe dr
  have hrk := rk_rng b
  have hma := m_and_rng cm (m_shl 1 dp)
  refine w_ldI rfl rfl ?_
  refine w_call rfl rfl rfl (k_rank (by omega)) ?_
  refine w_StI_4_2 rfl rfl ?_
  refine w_ldI rfl rfl ?_
  refine w_irNe0 rfl (by omega) (fun b4 => ?_) (fun b4 => ?_)
  · first
    | (exfalso; omega)
    | (refine w_push rfl ?_
       refine w_ldR rfl rfl rfl ?_
       first | refine w_getI rfl rfl rfl rfl rfl ?_ | refine w_getR rfl rfl rfl rfl rfl ?_
       rw [h6]
       refine w_bin rfl ?_
       refine w_StI_4_3 rfl rfl ?_
       refine w_ldI rfl rfl ?_
       refine w_push rfl ?_
       refine w_crNe rfl (by omega) (by omega) (fun b14 => ?_) (fun b14 => ?_)
       · first
         | (exfalso; omega)
         | (refine w_ldI rfl rfl ?_
            refine w_push rfl ?_
            refine w_crNe rfl (by omega) (by omega) (fun b24 => ?_) (fun b24 => ?_)
            · first
              | (exfalso; omega)
              | (refine w_ldI rfl rfl ?_
                 refine w_push rfl ?_
                 refine w_crGe rfl (by omega) (by omega) (fun b34 => ?_) (fun b34 => ?_)
                 · first
                   | (exfalso; omega)
                   | (first
                      | (have ex : cmK b dp cm = m_or cm (m_shl 1 dp) := if_pos (by omega)
                         exact y_join43 (hK.f7 (x := m_or cm (m_shl 1 dp))) hl hb hbb (by omega) (fun s1 k f => ⟨(if_pos (by omega)).symm, fun _ => ⟨by rw [ex]; exact k, Fr.tr (Fr.us rfl) f⟩, fun z => absurd (by omega) z⟩))
                      | (have ex : cmK b dp cm = m_and cm (m_xor (m_shl 1 dp) (-1)) := (if_neg (by omega)).trans (if_pos (by omega))
                         exact y_join43 (hK.f7 (x := m_and cm (m_xor (m_shl 1 dp) (-1)))) hl hb hbb (by omega) (fun s1 k f => ⟨(if_pos (by omega)).symm, fun _ => ⟨by rw [ex]; exact k, Fr.tr (Fr.us rfl) f⟩, fun z => absurd (by omega) z⟩))
                      | (have ex : cmK b dp cm = cm := (if_neg (by omega)).trans (if_neg (by omega))
                         exact y_join43 hK hl hb hbb (by omega) (fun s1 k f => ⟨(if_pos (by omega)).symm, fun _ => ⟨by rw [ex]; exact k, f⟩, fun z => absurd (by omega) z⟩)))
                 · first
                   | (exfalso; omega)
                   | (refine w_ldR rfl rfl rfl ?_
                      first | refine w_dupI rfl ?_ | refine w_dupR rfl ?_
                      first | refine w_getI rfl rfl rfl rfl rfl ?_ | refine w_getR rfl rfl rfl rfl rfl ?_
                      rw [h7]
                      refine w_ldI rfl rfl ?_
                      refine w_push rfl ?_
                      refine w_bin rfl ?_
                      refine w_bin rfl ?_
                      refine w_putI rfl rfl rfl rfl rfl rfl rfl ?_
                      first
                      | (have ex : cmK b dp cm = m_or cm (m_shl 1 dp) := if_pos (by omega)
                         exact y_join43 (hK.f7 (x := m_or cm (m_shl 1 dp))) hl hb hbb (by omega) (fun s1 k f => ⟨(if_pos (by omega)).symm, fun _ => ⟨by rw [ex]; exact k, Fr.tr (Fr.us rfl) f⟩, fun z => absurd (by omega) z⟩))
                      | (have ex : cmK b dp cm = m_and cm (m_xor (m_shl 1 dp) (-1)) := (if_neg (by omega)).trans (if_pos (by omega))
                         exact y_join43 (hK.f7 (x := m_and cm (m_xor (m_shl 1 dp) (-1)))) hl hb hbb (by omega) (fun s1 k f => ⟨(if_pos (by omega)).symm, fun _ => ⟨by rw [ex]; exact k, Fr.tr (Fr.us rfl) f⟩, fun z => absurd (by omega) z⟩))
                      | (have ex : cmK b dp cm = cm := (if_neg (by omega)).trans (if_neg (by omega))
                         exact y_join43 hK hl hb hbb (by omega) (fun s1 k f => ⟨(if_pos (by omega)).symm, fun _ => ⟨by rw [ex]; exact k, f⟩, fun z => absurd (by omega) z⟩))))
            · first
              | (exfalso; omega)
              | (refine w_ldR rfl rfl rfl ?_
                 first | refine w_dupI rfl ?_ | refine w_dupR rfl ?_
                 first | refine w_getI rfl rfl rfl rfl rfl ?_ | refine w_getR rfl rfl rfl rfl rfl ?_
                 rw [h7]
                 refine w_ldI rfl rfl ?_
                 refine w_bin rfl ?_
                 refine w_putI rfl rfl rfl rfl rfl rfl rfl ?_
                 refine w_go rfl ?_
                 first
                 | (have ex : cmK b dp cm = m_or cm (m_shl 1 dp) := if_pos (by omega)
                    exact y_join43 (hK.f7 (x := m_or cm (m_shl 1 dp))) hl hb hbb (by omega) (fun s1 k f => ⟨(if_pos (by omega)).symm, fun _ => ⟨by rw [ex]; exact k, Fr.tr (Fr.us rfl) f⟩, fun z => absurd (by omega) z⟩))
                 | (have ex : cmK b dp cm = m_and cm (m_xor (m_shl 1 dp) (-1)) := (if_neg (by omega)).trans (if_pos (by omega))
                    exact y_join43 (hK.f7 (x := m_and cm (m_xor (m_shl 1 dp) (-1)))) hl hb hbb (by omega) (fun s1 k f => ⟨(if_pos (by omega)).symm, fun _ => ⟨by rw [ex]; exact k, Fr.tr (Fr.us rfl) f⟩, fun z => absurd (by omega) z⟩))
                 | (have ex : cmK b dp cm = cm := (if_neg (by omega)).trans (if_neg (by omega))
                    exact y_join43 hK hl hb hbb (by omega) (fun s1 k f => ⟨(if_pos (by omega)).symm, fun _ => ⟨by rw [ex]; exact k, f⟩, fun z => absurd (by omega) z⟩))))
       · first
         | (exfalso; omega)
         | (refine w_ldR rfl rfl rfl ?_
            first | refine w_getI rfl rfl rfl rfl rfl ?_ | refine w_getR rfl rfl rfl rfl rfl ?_
            rw [h7]
            refine w_ldI rfl rfl ?_
            refine w_bin rfl ?_
            refine w_irEq0 rfl (by omega) (fun b19 => ?_) (fun b19 => ?_)
            · first
              | (exfalso; omega)
              | (refine w_ldI rfl rfl ?_
                 refine w_push rfl ?_
                 refine w_crNe rfl (by omega) (by omega) (fun b24 => ?_) (fun b24 => ?_)
                 · first
                   | (exfalso; omega)
                   | (refine w_ldI rfl rfl ?_
                      refine w_push rfl ?_
                      refine w_crGe rfl (by omega) (by omega) (fun b34 => ?_) (fun b34 => ?_)
                      · first
                        | (exfalso; omega)
                        | (first
                           | (have ex : cmK b dp cm = m_or cm (m_shl 1 dp) := if_pos (by omega)
                              exact y_join43 (hK.f7 (x := m_or cm (m_shl 1 dp))) hl hb hbb (by omega) (fun s1 k f => ⟨(if_pos (by omega)).symm, fun _ => ⟨by rw [ex]; exact k, Fr.tr (Fr.us rfl) f⟩, fun z => absurd (by omega) z⟩))
                           | (have ex : cmK b dp cm = m_and cm (m_xor (m_shl 1 dp) (-1)) := (if_neg (by omega)).trans (if_pos (by omega))
                              exact y_join43 (hK.f7 (x := m_and cm (m_xor (m_shl 1 dp) (-1)))) hl hb hbb (by omega) (fun s1 k f => ⟨(if_pos (by omega)).symm, fun _ => ⟨by rw [ex]; exact k, Fr.tr (Fr.us rfl) f⟩, fun z => absurd (by omega) z⟩))
                           | (have ex : cmK b dp cm = cm := (if_neg (by omega)).trans (if_neg (by omega))
                              exact y_join43 hK hl hb hbb (by omega) (fun s1 k f => ⟨(if_pos (by omega)).symm, fun _ => ⟨by rw [ex]; exact k, f⟩, fun z => absurd (by omega) z⟩)))
                      · first
                        | (exfalso; omega)
                        | (refine w_ldR rfl rfl rfl ?_
                           first | refine w_dupI rfl ?_ | refine w_dupR rfl ?_
                           first | refine w_getI rfl rfl rfl rfl rfl ?_ | refine w_getR rfl rfl rfl rfl rfl ?_
                           rw [h7]
                           refine w_ldI rfl rfl ?_
                           refine w_push rfl ?_
                           refine w_bin rfl ?_
                           refine w_bin rfl ?_
                           refine w_putI rfl rfl rfl rfl rfl rfl rfl ?_
                           first
                           | (have ex : cmK b dp cm = m_or cm (m_shl 1 dp) := if_pos (by omega)
                              exact y_join43 (hK.f7 (x := m_or cm (m_shl 1 dp))) hl hb hbb (by omega) (fun s1 k f => ⟨(if_pos (by omega)).symm, fun _ => ⟨by rw [ex]; exact k, Fr.tr (Fr.us rfl) f⟩, fun z => absurd (by omega) z⟩))
                           | (have ex : cmK b dp cm = m_and cm (m_xor (m_shl 1 dp) (-1)) := (if_neg (by omega)).trans (if_pos (by omega))
                              exact y_join43 (hK.f7 (x := m_and cm (m_xor (m_shl 1 dp) (-1)))) hl hb hbb (by omega) (fun s1 k f => ⟨(if_pos (by omega)).symm, fun _ => ⟨by rw [ex]; exact k, Fr.tr (Fr.us rfl) f⟩, fun z => absurd (by omega) z⟩))
                           | (have ex : cmK b dp cm = cm := (if_neg (by omega)).trans (if_neg (by omega))
                              exact y_join43 hK hl hb hbb (by omega) (fun s1 k f => ⟨(if_pos (by omega)).symm, fun _ => ⟨by rw [ex]; exact k, f⟩, fun z => absurd (by omega) z⟩))))
                 · first
                   | (exfalso; omega)
                   | (refine w_ldR rfl rfl rfl ?_
                      first | refine w_dupI rfl ?_ | refine w_dupR rfl ?_
                      first | refine w_getI rfl rfl rfl rfl rfl ?_ | refine w_getR rfl rfl rfl rfl rfl ?_
                      rw [h7]
                      refine w_ldI rfl rfl ?_
                      refine w_bin rfl ?_
                      refine w_putI rfl rfl rfl rfl rfl rfl rfl ?_
                      refine w_go rfl ?_
                      first
                      | (have ex : cmK b dp cm = m_or cm (m_shl 1 dp) := if_pos (by omega)
                         exact y_join43 (hK.f7 (x := m_or cm (m_shl 1 dp))) hl hb hbb (by omega) (fun s1 k f => ⟨(if_pos (by omega)).symm, fun _ => ⟨by rw [ex]; exact k, Fr.tr (Fr.us rfl) f⟩, fun z => absurd (by omega) z⟩))
                      | (have ex : cmK b dp cm = m_and cm (m_xor (m_shl 1 dp) (-1)) := (if_neg (by omega)).trans (if_pos (by omega))
                         exact y_join43 (hK.f7 (x := m_and cm (m_xor (m_shl 1 dp) (-1)))) hl hb hbb (by omega) (fun s1 k f => ⟨(if_pos (by omega)).symm, fun _ => ⟨by rw [ex]; exact k, Fr.tr (Fr.us rfl) f⟩, fun z => absurd (by omega) z⟩))
                      | (have ex : cmK b dp cm = cm := (if_neg (by omega)).trans (if_neg (by omega))
                         exact y_join43 hK hl hb hbb (by omega) (fun s1 k f => ⟨(if_pos (by omega)).symm, fun _ => ⟨by rw [ex]; exact k, f⟩, fun z => absurd (by omega) z⟩))))
            · first
              | (exfalso; omega)
              | (refine w_push rfl ?_
                 refine w_retB rfl (by first | exact bI_01 _ | decide | omega) ?_
                 refine ⟨?_, fun z => absurd z (by omega), fun _ => rfl⟩
                 unfold bI
                 rw [if_neg (by omega)])))
  · first
    | (exfalso; omega)
    | (refine w_push rfl ?_
       refine w_retB rfl (by first | exact bI_01 _ | decide | omega) ?_
       refine ⟨?_, fun z => absurd z (by omega), fun _ => rfl⟩
       unfold bI
       rw [if_neg (by omega)])
