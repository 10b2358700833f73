/-! ===== RUNS: P gives each method's locals' number and operations ===== -/
abbrev mP : Type := Nat → Nat × (Nat → Option mOp)
def mrun (P : mP) : Nat → Nat → Nat → Nat → mL → mS → mH → Option (Option mAV × mH)
  | 0, _, _, _, _, _, _ => none
  | n + 1, d, m, j, L, S, h => match (P m).2 j with
    | none => none
    | some op => match op d L S h with
      | none => none
      | some (.inl (j', L', S', h')) => mrun P n d m j' L' S' h'
      | some (.inr (.inl (mt, as, j', L', S'))) => (match d with
        | 0 => none
        | d' + 1 => if (mArgs as).length ≤ (P mt).1 then (match mrun P n d' mt 0 (mIn (P mt).1 as) [] h with
          | none => none
          | some (r, h1) => mrun P n (d' + 1) m j' L' (mBack r S') h1) else none)
      | some (.inr (.inr r)) => some (r, h)
