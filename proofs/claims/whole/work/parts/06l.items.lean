/-! ===== the text: items ===== -/
def adN (tb : Nat → Nat) (ln s : Nat) : Nat := stN tb ln (enN tb ln s)
theorem ad_le {tb : Nat → Nat} {ln s : Nat} (h : s ≤ ln) : s ≤ adN tb ln s ∧ adN tb ln s ≤ ln := by
  have a := en_le (tb := tb) h
  have b := st_le (tb := tb) a.2
  unfold adN
  omega
theorem ad_gt {tb : Nat → Nat} {ln s : Nat} (h : s < ln) : s < adN tb ln s := by
  have a := en_gt (tb := tb) h
  have b := st_le (tb := tb) (en_le (tb := tb) (show s ≤ ln by omega)).2
  unfold adN
  omega
abbrev isNu (tb : Nat → Nat) (ln s g : Nat) : Prop := tyN tb ln s = 2 ∧ nmN tb ln s ≤ g
/-- where a word may stand with a number behind it -/
def phN (tb : Nat → Nat) (ln w g p c s : Nat) (σ : Sg) : Bool × Nat × Sg :=
  if isW tb ln w s then (if isNu tb ln (adN tb ln s) g then (true, adN tb ln (adN tb ln s), un σ (pl p c) (nmN tb ln (adN tb ln s))) else (false, adN tb ln s, σ)) else (true, s, σ)
