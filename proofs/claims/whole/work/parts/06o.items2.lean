/-! ===== the text: its end; objects made ===== -/
theorem ia_le {tb : Nat → Nat} {ln : Nat} {σ : Sg} (n : Nat) : (hdN tb ln σ n).1 ≤ (iaN tb ln σ n).2.1 ∧ (iaN tb ln σ n).2.1 ≤ ln := it_le (tb := tb) (σ := (hdN tb ln σ n).2) (hd_le (tb := tb) (ln := ln) (σ := σ) n)
theorem ia_Inv {tb : Nat → Nat} {ln : Nat} {σ : Sg} (h : Inv σ) (n : Nat) : Inv (iaN tb ln σ n).2.2 := it_Inv (tb := tb) (ln := ln) (s := (hdN tb ln σ n).1) (hd_Inv (tb := tb) (ln := ln) h n)
theorem hd_01 (tb : Nat → Nat) (ln : Nat) (σ : Sg) : (hdN tb ln σ 0).1 = stN tb ln 0 := rfl
theorem hd_02 (tb : Nat → Nat) (ln : Nat) (σ : Sg) : (hdN tb ln σ 0).2 = σ := rfl
theorem hd_11 (tb : Nat → Nat) (ln : Nat) (σ : Sg) (n : Nat) : (hdN tb ln σ (n + 1)).1 = adN tb ln (iaN tb ln σ n).2.1 := by rw [hd_S, hdS, iaN]
theorem hd_12 (tb : Nat → Nat) (ln : Nat) (σ : Sg) (n : Nat) : (hdN tb ln σ (n + 1)).2 = (iaN tb ln σ n).2.2 := by rw [hd_S, hdS, iaN]
theorem ty_end (tb : Nat → Nat) (ln : Nat) : tyN tb ln ln = 0 := if_pos rfl
theorem isW_end {tb : Nat → Nat} {ln i : Nat} : ¬ isW tb ln i ln := fun h => by
  have a := h.1
  rw [ty_end] at a
  omega
theorem ki_end (tb : Nat → Nat) (ln : Nat) : kiN tb ln ln = 6 := fst_none (fun _ _ => decide_eq_false isW_end)
theorem it_end (tb : Nat → Nat) (ln : Nat) (σ : Sg) : itN tb ln ln σ = (false, ln, σ) := by
  unfold itN
  rw [if_neg (show ¬ kiN tb ln ln < 6 by rw [ki_end]; omega), if_neg isW_end, if_neg isW_end]
theorem ia_end {tb : Nat → Nat} {ln : Nat} {σ : Sg} {n : Nat} (h : (hdN tb ln σ n).1 = ln) : iaN tb ln σ n = (false, (hdN tb ln σ n).1, (hdN tb ln σ n).2) := by
  unfold iaN
  rw [h]
  exact it_end tb ln _
theorem ni_of {tb : Nat → Nat} {ln : Nat} {σ : Sg} {n : Nat} (hno : NoQ (ntQ tb ln σ) n) (h : ¬ ((iaN tb ln σ n).1 = true ∧ tyN tb ln (iaN tb ln σ n).2.1 = 3)) (hn : n ≤ 120) : niN tb ln σ = n := fst_of hno (show ntQ tb ln σ n = true from decide_eq_true h) (by omega)
theorem tx_of {tb : Nat → Nat} {ln : Nat} {σ : Sg} {n : Nat} (h : niN tb ln σ = n) : txN tb ln σ = iaN tb ln σ n := by
  unfold txN
  rw [h]
theorem tx_yes {tb : Nat → Nat} {ln : Nat} {σ : Sg} (h : txI tb ln σ) : txV tb ln σ = nI (niN tb ln σ + 1) := if_pos h
theorem tx_no {tb : Nat → Nat} {ln : Nat} {σ : Sg} (h : ¬ txI tb ln σ) : txV tb ln σ = (-1) - nI (txN tb ln σ).2.1 := if_neg h
theorem neg_T : ∀ p, p < 121 → (((-1) : Int32) - nI p).toInt = -1 - (p : Int) := by decide +kernel
theorem tx_le {tb : Nat → Nat} {ln : Nat} {σ : Sg} : (txN tb ln σ).2.1 ≤ ln := by
  unfold txN
  exact (ia_le (tb := tb) (ln := ln) (σ := σ) (niN tb ln σ)).2
theorem ni_le {tb : Nat → Nat} {ln : Nat} {σ : Sg} : niN tb ln σ ≤ 121 := fst_le _ _
theorem tx_Inv {tb : Nat → Nat} {ln : Nat} {σ : Sg} (h : Inv σ) : Inv (txN tb ln σ).2.2 := by
  unfold txN
  exact ia_Inv h (niN tb ln σ)
theorem txI_of {tb : Nat → Nat} {ln : Nat} {σ : Sg} {r : Bool × Nat × Sg} (htx : txN tb ln σ = r) (h : txI tb ln σ) : r.1 = true ∧ tyN tb ln r.2.1 = 0 := by
  subst htx
  exact h
theorem txI_mk {tb : Nat → Nat} {ln : Nat} {σ : Sg} {r : Bool × Nat × Sg} (htx : txN tb ln σ = r) (h : r.1 = true ∧ tyN tb ln r.2.1 = 0) : txI tb ln σ := by
  subst htx
  exact h
