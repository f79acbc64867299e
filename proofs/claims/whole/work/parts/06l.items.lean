/-! ===== the text: items ===== -/
def adN (tb : Nat → Nat) (ln s : Nat) : Nat := stN tb ln (enN tb ln s)
theorem ad_le {tb : Nat → Nat} {ln s : Nat} (h : s ≤ ln) : s ≤ adN tb ln s ∧ adN tb ln s ≤ ln := by
  have a := en_le (tb := tb) h
  have b := st_le (tb := tb) a.2
  unfold adN
  omega
theorem ad_gt {tb : Nat → Nat} {ln s : Nat} (h : s < ln) : s < adN tb ln s := by
  have a := en_gt (tb := tb) h
  have b := st_le (tb := tb) (en_le (tb := tb) (show s ≤ ln by omega)).2
  unfold adN
  omega
abbrev isNu (tb : Nat → Nat) (ln s g : Nat) : Prop := tyN tb ln s = 2 ∧ nmN tb ln s ≤ g
/-- where a word may stand with a number behind it -/
def phN (tb : Nat → Nat) (ln w g p c s : Nat) (σ : Sg) : Bool × Nat × Sg :=
  if isW tb ln w s then (if isNu tb ln (adN tb ln s) g then (true, adN tb ln (adN tb ln s), un σ (pl p c) (nmN tb ln (adN tb ln s))) else (false, adN tb ln s, σ)) else (true, s, σ)
theorem ph_le {tb : Nat → Nat} {ln w g p c s : Nat} {σ : Sg} (h : s ≤ ln) : s ≤ (phN tb ln w g p c s σ).2.1 ∧ (phN tb ln w g p c s σ).2.1 ≤ ln := by
  have a := ad_le (tb := tb) h
  have b := ad_le (tb := tb) a.2
  unfold phN
  split
  · split
    · show s ≤ adN tb ln (adN tb ln s) ∧ adN tb ln (adN tb ln s) ≤ ln; omega
    · show s ≤ adN tb ln s ∧ adN tb ln s ≤ ln; omega
  · show s ≤ s ∧ s ≤ ln; omega
theorem ph_5 {tb : Nat → Nat} {ln w g p c s : Nat} {σ : Sg} : (phN tb ln w g p c s σ).2.2 5 = σ 5 := by
  unfold phN
  split
  · split
    · exact un_ps (by decide)
    · rfl
  · rfl
theorem ph_Inv {tb : Nat → Nat} {ln w g p c s : Nat} {σ : Sg} (h : Inv σ) (hc : (c = 1 ∧ g ≤ 20) ∨ (c = 2 ∧ g ≤ 99) ∨ (c = 3 ∧ g ≤ 99)) : Inv (phN tb ln w g p c s σ).2.2 := by
  unfold phN
  split
  · split
    · rename_i q
      have := q.2
      exact Inv.unp h (by omega) (by omega)
    · exact h
  · exact h
def psA (tb : Nat → Nat) (ln kd s : Nat) (σ : Sg) : Bool × Nat × Sg := phN tb ln 6 20 (σ 5) 1 (adN tb ln s) (addN σ kd)
def psB (tb : Nat → Nat) (ln kd s : Nat) (σ : Sg) : Bool × Nat × Sg := phN tb ln 7 99 (σ 5) 2 (psA tb ln kd s σ).2.1 (psA tb ln kd s σ).2.2
def psC (tb : Nat → Nat) (ln kd s : Nat) (σ : Sg) : Bool × Nat × Sg := phN tb ln 8 99 (σ 5) 3 (psB tb ln kd s σ).2.1 (psB tb ln kd s σ).2.2
/-- a person's words -/
def psN (tb : Nat → Nat) (ln kd s : Nat) (σ : Sg) : Bool × Nat × Sg :=
  if σ 5 < 8 then (if (psA tb ln kd s σ).1 = true then (if (psB tb ln kd s σ).1 = true then psC tb ln kd s σ else psB tb ln kd s σ) else psA tb ln kd s σ) else (false, s, σ)
/-- a number for the house: word w, at most g, place f -/
def egN (tb : Nat → Nat) (ln g f s : Nat) (σ : Sg) : Bool × Nat × Sg := if isNu tb ln (adN tb ln s) g then (true, adN tb ln (adN tb ln s), un σ f (nmN tb ln (adN tb ln s))) else (false, adN tb ln s, σ)
def itN (tb : Nat → Nat) (ln s : Nat) (σ : Sg) : Bool × Nat × Sg :=
  if kiN tb ln s < 6 then psN tb ln (kiN tb ln s) s σ
  else if isW tb ln 9 s then egN tb ln 999 1 s σ
  else if isW tb ln 10 s then egN tb ln 99 2 s σ
  else (false, s, σ)
theorem add_5 {σ : Sg} {kd : Nat} : addN σ kd 5 = σ 5 + 1 := un_s
theorem ps_le {tb : Nat → Nat} {ln kd s : Nat} {σ : Sg} (h : s ≤ ln) : s ≤ (psN tb ln kd s σ).2.1 ∧ (psN tb ln kd s σ).2.1 ≤ ln := by
  have d := ad_le (tb := tb) h
  have a := ph_le (tb := tb) (w := 6) (g := 20) (p := σ 5) (c := 1) (σ := addN σ kd) d.2
  have b := ph_le (tb := tb) (w := 7) (g := 99) (p := σ 5) (c := 2) (σ := (psA tb ln kd s σ).2.2) a.2
  have e := ph_le (tb := tb) (w := 8) (g := 99) (p := σ 5) (c := 3) (σ := (psB tb ln kd s σ).2.2) b.2
  unfold psN
  split
  · split
    · split
      · exact ⟨Nat.le_trans d.1 (Nat.le_trans a.1 (Nat.le_trans b.1 e.1)), e.2⟩
      · exact ⟨Nat.le_trans d.1 (Nat.le_trans a.1 b.1), b.2⟩
    · exact ⟨Nat.le_trans d.1 a.1, a.2⟩
  · exact ⟨Nat.le_refl _, h⟩
theorem eg_le {tb : Nat → Nat} {ln g f s : Nat} {σ : Sg} (h : s ≤ ln) : s ≤ (egN tb ln g f s σ).2.1 ∧ (egN tb ln g f s σ).2.1 ≤ ln := by
  have a := ad_le (tb := tb) h
  have b := ad_le (tb := tb) a.2
  unfold egN
  split
  · exact ⟨Nat.le_trans a.1 b.1, b.2⟩
  · exact a
theorem it_le {tb : Nat → Nat} {ln s : Nat} {σ : Sg} (h : s ≤ ln) : s ≤ (itN tb ln s σ).2.1 ∧ (itN tb ln s σ).2.1 ≤ ln := by
  unfold itN
  split
  · exact ps_le h
  · split
    · exact eg_le h
    · split
      · exact eg_le h
      · exact ⟨Nat.le_refl _, h⟩
theorem ps_Inv {tb : Nat → Nat} {ln kd s : Nat} {σ : Sg} (h : Inv σ) (hk : kd < 6) : Inv (psN tb ln kd s σ).2.2 := by
  unfold psN
  split
  · rename_i h5
    have a := ph_Inv (tb := tb) (ln := ln) (w := 6) (g := 20) (p := σ 5) (c := 1) (s := adN tb ln s) (add_Inv h h5 hk) (Or.inl ⟨rfl, Nat.le_refl _⟩)
    have b := ph_Inv (tb := tb) (ln := ln) (w := 7) (g := 99) (p := σ 5) (c := 2) (s := (psA tb ln kd s σ).2.1) a (Or.inr (Or.inl ⟨rfl, Nat.le_refl _⟩))
    have e := ph_Inv (tb := tb) (ln := ln) (w := 8) (g := 99) (p := σ 5) (c := 3) (s := (psB tb ln kd s σ).2.1) b (Or.inr (Or.inr ⟨rfl, Nat.le_refl _⟩))
    split
    · split
      · exact e
      · exact b
    · exact a
  · exact h
theorem it_Inv {tb : Nat → Nat} {ln s : Nat} {σ : Sg} (h : Inv σ) : Inv (itN tb ln s σ).2.2 := by
  unfold itN
  split
  · rename_i hk; exact ps_Inv h hk
  · split
    · unfold egN
      split
      · rename_i q; have := q.2; exact Inv.un1 h (by omega)
      · exact h
    · split
      · unfold egN
        split
        · rename_i q; have := q.2; exact Inv.un2 h (by omega)
        · exact h
      · exact h
def hdS (tb : Nat → Nat) (ln : Nat) (_ : Nat) (a : Nat × Sg) : Nat × Sg := (adN tb ln (itN tb ln a.1 a.2).2.1, (itN tb ln a.1 a.2).2.2)
/-- where the item n + 1 begins, and the house there -/
def hdN (tb : Nat → Nat) (ln : Nat) (σ : Sg) (n : Nat) : Nat × Sg := itr (hdS tb ln) n (stN tb ln 0, σ)
theorem hd_S (tb : Nat → Nat) (ln : Nat) (σ : Sg) (n : Nat) : hdN tb ln σ (n + 1) = hdS tb ln n (hdN tb ln σ n) := rfl
def iaN (tb : Nat → Nat) (ln : Nat) (σ : Sg) (n : Nat) : Bool × Nat × Sg := itN tb ln (hdN tb ln σ n).1 (hdN tb ln σ n).2
def ntQ (tb : Nat → Nat) (ln : Nat) (σ : Sg) : Nat → Bool := fun n => decide (¬ ((iaN tb ln σ n).1 = true ∧ tyN tb ln (iaN tb ln σ n).2.1 = 3))
theorem hd_le {tb : Nat → Nat} {ln : Nat} {σ : Sg} : ∀ n, (hdN tb ln σ n).1 ≤ ln
  | 0 => (st_le (Nat.zero_le ln)).2
  | n + 1 => (ad_le (it_le (hd_le n)).2).2
theorem hd_2 (tb : Nat → Nat) (ln : Nat) (σ : Sg) (n : Nat) : (hdN tb ln σ (n + 1)).2 = (itN tb ln (hdN tb ln σ n).1 (hdN tb ln σ n).2).2.2 := by rw [hd_S, hdS]
theorem hd_Inv {tb : Nat → Nat} {ln : Nat} {σ : Sg} (h : Inv σ) (n : Nat) : Inv (hdN tb ln σ n).2 := by
  induction n with
  | zero => exact h
  | succ n ih =>
    rw [hd_2]
    exact it_Inv ih
/-- every sign moves on -/
theorem hd_n {tb : Nat → Nat} {ln : Nat} {σ : Sg} : ∀ n, NoQ (ntQ tb ln σ) n → n ≤ (hdN tb ln σ n).1
  | 0, _ => Nat.zero_le _
  | n + 1, h => by
    have a := hd_n n (fun j hj => h j (by omega))
    have q := of_decide_eq_false (h n (by omega))
    have q2 : tyN tb ln (iaN tb ln σ n).2.1 = 3 := by
      by_cases z : (iaN tb ln σ n).1 = true ∧ tyN tb ln (iaN tb ln σ n).2.1 = 3
      · exact z.2
      · exact absurd z q
    have b := it_le (tb := tb) (σ := (hdN tb ln σ n).2) (hd_le (tb := tb) (ln := ln) (σ := σ) n)
    have d : (iaN tb ln σ n).2.1 < ln := by
      rcases Nat.lt_or_ge (iaN tb ln σ n).2.1 ln with z | z
      · exact z
      · have e : (iaN tb ln σ n).2.1 = ln := Nat.le_antisymm b.2 z
        unfold tyN at q2
        rw [if_pos e] at q2
        omega
    have g := ad_gt (tb := tb) d
    have k : (hdN tb ln σ n).1 ≤ (iaN tb ln σ n).2.1 := b.1
    show n + 1 ≤ adN tb ln (iaN tb ln σ n).2.1
    omega
def niN (tb : Nat → Nat) (ln : Nat) (σ : Sg) : Nat := fstN (ntQ tb ln σ) 121
def txN (tb : Nat → Nat) (ln : Nat) (σ : Sg) : Bool × Nat × Sg := iaN tb ln σ (niN tb ln σ)
/-- is the text one of a house -/
abbrev txI (tb : Nat → Nat) (ln : Nat) (σ : Sg) : Prop := (txN tb ln σ).1 = true ∧ tyN tb ln (txN tb ln σ).2.1 = 0
def txV (tb : Nat → Nat) (ln : Nat) (σ : Sg) : Int32 := if txI tb ln σ then nI (niN tb ln σ + 1) else (-1) - nI (txN tb ln σ).2.1
