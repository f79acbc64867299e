/-! ===== the text: tokens and items, as functions of the tape ===== -/
abbrev isL (c : Nat) : Prop := 97 ≤ c ∧ c ≤ 122
abbrev isD (c : Nat) : Prop := 48 ≤ c ∧ c ≤ 57
/-- where a run from e on ends -/
def runQ (q : Nat → Bool) (e : Nat) : Nat → Bool := fun k => ! q (e + k)
def runN (q : Nat → Bool) (e ln : Nat) : Nat := e + fstN (runQ q e) (ln - e)
theorem run_end {q : Nat → Bool} {e ln k : Nat} (h : NoQ (runQ q e) k) (hk : e + k = ln) : runN q e ln = e + k := by
  unfold runN
  rw [show ln - e = k by omega, fst_none h]
theorem run_at {q : Nat → Bool} {e ln k : Nat} (h : NoQ (runQ q e) k) (hk : e + k < ln) (hq : q (e + k) = false) : runN q e ln = e + k := by
  unfold runN
  rw [fst_of h (show runQ q e k = true by unfold runQ; rw [hq]; rfl) (by omega)]
theorem fst_le (q : Nat → Bool) : ∀ n, fstN q n ≤ n
  | 0 => Nat.le_refl _
  | n + 1 => by
    have := fst_le q n
    unfold fstN
    split
    · omega
    · split <;> omega
theorem run_le {q : Nat → Bool} {e ln : Nat} (h : e ≤ ln) : e ≤ runN q e ln ∧ runN q e ln ≤ ln := by
  have := fst_le (runQ q e) (ln - e)
  unfold runN
  omega
theorem fst_pos {q : Nat → Bool} : ∀ {n : Nat}, 0 < n → q 0 = false → 0 < fstN q n
  | 0, h, _ => absurd h (Nat.not_lt_zero 0)
  | 1, _, h => by
    show 0 < (if fstN q 0 < 0 then _ else if q 0 then 0 else 1)
    rw [if_neg (by show ¬ 0 < 0; omega), h]
    decide
  | n + 2, _, h => by
    have a := fst_pos (n := n + 1) (by omega) h
    show 0 < (if fstN q (n + 1) < n + 1 then fstN q (n + 1) else if q (n + 1) then n + 1 else n + 2)
    split
    · exact a
    · split <;> omega
theorem run_gt {q : Nat → Bool} {e ln : Nat} (h : e < ln) (hq : q e = true) : e < runN q e ln := by
  have := fst_pos (q := runQ q e) (n := ln - e) (by omega) (by unfold runQ; rw [Nat.add_zero, hq]; rfl)
  unfold runN
  omega
theorem fst_NoQ (q : Nat → Bool) : ∀ n, NoQ q (fstN q n)
  | 0 => NoQ_0
  | n + 1 => by
    have a := fst_NoQ q n
    unfold fstN
    split
    · exact a
    · rename_i h
      have e : fstN q n = n := by have := fst_le q n; omega
      rw [e] at a
      cases hq : q n with
      | true => rw [if_pos rfl]; exact a
      | false => rw [if_neg (by decide)]; exact NoQ_S a hq
theorem run_all {q : Nat → Bool} {e ln j : Nat} (h1 : e ≤ j) (h2 : j < runN q e ln) : q j = true := by
  have a := fst_NoQ (runQ q e) (ln - e) (j - e) (by unfold runN at h2; omega)
  unfold runQ at a
  rw [show e + (j - e) = j by omega] at a
  cases hq : q j with
  | true => rfl
  | false => rw [hq] at a; cases a
def qS (tb : Nat → Nat) : Nat → Bool := fun j => decide (tb j = 32)
def qL (tb : Nat → Nat) : Nat → Bool := fun j => decide (isL (tb j))
def qD (tb : Nat → Nat) : Nat → Bool := fun j => decide (isD (tb j))
def stN (tb : Nat → Nat) (ln e : Nat) : Nat := runN (qS tb) e ln
def tyN (tb : Nat → Nat) (ln s : Nat) : Nat := if s = ln then 0 else if isL (tb s) then 1 else if isD (tb s) then 2 else if tb s = 59 then 3 else 4
def enN (tb : Nat → Nat) (ln s : Nat) : Nat := if s = ln then s else if isL (tb s) then runN (qL tb) s ln else if isD (tb s) then runN (qD tb) s ln else s + 1
def nuS (tb : Nat → Nat) (s : Nat) (i v : Nat) : Nat := min 1000 (10 * v + (tb (s + i) - 48))
def nuN (tb : Nat → Nat) (s n : Nat) : Nat := itr (nuS tb s) n 0
def nmN (tb : Nat → Nat) (ln s : Nat) : Nat := nuN tb s (enN tb ln s - s)
def wvS (T B O : Nat) (f : Nat → Nat) (i v : Nat) : Nat := if T < v then v else v * B + (f i - O)
/-- the reference's value: a numeral that stops to grow -/
def wvN (T B O : Nat) (f : Nat → Nat) (n : Nat) : Nat := itr (wvS T B O f) n 0
theorem wv_S (T B O : Nat) (f : Nat → Nat) (n : Nat) : wvN T B O f (n + 1) = wvS T B O f n (wvN T B O f n) := rfl
theorem nu_S (tb : Nat → Nat) (s n : Nat) : nuN tb s (n + 1) = nuS tb s n (nuN tb s n) := rfl
def vaN (tb : Nat → Nat) (ln s : Nat) : Nat := if s = ln then 0 else if isL (tb s) then wvN 9999999999999 27 96 (fun i => tb (s + i)) (enN tb ln s - s) else if isD (tb s) then wvN 999 10 48 (fun i => tb (s + i)) (enN tb ln s - s) else 0
def tkN (tb : Nat → Nat) (ln s : Nat) : Nat := if tyN tb ln s = 2 then (if 999 < vaN tb ln s then 4 else 2) else tyN tb ln s
theorem wv_le {T B O : Nat} {f : Nat → Nat} (hO : ∀ i, f i ≤ O + B) : ∀ n, wvN T B O f n ≤ T * B + B
  | 0 => Nat.zero_le _
  | n + 1 => by
    have a := wv_le (T := T) hO n
    have b := hO n
    rw [wv_S]
    unfold wvS
    split
    · exact a
    · rename_i h
      have h1 : wvN T B O f n * B ≤ T * B := Nat.mul_le_mul_right B (by omega)
      omega
/-- as numbers the two readers tell the same -/
theorem nu_wv {tb : Nat → Nat} {s : Nat} : ∀ {n : Nat}, (∀ i, i < n → isD (tb (s + i))) → (999 < wvN 999 10 48 (fun i => tb (s + i)) n ↔ nuN tb s n = 1000) ∧ (¬ nuN tb s n = 1000 → wvN 999 10 48 (fun i => tb (s + i)) n = nuN tb s n) ∧ nuN tb s n ≤ 1000
  | 0, _ => by
    refine ⟨⟨fun h => ?_, fun h => ?_⟩, fun _ => rfl, Nat.zero_le _⟩
    · exact absurd h (by show ¬ 999 < 0; omega)
    · exact absurd h (by show ¬ 0 = 1000; omega)
  | n + 1, h => by
    obtain ⟨a, b, c⟩ := nu_wv (n := n) (fun i hi => h i (by omega))
    have d := h n (by omega)
    unfold isD at d
    rw [wv_S, nu_S]
    unfold wvS nuS
    by_cases q : nuN tb s n = 1000
    · have q1 := a.mpr q
      rw [if_pos q1, q]
      omega
    · have q1 : ¬ 999 < wvN 999 10 48 (fun i => tb (s + i)) n := fun z => q (a.mp z)
      have q2 := b q
      rw [if_neg q1, q2]
      rw [q2] at q1
      dsimp only
      omega
/-- words: the numeral of letters tells the word -/
theorem wv_word {T : Nat} {c w : Nat → Nat} : ∀ {m n : Nat}, (∀ i, i < n → isL (c i)) → (∀ i, i < m → isL (w i)) → (∀ k, k ≤ m → wvN T 27 96 w k ≤ T) → (wvN T 27 96 c n = wvN T 27 96 w m ↔ n = m ∧ ∀ i, i < m → c i = w i)
  | 0, 0, _, _, _ => ⟨fun _ => ⟨rfl, fun i h => absurd h (Nat.not_lt_zero i)⟩, fun _ => rfl⟩
  | 0, n + 1, hc, _, _ => by
    have d := hc n (by omega)
    unfold isL at d
    refine ⟨fun h => ?_, fun h => absurd h.1 (by omega)⟩
    rw [wv_S] at h
    have z : wvN T 27 96 w 0 = 0 := rfl
    rw [z] at h
    unfold wvS at h
    split at h <;> omega
  | m + 1, 0, _, hw, hT => by
    have d := hw m (by omega)
    unfold isL at d
    refine ⟨fun h => ?_, fun h => absurd h.1 (by omega)⟩
    have z : wvN T 27 96 c 0 = 0 := rfl
    have t := hT m (by omega)
    rw [wv_S, z] at h
    unfold wvS at h
    rw [if_neg (by omega)] at h
    omega
  | m + 1, n + 1, hc, hw, hT => by
    have ih := wv_word (m := m) (n := n) (fun i hi => hc i (by omega)) (fun i hi => hw i (by omega)) (fun k hk => hT k (by omega))
    have d1 := hc n (by omega)
    have d2 := hw m (by omega)
    unfold isL at d1 d2
    have t := hT m (by omega)
    have t1 := hT (m + 1) (by omega)
    rw [wv_S] at t1
    unfold wvS at t1
    rw [if_neg (by omega)] at t1
    rw [wv_S, wv_S]
    unfold wvS
    rw [if_neg (show ¬ T < wvN T 27 96 w m by omega)]
    constructor
    · intro h
      by_cases q : T < wvN T 27 96 c n
      · rw [if_pos q] at h
        omega
      · rw [if_neg q] at h
        have e1 : wvN T 27 96 c n = wvN T 27 96 w m := by omega
        have e2 : c n = w m := by omega
        obtain ⟨e3, e4⟩ := ih.mp e1
        subst e3
        refine ⟨rfl, fun i hi => ?_⟩
        rcases Nat.lt_or_ge i n with z | z
        · exact e4 i z
        · rw [show i = n by omega]; exact e2
    · rintro ⟨e, h⟩
      have e3 : n = m := by omega
      subst e3
      have e1 := ih.mpr ⟨rfl, fun i hi => h i (by omega)⟩
      rw [e1, if_neg (by omega), h n (by omega)]
theorem run_S {q : Nat → Bool} {e k : Nat} (h : NoQ (runQ q e) k) (hq : q (e + k) = true) : NoQ (runQ q e) (k + 1) := NoQ_S h (by unfold runQ; rw [hq]; rfl)
theorem nu_le {tb : Nat → Nat} {s n : Nat} : nuN tb s n ≤ 1000 := by
  cases n with
  | zero => exact Nat.zero_le _
  | succ n => rw [nu_S]; unfold nuS; omega
theorem wvL_le {tb : Nat → Nat} (h : ∀ j, tb j < 256) (s n : Nat) : wvN 9999999999999 27 96 (fun i => tb (s + i)) n ≤ 300000000000000 := by
  have a : ∀ n, wvN 9999999999999 27 96 (fun i => tb (s + i)) n ≤ 9999999999999 * 27 + 256 := by
    intro n
    induction n with
    | zero => exact Nat.zero_le _
    | succ n ih =>
      rw [wv_S]
      unfold wvS
      have b := h (s + n)
      split
      · exact ih
      · dsimp only
        omega
  have := a n
  omega
theorem wvD_le {tb : Nat → Nat} (h : ∀ j, tb j < 256) (s n : Nat) : wvN 999 10 48 (fun i => tb (s + i)) n ≤ 20000 := by
  induction n with
  | zero => exact Nat.zero_le _
  | succ n ih =>
    rw [wv_S]
    unfold wvS
    have b := h (s + n)
    split
    · exact ih
    · dsimp only
      omega
def btV (tb : Nat → Nat) (ln p : Nat) : Int32 := if p < ln then nI (tb p) else (-1)
theorem st_le {tb : Nat → Nat} {ln e : Nat} (h : e ≤ ln) : e ≤ stN tb ln e ∧ stN tb ln e ≤ ln := run_le h
theorem en_le {tb : Nat → Nat} {ln s : Nat} (h : s ≤ ln) : s ≤ enN tb ln s ∧ enN tb ln s ≤ ln := by
  unfold enN
  split
  · omega
  · split
    · exact run_le h
    · split
      · exact run_le h
      · omega
theorem en_gt {tb : Nat → Nat} {ln s : Nat} (h : s < ln) : s < enN tb ln s := by
  unfold enN
  rw [if_neg (by omega)]
  split
  · rename_i q; exact run_gt h (decide_eq_true q)
  · split
    · rename_i q; exact run_gt h (decide_eq_true q)
    · omega
theorem ty_le (tb : Nat → Nat) (ln s : Nat) : tyN tb ln s ≤ 4 := by
  unfold tyN
  (repeat' split) <;> omega
