/-! ===== the reference's reader: words and numbers ===== -/
def pkN (g : Nat → Nat) (w n : Nat) : Nat := itr (fun i v => if g (8 * w + i) = 32 then v else v * 27 + g (8 * w + i) - 96) n 0
theorem pk_S (g : Nat → Nat) (w n : Nat) : pkN g w (n + 1) = if g (8 * w + n) = 32 then pkN g w n else pkN g w n * 27 + g (8 * w + n) - 96 := rfl
def ch0 : Nat → Nat := fun j => ([99, 111, 111, 107, 32, 32, 32, 32, 98, 111, 121, 32, 32, 32, 32, 32, 114, 101, 98, 101, 108, 32, 32, 32, 112, 111, 97, 99, 104, 101, 114, 32, 112, 117, 112, 105, 108, 32, 32, 32, 108, 101, 97, 100, 101, 114, 32, 32] : List Nat).getD j 0
theorem ch0_ok : ∀ j, j < 48 → ch0 j = 32 ∨ (97 ≤ ch0 j ∧ ch0 j ≤ 122) := by decide +kernel
theorem ch0_pk : ∀ w, w < 6 → pkN ch0 w 8 = wvN 9999999999999 27 96 (wdN (0 + w)) (lnW (0 + w)) := by decide +kernel
def ch1 : Nat → Nat := fun j => ([110, 101, 101, 100, 115, 32, 32, 32, 114, 101, 97, 115, 111, 110, 32, 32, 119, 97, 116, 99, 104, 101, 100, 32] : List Nat).getD j 0
theorem ch1_ok : ∀ j, j < 24 → ch1 j = 32 ∨ (97 ≤ ch1 j ∧ ch1 j ≤ 122) := by decide +kernel
theorem ch1_pk : ∀ w, w < 3 → pkN ch1 w 8 = wvN 9999999999999 27 96 (wdN (6 + w)) (lnW (6 + w)) := by decide +kernel
def ch2 : Nat → Nat := fun j => ([101, 103, 103, 115, 32, 32, 32, 32, 108, 97, 105, 100, 32, 32, 32, 32] : List Nat).getD j 0
theorem ch2_ok : ∀ j, j < 16 → ch2 j = 32 ∨ (97 ≤ ch2 j ∧ ch2 j ≤ 122) := by decide +kernel
theorem ch2_pk : ∀ w, w < 2 → pkN ch2 w 8 = wvN 9999999999999 27 96 (wdN (9 + w)) (lnW (9 + w)) := by decide +kernel
theorem wd_T : ∀ i, i < 11 → ∀ k, k < 8 → wvN 9999999999999 27 96 (wdN i) k ≤ 9999999999999 := by decide +kernel
theorem fst_true {q : Nat → Bool} : ∀ {n : Nat}, fstN q n < n → q (fstN q n) = true
  | 0, h => absurd h (Nat.not_lt_zero _)
  | n + 1, h => by
    unfold fstN at h ⊢
    by_cases a : fstN q n < n
    · rw [if_pos a]
      exact fst_true a
    · rw [if_neg a] at h ⊢
      cases hq : q n with
      | true => rw [if_pos rfl]; exact hq
      | false => rw [hq, if_neg (by decide)] at h; omega
theorem ty_1 {tb : Nat → Nat} {ln s : Nat} (h1 : tyN tb ln s = 1) : ¬ s = ln ∧ isL (tb s) := by
  unfold tyN at h1
  by_cases a : s = ln
  · rw [if_pos a] at h1; omega
  · refine ⟨a, ?_⟩
    rw [if_neg a] at h1
    by_cases q : isL (tb s)
    · exact q
    · exfalso
      rw [if_neg q] at h1
      (repeat' split at h1) <;> omega
theorem ty_2 {tb : Nat → Nat} {ln s : Nat} (h1 : tyN tb ln s = 2) : ¬ s = ln ∧ ¬ isL (tb s) ∧ isD (tb s) := by
  unfold tyN at h1
  by_cases a : s = ln
  · rw [if_pos a] at h1; omega
  · refine ⟨a, ?_⟩
    rw [if_neg a] at h1
    by_cases q : isL (tb s)
    · rw [if_pos q] at h1; omega
    · refine ⟨q, ?_⟩
      rw [if_neg q] at h1
      by_cases r : isD (tb s)
      · exact r
      · exfalso
        rw [if_neg r] at h1
        split at h1 <;> omega
theorem va_word {tb : Nat → Nat} {ln s i : Nat} (h1 : tyN tb ln s = 1) (_hs : s ≤ ln) (hi : i < 11) : vaN tb ln s = wvN 9999999999999 27 96 (wdN i) (lnW i) ↔ isW tb ln i s := by
  obtain ⟨hsl, hL⟩ := ty_1 h1
  have hv : vaN tb ln s = wvN 9999999999999 27 96 (fun i => tb (s + i)) (enN tb ln s - s) := by unfold vaN; rw [if_neg hsl, if_pos hL]
  have he : enN tb ln s = runN (qL tb) s ln := by unfold enN; rw [if_neg hsl, if_pos hL]
  have hall : ∀ k, k < enN tb ln s - s → isL (tb (s + k)) := fun k hk => of_decide_eq_true (show decide (isL (tb (s + k))) = true from run_all (q := qL tb) (e := s) (ln := ln) (j := s + k) (by omega) (by rw [← he]; omega))
  rw [hv, wv_word (c := fun i => tb (s + i)) hall (wd_isL i hi) (fun k hk => wd_T i hi k (by have := (ln_le i hi).2; omega))]
  constructor
  · rintro ⟨a, b⟩
    exact ⟨h1, a, fst_none (fun k hk => decide_eq_false (fun q => q (b k hk)))⟩
  · rintro ⟨-, a, b⟩
    refine ⟨a, fun k hk => ?_⟩
    have c := fst_NoQ (wdQ tb s i) (lnW i) k (by rw [b]; exact hk)
    exact Decidable.not_not.mp (of_decide_eq_false c)
theorem va_le {tb : Nat → Nat} (h : ∀ j, tb j < 256) (ln s : Nat) : vaN tb ln s ≤ 300000000000000 := by
  unfold vaN
  split
  · omega
  · split
    · exact wvL_le h s _
    · split
      · exact Nat.le_trans (wvD_le h s _) (by decide)
      · omega
theorem wd_inj : ∀ i, i < 11 → ∀ j, j < 11 → lnW i = lnW j → (∀ k, k < 7 → k < lnW i → wdN i k = wdN j k) → i = j := by decide +kernel
theorem isW_ch {tb : Nat → Nat} {ln i s : Nat} (h : isW tb ln i s) {k : Nat} (hk : k < lnW i) : tb (s + k) = wdN i k :=
  Decidable.not_not.mp (of_decide_eq_false (fst_NoQ (wdQ tb s i) (lnW i) k (by rw [h.2.2]; exact hk)))
theorem isW_uniq {tb : Nat → Nat} {ln i j s : Nat} (hi : i < 11) (hj : j < 11) (h1 : isW tb ln i s) (h2 : isW tb ln j s) : i = j := by
  have e : lnW i = lnW j := h1.2.1.symm.trans h2.2.1
  exact wd_inj i hi j hj e (fun k _ hk => (isW_ch h1 hk).symm.trans (isW_ch h2 (by rw [← e]; exact hk)))
def woQ (tb : Nat → Nat) (ln s b0 : Nat) : Nat → Bool := fun k => decide (isW tb ln (b0 + k) s)
/-- which of the words from b0 on stands here -/
def woV (tb : Nat → Nat) (ln s b0 n : Nat) : Int32 := if fstN (woQ tb ln s b0) n < n then nI (fstN (woQ tb ln s b0) n) else (-1)
theorem wo_no {tb : Nat → Nat} {ln s b0 n : Nat} (h : NoQ (woQ tb ln s b0) n) : woV tb ln s b0 n = (-1) := by
  unfold woV
  rw [fst_none h, if_neg (Nat.lt_irrefl n)]
theorem wo_ty {tb : Nat → Nat} {ln s : Nat} (h : ¬ tyN tb ln s = 1) (b0 n : Nat) : woV tb ln s b0 n = (-1) := wo_no (fun _ _ => decide_eq_false (fun q => h q.1))
theorem wo_0 (tb : Nat → Nat) (ln s b0 : Nat) : woV tb ln s b0 0 = (-1) := wo_no NoQ_0
theorem wo_SN {tb : Nat → Nat} {ln s b0 n : Nat} (h : ¬ isW tb ln (b0 + n) s) : woV tb ln s b0 (n + 1) = woV tb ln s b0 n := by
  have hq : woQ tb ln s b0 n = false := decide_eq_false h
  unfold woV
  by_cases q : fstN (woQ tb ln s b0) n < n
  · have e : fstN (woQ tb ln s b0) (n + 1) = fstN (woQ tb ln s b0) n := if_pos q
    rw [e, if_pos q, if_pos (by omega)]
  · have e : fstN (woQ tb ln s b0) (n + 1) = n + 1 := (if_neg q).trans (by rw [hq]; rfl)
    rw [e, if_neg (Nat.lt_irrefl _), if_neg q]
theorem wo_noQ {tb : Nat → Nat} {ln s b0 n : Nat} (h : isW tb ln (b0 + n) s) (hb : b0 + n < 11) : NoQ (woQ tb ln s b0) n := fun k hk => decide_eq_false (fun q => by
  have := isW_uniq (by omega) hb q h
  omega)
theorem wo_at1 {tb : Nat → Nat} {ln s b0 w n : Nat} (hw : w < n) (hb : b0 + w < 11) (h : isW tb ln (b0 + w) s) : woV tb ln s b0 n = nI w := by
  unfold woV
  rw [fst_of (wo_noQ h hb) (show woQ tb ln s b0 w = true from decide_eq_true h) hw, if_pos hw]
theorem wo_SY {tb : Nat → Nat} {ln s b0 n : Nat} (h : isW tb ln (b0 + n) s) (hb : b0 + n < 11) : woV tb ln s b0 (n + 1) = nI n := wo_at1 (Nat.lt_succ_self n) hb h
theorem wo_at {tb : Nat → Nat} {ln s b0 w n : Nat} (hw : w < n) (hb : b0 + n ≤ 11) : (woV tb ln s b0 n).toInt = (w : Int) ↔ isW tb ln (b0 + w) s := by
  constructor
  · intro h
    unfold woV at h
    by_cases q : fstN (woQ tb ln s b0) n < n
    · rw [if_pos q, nI_T (by omega)] at h
      have e : fstN (woQ tb ln s b0) n = w := by omega
      have t := fst_true q
      rw [e] at t
      exact of_decide_eq_true t
    · rw [if_neg q] at h
      have : ((-1) : Int32).toInt = -1 := by decide
      omega
  · intro h
    rw [wo_at1 hw (by omega) h, nI_T (by omega)]
theorem wo_ki (tb : Nat → Nat) (ln s : Nat) : woV tb ln s 0 6 = kiV tb ln s := by
  have e : woQ tb ln s 0 = fun k => decide (isW tb ln k s) := by
    funext k
    unfold woQ
    simp only [Nat.zero_add]
  unfold woV kiV kiN
  rw [e]
theorem wo_9a {tb : Nat → Nat} {ln s : Nat} (h : isW tb ln 9 s) : woV tb ln s 9 2 = nI 0 := wo_at1 (b0 := 9) (w := 0) (by decide) (by decide) h
theorem wo_9b {tb : Nat → Nat} {ln s : Nat} (h : isW tb ln 10 s) : woV tb ln s 9 2 = nI 1 := wo_at1 (b0 := 9) (w := 1) (by decide) (by decide) h
theorem wo_9n {tb : Nat → Nat} {ln s : Nat} (h1 : ¬ isW tb ln 9 s) (h2 : ¬ isW tb ln 10 s) : woV tb ln s 9 2 = (-1) := (wo_SN (b0 := 9) (n := 1) h2).trans ((wo_SN (b0 := 9) (n := 0) h1).trans (wo_0 _ _ _ _))
theorem tk_0 {tb : Nat → Nat} {ln s : Nat} : tkN tb ln s = 0 ↔ tyN tb ln s = 0 := by
  unfold tkN
  (repeat' split) <;> omega
theorem tk_1 {tb : Nat → Nat} {ln s : Nat} : tkN tb ln s = 1 ↔ tyN tb ln s = 1 := by
  unfold tkN
  (repeat' split) <;> omega
theorem tk_3 {tb : Nat → Nat} {ln s : Nat} : tkN tb ln s = 3 ↔ tyN tb ln s = 3 := by
  unfold tkN
  (repeat' split) <;> omega
theorem tk_le (tb : Nat → Nat) (ln s : Nat) : tkN tb ln s ≤ 4 := by
  have := ty_le tb ln s
  unfold tkN
  (repeat' split) <;> omega
theorem va_num {tb : Nat → Nat} {ln s : Nat} (h : tyN tb ln s = 2) : (999 < vaN tb ln s ↔ nmN tb ln s = 1000) ∧ (¬ nmN tb ln s = 1000 → vaN tb ln s = nmN tb ln s) ∧ nmN tb ln s ≤ 1000 := by
  obtain ⟨hsl, hL, hD⟩ := ty_2 h
  have hv : vaN tb ln s = wvN 999 10 48 (fun i => tb (s + i)) (enN tb ln s - s) := by unfold vaN; rw [if_neg hsl, if_neg hL, if_pos hD]
  have he : enN tb ln s = runN (qD tb) s ln := by unfold enN; rw [if_neg hsl, if_neg hL, if_pos hD]
  have hall : ∀ k, k < enN tb ln s - s → isD (tb (s + k)) := fun k hk => of_decide_eq_true (show decide (isD (tb (s + k))) = true from run_all (q := qD tb) (e := s) (ln := ln) (j := s + k) (by omega) (by rw [← he]; omega))
  rw [hv]
  unfold nmN
  exact nu_wv hall
theorem tk_nu {tb : Nat → Nat} {ln s g : Nat} (hg : g ≤ 999) : (tkN tb ln s = 2 ∧ vaN tb ln s ≤ g) ↔ isNu tb ln s g := by
  unfold isNu tkN
  by_cases h : tyN tb ln s = 2
  · obtain ⟨a, b, c⟩ := va_num h
    rw [if_pos h]
    constructor
    · rintro ⟨p, q⟩
      split at p
      · omega
      · rename_i z
        have d := b (fun y => z (a.mpr y))
        exact ⟨h, by omega⟩
    · rintro ⟨-, q⟩
      have d := b (by omega)
      rw [if_neg (by omega)]
      exact ⟨rfl, by omega⟩
  · rw [if_neg h]
    exact ⟨fun p => absurd p.1 h, fun p => absurd p.1 h⟩
theorem va_nm {tb : Nat → Nat} {ln s g : Nat} (hg : g ≤ 999) (h : isNu tb ln s g) : vaN tb ln s = nmN tb ln s := (va_num h.1).2.1 (by have := h.2; omega)
theorem nm_le (tb : Nat → Nat) (ln s : Nat) : nmN tb ln s ≤ 1000 := nu_le
def tnV (tb : Nat → Nat) (ln s g : Nat) : Int32 := if isNu tb ln s g then nI (nmN tb ln s) else (-1)
def tnP (tb : Nat → Nat) (ln s g : Nat) : Nat := if isNu tb ln s g then adN tb ln s else s
