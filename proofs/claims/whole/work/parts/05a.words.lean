/-! ===== the tape, images, counts ===== -/
def hn (e a b : Nat) : Nat := if e = 7 then a else b
def byK (v : Int32) (k : Nat) : Nat := (v >>> (nI (8 * k) &&& 31)).toBitVec.toNat % 256
theorem by_at (v : Int32) (k : Nat) : (v >>> (nI (8 * k) &&& 31)) &&& nI 255 = nI (byK v k) := pk_and _ 8 (by decide)
theorem by_lt (v : Int32) (k : Nat) : byK v k < 256 := Nat.mod_lt _ (by decide)
def feedN (tb : Nat → Nat) (v : Int32) (n ln i : Nat) : Nat → Nat := itr (fun i t => un t (ln + i) (byK v (n - i - 1))) i tb
theorem feed_S (tb : Nat → Nat) (v : Int32) (n ln i : Nat) : feedN tb v n ln (i + 1) = un (feedN tb v n ln i) (ln + i) (byK v (n - i - 1)) := rfl
theorem feed_lt {tb : Nat → Nat} (h : ∀ j, tb j < 256) (v : Int32) (n ln : Nat) : ∀ i j, feedN tb v n ln i j < 256
  | 0, j => h j
  | i + 1, j => by
    rw [feed_S, un_eq]
    split
    · exact by_lt _ _
    · exact feed_lt h v n ln i j
theorem dec_tab : ∀ a, a < 64 → nI a + Int32.ofInt (-1) = iI ((a : Int) - 1) := by decide +kernel
def feed_e (ln : Nat) (n : Int) : Nat := if 1 ≤ n ∧ n ≤ 4 then (if ln + n.toNat ≤ 120 then 7 else 1) else 0
def undo_e (hi : Nat) : Nat := if hi = 0 then 3 else 7
def count_e (w : Int) : Nat := if 0 ≤ w ∧ w ≤ 3 then 7 else 0
def count_v (σ : Sg) (ln w : Nat) : Nat := if w = 0 then σ 5 else if w = 1 then ln else if w = 2 then popc (setN σ (σ 5)) else sumN σ 2 (σ 5)
def status_e (w : Int) : Nat := if -1 ≤ w ∧ w ≤ 6 then 7 else 0
def stW (tl : Nat → Int32) (w : Int) (n : Nat) : Int32 := itr (fun k a => a + (if w = -1 ∨ w = (k : Int) then tl k else nI 0)) n (nI 0)
theorem stW_S (tl : Nat → Int32) (w : Int) (n : Nat) : stW tl w (n + 1) = stW tl w n + (if w = -1 ∨ w = (n : Int) then tl n else nI 0) := rfl
theorem nI_addz (a : Int32) : a + nI 0 = a := by rw [nI_0]; exact Int32.add_zero a
theorem nI_zadd (a : Int32) : nI 0 + a = a := by rw [nI_0]; exact Int32.zero_add a
theorem stW_one (tl : Nat → Int32) {k : Nat} (hk : k < 7) : stW tl (k : Int) 7 = tl k := by
  have h : ∀ n, stW tl (k : Int) n = if k < n then tl k else nI 0 := by
    intro n
    induction n with
    | zero => rfl
    | succ n ih =>
      rw [stW_S, ih]
      rcases Nat.lt_trichotomy k n with a | a | a
      · rw [if_pos a, if_neg (by omega), if_pos (by omega), nI_addz]
      · subst a
        rw [if_neg (by omega), if_pos (Or.inr rfl), if_pos (by omega), nI_zadd]
      · rw [if_neg (by omega), if_neg (by omega), if_neg (by omega), nI_addz]
  rw [h 7, if_pos hk]
