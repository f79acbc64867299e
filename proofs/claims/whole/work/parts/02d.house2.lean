def addN (σ : Sg) (kd : Nat) : Sg := un (un (un (un (un (un σ (pl (σ 5) 0) kd) (pl (σ 5) 1) 3) (pl (σ 5) 2) 5) (pl (σ 5) 3) 0) (pl (σ 5) 4) 0) 5 (σ 5 + 1)
def exN (σ : Sg) (c i j : Nat) : Sg := un (un σ (pl i c) (σ (pl j c))) (pl j c) (σ (pl i c))
def swapN (σ : Sg) (i j : Nat) : Sg := exN (exN (exN (exN (exN σ 0 i j) 1 i j) 2 i j) 3 i j) 4 i j
theorem ex_s {σ : Sg} {c i j q : Nat} (hq : q < 6) : exN σ c i j q = σ q := by unfold exN; rw [un_ps hq, un_ps hq]
theorem ex_ne {σ : Sg} {c d i j k : Nat} (hc : c < 5) (hd : d < 5) (h : d ≠ c) : exN σ c i j (pl k d) = σ (pl k d) := by unfold exN; rw [un_pd hc hd h, un_pd hc hd h]
theorem ex_hA {σ : Sg} {c i j : Nat} (hc : c < 5) : hA (exN σ c i j) c = un (un (hA σ c) i (hA σ c j)) j (hA σ c i) := by
  unfold exN
  rw [hA_eq hc, hA_eq hc]
  rfl
theorem ex_hAn {σ : Sg} {c d i j : Nat} (hc : c < 5) (hd : d < 5) (h : d ≠ c) : hA (exN σ c i j) d = hA σ d := by
  funext k
  exact ex_ne hc hd h
theorem swap_s {σ : Sg} {i j q : Nat} (hq : q < 6) : swapN σ i j q = σ q := by unfold swapN; rw [ex_s hq, ex_s hq, ex_s hq, ex_s hq, ex_s hq]
theorem swap_p {σ : Sg} {i j k d : Nat} (hd : d < 5) : swapN σ i j (pl k d) = if k = j then σ (pl i d) else if k = i then σ (pl j d) else σ (pl k d) := by
  have h : ∀ (τ : Sg) (c : Nat), c < 5 → exN τ c i j (pl k d) = if d = c then (if k = j then τ (pl i d) else if k = i then τ (pl j d) else τ (pl k d)) else τ (pl k d) := by
    intro τ c hc
    unfold exN
    rw [un_pp hc hd, un_pp hc hd]
    by_cases e : d = c
    · subst e
      rw [if_pos rfl]
      by_cases e1 : k = j
      · rw [if_pos ⟨e1, rfl⟩, if_pos e1]
      · rw [if_neg (fun q => e1 q.1), if_neg e1]
        by_cases e2 : k = i
        · rw [if_pos ⟨e2, rfl⟩, if_pos e2]
        · rw [if_neg (fun q => e2 q.1), if_neg e2]
    · rw [if_neg (fun q => e q.2), if_neg (fun q => e q.2), if_neg e]
  have hn : ∀ (τ : Sg) (c a : Nat), c < 5 → d ≠ c → exN τ c i j (pl a d) = τ (pl a d) := fun τ c a hc e => ex_ne hc hd e
  unfold swapN
  have h5 : d = 0 ∨ d = 1 ∨ d = 2 ∨ d = 3 ∨ d = 4 := by omega
  rcases h5 with e | e | e | e | e <;> subst e <;> (repeat (first | rw [hn _ _ _ (by decide) (by decide)] | rw [h _ _ (by decide), if_pos rfl])) <;> (repeat (first | rw [hn _ _ _ (by decide) (by decide)] ))
theorem swap_Inv {σ : Sg} {i j : Nat} (h : Inv σ) (hi : i < 8) (hj : j < 8) : Inv (swapN σ i j) := by
  refine ⟨by rw [swap_s (by decide), swap_s (by decide), swap_s (by decide), swap_s (by decide), swap_s (by decide)]; exact h.1, fun k hk => ?_⟩
  have a := h.2 i hi
  have b := h.2 j hj
  have c := h.2 k hk
  rw [swap_p (by decide), swap_p (by decide), swap_p (by decide), swap_p (by decide), swap_p (by decide)]
  refine ⟨?_, ?_, ?_, ?_, ?_⟩ <;> (repeat' split) <;> omega
theorem add_at {σ : Sg} {kd q : Nat} (hq : q < 6) : addN σ kd q = if q = 5 then σ 5 + 1 else σ q := by
  unfold addN
  rw [un_eq]
  split
  · rfl
  · rw [un_ps hq, un_ps hq, un_ps hq, un_ps hq, un_ps hq]
theorem add_Inv {σ : Sg} {kd : Nat} (h : Inv σ) (h5 : σ 5 < 8) (hk : kd < 6) : Inv (addN σ kd) := by
  unfold addN
  refine Inv.un5 ?_ (by omega)
  refine Inv.unp (Inv.unp (Inv.unp (Inv.unp (Inv.unp h (by decide) ?_) (by decide) ?_) (by decide) ?_) (by decide) ?_) (by decide) ?_ <;> omega
/-! sets of people -/
theorem bit_tab : ∀ m, m < 256 → ∀ k, k < 8 → (nI m >>> (nI k &&& 31)) &&& nI 1 = nI (m / 2 ^ k % 2) := by decide +kernel
theorem bit_at {m k : Nat} (hm : m < 256) (hk : k < 8) : (nI m >>> (nI k &&& 31)) &&& nI 1 = nI (m / 2 ^ k % 2) := bit_tab m hm k hk
theorem or_tab : ∀ m, m < 256 → ∀ k, k < 8 → (nI m ||| (nI 1 <<< (nI k &&& 31)) = nI (m ||| 2 ^ k)) ∧ (m ||| 2 ^ k) < 256 := by decide +kernel
theorem or_at {m k : Nat} (hm : m < 256) (hk : k < 8) : nI m ||| (nI 1 <<< (nI k &&& 31)) = nI (m ||| 2 ^ k) := (or_tab m hm k hk).1
theorem or_lt {m k : Nat} (hm : m < 256) (hk : k < 8) : (m ||| 2 ^ k) < 256 := (or_tab m hm k hk).2
theorem shl_tab : ∀ k, k < 9 → (nI 1 <<< (nI k &&& 31)) = nI (2 ^ k) := by decide +kernel
def wallN (σ : Sg) (m n : Nat) : Sg := itr (fun k τ => if m / 2 ^ k % 2 = 0 then τ else un τ (pl k 3) 99) n σ
theorem wall_S (σ : Sg) (m n : Nat) : wallN σ m (n + 1) = if m / 2 ^ n % 2 = 0 then wallN σ m n else un (wallN σ m n) (pl n 3) 99 := rfl
theorem wall_s (σ : Sg) (m : Nat) {q : Nat} (hq : q < 6) : ∀ n, wallN σ m n q = σ q
  | 0 => rfl
  | n + 1 => by
    rw [wall_S]
    split
    · exact wall_s σ m hq n
    · rw [un_ps hq]; exact wall_s σ m hq n
theorem wall_Inv {σ : Sg} (h : Inv σ) (m : Nat) : ∀ n, n ≤ 8 → Inv (wallN σ m n)
  | 0, _ => h
  | n + 1, hn => by
    have a := wall_Inv h m n (by omega)
    rw [wall_S]
    split
    · exact a
    · exact Inv.unp a (by decide) (by omega)
def setN (σ : Sg) (n : Nat) : Nat := itr (fun k m => if 0 < σ (pl k 3) then m ||| 2 ^ k else m) n 0
theorem set_S (σ : Sg) (n : Nat) : setN σ (n + 1) = if 0 < σ (pl n 3) then setN σ n ||| 2 ^ n else setN σ n := rfl
theorem set_lt (σ : Sg) : ∀ n, n ≤ 8 → setN σ n < 256
  | 0, _ => (by decide : (0 : Nat) < 256)
  | n + 1, hn => by
    have a := set_lt σ n (by omega)
    rw [set_S]
    split
    · exact or_lt a (by omega)
    · exact a
def sumN (σ : Sg) (c n : Nat) : Nat := itr (fun k m => m + σ (pl k c)) n 0
theorem sum_S (σ : Sg) (c n : Nat) : sumN σ c (n + 1) = sumN σ c n + σ (pl n c) := rfl
/-! a house becomes another: so far the first 6 + 5 n numbers -/
def cpN (σ τ : Sg) (n : Nat) : Sg := fun j => if j < 6 + 5 * n then τ j else σ j
theorem cp_0 (σ τ : Sg) : un (un (un (un (un (un σ 0 (τ 0)) 1 (τ 1)) 2 (τ 2)) 3 (τ 3)) 4 (τ 4)) 5 (τ 5) = cpN σ τ 0 := by
  funext j
  unfold cpN
  simp only [un_eq]
  split
  · rename_i h; subst h; rfl
  · split
    · rename_i h; subst h; rfl
    · split
      · rename_i h; subst h; rfl
      · split
        · rename_i h; subst h; rfl
        · split
          · rename_i h; subst h; rfl
          · split
            · rename_i h; subst h; rfl
            · rw [if_neg (by omega)]
theorem cp_S (σ τ : Sg) (n : Nat) : un (un (un (un (un (cpN σ τ n) (pl n 0) (τ (pl n 0))) (pl n 1) (τ (pl n 1))) (pl n 2) (τ (pl n 2))) (pl n 3) (τ (pl n 3))) (pl n 4) (τ (pl n 4)) = cpN σ τ (n + 1) := by
  funext j
  unfold cpN
  simp only [un_eq]
  split
  · rename_i h; subst h; rw [if_pos (by unfold pl; omega)]
  · split
    · rename_i h; subst h; rw [if_pos (by unfold pl; omega)]
    · split
      · rename_i h; subst h; rw [if_pos (by unfold pl; omega)]
      · split
        · rename_i h; subst h; rw [if_pos (by unfold pl; omega)]
        · split
          · rename_i h; subst h; rw [if_pos (by unfold pl; omega)]
          · unfold pl at *
            by_cases h : j < 6 + 5 * n
            · rw [if_pos h, if_pos (by omega)]
            · rw [if_neg h, if_neg (by omega)]
theorem cp_8 (G : GT) (a : Nat → Nat) (σ τ : Sg) (ws : va_W) : eqW (wH G a (cpN σ τ 8) ++ ws) (wH G a τ ++ ws) := by
  have hs : ∀ q, q < 6 → cpN σ τ 8 q = τ q := fun q hq => by unfold cpN; rw [if_pos (by omega)]
  have hp : ∀ c, c < 5 → ∀ j, j < 8 → nF (hA (cpN σ τ 8) c) j = nF (hA τ c) j := fun c hc j hj => by
    show nI (cpN σ τ 8 (pl j c)) = nI (τ (pl j c))
    unfold cpN
    rw [if_pos (by unfold pl; omega)]
  refine ⟨rfl, ?_, rfl, ⟨rfl, rfl, hp 0 (by decide)⟩, rfl, ⟨rfl, rfl, hp 1 (by decide)⟩, rfl, ⟨rfl, rfl, hp 2 (by decide)⟩, rfl, ⟨rfl, rfl, hp 3 (by decide)⟩, rfl, ⟨rfl, rfl, hp 4 (by decide)⟩, eqW.rf _⟩
  unfold eqE
  simp only
  rw [hs 0 (by decide), hs 1 (by decide), hs 2 (by decide), hs 3 (by decide), hs 4 (by decide), hs 5 (by decide)]
theorem sub1_max {a : Nat} (ha : a < 2147483648) : (if nI 0 < nI a - nI 1 then nI a - nI 1 else nI 0) = nI (a - 1) := by
  rcases Nat.lt_or_ge 0 a with h | h
  · rw [pk_sub (show 1 ≤ a by omega)]
    exact (max_nI (by decide) (by omega)).trans (congrArg nI (by omega))
  · have e : a = 0 := by omega
    subst e
    decide
theorem even_0 {g : Nat} {τ : Sg} (h : τ 4 ≤ 9999) : evenN g 0 τ = un (un τ 2 (laidN (τ 2) g (g - τ 1))) 0 (τ 0 + 1) := by
  have e : min 9999 ((un τ 2 (laidN (τ 2) g (g - τ 1))) 4 + 0) = (un τ 2 (laidN (τ 2) g (g - τ 1))) 4 := by
    rw [un_n (by decide)]
    omega
  unfold evenN
  simp only
  rw [e, un_id, un_n (show 0 ≠ 2 by decide)]
theorem even_1 {g : Nat} {τ : Sg} (_h : τ 4 ≤ 9999) : evenN g 1 τ = un (un (un τ 2 (laidN (τ 2) g (g - τ 1))) 4 (min 9999 (τ 4 + 1))) 0 (τ 0 + 1) := by
  unfold evenN
  simp only
  rw [un_n (show 0 ≠ 4 by decide), un_n (show 0 ≠ 2 by decide), un_n (show 4 ≠ 2 by decide)]
/-! the reference's row, and its object -/
def mO (b : Nat → Nat) (ζ : Nat → Nat) (v : Int64) : Nat × va_E := (b 0, .inr (5, [.ref (b 1), .ref (b 2), .ref (b 3), .int (nI (ζ 0)), .ref (b 4), .ref (b 5), .int (nI (ζ 1)), .int (nI (ζ 2)), .int (nI (ζ 3)), .int (nI (ζ 4)), .long v, .ref (b 6), .ref (b 7), .ref (b 8), .ref (b 9), .ref (b 10), .ref (b 11), .ref (b 12)]))
theorem pl_eq (k f : Nat) : 6 + 5 * k + f = pl k f := rfl
theorem eaten_1 (σ : Sg) (k : Nat) : (eatenN σ (k + 1)).1 = eatN (eatenN σ k).1 k := rfl
theorem eaten_2 (σ : Sg) (k : Nat) : (eatenN σ (k + 1)).2 = hunI (eatenN σ k).1 k (eatenN σ k).2 := rfl
theorem wantsN_le {σ : Sg} {k : Nat} (h : σ (pl k 1) ≤ 20) : wantsN σ k ≤ 92 := wantsK_le h
theorem pred_T {a : Nat} (ha : a < 2147483648) : (nI a - nI 1).toInt = (a : Int) - 1 := by
  rcases Nat.lt_or_ge 0 a with h | h
  · rw [pk_sub (show 1 ≤ a by omega), nI_T (by omega)]; omega
  · have e : a = 0 := by omega
    subst e
    decide
theorem crack_z {σ : Sg} {k : Nat} (h : Inv σ) (hk : k < 8) (h3 : σ (pl k 3) = 0) : crackN σ k 0 = σ := by
  obtain ⟨p0, p1, p2, p3, p4⟩ := h.2 k hk
  unfold crackN watchN entersN
  rw [entersK_0, watchK_0, Nat.sub_zero, un_id, Nat.add_zero, Nat.min_eq_right p4, un_id, Nat.add_zero, Nat.min_eq_right h.1.2.2.1, un_id]
  exact (congrArg (un σ (pl k 3)) h3.symm).trans (un_id _ _)
theorem eat_c {σ : Sg} {k : Nat} (h : Inv σ) (hk : k < 8) (h3 : σ (pl k 3) = 0) : eatN σ k = crackN σ k (min (wantsN σ k) (σ 1)) := by
  unfold eatN
  rw [if_neg (by omega)]
  split
  · rfl
  · rename_i e
    rw [show min (wantsN σ k) (σ 1) = 0 by omega, crack_z h hk h3]
theorem or01 : ∀ a, a < 2 → ∀ b, b < 2 → nI a ||| nI b = nI (if b = 0 then a else 1) := by decide +kernel
theorem hun_or {σ : Sg} {k h : Nat} (hh : h ≤ 1) : nI h ||| nI (hunI σ k 0) = nI (hunI σ k h) := by
  rw [or01 h (by omega) _ (by have := hun_le σ k 0 (by omega); omega)]
  congr 1
  unfold hunI
  split <;> simp
theorem or_0 (a : Nat) : nI a ||| nI 0 = nI a := by
  rw [nI_0]
  apply Int32.toBitVec_inj.mp
  simp
theorem day_mk {σ : Sg} {n L : Nat} (eh : (eatenN σ (σ 5)).2 = n) (el : laidN ((eatenN σ (σ 5)).1 2) (mornN σ 1) (mornN σ 1 - (eatenN σ (σ 5)).1 1) = L) :
    dayN σ = un (un (un (eatenN σ (σ 5)).1 2 L) 4 (min 9999 ((eatenN σ (σ 5)).1 4 + n))) 0 ((eatenN σ (σ 5)).1 0 + 1) := by
  unfold dayN evenN
  simp only
  rw [eh, el, un_n (show 0 ≠ 4 by decide), un_n (show 0 ≠ 2 by decide), un_n (show 4 ≠ 2 by decide)]
def exsN (σ : Sg) (i j n : Nat) : Sg := itr (fun k τ => exN τ k i j) n σ
/-- a row's first k numbers come to another -/
def cpF (f g : Nat → Int32) (k : Nat) : Nat → Int32 := fun j => if j < k then g j else f j
theorem cpF_0 (f g : Nat → Int32) : cpF f g 0 = f := by funext j; unfold cpF; rw [if_neg (by omega)]
theorem cpF_S (f g : Nat → Int32) (k : Nat) : upd (cpF f g k) k (g k) = cpF f g (k + 1) := by
  funext j
  unfold cpF upd
  by_cases h : j = k
  · subst h; rw [if_pos rfl, if_pos (by omega)]
  · rw [if_neg h]
    show (if j < k then g j else f j) = _
    by_cases h2 : j < k
    · rw [if_pos h2, if_pos (by omega)]
    · rw [if_neg h2, if_neg (by omega)]
theorem cpF_in {f g : Nat → Int32} {k j : Nat} (h : j < k) : cpF f g k j = g j := by unfold cpF; rw [if_pos h]
theorem wH_x0 (G : GT) (a : Nat → Nat) (σ : Sg) (i j : Nat) : (wH G a σ).set 1 (a 1, .inl (G.2.1, 8, .inl (nF (un (un (hA σ 0) i (hA σ 0 j)) j (hA σ 0 i))))) = wH G a (exN σ 0 i j) := by
  unfold wH
  have h1 := ex_hAn (σ := σ) (c := 0) (d := 1) (i := i) (j := j) (by decide) (by decide) (by decide); have h2 := ex_hAn (σ := σ) (c := 0) (d := 2) (i := i) (j := j) (by decide) (by decide) (by decide); have h3 := ex_hAn (σ := σ) (c := 0) (d := 3) (i := i) (j := j) (by decide) (by decide) (by decide); have h4 := ex_hAn (σ := σ) (c := 0) (d := 4) (i := i) (j := j) (by decide) (by decide) (by decide);
  rw [h1, h2, h3, h4, ex_hA (c := 0) (by decide), ex_s (by decide), ex_s (by decide), ex_s (by decide), ex_s (by decide), ex_s (by decide), ex_s (by decide)]
  rfl
theorem wH_x1 (G : GT) (a : Nat → Nat) (σ : Sg) (i j : Nat) : (wH G a σ).set 2 (a 2, .inl (G.2.1, 8, .inl (nF (un (un (hA σ 1) i (hA σ 1 j)) j (hA σ 1 i))))) = wH G a (exN σ 1 i j) := by
  unfold wH
  have h0 := ex_hAn (σ := σ) (c := 1) (d := 0) (i := i) (j := j) (by decide) (by decide) (by decide); have h2 := ex_hAn (σ := σ) (c := 1) (d := 2) (i := i) (j := j) (by decide) (by decide) (by decide); have h3 := ex_hAn (σ := σ) (c := 1) (d := 3) (i := i) (j := j) (by decide) (by decide) (by decide); have h4 := ex_hAn (σ := σ) (c := 1) (d := 4) (i := i) (j := j) (by decide) (by decide) (by decide);
  rw [h0, h2, h3, h4, ex_hA (c := 1) (by decide), ex_s (by decide), ex_s (by decide), ex_s (by decide), ex_s (by decide), ex_s (by decide), ex_s (by decide)]
  rfl
theorem wH_x2 (G : GT) (a : Nat → Nat) (σ : Sg) (i j : Nat) : (wH G a σ).set 3 (a 3, .inl (G.2.1, 8, .inl (nF (un (un (hA σ 2) i (hA σ 2 j)) j (hA σ 2 i))))) = wH G a (exN σ 2 i j) := by
  unfold wH
  have h0 := ex_hAn (σ := σ) (c := 2) (d := 0) (i := i) (j := j) (by decide) (by decide) (by decide); have h1 := ex_hAn (σ := σ) (c := 2) (d := 1) (i := i) (j := j) (by decide) (by decide) (by decide); have h3 := ex_hAn (σ := σ) (c := 2) (d := 3) (i := i) (j := j) (by decide) (by decide) (by decide); have h4 := ex_hAn (σ := σ) (c := 2) (d := 4) (i := i) (j := j) (by decide) (by decide) (by decide);
  rw [h0, h1, h3, h4, ex_hA (c := 2) (by decide), ex_s (by decide), ex_s (by decide), ex_s (by decide), ex_s (by decide), ex_s (by decide), ex_s (by decide)]
  rfl
theorem wH_x3 (G : GT) (a : Nat → Nat) (σ : Sg) (i j : Nat) : (wH G a σ).set 4 (a 4, .inl (G.2.1, 8, .inl (nF (un (un (hA σ 3) i (hA σ 3 j)) j (hA σ 3 i))))) = wH G a (exN σ 3 i j) := by
  unfold wH
  have h0 := ex_hAn (σ := σ) (c := 3) (d := 0) (i := i) (j := j) (by decide) (by decide) (by decide); have h1 := ex_hAn (σ := σ) (c := 3) (d := 1) (i := i) (j := j) (by decide) (by decide) (by decide); have h2 := ex_hAn (σ := σ) (c := 3) (d := 2) (i := i) (j := j) (by decide) (by decide) (by decide); have h4 := ex_hAn (σ := σ) (c := 3) (d := 4) (i := i) (j := j) (by decide) (by decide) (by decide);
  rw [h0, h1, h2, h4, ex_hA (c := 3) (by decide), ex_s (by decide), ex_s (by decide), ex_s (by decide), ex_s (by decide), ex_s (by decide), ex_s (by decide)]
  rfl
theorem wH_x4 (G : GT) (a : Nat → Nat) (σ : Sg) (i j : Nat) : (wH G a σ).set 5 (a 5, .inl (G.2.1, 8, .inl (nF (un (un (hA σ 4) i (hA σ 4 j)) j (hA σ 4 i))))) = wH G a (exN σ 4 i j) := by
  unfold wH
  have h0 := ex_hAn (σ := σ) (c := 4) (d := 0) (i := i) (j := j) (by decide) (by decide) (by decide); have h1 := ex_hAn (σ := σ) (c := 4) (d := 1) (i := i) (j := j) (by decide) (by decide) (by decide); have h2 := ex_hAn (σ := σ) (c := 4) (d := 2) (i := i) (j := j) (by decide) (by decide) (by decide); have h3 := ex_hAn (σ := σ) (c := 4) (d := 3) (i := i) (j := j) (by decide) (by decide) (by decide);
  rw [h0, h1, h2, h3, ex_hA (c := 4) (by decide), ex_s (by decide), ex_s (by decide), ex_s (by decide), ex_s (by decide), ex_s (by decide), ex_s (by decide)]
  rfl
