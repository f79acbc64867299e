/-! ===== what a house is, and how its days go: numbers alone ===== -/
abbrev Sg : Type := Nat → Nat
def pl (k f : Nat) : Nat := 6 + 5 * k + f
/-- the column of a house's people at one field -/
def hA (σ : Sg) (c : Nat) : Nat → Nat := fun j => σ (pl j c)
theorem pl_inj {j c k d : Nat} (hc : c < 5) (hd : d < 5) : pl j c = pl k d ↔ j = k ∧ c = d := by unfold pl; omega
theorem pl_ge (j c : Nat) : 6 ≤ pl j c := by unfold pl; omega
theorem un_pp {σ : Sg} {j c k d v : Nat} (hc : c < 5) (hd : d < 5) : un σ (pl j c) v (pl k d) = if k = j ∧ d = c then v else σ (pl k d) := by
  unfold un
  by_cases h : pl k d = pl j c
  · rw [if_pos h, if_pos ((pl_inj hd hc).mp h)]
  · rw [if_neg h, if_neg (fun q => h ((pl_inj hd hc).mpr q))]
theorem un_ps {σ : Sg} {j c i v : Nat} (hi : i < 6) : un σ (pl j c) v i = σ i := un_n (by have := pl_ge j c; omega)
theorem un_sp {σ : Sg} {j c i v : Nat} (hi : i < 6) : un σ i v (pl j c) = σ (pl j c) := un_n (by have := pl_ge j c; omega)
theorem un_pd {σ : Sg} {j c k d v : Nat} (hc : c < 5) (hd : d < 5) (h : d ≠ c) : un σ (pl j c) v (pl k d) = σ (pl k d) := by rw [un_pp hc hd, if_neg (fun q => h q.2)]
theorem un_id (σ : Sg) (i : Nat) : un σ i (σ i) = σ := by
  funext j
  unfold un
  split
  · rename_i h; rw [h]
  · rfl
def wantsK (kind need day column : Nat) : Nat :=
  if kind = 1 then (if day % 2 = 0 then need else 1)
  else if kind = 2 then (if 500 < column then 4 * need else need)
  else if kind = 3 then (if day % 2 = 0 then need + 1 else need)
  else if kind = 4 then (if day % 2 = 0 then need else 1) + 1
  else if kind = 5 then (if 500 < column then 4 * need else need) + (if day % 10 = 0 then 12 else 0)
  else need
def entersK (kind reason n : Nat) : Nat :=
  if n = 0 then 0
  else if kind = 1 then 2 * n
  else if kind = 2 then n * reason + n
  else if kind = 3 then 0
  else if kind = 4 then 2 * n + reason
  else if kind = 5 then 2 * (n * reason + n)
  else n * reason
def watchK (kind n v : Nat) : Nat :=
  if n = 0 then 0
  else if kind = 1 then 0
  else if kind = 3 then 0
  else if kind = 4 then (if 5 < n then 1 else 0)
  else if kind = 5 then (if v < n then 2 else 0) + (if 30 < n then 1 else 0)
  else (if v < n then 2 else 0)
def wantsN (σ : Sg) (k : Nat) : Nat := wantsK (σ (pl k 0)) (σ (pl k 1)) (σ 0) (σ 3)
def entersN (σ : Sg) (k n : Nat) : Nat := entersK (σ (pl k 0)) (σ (pl k 2)) n
def watchN (σ : Sg) (k n : Nat) : Nat := watchK (σ (pl k 0)) n (entersN σ k n)
def crackN (σ : Sg) (k n : Nat) : Sg :=
  un (un (un (un σ 1 (σ 1 - n)) (pl k 4) (min 99999 (σ (pl k 4) + n))) 3 (min 99999999 (σ 3 + entersN σ k n))) (pl k 3) (watchN σ k n)
def eatN (σ : Sg) (k : Nat) : Sg :=
  if 0 < σ (pl k 3) then un σ (pl k 3) (σ (pl k 3) - 1)
  else if 0 < min (wantsN σ k) (σ 1) then crackN σ k (min (wantsN σ k) (σ 1)) else σ
def hunN (σ : Sg) (k : Nat) : Prop := σ (pl k 3) = 0 ∧ 0 < wantsN σ k ∧ min (wantsN σ k) (σ 1) = 0
def hunI (σ : Sg) (k h : Nat) : Nat := if σ (pl k 3) = 0 ∧ 0 < wantsN σ k ∧ min (wantsN σ k) (σ 1) = 0 then 1 else h
def stepN (k : Nat) (a : Sg × Nat) : Sg × Nat := (eatN a.1 k, hunI a.1 k a.2)
def laidN (l g b : Nat) : Nat := if g < 2 * b then l - 1 else if 4 * b < g then min 99 (l + 1) else l
def mornN (σ : Sg) : Sg := un σ 1 (min 999 (σ 1 + σ 2))
def eatenN (σ : Sg) (n : Nat) : Sg × Nat := itr stepN n (mornN σ, 0)
/-- how a day ends: g eggs were there, one was hungry (h) or not -/
def evenN (g h : Nat) (σ : Sg) : Sg :=
  let τ := un σ 2 (laidN (σ 2) g (g - σ 1))
  let υ := un τ 4 (min 9999 (τ 4 + h))
  un υ 0 (υ 0 + 1)
def dayN (σ : Sg) : Sg := evenN (mornN σ 1) (eatenN σ (σ 5)).2 (eatenN σ (σ 5)).1
def daysN : Nat → Sg → Sg
  | 0, σ => σ
  | n + 1, σ => dayN (daysN n σ)
def Inv (σ : Sg) : Prop := (σ 1 ≤ 999 ∧ σ 2 ≤ 99 ∧ σ 3 ≤ 99999999 ∧ σ 4 ≤ 9999 ∧ σ 5 ≤ 8) ∧ ∀ k, k < 8 → σ (pl k 0) < 6 ∧ σ (pl k 1) ≤ 20 ∧ σ (pl k 2) ≤ 99 ∧ σ (pl k 3) ≤ 99 ∧ σ (pl k 4) ≤ 99999
theorem wantsK_le {kind need day column : Nat} (h : need ≤ 20) : wantsK kind need day column ≤ 92 := by
  unfold wantsK
  repeat' split
  all_goals omega
theorem mul_le_lit {a b x y : Nat} (h1 : a ≤ x) (h2 : b ≤ y) : a * b ≤ x * y := Nat.mul_le_mul h1 h2
theorem entersK_le {kind reason n : Nat} (hr : reason ≤ 99) (hn : n ≤ 999) : entersK kind reason n ≤ 199800 := by
  have h : n * reason ≤ 999 * 99 := mul_le_lit hn hr
  unfold entersK
  repeat' split
  all_goals omega
theorem watchK_le {kind n v : Nat} : watchK kind n v ≤ 3 := by
  unfold watchK
  repeat' split
  all_goals omega
theorem entersK_0 {kind reason : Nat} : entersK kind reason 0 = 0 := by unfold entersK; rw [if_pos rfl]
theorem watchK_0 {kind v : Nat} : watchK kind 0 v = 0 := by unfold watchK; rw [if_pos rfl]
/-- a store into a house keeps what a house is -/
theorem Inv.un1 {σ : Sg} {v : Nat} (h : Inv σ) (hv : v ≤ 999) : Inv (un σ 1 v) :=
  ⟨⟨by rw [un_s]; exact hv, by rw [un_n (by decide)]; exact h.1.2.1, by rw [un_n (by decide)]; exact h.1.2.2.1, by rw [un_n (by decide)]; exact h.1.2.2.2.1, by rw [un_n (by decide)]; exact h.1.2.2.2.2⟩, fun k hk => by rw [un_sp (by decide), un_sp (by decide), un_sp (by decide), un_sp (by decide), un_sp (by decide)]; exact h.2 k hk⟩
theorem Inv.un2 {σ : Sg} {v : Nat} (h : Inv σ) (hv : v ≤ 99) : Inv (un σ 2 v) :=
  ⟨⟨by rw [un_n (by decide)]; exact h.1.1, by rw [un_s]; exact hv, by rw [un_n (by decide)]; exact h.1.2.2.1, by rw [un_n (by decide)]; exact h.1.2.2.2.1, by rw [un_n (by decide)]; exact h.1.2.2.2.2⟩, fun k hk => by rw [un_sp (by decide), un_sp (by decide), un_sp (by decide), un_sp (by decide), un_sp (by decide)]; exact h.2 k hk⟩
theorem Inv.un3 {σ : Sg} {v : Nat} (h : Inv σ) (hv : v ≤ 99999999) : Inv (un σ 3 v) :=
  ⟨⟨by rw [un_n (by decide)]; exact h.1.1, by rw [un_n (by decide)]; exact h.1.2.1, by rw [un_s]; exact hv, by rw [un_n (by decide)]; exact h.1.2.2.2.1, by rw [un_n (by decide)]; exact h.1.2.2.2.2⟩, fun k hk => by rw [un_sp (by decide), un_sp (by decide), un_sp (by decide), un_sp (by decide), un_sp (by decide)]; exact h.2 k hk⟩
theorem Inv.un4 {σ : Sg} {v : Nat} (h : Inv σ) (hv : v ≤ 9999) : Inv (un σ 4 v) :=
  ⟨⟨by rw [un_n (by decide)]; exact h.1.1, by rw [un_n (by decide)]; exact h.1.2.1, by rw [un_n (by decide)]; exact h.1.2.2.1, by rw [un_s]; exact hv, by rw [un_n (by decide)]; exact h.1.2.2.2.2⟩, fun k hk => by rw [un_sp (by decide), un_sp (by decide), un_sp (by decide), un_sp (by decide), un_sp (by decide)]; exact h.2 k hk⟩
theorem Inv.un5 {σ : Sg} {v : Nat} (h : Inv σ) (hv : v ≤ 8) : Inv (un σ 5 v) :=
  ⟨⟨by rw [un_n (by decide)]; exact h.1.1, by rw [un_n (by decide)]; exact h.1.2.1, by rw [un_n (by decide)]; exact h.1.2.2.1, by rw [un_n (by decide)]; exact h.1.2.2.2.1, by rw [un_s]; exact hv⟩, fun k hk => by rw [un_sp (by decide), un_sp (by decide), un_sp (by decide), un_sp (by decide), un_sp (by decide)]; exact h.2 k hk⟩
theorem Inv.un0 {σ : Sg} {v : Nat} (h : Inv σ) : Inv (un σ 0 v) :=
  ⟨⟨by rw [un_n (by decide)]; exact h.1.1, by rw [un_n (by decide)]; exact h.1.2.1, by rw [un_n (by decide)]; exact h.1.2.2.1, by rw [un_n (by decide)]; exact h.1.2.2.2.1, by rw [un_n (by decide)]; exact h.1.2.2.2.2⟩, fun k hk => by rw [un_sp (by decide), un_sp (by decide), un_sp (by decide), un_sp (by decide), un_sp (by decide)]; exact h.2 k hk⟩
theorem Inv.unp {σ : Sg} {j c v : Nat} (h : Inv σ) (hc : c < 5) (hv : (c = 0 → v < 6) ∧ (c = 1 → v ≤ 20) ∧ (c = 2 → v ≤ 99) ∧ (c = 3 → v ≤ 99) ∧ (c = 4 → v ≤ 99999)) : Inv (un σ (pl j c) v) := by
  refine ⟨?_, fun k hk => ?_⟩
  · rw [un_ps (by decide), un_ps (by decide), un_ps (by decide), un_ps (by decide), un_ps (by decide)]; exact h.1
  · have q := h.2 k hk
    rw [un_pp hc (by decide), un_pp hc (by decide), un_pp hc (by decide), un_pp hc (by decide), un_pp hc (by decide)]
    refine ⟨?_, ?_, ?_, ?_, ?_⟩ <;> (split <;> omega)
theorem crack_Inv {σ : Sg} {k n : Nat} (h : Inv σ) (hn : n ≤ σ 1) : Inv (crackN σ k n) := by
  have h1 := h.1.1
  unfold crackN
  refine Inv.unp (Inv.un3 (Inv.unp (Inv.un1 h (by omega)) (by decide) ?_) (by omega)) (by decide) ?_
  · refine ⟨fun q => absurd q (by decide), fun q => absurd q (by decide), fun q => absurd q (by decide), fun q => absurd q (by decide), fun _ => by omega⟩
  · refine ⟨fun q => absurd q (by decide), fun q => absurd q (by decide), fun q => absurd q (by decide), fun _ => ?_, fun q => absurd q (by decide)⟩
    have := @watchK_le (σ (pl k 0)) n (entersN σ k n)
    unfold watchN
    omega
theorem eat_Inv {σ : Sg} {k : Nat} (h : Inv σ) (hk : k < 8) : Inv (eatN σ k) := by
  unfold eatN
  have q := h.2 k hk
  split
  · refine Inv.unp h (by decide) ⟨fun q => absurd q (by decide), fun q => absurd q (by decide), fun q => absurd q (by decide), fun _ => by omega, fun q => absurd q (by decide)⟩
  · split
    · exact crack_Inv h (by omega)
    · exact h
theorem crack_0 (σ : Sg) (k n : Nat) : crackN σ k n 0 = σ 0 ∧ crackN σ k n 2 = σ 2 ∧ crackN σ k n 4 = σ 4 ∧ crackN σ k n 5 = σ 5 ∧ crackN σ k n 1 = σ 1 - n := by
  unfold crackN
  refine ⟨?_, ?_, ?_, ?_, ?_⟩
  · rw [un_ps (by decide), un_n (by decide), un_ps (by decide), un_n (by decide)]
  · rw [un_ps (by decide), un_n (by decide), un_ps (by decide), un_n (by decide)]
  · rw [un_ps (by decide), un_n (by decide), un_ps (by decide), un_n (by decide)]
  · rw [un_ps (by decide), un_n (by decide), un_ps (by decide), un_n (by decide)]
  · rw [un_ps (by decide), un_n (by decide), un_ps (by decide), un_s]
theorem eat_0 (σ : Sg) (k : Nat) : eatN σ k 0 = σ 0 ∧ eatN σ k 2 = σ 2 ∧ eatN σ k 4 = σ 4 ∧ eatN σ k 5 = σ 5 ∧ eatN σ k 1 ≤ σ 1 := by
  unfold eatN
  split
  · rw [un_ps (by decide), un_ps (by decide), un_ps (by decide), un_ps (by decide), un_ps (by decide)]
    exact ⟨rfl, rfl, rfl, rfl, Nat.le_refl _⟩
  · split
    · obtain ⟨a, b, c, d, e⟩ := crack_0 σ k (min (wantsN σ k) (σ 1))
      exact ⟨a, b, c, d, by omega⟩
    · exact ⟨rfl, rfl, rfl, rfl, Nat.le_refl _⟩
theorem hun_le (σ : Sg) (k h : Nat) (hh : h ≤ 1) : hunI σ k h ≤ 1 := by unfold hunI; split <;> omega
theorem morn_n {σ : Sg} {j : Nat} (h : j ≠ 1) : mornN σ j = σ j := un_n h
theorem morn_Inv {σ : Sg} (h : Inv σ) : Inv (mornN σ) := Inv.un1 h (by omega)
theorem eaten_at (σ : Sg) : ∀ n, (eatenN σ n).1 0 = σ 0 ∧ (eatenN σ n).1 2 = σ 2 ∧ (eatenN σ n).1 4 = σ 4 ∧ (eatenN σ n).1 5 = σ 5 ∧ (eatenN σ n).1 1 ≤ mornN σ 1 ∧ (eatenN σ n).2 ≤ 1
  | 0 => ⟨morn_n (σ := σ) (j := 0) (by decide), morn_n (σ := σ) (j := 2) (by decide), morn_n (σ := σ) (j := 4) (by decide), morn_n (σ := σ) (j := 5) (by decide), Nat.le_refl _, Nat.zero_le _⟩
  | n + 1 => by
    obtain ⟨a, b, c, d, e, f⟩ := eaten_at σ n
    obtain ⟨a1, b1, c1, d1, e1⟩ := eat_0 (eatenN σ n).1 n
    refine ⟨a1.trans a, b1.trans b, c1.trans c, d1.trans d, Nat.le_trans e1 e, ?_⟩
    exact hun_le _ _ _ f
theorem eaten_Inv {σ : Sg} (h : Inv σ) : ∀ n, n ≤ 8 → Inv (eatenN σ n).1
  | 0, _ => morn_Inv h
  | n + 1, hn => eat_Inv (eaten_Inv h n (by omega)) (by omega)
theorem laid_le {l g b : Nat} (h : l ≤ 99) : laidN l g b ≤ 99 := by
  unfold laidN
  repeat' split
  all_goals omega
theorem even_Inv {σ : Sg} {g h : Nat} (hI : Inv σ) : Inv (evenN g h σ) := by
  unfold evenN
  exact Inv.un0 (Inv.un4 (Inv.un2 hI (laid_le hI.1.2.1)) (by omega))
theorem day_Inv {σ : Sg} (h : Inv σ) : Inv (dayN σ) := even_Inv (eaten_Inv h _ h.1.2.2.2.2)
theorem day_at (σ : Sg) : dayN σ 0 = σ 0 + 1 ∧ dayN σ 5 = σ 5 ∧ dayN σ 4 = min 9999 (σ 4 + (eatenN σ (σ 5)).2) := by
  obtain ⟨a, b, c, d, e, f⟩ := eaten_at σ (σ 5)
  unfold dayN evenN
  simp only [un_eq]
  simp
  refine ⟨a, d, ?_⟩
  rw [c]
theorem days_Inv {σ : Sg} (h : Inv σ) : ∀ n, Inv (daysN n σ)
  | 0 => h
  | n + 1 => day_Inv (days_Inv h n)
theorem days_0 (σ : Sg) : ∀ n, daysN n σ 0 = σ 0 + n ∧ daysN n σ 5 = σ 5
  | 0 => ⟨rfl, rfl⟩
  | n + 1 => by
    obtain ⟨a, b⟩ := days_0 σ n
    obtain ⟨c, d, -⟩ := day_at (daysN n σ)
    exact ⟨by show dayN _ 0 = _; omega, by show dayN _ 5 = _; omega⟩
theorem days_4 {σ : Sg} (h : Inv σ) : ∀ n, σ 4 ≤ daysN n σ 4
  | 0 => Nat.le_refl _
  | n + 1 => by
    have a := days_4 h n
    obtain ⟨-, -, c⟩ := day_at (daysN n σ)
    have d := (days_Inv h n).1.2.2.2.1
    show σ 4 ≤ dayN _ 4
    omega
theorem days_4m {σ : Sg} (h : Inv σ) (n : Nat) : ∀ k, daysN n σ 4 ≤ daysN (n + k) σ 4
  | 0 => Nat.le_refl _
  | k + 1 => by
    have a := days_4m h n k
    obtain ⟨-, -, c⟩ := day_at (daysN (n + k) σ)
    have d := (days_Inv h (n + k)).1.2.2.2.1
    show _ ≤ dayN (daysN (n + k) σ) 4
    omega
theorem days_add (σ : Sg) (n : Nat) : ∀ k, daysN (n + k) σ = daysN k (daysN n σ)
  | 0 => rfl
  | k + 1 => by
    show dayN (daysN (n + k) σ) = dayN (daysN k (daysN n σ))
    rw [days_add σ n k]
theorem days_succ (σ : Sg) (n : Nat) : daysN (n + 1) σ = daysN n (dayN σ) := by
  rw [Nat.add_comm, days_add]
  rfl
/-! the cells of a house -/
def wH (G : GT) (a : Nat → Nat) (σ : Sg) : va_W := [(a 0, .inr (0, [.int (nI (σ 0)), .int (nI (σ 1)), .int (nI (σ 2)), .int (nI (σ 3)), .int (nI (σ 4)), .int (nI (σ 5)), .ref (a 1), .ref (a 2), .ref (a 3), .ref (a 4), .ref (a 5)])), (a 1, .inl (G.2.1, 8, .inl (nF (hA σ 0)))), (a 2, .inl (G.2.1, 8, .inl (nF (hA σ 1)))), (a 3, .inl (G.2.1, 8, .inl (nF (hA σ 2)))), (a 4, .inl (G.2.1, 8, .inl (nF (hA σ 3)))), (a 5, .inl (G.2.1, 8, .inl (nF (hA σ 4))))]
theorem hA_s {σ : Sg} {i v c : Nat} (hi : i < 6) : hA (un σ i v) c = hA σ c := by
  funext j
  exact un_sp hi
theorem hA_ne {σ : Sg} {k v c d : Nat} (hc : c < 5) (hd : d < 5) (h : d ≠ c) : hA (un σ (pl k c) v) d = hA σ d := by
  funext j
  show un σ (pl k c) v (pl j d) = _
  rw [un_pp hc hd, if_neg (fun q => h q.2)]
  rfl
theorem hA_eq {σ : Sg} {k v c : Nat} (hc : c < 5) : hA (un σ (pl k c) v) c = un (hA σ c) k v := by
  funext j
  show un σ (pl k c) v (pl j c) = _
  rw [un_pp hc hc]
  unfold un hA
  by_cases h : j = k
  · rw [if_pos ⟨h, rfl⟩, if_pos h]
  · rw [if_neg (fun q => h q.1), if_neg h]
theorem wH_f0 (G : GT) (a : Nat → Nat) (σ : Sg) (v : Nat) : (wH G a σ).set 0 (a 0, .inr (0, ([.int (nI (σ 0)), .int (nI (σ 1)), .int (nI (σ 2)), .int (nI (σ 3)), .int (nI (σ 4)), .int (nI (σ 5)), .ref (a 1), .ref (a 2), .ref (a 3), .ref (a 4), .ref (a 5)] : List Value).set 0 (.int (nI v)))) = wH G a (un σ 0 v) := by
  unfold wH
  rw [hA_s (by decide), hA_s (by decide), hA_s (by decide), hA_s (by decide), hA_s (by decide)]
  rfl
theorem wH_f1 (G : GT) (a : Nat → Nat) (σ : Sg) (v : Nat) : (wH G a σ).set 0 (a 0, .inr (0, ([.int (nI (σ 0)), .int (nI (σ 1)), .int (nI (σ 2)), .int (nI (σ 3)), .int (nI (σ 4)), .int (nI (σ 5)), .ref (a 1), .ref (a 2), .ref (a 3), .ref (a 4), .ref (a 5)] : List Value).set 1 (.int (nI v)))) = wH G a (un σ 1 v) := by
  unfold wH
  rw [hA_s (by decide), hA_s (by decide), hA_s (by decide), hA_s (by decide), hA_s (by decide)]
  rfl
theorem wH_f2 (G : GT) (a : Nat → Nat) (σ : Sg) (v : Nat) : (wH G a σ).set 0 (a 0, .inr (0, ([.int (nI (σ 0)), .int (nI (σ 1)), .int (nI (σ 2)), .int (nI (σ 3)), .int (nI (σ 4)), .int (nI (σ 5)), .ref (a 1), .ref (a 2), .ref (a 3), .ref (a 4), .ref (a 5)] : List Value).set 2 (.int (nI v)))) = wH G a (un σ 2 v) := by
  unfold wH
  rw [hA_s (by decide), hA_s (by decide), hA_s (by decide), hA_s (by decide), hA_s (by decide)]
  rfl
theorem wH_f3 (G : GT) (a : Nat → Nat) (σ : Sg) (v : Nat) : (wH G a σ).set 0 (a 0, .inr (0, ([.int (nI (σ 0)), .int (nI (σ 1)), .int (nI (σ 2)), .int (nI (σ 3)), .int (nI (σ 4)), .int (nI (σ 5)), .ref (a 1), .ref (a 2), .ref (a 3), .ref (a 4), .ref (a 5)] : List Value).set 3 (.int (nI v)))) = wH G a (un σ 3 v) := by
  unfold wH
  rw [hA_s (by decide), hA_s (by decide), hA_s (by decide), hA_s (by decide), hA_s (by decide)]
  rfl
theorem wH_f4 (G : GT) (a : Nat → Nat) (σ : Sg) (v : Nat) : (wH G a σ).set 0 (a 0, .inr (0, ([.int (nI (σ 0)), .int (nI (σ 1)), .int (nI (σ 2)), .int (nI (σ 3)), .int (nI (σ 4)), .int (nI (σ 5)), .ref (a 1), .ref (a 2), .ref (a 3), .ref (a 4), .ref (a 5)] : List Value).set 4 (.int (nI v)))) = wH G a (un σ 4 v) := by
  unfold wH
  rw [hA_s (by decide), hA_s (by decide), hA_s (by decide), hA_s (by decide), hA_s (by decide)]
  rfl
theorem wH_f5 (G : GT) (a : Nat → Nat) (σ : Sg) (v : Nat) : (wH G a σ).set 0 (a 0, .inr (0, ([.int (nI (σ 0)), .int (nI (σ 1)), .int (nI (σ 2)), .int (nI (σ 3)), .int (nI (σ 4)), .int (nI (σ 5)), .ref (a 1), .ref (a 2), .ref (a 3), .ref (a 4), .ref (a 5)] : List Value).set 5 (.int (nI v)))) = wH G a (un σ 5 v) := by
  unfold wH
  rw [hA_s (by decide), hA_s (by decide), hA_s (by decide), hA_s (by decide), hA_s (by decide)]
  rfl
theorem wH_p0 (G : GT) (a : Nat → Nat) (σ : Sg) (k v : Nat) : (wH G a σ).set 1 (a 1, .inl (G.2.1, 8, .inl (upd (nF (hA σ 0)) k (nI v)))) = wH G a (un σ (pl k 0) v) := by
  unfold wH
  have h1 := hA_ne (σ := σ) (k := k) (v := v) (c := 0) (d := 1) (by decide) (by decide) (by decide); have h2 := hA_ne (σ := σ) (k := k) (v := v) (c := 0) (d := 2) (by decide) (by decide) (by decide); have h3 := hA_ne (σ := σ) (k := k) (v := v) (c := 0) (d := 3) (by decide) (by decide) (by decide); have h4 := hA_ne (σ := σ) (k := k) (v := v) (c := 0) (d := 4) (by decide) (by decide) (by decide);
  rw [nF_un, h1, h2, h3, h4, hA_eq (c := 0) (by decide), un_ps (by decide), un_ps (by decide), un_ps (by decide), un_ps (by decide), un_ps (by decide), un_ps (by decide)]
  rfl
theorem wH_p1 (G : GT) (a : Nat → Nat) (σ : Sg) (k v : Nat) : (wH G a σ).set 2 (a 2, .inl (G.2.1, 8, .inl (upd (nF (hA σ 1)) k (nI v)))) = wH G a (un σ (pl k 1) v) := by
  unfold wH
  have h0 := hA_ne (σ := σ) (k := k) (v := v) (c := 1) (d := 0) (by decide) (by decide) (by decide); have h2 := hA_ne (σ := σ) (k := k) (v := v) (c := 1) (d := 2) (by decide) (by decide) (by decide); have h3 := hA_ne (σ := σ) (k := k) (v := v) (c := 1) (d := 3) (by decide) (by decide) (by decide); have h4 := hA_ne (σ := σ) (k := k) (v := v) (c := 1) (d := 4) (by decide) (by decide) (by decide);
  rw [nF_un, h0, h2, h3, h4, hA_eq (c := 1) (by decide), un_ps (by decide), un_ps (by decide), un_ps (by decide), un_ps (by decide), un_ps (by decide), un_ps (by decide)]
  rfl
theorem wH_p2 (G : GT) (a : Nat → Nat) (σ : Sg) (k v : Nat) : (wH G a σ).set 3 (a 3, .inl (G.2.1, 8, .inl (upd (nF (hA σ 2)) k (nI v)))) = wH G a (un σ (pl k 2) v) := by
  unfold wH
  have h0 := hA_ne (σ := σ) (k := k) (v := v) (c := 2) (d := 0) (by decide) (by decide) (by decide); have h1 := hA_ne (σ := σ) (k := k) (v := v) (c := 2) (d := 1) (by decide) (by decide) (by decide); have h3 := hA_ne (σ := σ) (k := k) (v := v) (c := 2) (d := 3) (by decide) (by decide) (by decide); have h4 := hA_ne (σ := σ) (k := k) (v := v) (c := 2) (d := 4) (by decide) (by decide) (by decide);
  rw [nF_un, h0, h1, h3, h4, hA_eq (c := 2) (by decide), un_ps (by decide), un_ps (by decide), un_ps (by decide), un_ps (by decide), un_ps (by decide), un_ps (by decide)]
  rfl
theorem wH_p3 (G : GT) (a : Nat → Nat) (σ : Sg) (k v : Nat) : (wH G a σ).set 4 (a 4, .inl (G.2.1, 8, .inl (upd (nF (hA σ 3)) k (nI v)))) = wH G a (un σ (pl k 3) v) := by
  unfold wH
  have h0 := hA_ne (σ := σ) (k := k) (v := v) (c := 3) (d := 0) (by decide) (by decide) (by decide); have h1 := hA_ne (σ := σ) (k := k) (v := v) (c := 3) (d := 1) (by decide) (by decide) (by decide); have h2 := hA_ne (σ := σ) (k := k) (v := v) (c := 3) (d := 2) (by decide) (by decide) (by decide); have h4 := hA_ne (σ := σ) (k := k) (v := v) (c := 3) (d := 4) (by decide) (by decide) (by decide);
  rw [nF_un, h0, h1, h2, h4, hA_eq (c := 3) (by decide), un_ps (by decide), un_ps (by decide), un_ps (by decide), un_ps (by decide), un_ps (by decide), un_ps (by decide)]
  rfl
theorem wH_p4 (G : GT) (a : Nat → Nat) (σ : Sg) (k v : Nat) : (wH G a σ).set 5 (a 5, .inl (G.2.1, 8, .inl (upd (nF (hA σ 4)) k (nI v)))) = wH G a (un σ (pl k 4) v) := by
  unfold wH
  have h0 := hA_ne (σ := σ) (k := k) (v := v) (c := 4) (d := 0) (by decide) (by decide) (by decide); have h1 := hA_ne (σ := σ) (k := k) (v := v) (c := 4) (d := 1) (by decide) (by decide) (by decide); have h2 := hA_ne (σ := σ) (k := k) (v := v) (c := 4) (d := 2) (by decide) (by decide) (by decide); have h3 := hA_ne (σ := σ) (k := k) (v := v) (c := 4) (d := 3) (by decide) (by decide) (by decide);
  rw [nF_un, h0, h1, h2, h3, hA_eq (c := 4) (by decide), un_ps (by decide), un_ps (by decide), un_ps (by decide), un_ps (by decide), un_ps (by decide), un_ps (by decide)]
  rfl
