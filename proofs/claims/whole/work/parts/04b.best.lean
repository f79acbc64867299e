theorem fb_bmodX {z : Int} (h1 : -2147483648 ≤ z) (h2 : z < 2147483648) : z.bmod (2 ^ 32) = z := by
  rw [Int.bmod_eq_of_le (by omega) (by omega)]
/-! ===== what is best: searches and folds ===== -/
def iI (z : Int) : Int32 := Int32.ofInt z
theorem iI_T {z : Int} (h1 : -2147483648 ≤ z) (h2 : z < 2147483648) : (iI z).toInt = z := by
  unfold iI
  rw [Int32.toInt_ofInt]
  exact fb_bmodX h1 h2
theorem iI_n {a : Nat} : iI (a : Int) = nI a := by
  apply Int32.toBitVec_inj.mp
  show BitVec.ofInt 32 (a : Int) = BitVec.ofNat 32 a
  rw [BitVec.ofInt_natCast]
theorem iI_nat {z : Int} (h : 0 ≤ z) : iI z = nI z.toNat := by
  have e : z = ((z.toNat : Nat) : Int) := by omega
  rw [e, iI_n, Int.toNat_natCast]
def fstN (q : Nat → Bool) : Nat → Nat
  | 0 => 0
  | n + 1 => if fstN q n < n then fstN q n else if q n then n else n + 1
def NoQ (q : Nat → Bool) (k : Nat) : Prop := ∀ j, j < k → q j = false
theorem NoQ_0 {q : Nat → Bool} : NoQ q 0 := fun j h => absurd h (Nat.not_lt_zero j)
theorem NoQ_S {q : Nat → Bool} {k : Nat} (h : NoQ q k) (hk : q k = false) : NoQ q (k + 1) := fun j hj => by
  rcases Nat.lt_or_ge j k with a | a
  · exact h j a
  · have e : j = k := by omega
    rw [e]; exact hk
theorem fst_none {q : Nat → Bool} : ∀ {n : Nat}, NoQ q n → fstN q n = n
  | 0, _ => rfl
  | n + 1, h => by
    have a := fst_none (n := n) (fun j hj => h j (by omega))
    unfold fstN
    rw [if_neg (by omega), h n (by omega)]
    rfl
theorem fst_of {q : Nat → Bool} {k : Nat} (h : NoQ q k) (hk : q k = true) : ∀ {n : Nat}, k < n → fstN q n = k
  | 0, hn => absurd hn (Nat.not_lt_zero k)
  | n + 1, hn => by
    unfold fstN
    rcases Nat.lt_or_ge k n with a | a
    · rw [fst_of h hk a, if_pos a]
    · have e : k = n := by omega
      subst e
      rw [fst_none h, if_neg (by omega), hk]
      rfl
theorem inv_lt {σ : Sg} (h : Inv σ) (h0 : σ 0 < 2000000) {j : Nat} (hj : j < 46) : σ j < 2147483648 := by
  obtain ⟨⟨i1, i2, i3, i4, i5⟩, ip⟩ := h
  rcases Nat.lt_or_ge j 6 with a | a
  · rcases (show j = 0 ∨ j = 1 ∨ j = 2 ∨ j = 3 ∨ j = 4 ∨ j = 5 by omega) with e | e | e | e | e | e <;> subst e <;> omega
  · obtain ⟨p0, p1, p2, p3, p4⟩ := ip ((j - 6) / 5) (by omega)
    have e : j = pl ((j - 6) / 5) ((j - 6) % 5) := by unfold pl; omega
    have hc : (j - 6) % 5 < 5 := by omega
    generalize (j - 6) % 5 = c at e hc
    generalize (j - 6) / 5 = k at e p0 p1 p2 p3 p4
    rw [e]
    rcases (show c = 0 ∨ c = 1 ∨ c = 2 ∨ c = 3 ∨ c = 4 by omega) with e | e | e | e | e <;> subst e <;> omega
theorem days_lt {σ : Sg} (h : Inv σ) (n : Nat) (h0 : σ 0 + n < 2000000) {j : Nat} (hj : j < 46) : daysN n σ j < 2147483648 := inv_lt (days_Inv h n) (by rw [(days_0 σ n).1]; exact h0) hj
theorem pl_lt {k c : Nat} (hk : k < 8) (hc : c < 5) : pl k c < 46 := by unfold pl; omega
/-- in how many days first a place tells so much -/
def fbQ (σ : Sg) (q v : Nat) : Nat → Bool := fun n => decide (v ≤ daysN n σ q)
def fbN (σ : Sg) (q v : Nat) : Nat := fstN (fbQ σ q v) 101
def fb_e (σ : Sg) (q v : Nat) : Nat := if fbN σ q v < 101 then 7 else 3
def hunger_e (σ : Sg) : Nat := fb_e σ 4 (σ 4 + 1)
def comes_e (σ : Sg) (v : Int) : Nat := if 0 ≤ v ∧ v ≤ 99999999 then fb_e σ 3 v.toNat else 0
def watched_e (σ : Sg) (p : Int) : Nat := if 0 ≤ p ∧ p < ((σ 5 : Nat) : Int) then fb_e σ (pl p.toNat 3) 1 else 0
/-- the least reason -/
def reQ (σ : Sg) (p n v : Nat) : Nat → Bool := fun g => decide (v ≤ daysN n (un σ (pl p 2) g) 3)
def reason_e (σ : Sg) (p n v : Int) : Nat := if (0 ≤ p ∧ p < ((σ 5 : Nat) : Int)) ∧ (1 ≤ n ∧ n ≤ 60) ∧ 0 ≤ v ∧ v ≤ 99999999 then (if fstN (reQ σ p.toNat n.toNat v.toNat) 100 < 100 then 7 else 3) else 0
def enQ (σ : Sg) (n : Nat) : Nat → Bool := fun g => decide (daysN n (un σ 2 g) 4 ≤ σ 4)
def enough_e (σ : Sg) (n : Int) : Nat := if 1 ≤ n ∧ n ≤ 60 then (if fstN (enQ σ n.toNat) 100 < 100 then 7 else 3) else 0
/-- the greatest need: counted from 20 down -/
def neQ (σ : Sg) (p n : Nat) : Nat → Bool := fun t => decide (σ 2 ≤ daysN n (un σ (pl p 1) (20 - t)) 2)
def needs_e (σ : Sg) (p n : Int) : Nat := if (0 ≤ p ∧ p < ((σ 5 : Nat) : Int)) ∧ 1 ≤ n ∧ n ≤ 60 then (if fstN (neQ σ p.toNat n.toNat) 21 < 21 then 7 else 3) else 0
/-- the kind -/
def kdS (σ : Sg) (p n k : Nat) (s : Nat × Int) : Nat × Int := if s.2 < ((daysN n (un σ (pl p 0) k) 3 : Nat) : Int) then (k, ((daysN n (un σ (pl p 0) k) 3 : Nat) : Int)) else s
def kdN (σ : Sg) (p n m : Nat) : Nat × Int := itr (kdS σ p n) m (0, -1)
theorem kd_S (σ : Sg) (p n m : Nat) : kdN σ p n (m + 1) = kdS σ p n m (kdN σ p n m) := rfl
theorem kd_rg {σ : Sg} (h : Inv σ) (hd : σ 0 < 1000000) {p n : Nat} (hn : n < 1000) : ∀ m, m ≤ 6 → -1 ≤ (kdN σ p n m).2 ∧ (kdN σ p n m).2 ≤ 99999999
  | 0, _ => ⟨Int.le_refl _, (by decide : (-1 : Int) ≤ 99999999)⟩
  | m + 1, hm => by
    have a := kd_rg (p := p) h hd hn m (by omega)
    have b : Inv (un σ (pl p 0) m) := Inv.unp h (by decide) (by omega)
    have c := (days_Inv b n).1.2.2.1
    rw [kd_S]
    unfold kdS
    split
    · exact ⟨by show (-1 : Int) ≤ ((daysN n (un σ (pl p 0) m) 3 : Nat) : Int); omega, by show ((daysN n (un σ (pl p 0) m) 3 : Nat) : Int) ≤ _; omega⟩
    · exact a
def kind_e (σ : Sg) (p n : Int) : Nat := if (0 ≤ p ∧ p < ((σ 5 : Nat) : Int)) ∧ 1 ≤ n ∧ n ≤ 60 then 7 else 0
/-- who broke most -/
def mostN (τ : Sg) (n : Nat) : Nat := itr (fun j b => if τ (pl b 4) < τ (pl (j + 1) 4) then j + 1 else b) n 0
theorem most_S (τ : Sg) (n : Nat) : mostN τ (n + 1) = if τ (pl (mostN τ n) 4) < τ (pl (n + 1) 4) then n + 1 else mostN τ n := rfl
theorem most_le (τ : Sg) : ∀ n, mostN τ n ≤ n
  | 0 => Nat.le_refl _
  | n + 1 => by
    have := most_le τ n
    rw [most_S]
    split <;> omega
def most_e (σ : Sg) (n : Int) : Nat := if 0 ≤ n ∧ n ≤ 100 then (if σ 5 = 0 then 3 else 7) else 0
/-- the two to change -/
def trS (σ : Sg) (n i j : Nat) (s : Nat × Int) : Nat × Int := if s.1 < daysN n (swapN σ i j) 3 then (daysN n (swapN σ i j) 3, ((10 * i + j : Nat) : Int)) else s
def trI (σ : Sg) (n i : Nat) (s : Nat × Int) (m : Nat) : Nat × Int := itr (fun j s => trS σ n i (i + 1 + j) s) m s
def trO (σ : Sg) (n m : Nat) : Nat × Int := itr (fun i s => trI σ n i s (σ 5 - (i + 1))) m (daysN n σ 3, -1)
theorem trI_S (σ : Sg) (n i : Nat) (s : Nat × Int) (m : Nat) : trI σ n i s (m + 1) = trS σ n i (i + 1 + m) (trI σ n i s m) := rfl
theorem trO_S (σ : Sg) (n m : Nat) : trO σ n (m + 1) = trI σ n m (trO σ n m) (σ 5 - (m + 1)) := rfl
def trOk (s : Nat × Int) : Prop := s.1 ≤ 99999999 ∧ -1 ≤ s.2 ∧ s.2 ≤ 200
theorem trS_ok {σ : Sg} (h : Inv σ) {n i j : Nat} (hi : i < 8) (hj : j < 8) {s : Nat × Int} (hs : trOk s) : trOk (trS σ n i j s) := by
  have a := (days_Inv (swap_Inv h hi hj) n).1.2.2.1
  unfold trS
  split
  · exact ⟨a, by show (-1 : Int) ≤ ((10 * i + j : Nat) : Int); omega, by show ((10 * i + j : Nat) : Int) ≤ 200; omega⟩
  · exact hs
theorem trI_ok {σ : Sg} (h : Inv σ) {n i : Nat} (hi : i < 8) {s : Nat × Int} (hs : trOk s) : ∀ m, i + 1 + m ≤ 8 → trOk (trI σ n i s m)
  | 0, _ => hs
  | m + 1, hm => trS_ok h hi (by omega) (trI_ok h hi hs m (by omega))
theorem trO_ok {σ : Sg} (h : Inv σ) {n : Nat} : ∀ m, m ≤ σ 5 → trOk (trO σ n m)
  | 0, _ => ⟨(days_Inv h n).1.2.2.1, Int.le_refl _, by show (-1 : Int) ≤ 200; decide⟩
  | m + 1, hm => by
    have h5 := h.1.2.2.2.2
    rw [trO_S]
    exact trI_ok h (by omega) (trO_ok h m (by omega)) _ (by omega)
def turns_e (σ : Sg) (n : Int) : Nat := if 1 ≤ n ∧ n ≤ 60 then (if (trO σ n.toNat (σ 5)).2 < 0 then 3 else 7) else 0
/-- how many bits a set has -/
def popc (m : Nat) : Nat := m % 2 + m / 2 % 2 + m / 4 % 2 + m / 8 % 2 + m / 16 % 2 + m / 32 % 2 + m / 64 % 2 + m / 128 % 2
theorem popc_le (m : Nat) : popc m ≤ 8 := by unfold popc; omega
theorem pop_tab : ∀ m, m < 256 → 0 < m → popc (m &&& (m - 1)) + 1 = popc m ∧ (m &&& (m - 1)) < m ∧ nI m &&& nI (m - 1) = nI (m &&& (m - 1)) := by decide +kernel
/-- the set that is kept out -/
def kpS (σ : Sg) (n m : Nat) (y : Int) : Int := if (y < 0 ∨ popc m < popc y.toNat) ∧ daysN n (wallN σ m (σ 5)) 4 ≤ σ 4 then (m : Int) else y
def kpN (σ : Sg) (n m : Nat) : Int := itr (kpS σ n) m (-1)
theorem kp_S (σ : Sg) (n m : Nat) : kpN σ n (m + 1) = kpS σ n m (kpN σ n m) := rfl
theorem kp_rg (σ : Sg) (n : Nat) : ∀ m, -1 ≤ kpN σ n m ∧ kpN σ n m ≤ m
  | 0 => ⟨Int.le_refl _, by show (-1 : Int) ≤ 0; decide⟩
  | m + 1 => by
    have a := kp_rg σ n m
    rw [kp_S]
    unfold kpS
    split <;> omega
def fewN (y : Int) : Nat := if y < 0 then 9 else popc y.toNat
theorem few_iff {y : Int} {m : Nat} : popc m < fewN y ↔ (y < 0 ∨ popc m < popc y.toNat) := by
  unfold fewN
  have := popc_le m
  split <;> omega
def keep_e (σ : Sg) (n : Int) : Nat := if 1 ≤ n ∧ n ≤ 20 then (if kpN σ n.toNat (2 ^ σ 5) < 0 then 3 else 7) else 0
theorem pow_le {p : Nat} (h : p ≤ 8) : 2 ^ p ≤ 256 := Nat.le_trans (Nat.pow_le_pow_right (by decide) h) (by decide)
theorem need_tab : ∀ t, t < 21 → nI (20 - t) + Int32.ofInt (-1) = iI (20 - ((t + 1 : Nat) : Int)) := by decide +kernel
theorem bc_tab : ∀ m, m < 256 → (let a := nI m - (((nI m).toUInt32 >>> ((nI 1).toUInt32 &&& Int32.toUInt32 31)).toInt32 &&& nI 1431655765); let b := (a &&& nI 858993459) + ((a.toUInt32 >>> ((nI 2).toUInt32 &&& Int32.toUInt32 31)).toInt32 &&& nI 858993459); let c := (b + (b.toUInt32 >>> ((nI 4).toUInt32 &&& Int32.toUInt32 31)).toInt32) &&& nI 252645135; let d := c + (c.toUInt32 >>> ((nI 8).toUInt32 &&& Int32.toUInt32 31)).toInt32; (d + (d.toUInt32 >>> ((nI 16).toUInt32 &&& Int32.toUInt32 31)).toInt32) &&& nI 63) = nI (popc m) := by decide +kernel
