/-! ===== the public methods: what each answers, as functions of the house and of the arguments ===== -/
def fnd (e : Nat) : Int32 := (-1000000001) - nI e
def tk (tl : Nat → Int32) (e : Nat) : Nat → Int32 := upd tl e (tl e + nI 1)
def rs (e : Nat) (v : Int32) : Int32 := if e = 7 then v else fnd e
def rl (e : Nat) (v : Int64) : Int64 := if e = 7 then v else (fnd e).toInt64
def ts (tl : Nat → Int32) (e : Nat) : Nat → Int32 := if e = 7 then tl else tk tl e
def hs (e : Nat) (σ' σ : Sg) : Sg := if e = 7 then σ' else σ
def xO (x hm kp tr : Nat → Nat) (hi : Nat) : Nat × va_E := (x 0, .inr (4, [.ref (hm 0), .ref (kp 0), .ref (tr 0), .ref (x 1), .ref (x 3), .ref (x 7), .int (nI hi)]))
def house_e (w v : Int) : Nat := if (w = 0 ∧ 0 ≤ v ∧ v ≤ 999) ∨ (w = 1 ∧ 0 ≤ v ∧ v ≤ 99) ∨ (w = 2 ∧ 0 ≤ v ∧ v ≤ 99999999) then 7 else 0
def now_e (w : Int) : Nat := if 0 ≤ w ∧ w ≤ 6 then 7 else 0
def now_v (σ : Sg) (w : Nat) : Nat := if w < 5 then σ w else if w = 5 then setN σ (σ 5) else sumN σ 4 (σ 5)
def person_e (σ : Sg) (k : Int) : Nat := if 0 ≤ k ∧ k ≤ 5 then (if σ 5 < 8 then 7 else 1) else 0
def of_e (σ : Sg) (p w : Int) : Nat := if (0 ≤ p ∧ p < ((σ 5 : Nat) : Int)) ∧ 0 ≤ w ∧ w ≤ 5 then 7 else 0
def of_v (σ : Sg) (p w : Nat) : Nat := if w < 5 then σ (pl p w) else wantsN σ p
def says_e (σ : Sg) (p w n : Int) : Nat := if (0 ≤ p ∧ p < ((σ 5 : Nat) : Int)) ∧ (0 ≤ w ∧ w ≤ 1) ∧ 0 ≤ n ∧ n ≤ 999 then 7 else 0
def says_v (σ : Sg) (p w n : Nat) : Nat := if w = 0 then entersN σ p n else watchN σ p n
def set_e (σ : Sg) (p w v : Int) : Nat := if (0 ≤ p ∧ p < ((σ 5 : Nat) : Int)) ∧ ((w = 1 ∧ 0 ≤ v ∧ v ≤ 20) ∨ (w = 2 ∧ 0 ≤ v ∧ v ≤ 99) ∨ (w = 3 ∧ 0 ≤ v ∧ v ≤ 99) ∨ (w = 4 ∧ 0 ≤ v ∧ v ≤ 99999)) then 7 else 0
def turn_e (σ : Sg) (p k : Int) : Nat := if (0 ≤ p ∧ p < ((σ 5 : Nat) : Int)) ∧ 0 ≤ k ∧ k ≤ 5 then 7 else 0
def as_e (σ : Sg) (p k : Int) : Nat := if (0 ≤ p ∧ p < ((σ 5 : Nat) : Int)) ∧ 0 ≤ k ∧ k ≤ 5 then (if σ (pl p.toNat 0) = k.toNat ∨ k.toNat = 0 ∨ (σ (pl p.toNat 0) = 4 ∧ k.toNat = 1) ∨ (σ (pl p.toNat 0) = 5 ∧ k.toNat = 2) then 7 else 2) else 0
def swap_e (σ : Sg) (p q : Int) : Nat := if (0 ≤ p ∧ p < ((σ 5 : Nat) : Int)) ∧ (0 ≤ q ∧ q < ((σ 5 : Nat) : Int)) ∧ ¬ p = q then 7 else 0
def breaks_e (σ : Sg) (p n : Int) : Nat := if (0 ≤ p ∧ p < ((σ 5 : Nat) : Int)) ∧ 1 ≤ n ∧ n ≤ 99 then (if 0 < σ (pl p.toNat 3) ∨ σ 1 < n.toNat then 4 else 7) else 0
def days_e (σ : Sg) (n : Int) : Nat := if 1 ≤ n ∧ n ≤ 100 then (if 9999 < σ 0 + n.toNat then 4 else 7) else 0
def on_e (n w : Int) : Nat := if (0 ≤ n ∧ n ≤ 100) ∧ 0 ≤ w ∧ w ≤ 3 then 7 else 0
def then_e (σ : Sg) (p n w : Int) : Nat := if (0 ≤ p ∧ p < ((σ 5 : Nat) : Int)) ∧ (0 ≤ n ∧ n ≤ 100) ∧ 0 ≤ w ∧ w ≤ 1 then 7 else 0
theorem wH_v0 (G : GT) (a : Nat → Nat) (σ : Sg) (k v : Nat) : (wH G a σ).set 1 (a 1, .inl (G.2.1, 8, .inl (nF (un (hA σ 0) k v)))) = wH G a (un σ (pl k 0) v) := by
  unfold wH
  have h1 := hA_ne (σ := σ) (k := k) (v := v) (c := 0) (d := 1) (by decide) (by decide) (by decide); have h2 := hA_ne (σ := σ) (k := k) (v := v) (c := 0) (d := 2) (by decide) (by decide) (by decide); have h3 := hA_ne (σ := σ) (k := k) (v := v) (c := 0) (d := 3) (by decide) (by decide) (by decide); have h4 := hA_ne (σ := σ) (k := k) (v := v) (c := 0) (d := 4) (by decide) (by decide) (by decide);
  rw [h1, h2, h3, h4, hA_eq (c := 0) (by decide), un_ps (by decide), un_ps (by decide), un_ps (by decide), un_ps (by decide), un_ps (by decide), un_ps (by decide)]
  rfl
theorem wH_v1 (G : GT) (a : Nat → Nat) (σ : Sg) (k v : Nat) : (wH G a σ).set 2 (a 2, .inl (G.2.1, 8, .inl (nF (un (hA σ 1) k v)))) = wH G a (un σ (pl k 1) v) := by
  unfold wH
  have h0 := hA_ne (σ := σ) (k := k) (v := v) (c := 1) (d := 0) (by decide) (by decide) (by decide); have h2 := hA_ne (σ := σ) (k := k) (v := v) (c := 1) (d := 2) (by decide) (by decide) (by decide); have h3 := hA_ne (σ := σ) (k := k) (v := v) (c := 1) (d := 3) (by decide) (by decide) (by decide); have h4 := hA_ne (σ := σ) (k := k) (v := v) (c := 1) (d := 4) (by decide) (by decide) (by decide);
  rw [h0, h2, h3, h4, hA_eq (c := 1) (by decide), un_ps (by decide), un_ps (by decide), un_ps (by decide), un_ps (by decide), un_ps (by decide), un_ps (by decide)]
  rfl
theorem wH_v2 (G : GT) (a : Nat → Nat) (σ : Sg) (k v : Nat) : (wH G a σ).set 3 (a 3, .inl (G.2.1, 8, .inl (nF (un (hA σ 2) k v)))) = wH G a (un σ (pl k 2) v) := by
  unfold wH
  have h0 := hA_ne (σ := σ) (k := k) (v := v) (c := 2) (d := 0) (by decide) (by decide) (by decide); have h1 := hA_ne (σ := σ) (k := k) (v := v) (c := 2) (d := 1) (by decide) (by decide) (by decide); have h3 := hA_ne (σ := σ) (k := k) (v := v) (c := 2) (d := 3) (by decide) (by decide) (by decide); have h4 := hA_ne (σ := σ) (k := k) (v := v) (c := 2) (d := 4) (by decide) (by decide) (by decide);
  rw [h0, h1, h3, h4, hA_eq (c := 2) (by decide), un_ps (by decide), un_ps (by decide), un_ps (by decide), un_ps (by decide), un_ps (by decide), un_ps (by decide)]
  rfl
theorem wH_v3 (G : GT) (a : Nat → Nat) (σ : Sg) (k v : Nat) : (wH G a σ).set 4 (a 4, .inl (G.2.1, 8, .inl (nF (un (hA σ 3) k v)))) = wH G a (un σ (pl k 3) v) := by
  unfold wH
  have h0 := hA_ne (σ := σ) (k := k) (v := v) (c := 3) (d := 0) (by decide) (by decide) (by decide); have h1 := hA_ne (σ := σ) (k := k) (v := v) (c := 3) (d := 1) (by decide) (by decide) (by decide); have h2 := hA_ne (σ := σ) (k := k) (v := v) (c := 3) (d := 2) (by decide) (by decide) (by decide); have h4 := hA_ne (σ := σ) (k := k) (v := v) (c := 3) (d := 4) (by decide) (by decide) (by decide);
  rw [h0, h1, h2, h4, hA_eq (c := 3) (by decide), un_ps (by decide), un_ps (by decide), un_ps (by decide), un_ps (by decide), un_ps (by decide), un_ps (by decide)]
  rfl
theorem wH_v4 (G : GT) (a : Nat → Nat) (σ : Sg) (k v : Nat) : (wH G a σ).set 5 (a 5, .inl (G.2.1, 8, .inl (nF (un (hA σ 4) k v)))) = wH G a (un σ (pl k 4) v) := by
  unfold wH
  have h0 := hA_ne (σ := σ) (k := k) (v := v) (c := 4) (d := 0) (by decide) (by decide) (by decide); have h1 := hA_ne (σ := σ) (k := k) (v := v) (c := 4) (d := 1) (by decide) (by decide) (by decide); have h2 := hA_ne (σ := σ) (k := k) (v := v) (c := 4) (d := 2) (by decide) (by decide) (by decide); have h3 := hA_ne (σ := σ) (k := k) (v := v) (c := 4) (d := 3) (by decide) (by decide) (by decide);
  rw [h0, h1, h2, h3, hA_eq (c := 4) (by decide), un_ps (by decide), un_ps (by decide), un_ps (by decide), un_ps (by decide), un_ps (by decide), un_ps (by decide)]
  rfl
