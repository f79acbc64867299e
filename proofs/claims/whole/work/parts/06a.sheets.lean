/-! ===== sheets ===== -/
theorem lc_all (x y : Int64) : ((lg_cmp x y).toInt < 0 ↔ x.toInt < y.toInt) ∧ (0 < (lg_cmp x y).toInt ↔ y.toInt < x.toInt) ∧ ((lg_cmp x y).toInt = 0 ↔ x.toInt = y.toInt) := by
  have t1 : (1 : Int32).toInt = 1 := by decide
  have t0 : (0 : Int32).toInt = 0 := by decide
  have tm : (-1 : Int32).toInt = -1 := by decide
  by_cases h1 : y < x
  · have e1 : lg_cmp x y = 1 := by simp [lg_cmp, h1]
    have h1' := Int64.lt_iff_toInt_lt.mp h1
    rw [e1, t1]
    omega
  · have h1' : ¬ y.toInt < x.toInt := fun q => h1 (Int64.lt_iff_toInt_lt.mpr q)
    by_cases h2 : x = y
    · subst h2
      have e1 : lg_cmp x x = 0 := by simp [lg_cmp]
      rw [e1, t0]
      omega
    · have e1 : lg_cmp x y = -1 := by simp [lg_cmp, h1, h2]
      have h2' : ¬ x.toInt = y.toInt := fun q => h2 (Int64.toInt_inj.mp q)
      rw [e1, tm]
      omega
def SInv (wd sz : Nat → Nat) : Prop := ∀ j, j < 4 → wd j ≤ 64 ∧ sz j ≤ 40
def lowN (w : Nat) (v : Int64) : Int64 := if w = 8 then v.toInt32.toInt8.toInt32.toInt64 else if w = 16 then v.toInt32.toInt16.toInt32.toInt64 else v
theorem low_out {w : Nat} (hw : w < 2147483648) (h8 : ¬ w = 8) (h16 : ¬ w = 16) : Op.lookupswitch.offset [(8, 27), (16, 32)] 37 (nI w).toInt = 37 := by
  rw [lv_osw (k := nI 8) (fun q => h8 ((nI_eq hw (by decide)).mp q)) (by decide), lv_osw (k := nI 16) (fun q => h16 ((nI_eq hw (by decide)).mp q)) (by decide)]
  rfl
def clrN (nb : Nat → Int64) (k n : Nat) : Nat → Int64 := itr (fun i f => vp_updL f (40 * k + i) (lN 0)) n nb
theorem clr_S (nb : Nat → Int64) (k n : Nat) : clrN nb k (n + 1) = vp_updL (clrN nb k n) (40 * k + n) (lN 0) := rfl
def sheet_e (s w n : Int) : Nat := if (0 ≤ s ∧ s ≤ 3) ∧ (w = 0 ∨ w = 8 ∨ w = 16 ∨ w = 64) then (if n < 0 then 6 else if 40 < n then 0 else 7) else 0
def wshV (wd : Nat → Nat) (a : Int32) : Int32 := if 0 ≤ a.toInt ∧ a.toInt ≤ 3 then (if wd a.toInt.toNat = 0 then nI 5 else (-1)) else nI 0
/-- which finding a sheet's number and place bring -/
def sh_e (wd : Nat → Nat) (s : Int) (e : Nat) : Nat := if 0 ≤ s ∧ s ≤ 3 then (if wd s.toNat = 0 then 5 else e) else 0
def write_e (wd sz : Nat → Nat) (s i : Int) : Nat := sh_e wd s (if 0 ≤ i ∧ i < ((sz s.toNat : Nat) : Int) then 7 else 0)
def copy_e (wd sz : Nat → Nat) (s f t g n : Int) : Nat := if (0 ≤ s ∧ s ≤ 3) ∧ 0 ≤ t ∧ t ≤ 3 then (if wd s.toNat = 0 ∨ wd t.toNat = 0 then 5 else if wd s.toNat = wd t.toNat then (if (0 ≤ f ∧ 0 ≤ n ∧ n ≤ ((sz s.toNat : Nat) : Int) ∧ f ≤ ((sz s.toNat : Nat) : Int) - n) ∧ 0 ≤ g ∧ 0 ≤ n ∧ n ≤ ((sz t.toNat : Nat) : Int) ∧ g ≤ ((sz t.toNat : Nat) : Int) - n then 7 else 0) else 2) else 0
theorem l_small {x : Int64} (h0 : 0 ≤ x.toInt) (h1 : x.toInt ≤ 99) : x.toInt32 = nI x.toInt.toNat := by
  have e : x = lN x.toInt.toNat := by
    apply Int64.toInt_inj.mp
    rw [lN_toInt (by omega)]
    omega
  rw [e, lN_i, lN_toInt (by omega), Int.toNat_natCast]
def layS (nb : Nat → Int64) (s i : Nat) (a : Sg × Nat) : Sg × Nat := if 0 ≤ (nb (40 * s + i)).toInt ∧ (nb (40 * s + i)).toInt ≤ 99 then (un a.1 (pl i 2) (nb (40 * s + i)).toInt.toNat, a.2 + 1) else a
def layN (nb : Nat → Int64) (s : Nat) (σ : Sg) (n : Nat) : Sg × Nat := itr (layS nb s) n (σ, 0)
theorem lay_S (nb : Nat → Int64) (s : Nat) (σ : Sg) (n : Nat) : layN nb s σ (n + 1) = layS nb s n (layN nb s σ n) := rfl
theorem lay_s (nb : Nat → Int64) (s : Nat) (σ : Sg) {q : Nat} (hq : q < 6) : ∀ n, (layN nb s σ n).1 q = σ q
  | 0 => rfl
  | n + 1 => by
    rw [lay_S]
    unfold layS
    split
    · show un _ _ _ q = _
      rw [un_ps hq]; exact lay_s nb s σ hq n
    · exact lay_s nb s σ hq n
theorem lay_Inv (nb : Nat → Int64) (s : Nat) {σ : Sg} (h : Inv σ) : ∀ n, Inv (layN nb s σ n).1
  | 0 => h
  | n + 1 => by
    rw [lay_S]
    unfold layS
    split
    · exact Inv.unp (lay_Inv nb s h n) (by decide) (by omega)
    · exact lay_Inv nb s h n
theorem lay_le (nb : Nat → Int64) (s : Nat) (σ : Sg) : ∀ n, (layN nb s σ n).2 ≤ n
  | 0 => Nat.le_refl _
  | n + 1 => by
    have := lay_le nb s σ n
    rw [lay_S]
    unfold layS
    split
    · show _ + 1 ≤ _; omega
    · omega
def bkN (nb : Nat → Int64) (w s : Nat) (σ : Sg) (n : Nat) : Nat → Int64 := itr (fun i f => vp_updL f (40 * s + i) (lowN w (lN (daysN i σ 1)))) n nb
theorem bk_S (nb : Nat → Int64) (w s : Nat) (σ : Sg) (n : Nat) : bkN nb w s σ (n + 1) = vp_updL (bkN nb w s σ n) (40 * s + n) (lowN w (lN (daysN n σ 1))) := rfl
/-- the trial's eggs aren't a sheet's numbers -/
def soQ (nb : Nat → Int64) (s : Nat) (ρ : Sg) : Nat → Bool := fun i => decide (¬ (nb (40 * s + i)).toInt = ((daysN i ρ 1 : Nat) : Int))
def kn (σ : Sg) (p g d : Nat) : Sg := un (un σ (pl p 0) g) (pl p 1) d
def rdI (nb : Nat → Int64) (s n : Nat) (σ : Sg) (p g m c : Nat) : Nat := itr (fun d c => c + (if fstN (soQ nb s (kn σ p g d)) n = n then 1 else 0)) m c
def rdO (nb : Nat → Int64) (s n : Nat) (σ : Sg) (p m : Nat) : Nat := itr (fun g c => rdI nb s n σ p g 21 c) m 0
theorem rdI_S (nb : Nat → Int64) (s n : Nat) (σ : Sg) (p g m c : Nat) : rdI nb s n σ p g (m + 1) c = rdI nb s n σ p g m c + (if fstN (soQ nb s (kn σ p g m)) n = n then 1 else 0) := rfl
theorem rdO_S (nb : Nat → Int64) (s n : Nat) (σ : Sg) (p m : Nat) : rdO nb s n σ p (m + 1) = rdI nb s n σ p m 21 (rdO nb s n σ p m) := rfl
def read_e (σ : Sg) (wd : Nat → Nat) (s p : Int) : Nat := sh_e wd s (if 0 ≤ p ∧ p < ((σ 5 : Nat) : Int) then 7 else 0)
def hq (e : Nat) (f' f : Nat → Int64) : Nat → Int64 := if e = 7 then f' else f
theorem cpy_0 {f g : Nat → Int64} {sp dp : Nat} : va_cpy f g sp dp 0 = g := by
  funext k
  unfold va_cpy
  rw [if_neg (by omega)]
theorem cpy_S {f g : Nat → Int64} {sp dp i j : Nat} {v : Int64} (hj : j = dp + i) (hv : v = f (sp + i)) : vp_updL (va_cpy f g sp dp i) j v = va_cpy f g sp dp (i + 1) := by
  subst hj
  funext k
  show (if k = dp + i then v else va_cpy f g sp dp i k) = _
  unfold va_cpy
  by_cases h : k = dp + i
  · subst h
    rw [if_pos rfl, if_pos (by omega), hv]
    congr 1
    omega
  · rw [if_neg h]
    by_cases h2 : dp ≤ k ∧ k < dp + i
    · rw [if_pos h2, if_pos (by omega)]
    · rw [if_neg h2, if_neg (by omega)]
theorem cpy_at {f g : Nat → Int64} {sp n i : Nat} (h : i < n) : va_cpy f g sp 0 n i = f (sp + i) := by
  unfold va_cpy
  rw [if_pos (by omega)]
  rfl
theorem cpy_at' {f g : Nat → Int64} {sp n i j : Nat} (h : i < n) (hj : j = sp + i) : f j = va_cpy f g sp 0 n i := by rw [cpy_at h, hj]
section
variable {p : Program} {l : Launch} {e : Env} {R : Room} {s : State} {m : MethodId} {args : Array Value} {below : List Frame} {meth : Method} {c : Code} {H : Heap} {locs : List Loc} {cells slots : Nat} {Q : State → Prop}
variable {cc : ByteArray} {pc : Nat} {ls : Array Slot} {rest : List Value} {A : Nat → Prop} {G : GT} {ws : va_W}
theorem nI_nlt0 {a : Nat} (h : a < 2147483648) : ¬ nI a < 0 := by
  intro q
  have h1 := Int32.lt_iff_toInt_lt.mp q
  rw [nI_T h, show ((0 : Int32).toInt = 0) by decide] at h1
  omega
theorem n_copyl (hx : p.tables.exec = Jvm.exec) (hb : c.code = cc) (hml : c.maxLocals = ls.size) {own : String} {index : Nat} (hown : s.vm.findClass own = some m.cls) {Ts : List Cond} (hts : ∀ w ∈ Ts, w.before args s = true) (w1 : (Cond.methodLink own index arraycopyName) ∈ Ts) (w2 : (Cond.native arraycopyName) ∈ Ts) (w3 : (Cond.static arraycopyName) ∈ Ts) (w4 : (Cond.initialized "java/lang/System") ∈ Ts)
    (hK : KK G s) (hP : PP G ws H) (hD : va_D A ws) (hS : va_S A s.heap H locs) (q0 : Nat) {a n sp dp k : Nat} {f : Nat → Int64} {wn : va_W} (ha : ws[q0]? = some (a, .inl (G.2.2.1, n, .inr (.inl f)))) (h1 : sp + k ≤ n) (h2 : dp + k ≤ n) (h3 : n < 2147483648) (hw : ws.set q0 (a, .inl (G.2.2.1, n, .inr (.inl (va_cpy f f sp dp k)))) = wn)
    (hframes : 1 ≤ R.frames) (hlocals : (rest.map fun v => v.category).sum + 18 ≤ R.locals) (hdg : decode cc pc = .ok (.invokestatic index, 3))
    (kk : ∀ (H1 : Heap) (locs1 : List Loc), PP G wn H1 → va_D A wn → va_S A s.heap H1 locs1 → W p l e R s m args below meth c H1 locs1 cells slots Q (F0 m (pc + 3) ls rest)) : W p l e R s m args below meth c H locs cells slots Q (F0 m pc ls (.int (nI k) :: .int (nI dp) :: .ref a :: .int (nI sp) :: .ref a :: rest)) := by
  refine va_copyl hx hb hml hown (hts _ w1) (hts _ w2) (hts _ w3) (hts _ w4) hK hP hD hS q0 q0 1 1 (ty := .long) ha ha rfl rfl rfl (nI_nlt0 (by omega)) (nI_nlt0 (by omega)) (nI_nlt0 (by omega)) (by rw [nI_C (by omega), nI_C (by omega)]; exact h1) (by rw [nI_C (by omega), nI_C (by omega)]; exact h2) (fun _ _ => rfl) hframes hlocals hdg ?_
  rw [nI_C (by omega), nI_C (by omega), nI_C (by omega), hw]
  exact kk
end
theorem wsh_c (wd : Nat → Nat) (a : Int32) : (¬ (0 ≤ a.toInt ∧ a.toInt ≤ 3) ∧ wshV wd a = nI 0) ∨ ((0 ≤ a.toInt ∧ a.toInt ≤ 3) ∧ wd a.toInt.toNat = 0 ∧ wshV wd a = nI 5) ∨ ((0 ≤ a.toInt ∧ a.toInt ≤ 3) ∧ ¬ wd a.toInt.toNat = 0 ∧ wshV wd a = (-1)) := by
  unfold wshV
  by_cases h : 0 ≤ a.toInt ∧ a.toInt ≤ 3
  · by_cases h2 : wd a.toInt.toNat = 0
    · exact Or.inr (Or.inl ⟨h, h2, by rw [if_pos h, if_pos h2]⟩)
    · exact Or.inr (Or.inr ⟨h, h2, by rw [if_pos h, if_neg h2]⟩)
  · exact Or.inl ⟨h, by rw [if_neg h]⟩
theorem nI_subT {a : Nat} {x : Int32} (ha : a < 2147483648) (hx : 0 ≤ x.toInt) : (nI a - x).toInt = (a : Int) - x.toInt := by
  rw [Int32.toInt_sub, nI_T ha]
  have h := Int32.toInt_lt x
  exact Int.bmod_eq_of_le (by omega) (by omega)
