/-! ===== own rows: numbers ===== -/
/-- a truth as the machine has it -/
def zI (P : Prop) [Decidable P] : Int32 := if P then 1 else 0
theorem zI_t {P : Prop} [Decidable P] (h : P) : zI P = nI 1 := by unfold zI; rw [if_pos h]; rfl
theorem zI_f {P : Prop} [Decidable P] (h : ¬ P) : zI P = nI 0 := by unfold zI; rw [if_neg h]; rfl
theorem zI_0 {P : Prop} [Decidable P] : zI P = 0 ↔ ¬ P := by
  unfold zI
  split
  · rename_i h
    exact ⟨fun q => absurd q (by decide), fun q => absurd h q⟩
  · rename_i h
    exact ⟨fun _ => h, fun _ => rfl⟩
theorem zI_n {P : Prop} [Decidable P] : narrow .boolean (.int (zI P)) = .int (zI P) := by unfold zI; split <;> decide
theorem zI_c {P P' : Prop} [Decidable P] [Decidable P'] (h : P ↔ P') : zI P = zI P' := by
  unfold zI
  by_cases hp : P
  · rw [if_pos hp, if_pos (h.mp hp)]
  · rw [if_neg hp, if_neg (fun q => hp (h.mpr q))]
theorem nI_n0 : narrow .boolean (.int (nI 0)) = .int (nI 0) := by decide
theorem nI_n1 : narrow .boolean (.int (nI 1)) = .int (nI 1) := by decide
theorem nI_inj {a b : Nat} (ha : a < 2147483648) (hb : b < 2147483648) : nI a = nI b ↔ a = b := nI_eq ha hb
theorem nI_z {a : Nat} (ha : a < 2147483648) : nI a = 0 ↔ a = 0 := by
  have h := nI_eq (a := a) (b := 0) ha (by decide)
  rw [nI_0] at h
  exact h
theorem nI_nn {a : Nat} (ha : a < 2147483648) : ¬ nI a < 0 := nI_pos ha
theorem nI_T {a : Nat} (ha : a < 2147483648) : (nI a).toInt = (a : Int) := nI_toInt ha
theorem nI_C {a : Nat} (ha : a < 2147483648) : (nI a).toNatClampNeg = a := nI_clamp ha
theorem nI_of_rg {x : Int32} {n : Nat} (h : 0 ≤ x.toInt ∧ x.toInt ≤ (n : Int)) : ∃ k, k ≤ n ∧ x = nI k := by
  refine ⟨x.toInt.toNat, by omega, ?_⟩
  apply Int32.toInt_inj.mp
  have hx : x.toInt < 2147483648 := by have := Int32.toInt_lt x; simpa using this
  rw [nI_T (by omega)]
  omega
theorem nI_lo {a b : Nat} (ha : a < 2147483648) (hb : b < 2147483648) : (nI a < nI b) = (a < b) := propext (nI_ltI ha hb)
theorem min_nI {a b : Nat} (ha : a < 2147483648) (hb : b < 2147483648) : (if nI b < nI a then nI b else nI a) = nI (min a b) := by
  by_cases h : b < a
  · rw [if_pos ((nI_ltI hb ha).mpr h), Nat.min_eq_right (Nat.le_of_lt h)]
  · rw [if_neg (fun q => h ((nI_ltI hb ha).mp q)), Nat.min_eq_left (Nat.not_lt.mp h)]
theorem max_nI {a b : Nat} (ha : a < 2147483648) (hb : b < 2147483648) : (if nI a < nI b then nI b else nI a) = nI (max a b) := by
  by_cases h : a < b
  · rw [if_pos ((nI_ltI ha hb).mpr h), Nat.max_eq_right (Nat.le_of_lt h)]
  · rw [if_neg (fun q => h ((nI_ltI ha hb).mp q)), Nat.max_eq_left (Nat.not_lt.mp h)]
abbrev nF (f : Nat → Nat) : Nat → Int32 := fun j => nI (f j)
def un (f : Nat → Nat) (i v : Nat) : Nat → Nat := fun j => if j = i then v else f j
theorem un_s {f : Nat → Nat} {i v : Nat} : un f i v i = v := by unfold un; rw [if_pos rfl]
theorem un_n {f : Nat → Nat} {i j v : Nat} (h : j ≠ i) : un f i v j = f j := by unfold un; rw [if_neg h]
theorem un_eq {f : Nat → Nat} {i j v : Nat} : un f i v j = if j = i then v else f j := rfl
theorem upd_eq {f : Nat → Int32} {i j : Nat} {v : Int32} : upd f i v j = if j = i then v else f j := rfl
theorem nF_un (f : Nat → Nat) (i v : Nat) : upd (nF f) i (nI v) = nF (un f i v) := by
  funext j
  unfold upd nF un
  by_cases h : j = i
  · rw [if_pos h, if_pos h]
  · rw [if_neg h, if_neg h]
/-- iterate, the place ascending -/
def itr {α : Type} (f : Nat → α → α) : Nat → α → α
  | 0, a => a
  | n + 1, a => f n (itr f n a)

section ORW
variable {p : Program} {l : Launch} {e : Env} {R : Room} {s : State} {m : MethodId} {args : Array Value} {below : List Frame} {meth : Method} {c : Code} {H : Heap} {locs : List Loc} {cells slots : Nat} {Q : State → Prop}
variable {cc : ByteArray} {pc : Nat} {ls : Array Slot} {rest : List Value} {A : Nat → Prop} {G : GT} {ws : va_W}

theorem n_iadd (hx : p.tables.exec = Jvm.exec) (hb : c.code = cc) {a b : Nat} (hdg : decode cc pc = .ok (.iadd, 1)) (k : W p l e R s m args below meth c H locs cells slots Q (F0 m (pc + 1) ls (.int (nI (a + b)) :: rest))) : W p l e R s m args below meth c H locs cells slots Q (F0 m pc ls (.int (nI b) :: .int (nI a) :: rest)) :=
  lv_iadd hx hb hdg (by rw [nI_add]; exact k)
theorem n_isub (hx : p.tables.exec = Jvm.exec) (hb : c.code = cc) {a b : Nat} (h : b ≤ a) (hdg : decode cc pc = .ok (.isub, 1)) (k : W p l e R s m args below meth c H locs cells slots Q (F0 m (pc + 1) ls (.int (nI (a - b)) :: rest))) : W p l e R s m args below meth c H locs cells slots Q (F0 m pc ls (.int (nI b) :: .int (nI a) :: rest)) :=
  lv_isub hx hb hdg (by rw [pk_sub h]; exact k)
theorem n_imul (hx : p.tables.exec = Jvm.exec) (hb : c.code = cc) {a b : Nat} (hdg : decode cc pc = .ok (.imul, 1)) (k : W p l e R s m args below meth c H locs cells slots Q (F0 m (pc + 1) ls (.int (nI (a * b)) :: rest))) : W p l e R s m args below meth c H locs cells slots Q (F0 m pc ls (.int (nI b) :: .int (nI a) :: rest)) :=
  lv_imul hx hb hdg (by rw [pk_mul]; exact k)
theorem n_irem (hx : p.tables.exec = Jvm.exec) (hb : c.code = cc) {a b : Nat} (ha : a < 2147483648) (h0 : 0 < b) (hb2 : b < 2147483648) (hdg : decode cc pc = .ok (.irem, 1)) (k : W p l e R s m args below meth c H locs cells slots Q (F0 m (pc + 1) ls (.int (nI (a % b)) :: rest))) : W p l e R s m args below meth c H locs cells slots Q (F0 m pc ls (.int (nI b) :: .int (nI a) :: rest)) :=
  lv_irem hx hb hdg (by rw [nI_z hb2]; omega) (by rw [pk_rem ha h0 hb2]; exact k)
theorem n_idiv (hx : p.tables.exec = Jvm.exec) (hb : c.code = cc) {a b : Nat} (ha : a < 2147483648) (h0 : 0 < b) (hb2 : b < 2147483648) (hdg : decode cc pc = .ok (.idiv, 1)) (k : W p l e R s m args below meth c H locs cells slots Q (F0 m (pc + 1) ls (.int (nI (a / b)) :: rest))) : W p l e R s m args below meth c H locs cells slots Q (F0 m pc ls (.int (nI b) :: .int (nI a) :: rest)) :=
  lv_idiv hx hb hdg (by rw [nI_z hb2]; omega) (by rw [pk_div ha h0 hb2]; exact k)
theorem n_top {x y : Int32} (h : x = y) (k : W p l e R s m args below meth c H locs cells slots Q (F0 m pc ls (.int y :: rest))) : W p l e R s m args below meth c H locs cells slots Q (F0 m pc ls (.int x :: rest)) := by rw [h]; exact k
theorem n_topl {x y : Int64} (h : x = y) (k : W p l e R s m args below meth c H locs cells slots Q (F0 m pc ls (.long y :: rest))) : W p l e R s m args below meth c H locs cells slots Q (F0 m pc ls (.long x :: rest)) := by rw [h]; exact k
theorem n_iinc (hx : p.tables.exec = Jvm.exec) (hb : c.code = cc) {i nL k a : Nat} {lv lv' : List (Nat × Value)} (hdg : decode cc pc = .ok (.iinc i 1, 3)) (h : lv_has ls nL lv) (hk : lv[k]? = some (i, .int (nI a))) (hn : i < nL) (hl : (i, Value.int (nI (a + 1))) :: lv.filter (fun q => !(q.1 == i) && !(q.1 + 1 == i && q.2.category == 2)) = lv')
    (kk : ∀ ls' : Array Slot, lv_has ls' nL lv' → W p l e R s m args below meth c H locs cells slots Q (F0 m (pc + 3) ls' rest)) : W p l e R s m args below meth c H locs cells slots Q (F0 m pc ls rest) :=
  lv_iinc hx hb hdg h hk (show nI a + Int32.ofInt 1 = nI (a + 1) from nI_add a 1) hn hl kk
theorem n_icmp_eq (hx : p.tables.exec = Jvm.exec) (hb : c.code = cc) {a b : Nat} (ha : a < 2147483648) (hb2 : b < 2147483648) {off : Int} {tgt : Nat} (hdg : decode cc pc = .ok (.if_icmp .eq off, 3)) (ht : (pc : Int) + off = (tgt : Int))
    (kt : a = b → W p l e R s m args below meth c H locs cells slots Q (F0 m tgt ls rest)) (kf : ¬ a = b → W p l e R s m args below meth c H locs cells slots Q (F0 m (pc + 3) ls rest)) : W p l e R s m args below meth c H locs cells slots Q (F0 m pc ls (.int (nI b) :: .int (nI a) :: rest)) := by
  have h1 := nI_ltI ha hb2
  have h2 := nI_ltI hb2 ha
  have h3 := nI_leI ha hb2
  have h4 := nI_leI hb2 ha
  have h5 := nI_eq ha hb2
  refine lv_icmp_eq hx hb hdg ht (fun q => kt ?_) (fun q => kf ?_)
  all_goals (first | (simp only [ge_iff_le, gt_iff_lt, h1, h2, h3, h4, h5] at q; omega) | (simp [h1, h2, h3, h4, h5] at q; omega))
theorem n_if_eq (hx : p.tables.exec = Jvm.exec) (hb : c.code = cc) {a : Nat} (ha : a < 2147483648) {off : Int} {tgt : Nat} (hdg : decode cc pc = .ok (.ifCond .eq off, 3)) (ht : (pc : Int) + off = (tgt : Int))
    (kt : a = 0 → W p l e R s m args below meth c H locs cells slots Q (F0 m tgt ls rest)) (kf : ¬ a = 0 → W p l e R s m args below meth c H locs cells slots Q (F0 m (pc + 3) ls rest)) : W p l e R s m args below meth c H locs cells slots Q (F0 m pc ls (.int (nI a) :: rest)) := by
  have z : nI 0 = 0 := nI_0
  have h1 := nI_ltI ha (show 0 < 2 ^ 31 by decide)
  have h2 := nI_ltI (show 0 < 2 ^ 31 by decide) ha
  have h3 := nI_leI ha (show 0 < 2 ^ 31 by decide)
  have h4 := nI_leI (show 0 < 2 ^ 31 by decide) ha
  have h5 := nI_eq ha (show 0 < 2 ^ 31 by decide)
  rw [z] at h1 h2 h3 h4 h5
  refine lv_if_eq hx hb hdg ht (fun q => kt ?_) (fun q => kf ?_)
  all_goals (first | (simp only [ge_iff_le, gt_iff_lt, h1, h2, h3, h4, h5] at q; omega) | (simp [h1, h2, h3, h4, h5] at q; omega))
theorem z_if_eq (hx : p.tables.exec = Jvm.exec) (hb : c.code = cc) {P : Prop} [Decidable P] {off : Int} {tgt : Nat} (hdg : decode cc pc = .ok (.ifCond .eq off, 3)) (ht : (pc : Int) + off = (tgt : Int))
    (kt : ¬ P → W p l e R s m args below meth c H locs cells slots Q (F0 m tgt ls rest)) (kf : P → W p l e R s m args below meth c H locs cells slots Q (F0 m (pc + 3) ls rest)) : W p l e R s m args below meth c H locs cells slots Q (F0 m pc ls (.int (zI P) :: rest)) := by
  refine lv_if_eq hx hb hdg ht (fun q => kt ?_) (fun q => kf ?_)
  all_goals (rw [zI_0] at q; first | exact q | exact Decidable.not_not.mp q)
theorem n_icmp_ne (hx : p.tables.exec = Jvm.exec) (hb : c.code = cc) {a b : Nat} (ha : a < 2147483648) (hb2 : b < 2147483648) {off : Int} {tgt : Nat} (hdg : decode cc pc = .ok (.if_icmp .ne off, 3)) (ht : (pc : Int) + off = (tgt : Int))
    (kt : ¬ a = b → W p l e R s m args below meth c H locs cells slots Q (F0 m tgt ls rest)) (kf : a = b → W p l e R s m args below meth c H locs cells slots Q (F0 m (pc + 3) ls rest)) : W p l e R s m args below meth c H locs cells slots Q (F0 m pc ls (.int (nI b) :: .int (nI a) :: rest)) := by
  have h1 := nI_ltI ha hb2
  have h2 := nI_ltI hb2 ha
  have h3 := nI_leI ha hb2
  have h4 := nI_leI hb2 ha
  have h5 := nI_eq ha hb2
  refine lv_icmp_ne hx hb hdg ht (fun q => kt ?_) (fun q => kf ?_)
  all_goals (first | (simp only [ge_iff_le, gt_iff_lt, h1, h2, h3, h4, h5] at q; omega) | (simp [h1, h2, h3, h4, h5] at q; omega))
theorem n_if_ne (hx : p.tables.exec = Jvm.exec) (hb : c.code = cc) {a : Nat} (ha : a < 2147483648) {off : Int} {tgt : Nat} (hdg : decode cc pc = .ok (.ifCond .ne off, 3)) (ht : (pc : Int) + off = (tgt : Int))
    (kt : ¬ a = 0 → W p l e R s m args below meth c H locs cells slots Q (F0 m tgt ls rest)) (kf : a = 0 → W p l e R s m args below meth c H locs cells slots Q (F0 m (pc + 3) ls rest)) : W p l e R s m args below meth c H locs cells slots Q (F0 m pc ls (.int (nI a) :: rest)) := by
  have z : nI 0 = 0 := nI_0
  have h1 := nI_ltI ha (show 0 < 2 ^ 31 by decide)
  have h2 := nI_ltI (show 0 < 2 ^ 31 by decide) ha
  have h3 := nI_leI ha (show 0 < 2 ^ 31 by decide)
  have h4 := nI_leI (show 0 < 2 ^ 31 by decide) ha
  have h5 := nI_eq ha (show 0 < 2 ^ 31 by decide)
  rw [z] at h1 h2 h3 h4 h5
  refine lv_if_ne hx hb hdg ht (fun q => kt ?_) (fun q => kf ?_)
  all_goals (first | (simp only [ge_iff_le, gt_iff_lt, h1, h2, h3, h4, h5] at q; omega) | (simp [h1, h2, h3, h4, h5] at q; omega))
theorem z_if_ne (hx : p.tables.exec = Jvm.exec) (hb : c.code = cc) {P : Prop} [Decidable P] {off : Int} {tgt : Nat} (hdg : decode cc pc = .ok (.ifCond .ne off, 3)) (ht : (pc : Int) + off = (tgt : Int))
    (kt : P → W p l e R s m args below meth c H locs cells slots Q (F0 m tgt ls rest)) (kf : ¬ P → W p l e R s m args below meth c H locs cells slots Q (F0 m (pc + 3) ls rest)) : W p l e R s m args below meth c H locs cells slots Q (F0 m pc ls (.int (zI P) :: rest)) := by
  refine lv_if_ne hx hb hdg ht (fun q => kt ?_) (fun q => kf ?_)
  all_goals (rw [zI_0] at q; first | exact q | exact Decidable.not_not.mp q)
theorem n_icmp_lt (hx : p.tables.exec = Jvm.exec) (hb : c.code = cc) {a b : Nat} (ha : a < 2147483648) (hb2 : b < 2147483648) {off : Int} {tgt : Nat} (hdg : decode cc pc = .ok (.if_icmp .lt off, 3)) (ht : (pc : Int) + off = (tgt : Int))
    (kt : a < b → W p l e R s m args below meth c H locs cells slots Q (F0 m tgt ls rest)) (kf : b ≤ a → W p l e R s m args below meth c H locs cells slots Q (F0 m (pc + 3) ls rest)) : W p l e R s m args below meth c H locs cells slots Q (F0 m pc ls (.int (nI b) :: .int (nI a) :: rest)) := by
  have h1 := nI_ltI ha hb2
  have h2 := nI_ltI hb2 ha
  have h3 := nI_leI ha hb2
  have h4 := nI_leI hb2 ha
  have h5 := nI_eq ha hb2
  refine lv_icmp_lt hx hb hdg ht (fun q => kt ?_) (fun q => kf ?_)
  all_goals (first | (simp only [ge_iff_le, gt_iff_lt, h1, h2, h3, h4, h5] at q; omega) | (simp [h1, h2, h3, h4, h5] at q; omega))
theorem n_if_lt (hx : p.tables.exec = Jvm.exec) (hb : c.code = cc) {a : Nat} (ha : a < 2147483648) {off : Int} {tgt : Nat} (hdg : decode cc pc = .ok (.ifCond .lt off, 3)) (ht : (pc : Int) + off = (tgt : Int))
    (kt : a < 0 → W p l e R s m args below meth c H locs cells slots Q (F0 m tgt ls rest)) (kf : 0 ≤ a → W p l e R s m args below meth c H locs cells slots Q (F0 m (pc + 3) ls rest)) : W p l e R s m args below meth c H locs cells slots Q (F0 m pc ls (.int (nI a) :: rest)) := by
  have z : nI 0 = 0 := nI_0
  have h1 := nI_ltI ha (show 0 < 2 ^ 31 by decide)
  have h2 := nI_ltI (show 0 < 2 ^ 31 by decide) ha
  have h3 := nI_leI ha (show 0 < 2 ^ 31 by decide)
  have h4 := nI_leI (show 0 < 2 ^ 31 by decide) ha
  have h5 := nI_eq ha (show 0 < 2 ^ 31 by decide)
  rw [z] at h1 h2 h3 h4 h5
  refine lv_if_lt hx hb hdg ht (fun q => kt ?_) (fun q => kf ?_)
  all_goals (first | (simp only [ge_iff_le, gt_iff_lt, h1, h2, h3, h4, h5] at q; omega) | (simp [h1, h2, h3, h4, h5] at q; omega))
theorem n_icmp_ge (hx : p.tables.exec = Jvm.exec) (hb : c.code = cc) {a b : Nat} (ha : a < 2147483648) (hb2 : b < 2147483648) {off : Int} {tgt : Nat} (hdg : decode cc pc = .ok (.if_icmp .ge off, 3)) (ht : (pc : Int) + off = (tgt : Int))
    (kt : b ≤ a → W p l e R s m args below meth c H locs cells slots Q (F0 m tgt ls rest)) (kf : a < b → W p l e R s m args below meth c H locs cells slots Q (F0 m (pc + 3) ls rest)) : W p l e R s m args below meth c H locs cells slots Q (F0 m pc ls (.int (nI b) :: .int (nI a) :: rest)) := by
  have h1 := nI_ltI ha hb2
  have h2 := nI_ltI hb2 ha
  have h3 := nI_leI ha hb2
  have h4 := nI_leI hb2 ha
  have h5 := nI_eq ha hb2
  refine lv_icmp_ge hx hb hdg ht (fun q => kt ?_) (fun q => kf ?_)
  all_goals (first | (simp only [ge_iff_le, gt_iff_lt, h1, h2, h3, h4, h5] at q; omega) | (simp [h1, h2, h3, h4, h5] at q; omega))
theorem n_if_ge (hx : p.tables.exec = Jvm.exec) (hb : c.code = cc) {a : Nat} (ha : a < 2147483648) {off : Int} {tgt : Nat} (hdg : decode cc pc = .ok (.ifCond .ge off, 3)) (ht : (pc : Int) + off = (tgt : Int))
    (kt : 0 ≤ a → W p l e R s m args below meth c H locs cells slots Q (F0 m tgt ls rest)) (kf : a < 0 → W p l e R s m args below meth c H locs cells slots Q (F0 m (pc + 3) ls rest)) : W p l e R s m args below meth c H locs cells slots Q (F0 m pc ls (.int (nI a) :: rest)) := by
  have z : nI 0 = 0 := nI_0
  have h1 := nI_ltI ha (show 0 < 2 ^ 31 by decide)
  have h2 := nI_ltI (show 0 < 2 ^ 31 by decide) ha
  have h3 := nI_leI ha (show 0 < 2 ^ 31 by decide)
  have h4 := nI_leI (show 0 < 2 ^ 31 by decide) ha
  have h5 := nI_eq ha (show 0 < 2 ^ 31 by decide)
  rw [z] at h1 h2 h3 h4 h5
  refine lv_if_ge hx hb hdg ht (fun q => kt ?_) (fun q => kf ?_)
  all_goals (first | (simp only [ge_iff_le, gt_iff_lt, h1, h2, h3, h4, h5] at q; omega) | (simp [h1, h2, h3, h4, h5] at q; omega))
theorem n_icmp_gt (hx : p.tables.exec = Jvm.exec) (hb : c.code = cc) {a b : Nat} (ha : a < 2147483648) (hb2 : b < 2147483648) {off : Int} {tgt : Nat} (hdg : decode cc pc = .ok (.if_icmp .gt off, 3)) (ht : (pc : Int) + off = (tgt : Int))
    (kt : b < a → W p l e R s m args below meth c H locs cells slots Q (F0 m tgt ls rest)) (kf : a ≤ b → W p l e R s m args below meth c H locs cells slots Q (F0 m (pc + 3) ls rest)) : W p l e R s m args below meth c H locs cells slots Q (F0 m pc ls (.int (nI b) :: .int (nI a) :: rest)) := by
  have h1 := nI_ltI ha hb2
  have h2 := nI_ltI hb2 ha
  have h3 := nI_leI ha hb2
  have h4 := nI_leI hb2 ha
  have h5 := nI_eq ha hb2
  refine lv_icmp_gt hx hb hdg ht (fun q => kt ?_) (fun q => kf ?_)
  all_goals (first | (simp only [ge_iff_le, gt_iff_lt, h1, h2, h3, h4, h5] at q; omega) | (simp [h1, h2, h3, h4, h5] at q; omega))
theorem n_if_gt (hx : p.tables.exec = Jvm.exec) (hb : c.code = cc) {a : Nat} (ha : a < 2147483648) {off : Int} {tgt : Nat} (hdg : decode cc pc = .ok (.ifCond .gt off, 3)) (ht : (pc : Int) + off = (tgt : Int))
    (kt : 0 < a → W p l e R s m args below meth c H locs cells slots Q (F0 m tgt ls rest)) (kf : a ≤ 0 → W p l e R s m args below meth c H locs cells slots Q (F0 m (pc + 3) ls rest)) : W p l e R s m args below meth c H locs cells slots Q (F0 m pc ls (.int (nI a) :: rest)) := by
  have z : nI 0 = 0 := nI_0
  have h1 := nI_ltI ha (show 0 < 2 ^ 31 by decide)
  have h2 := nI_ltI (show 0 < 2 ^ 31 by decide) ha
  have h3 := nI_leI ha (show 0 < 2 ^ 31 by decide)
  have h4 := nI_leI (show 0 < 2 ^ 31 by decide) ha
  have h5 := nI_eq ha (show 0 < 2 ^ 31 by decide)
  rw [z] at h1 h2 h3 h4 h5
  refine lv_if_gt hx hb hdg ht (fun q => kt ?_) (fun q => kf ?_)
  all_goals (first | (simp only [ge_iff_le, gt_iff_lt, h1, h2, h3, h4, h5] at q; omega) | (simp [h1, h2, h3, h4, h5] at q; omega))
theorem n_icmp_le (hx : p.tables.exec = Jvm.exec) (hb : c.code = cc) {a b : Nat} (ha : a < 2147483648) (hb2 : b < 2147483648) {off : Int} {tgt : Nat} (hdg : decode cc pc = .ok (.if_icmp .le off, 3)) (ht : (pc : Int) + off = (tgt : Int))
    (kt : a ≤ b → W p l e R s m args below meth c H locs cells slots Q (F0 m tgt ls rest)) (kf : b < a → W p l e R s m args below meth c H locs cells slots Q (F0 m (pc + 3) ls rest)) : W p l e R s m args below meth c H locs cells slots Q (F0 m pc ls (.int (nI b) :: .int (nI a) :: rest)) := by
  have h1 := nI_ltI ha hb2
  have h2 := nI_ltI hb2 ha
  have h3 := nI_leI ha hb2
  have h4 := nI_leI hb2 ha
  have h5 := nI_eq ha hb2
  refine lv_icmp_le hx hb hdg ht (fun q => kt ?_) (fun q => kf ?_)
  all_goals (first | (simp only [ge_iff_le, gt_iff_lt, h1, h2, h3, h4, h5] at q; omega) | (simp [h1, h2, h3, h4, h5] at q; omega))
theorem n_if_le (hx : p.tables.exec = Jvm.exec) (hb : c.code = cc) {a : Nat} (ha : a < 2147483648) {off : Int} {tgt : Nat} (hdg : decode cc pc = .ok (.ifCond .le off, 3)) (ht : (pc : Int) + off = (tgt : Int))
    (kt : a ≤ 0 → W p l e R s m args below meth c H locs cells slots Q (F0 m tgt ls rest)) (kf : 0 < a → W p l e R s m args below meth c H locs cells slots Q (F0 m (pc + 3) ls rest)) : W p l e R s m args below meth c H locs cells slots Q (F0 m pc ls (.int (nI a) :: rest)) := by
  have z : nI 0 = 0 := nI_0
  have h1 := nI_ltI ha (show 0 < 2 ^ 31 by decide)
  have h2 := nI_ltI (show 0 < 2 ^ 31 by decide) ha
  have h3 := nI_leI ha (show 0 < 2 ^ 31 by decide)
  have h4 := nI_leI (show 0 < 2 ^ 31 by decide) ha
  have h5 := nI_eq ha (show 0 < 2 ^ 31 by decide)
  rw [z] at h1 h2 h3 h4 h5
  refine lv_if_le hx hb hdg ht (fun q => kt ?_) (fun q => kf ?_)
  all_goals (first | (simp only [ge_iff_le, gt_iff_lt, h1, h2, h3, h4, h5] at q; omega) | (simp [h1, h2, h3, h4, h5] at q; omega))
theorem r_icmp_eq (hx : p.tables.exec = Jvm.exec) (hb : c.code = cc) {a b : Int32} {off : Int} {tgt : Nat} (hdg : decode cc pc = .ok (.if_icmp .eq off, 3)) (ht : (pc : Int) + off = (tgt : Int))
    (kt : a.toInt = b.toInt → W p l e R s m args below meth c H locs cells slots Q (F0 m tgt ls rest)) (kf : ¬ a.toInt = b.toInt → W p l e R s m args below meth c H locs cells slots Q (F0 m (pc + 3) ls rest)) : W p l e R s m args below meth c H locs cells slots Q (F0 m pc ls (.int b :: .int a :: rest)) := by
  refine lv_icmp_eq hx hb hdg ht (fun q => kt ?_) (fun q => kf ?_)
  all_goals (first | (simp only [ge_iff_le, gt_iff_lt, Int32.lt_iff_toInt_lt, Int32.le_iff_toInt_le, ← Int32.toInt_inj] at q; omega))
theorem r_if_eq (hx : p.tables.exec = Jvm.exec) (hb : c.code = cc) {a : Int32} {off : Int} {tgt : Nat} (hdg : decode cc pc = .ok (.ifCond .eq off, 3)) (ht : (pc : Int) + off = (tgt : Int))
    (kt : a.toInt = 0 → W p l e R s m args below meth c H locs cells slots Q (F0 m tgt ls rest)) (kf : ¬ a.toInt = 0 → W p l e R s m args below meth c H locs cells slots Q (F0 m (pc + 3) ls rest)) : W p l e R s m args below meth c H locs cells slots Q (F0 m pc ls (.int a :: rest)) := by
  have z : (0 : Int32).toInt = 0 := by decide
  refine lv_if_eq hx hb hdg ht (fun q => kt ?_) (fun q => kf ?_)
  all_goals (first | (simp only [ge_iff_le, gt_iff_lt, Int32.lt_iff_toInt_lt, Int32.le_iff_toInt_le, ← Int32.toInt_inj, z] at q; omega))
theorem r_icmp_ne (hx : p.tables.exec = Jvm.exec) (hb : c.code = cc) {a b : Int32} {off : Int} {tgt : Nat} (hdg : decode cc pc = .ok (.if_icmp .ne off, 3)) (ht : (pc : Int) + off = (tgt : Int))
    (kt : ¬ a.toInt = b.toInt → W p l e R s m args below meth c H locs cells slots Q (F0 m tgt ls rest)) (kf : a.toInt = b.toInt → W p l e R s m args below meth c H locs cells slots Q (F0 m (pc + 3) ls rest)) : W p l e R s m args below meth c H locs cells slots Q (F0 m pc ls (.int b :: .int a :: rest)) := by
  refine lv_icmp_ne hx hb hdg ht (fun q => kt ?_) (fun q => kf ?_)
  all_goals (first | (simp only [ge_iff_le, gt_iff_lt, Int32.lt_iff_toInt_lt, Int32.le_iff_toInt_le, ← Int32.toInt_inj] at q; omega))
theorem r_if_ne (hx : p.tables.exec = Jvm.exec) (hb : c.code = cc) {a : Int32} {off : Int} {tgt : Nat} (hdg : decode cc pc = .ok (.ifCond .ne off, 3)) (ht : (pc : Int) + off = (tgt : Int))
    (kt : ¬ a.toInt = 0 → W p l e R s m args below meth c H locs cells slots Q (F0 m tgt ls rest)) (kf : a.toInt = 0 → W p l e R s m args below meth c H locs cells slots Q (F0 m (pc + 3) ls rest)) : W p l e R s m args below meth c H locs cells slots Q (F0 m pc ls (.int a :: rest)) := by
  have z : (0 : Int32).toInt = 0 := by decide
  refine lv_if_ne hx hb hdg ht (fun q => kt ?_) (fun q => kf ?_)
  all_goals (first | (simp only [ge_iff_le, gt_iff_lt, Int32.lt_iff_toInt_lt, Int32.le_iff_toInt_le, ← Int32.toInt_inj, z] at q; omega))
theorem r_icmp_lt (hx : p.tables.exec = Jvm.exec) (hb : c.code = cc) {a b : Int32} {off : Int} {tgt : Nat} (hdg : decode cc pc = .ok (.if_icmp .lt off, 3)) (ht : (pc : Int) + off = (tgt : Int))
    (kt : a.toInt < b.toInt → W p l e R s m args below meth c H locs cells slots Q (F0 m tgt ls rest)) (kf : b.toInt ≤ a.toInt → W p l e R s m args below meth c H locs cells slots Q (F0 m (pc + 3) ls rest)) : W p l e R s m args below meth c H locs cells slots Q (F0 m pc ls (.int b :: .int a :: rest)) := by
  refine lv_icmp_lt hx hb hdg ht (fun q => kt ?_) (fun q => kf ?_)
  all_goals (first | (simp only [ge_iff_le, gt_iff_lt, Int32.lt_iff_toInt_lt, Int32.le_iff_toInt_le, ← Int32.toInt_inj] at q; omega))
theorem r_if_lt (hx : p.tables.exec = Jvm.exec) (hb : c.code = cc) {a : Int32} {off : Int} {tgt : Nat} (hdg : decode cc pc = .ok (.ifCond .lt off, 3)) (ht : (pc : Int) + off = (tgt : Int))
    (kt : a.toInt < 0 → W p l e R s m args below meth c H locs cells slots Q (F0 m tgt ls rest)) (kf : 0 ≤ a.toInt → W p l e R s m args below meth c H locs cells slots Q (F0 m (pc + 3) ls rest)) : W p l e R s m args below meth c H locs cells slots Q (F0 m pc ls (.int a :: rest)) := by
  have z : (0 : Int32).toInt = 0 := by decide
  refine lv_if_lt hx hb hdg ht (fun q => kt ?_) (fun q => kf ?_)
  all_goals (first | (simp only [ge_iff_le, gt_iff_lt, Int32.lt_iff_toInt_lt, Int32.le_iff_toInt_le, ← Int32.toInt_inj, z] at q; omega))
theorem r_icmp_ge (hx : p.tables.exec = Jvm.exec) (hb : c.code = cc) {a b : Int32} {off : Int} {tgt : Nat} (hdg : decode cc pc = .ok (.if_icmp .ge off, 3)) (ht : (pc : Int) + off = (tgt : Int))
    (kt : b.toInt ≤ a.toInt → W p l e R s m args below meth c H locs cells slots Q (F0 m tgt ls rest)) (kf : a.toInt < b.toInt → W p l e R s m args below meth c H locs cells slots Q (F0 m (pc + 3) ls rest)) : W p l e R s m args below meth c H locs cells slots Q (F0 m pc ls (.int b :: .int a :: rest)) := by
  refine lv_icmp_ge hx hb hdg ht (fun q => kt ?_) (fun q => kf ?_)
  all_goals (first | (simp only [ge_iff_le, gt_iff_lt, Int32.lt_iff_toInt_lt, Int32.le_iff_toInt_le, ← Int32.toInt_inj] at q; omega))
theorem r_if_ge (hx : p.tables.exec = Jvm.exec) (hb : c.code = cc) {a : Int32} {off : Int} {tgt : Nat} (hdg : decode cc pc = .ok (.ifCond .ge off, 3)) (ht : (pc : Int) + off = (tgt : Int))
    (kt : 0 ≤ a.toInt → W p l e R s m args below meth c H locs cells slots Q (F0 m tgt ls rest)) (kf : a.toInt < 0 → W p l e R s m args below meth c H locs cells slots Q (F0 m (pc + 3) ls rest)) : W p l e R s m args below meth c H locs cells slots Q (F0 m pc ls (.int a :: rest)) := by
  have z : (0 : Int32).toInt = 0 := by decide
  refine lv_if_ge hx hb hdg ht (fun q => kt ?_) (fun q => kf ?_)
  all_goals (first | (simp only [ge_iff_le, gt_iff_lt, Int32.lt_iff_toInt_lt, Int32.le_iff_toInt_le, ← Int32.toInt_inj, z] at q; omega))
theorem r_icmp_gt (hx : p.tables.exec = Jvm.exec) (hb : c.code = cc) {a b : Int32} {off : Int} {tgt : Nat} (hdg : decode cc pc = .ok (.if_icmp .gt off, 3)) (ht : (pc : Int) + off = (tgt : Int))
    (kt : b.toInt < a.toInt → W p l e R s m args below meth c H locs cells slots Q (F0 m tgt ls rest)) (kf : a.toInt ≤ b.toInt → W p l e R s m args below meth c H locs cells slots Q (F0 m (pc + 3) ls rest)) : W p l e R s m args below meth c H locs cells slots Q (F0 m pc ls (.int b :: .int a :: rest)) := by
  refine lv_icmp_gt hx hb hdg ht (fun q => kt ?_) (fun q => kf ?_)
  all_goals (first | (simp only [ge_iff_le, gt_iff_lt, Int32.lt_iff_toInt_lt, Int32.le_iff_toInt_le, ← Int32.toInt_inj] at q; omega))
theorem r_if_gt (hx : p.tables.exec = Jvm.exec) (hb : c.code = cc) {a : Int32} {off : Int} {tgt : Nat} (hdg : decode cc pc = .ok (.ifCond .gt off, 3)) (ht : (pc : Int) + off = (tgt : Int))
    (kt : 0 < a.toInt → W p l e R s m args below meth c H locs cells slots Q (F0 m tgt ls rest)) (kf : a.toInt ≤ 0 → W p l e R s m args below meth c H locs cells slots Q (F0 m (pc + 3) ls rest)) : W p l e R s m args below meth c H locs cells slots Q (F0 m pc ls (.int a :: rest)) := by
  have z : (0 : Int32).toInt = 0 := by decide
  refine lv_if_gt hx hb hdg ht (fun q => kt ?_) (fun q => kf ?_)
  all_goals (first | (simp only [ge_iff_le, gt_iff_lt, Int32.lt_iff_toInt_lt, Int32.le_iff_toInt_le, ← Int32.toInt_inj, z] at q; omega))
theorem r_icmp_le (hx : p.tables.exec = Jvm.exec) (hb : c.code = cc) {a b : Int32} {off : Int} {tgt : Nat} (hdg : decode cc pc = .ok (.if_icmp .le off, 3)) (ht : (pc : Int) + off = (tgt : Int))
    (kt : a.toInt ≤ b.toInt → W p l e R s m args below meth c H locs cells slots Q (F0 m tgt ls rest)) (kf : b.toInt < a.toInt → W p l e R s m args below meth c H locs cells slots Q (F0 m (pc + 3) ls rest)) : W p l e R s m args below meth c H locs cells slots Q (F0 m pc ls (.int b :: .int a :: rest)) := by
  refine lv_icmp_le hx hb hdg ht (fun q => kt ?_) (fun q => kf ?_)
  all_goals (first | (simp only [ge_iff_le, gt_iff_lt, Int32.lt_iff_toInt_lt, Int32.le_iff_toInt_le, ← Int32.toInt_inj] at q; omega))
theorem r_if_le (hx : p.tables.exec = Jvm.exec) (hb : c.code = cc) {a : Int32} {off : Int} {tgt : Nat} (hdg : decode cc pc = .ok (.ifCond .le off, 3)) (ht : (pc : Int) + off = (tgt : Int))
    (kt : a.toInt ≤ 0 → W p l e R s m args below meth c H locs cells slots Q (F0 m tgt ls rest)) (kf : 0 < a.toInt → W p l e R s m args below meth c H locs cells slots Q (F0 m (pc + 3) ls rest)) : W p l e R s m args below meth c H locs cells slots Q (F0 m pc ls (.int a :: rest)) := by
  have z : (0 : Int32).toInt = 0 := by decide
  refine lv_if_le hx hb hdg ht (fun q => kt ?_) (fun q => kf ?_)
  all_goals (first | (simp only [ge_iff_le, gt_iff_lt, Int32.lt_iff_toInt_lt, Int32.le_iff_toInt_le, ← Int32.toInt_inj, z] at q; omega))
theorem n_tableIn {a v : Nat} (hsw : a = v) (hx : p.tables.exec = Jvm.exec) (hb : c.code = cc) {dflt lo hi : Int} {offs : Array Int} {len : Nat} {off : Int} {tgt : Nat} (hdg : decode cc pc = .ok (.tableswitch dflt lo hi offs, len)) (h1 : ¬ (nI v).toInt < lo) (h2 : ¬ hi < (nI v).toInt) (ho : offs[((nI v).toInt - lo).toNat]? = some off) (ht : (pc : Int) + off = (tgt : Int))
    (k : W p l e R s m args below meth c H locs cells slots Q (F0 m tgt ls rest)) : W p l e R s m args below meth c H locs cells slots Q (F0 m pc ls (.int (nI a) :: rest)) := by
  subst hsw
  exact lv_tableIn hx hb hdg h1 h2 ho ht k
theorem n_tableOut {a v : Nat} (hsw : a = v) (hx : p.tables.exec = Jvm.exec) (hb : c.code = cc) {dflt lo hi : Int} {offs : Array Int} {len : Nat} {tgt : Nat} (hdg : decode cc pc = .ok (.tableswitch dflt lo hi offs, len)) (h : (nI v).toInt < lo ∨ hi < (nI v).toInt) (ht : (pc : Int) + dflt = (tgt : Int))
    (k : W p l e R s m args below meth c H locs cells slots Q (F0 m tgt ls rest)) : W p l e R s m args below meth c H locs cells slots Q (F0 m pc ls (.int (nI a) :: rest)) := by
  subst hsw
  exact lv_tableOut hx hb hdg h ht k
theorem n_lookup {a v : Nat} (hsw : a = v) (hx : p.tables.exec = Jvm.exec) (hb : c.code = cc) {dflt : Int} {ps : Array (Int × Int)} {len : Nat} {off : Int} {tgt : Nat} (hdg : decode cc pc = .ok (.lookupswitch dflt ps, len)) (hp : (ps.toList.zip (ps.toList.drop 1)).all (fun (a, next) => a.1 < next.1) = true) (ho : Op.lookupswitch.offset ps.toList dflt (nI v).toInt = off) (ht : (pc : Int) + off = (tgt : Int))
    (k : W p l e R s m args below meth c H locs cells slots Q (F0 m tgt ls rest)) : W p l e R s m args below meth c H locs cells slots Q (F0 m pc ls (.int (nI a) :: rest)) := by
  subst hsw
  exact lv_lookup hx hb hdg hp ho ht k
theorem n_iald (hx : p.tables.exec = Jvm.exec) (hb : c.code = cc) (hK : KK G s) (hP : PP G ws H) (q0 : Nat) {a n i : Nat} {f : Nat → Int32} {v : Int32} (ha : ws[q0]? = some (a, .inl (G.2.1, n, .inl f))) (hi : i < n) (hi2 : i < 2147483648) (hv : f i = v) (hdg : decode cc pc = .ok (.iaload, 1)) (k : W p l e R s m args below meth c H locs cells slots Q (F0 m (pc + 1) ls (.int v :: rest))) : W p l e R s m args below meth c H locs cells slots Q (F0 m pc ls (.int (nI i) :: .ref a :: rest)) := by
  refine va_iald hx hb hK hP q0 0 ha rfl (vp_in_iff.mpr (by rw [nI_T hi2]; omega)) hdg ?_
  rw [nI_C hi2, hv]
  exact k
theorem n_cald (hx : p.tables.exec = Jvm.exec) (hb : c.code = cc) (hK : KK G s) (hP : PP G ws H) (q0 : Nat) {a n i : Nat} {f : Nat → Int32} {v : Int32} (ha : ws[q0]? = some (a, .inl (G.2.2.2, n, .inl f))) (hi : i < n) (hi2 : i < 2147483648) (hv : f i = v) (hdg : decode cc pc = .ok (.caload, 1)) (k : W p l e R s m args below meth c H locs cells slots Q (F0 m (pc + 1) ls (.int v :: rest))) : W p l e R s m args below meth c H locs cells slots Q (F0 m pc ls (.int (nI i) :: .ref a :: rest)) := by
  refine va_cald hx hb hK hP q0 2 ha rfl (vp_in_iff.mpr (by rw [nI_T hi2]; omega)) hdg ?_
  rw [nI_C hi2, hv]
  exact k
theorem n_lald (hx : p.tables.exec = Jvm.exec) (hb : c.code = cc) (hK : KK G s) (hP : PP G ws H) (q0 : Nat) {a n i : Nat} {f : Nat → Int64} {v : Int64} (ha : ws[q0]? = some (a, .inl (G.2.2.1, n, .inr (.inl f)))) (hi : i < n) (hi2 : i < 2147483648) (hv : f i = v) (hdg : decode cc pc = .ok (.laload, 1)) (k : W p l e R s m args below meth c H locs cells slots Q (F0 m (pc + 1) ls (.long v :: rest))) : W p l e R s m args below meth c H locs cells slots Q (F0 m pc ls (.int (nI i) :: .ref a :: rest)) := by
  refine va_lald hx hb hK hP q0 1 ha rfl (vp_in_iff.mpr (by rw [nI_T hi2]; omega)) hdg ?_
  rw [nI_C hi2, hv]
  exact k
theorem n_iast (hx : p.tables.exec = Jvm.exec) (hb : c.code = cc) (hK : KK G s) (hP : PP G ws H) (hD : va_D A ws) (hS : va_S A s.heap H locs) (q0 : Nat) {a n i : Nat} {f : Nat → Int32} {x : Int32} {wn : va_W} (ha : ws[q0]? = some (a, .inl (G.2.1, n, .inl f))) (hi : i < n) (hi2 : i < 2147483648) (hw : ws.set q0 (a, .inl (G.2.1, n, .inl (upd f i x))) = wn) (hdg : decode cc pc = .ok (.iastore, 1))
    (kk : ∀ (H1 : Heap) (locs1 : List Loc), PP G wn H1 → va_D A wn → va_S A s.heap H1 locs1 → W p l e R s m args below meth c H1 locs1 cells slots Q (F0 m (pc + 1) ls rest)) : W p l e R s m args below meth c H locs cells slots Q (F0 m pc ls (.int x :: .int (nI i) :: .ref a :: rest)) := by
  refine va_iast hx hb hK hP hD hS q0 0 ha rfl (vp_in_iff.mpr (by rw [nI_T hi2]; omega)) hdg ?_
  rw [nI_C hi2, hw]
  exact kk
theorem n_last (hx : p.tables.exec = Jvm.exec) (hb : c.code = cc) (hK : KK G s) (hP : PP G ws H) (hD : va_D A ws) (hS : va_S A s.heap H locs) (q0 : Nat) {a n i : Nat} {f : Nat → Int64} {x : Int64} {wn : va_W} (ha : ws[q0]? = some (a, .inl (G.2.2.1, n, .inr (.inl f)))) (hi : i < n) (hi2 : i < 2147483648) (hw : ws.set q0 (a, .inl (G.2.2.1, n, .inr (.inl (vp_updL f i x)))) = wn) (hdg : decode cc pc = .ok (.lastore, 1))
    (kk : ∀ (H1 : Heap) (locs1 : List Loc), PP G wn H1 → va_D A wn → va_S A s.heap H1 locs1 → W p l e R s m args below meth c H1 locs1 cells slots Q (F0 m (pc + 1) ls rest)) : W p l e R s m args below meth c H locs cells slots Q (F0 m pc ls (.long x :: .int (nI i) :: .ref a :: rest)) := by
  refine va_last hx hb hK hP hD hS q0 1 ha rfl (vp_in_iff.mpr (by rw [nI_T hi2]; omega)) hdg ?_
  rw [nI_C hi2, hw]
  exact kk
theorem n_alen (hx : p.tables.exec = Jvm.exec) (hb : c.code = cc) (hK : KK G s) (hP : PP G ws H) (q0 t0 : Nat) {a n : Nat} {cA : ClassId} {x : (Nat → Int32) ⊕ (Nat → Int64) ⊕ (Nat → UInt32) ⊕ (Nat → UInt64) ⊕ (Nat → Option Nat)} {ty : FieldType} (ha : ws[q0]? = some (a, .inl (cA, n, x))) (ht : (gtys G)[t0]? = some (cA, ty)) (hdg : decode cc pc = .ok (.arraylength, 1)) (k : W p l e R s m args below meth c H locs cells slots Q (F0 m (pc + 1) ls (.int (nI n) :: rest))) : W p l e R s m args below meth c H locs cells slots Q (F0 m pc ls (.ref a :: rest)) :=
  va_alen hx hb hK hP q0 t0 ha ht rfl hdg k
theorem n_get (hx : p.tables.exec = Jvm.exec) (hb : c.code = cc) {own ref C : String} {T : u_T} {N ci index : Nat} {Ts : List Cond} (hts : ∀ w ∈ Ts, w.before args s = true) (hin : ∀ w ∈ u_ws C T N, w ∈ Ts) (hown : s.vm.findClass own = some m.cls) (hK : KK G s) (hP : PP G ws H) (q0 : Nat) {a : Nat} {fs : List Value} (he : ws[q0]? = some (a, .inr (ci, fs))) (hc : vwCl[ci]? = some (C, T, N)) (k : Nat) (hk : k < N) (hlink : (Cond.fieldLink own index ref (T k).2.1 (T k).2.2.1) ∈ Ts) (href : (T k).1 = ref) (v : Value) (hv : fs[k]? = some v) (hdg : decode cc pc = .ok (.getfield index, 3)) (kk : W p l e R s m args below meth c H locs cells slots Q (F0 m (pc + 3) ls (v :: rest))) : W p l e R s m args below meth c H locs cells slots Q (F0 m pc ls (.ref a :: rest)) :=
  va_get hx hb hts hin hown hK hP q0 he hc k hk (hts _ hlink) (fun _ h => by rw [← href]; exact h) hv hdg kk
theorem n_put (hx : p.tables.exec = Jvm.exec) (hb : c.code = cc) {own ref C : String} {T : u_T} {N ci index : Nat} {Ts : List Cond} (hts : ∀ w ∈ Ts, w.before args s = true) (hin : ∀ w ∈ u_ws C T N, w ∈ Ts) (ty0 : Nat → FieldType) (hty : ∀ k, k < N → parseFieldDescriptor (T k).2.2.1 = some (ty0 k)) (hnm : ∀ a, a < N → ∀ b, b < N → a ≠ b → (T a).2.1 ≠ (T b).2.1) (hown : s.vm.findClass own = some m.cls) (hK : KK G s) (hP : PP G ws H) (hD : va_D A ws) (hS : va_S A s.heap H locs) (q0 : Nat) {a : Nat} {fs : List Value} (he : ws[q0]? = some (a, .inr (ci, fs))) (hc : vwCl[ci]? = some (C, T, N)) (k : Nat) (hk : k < N) (hlink : (Cond.fieldLink own index ref (T k).2.1 (T k).2.2.1) ∈ Ts) (href : (T k).1 = ref) (hfin : (T k).2.2.2 = false) {ty : FieldType} {v : Value} (hd : ty0 k = ty) (hn : narrow ty v = v) (hfit : fits ty v = true) (hl : k < fs.length) {wn : va_W} (hw : ws.set q0 (a, .inr (ci, fs.set k v)) = wn)
    (hdg : decode cc pc = .ok (.putfield index, 3)) (kk : ∀ (H1 : Heap) (locs1 : List Loc), PP G wn H1 → va_D A wn → va_S A s.heap H1 locs1 → W p l e R s m args below meth c H1 locs1 cells slots Q (F0 m (pc + 3) ls rest)) : W p l e R s m args below meth c H locs cells slots Q (F0 m pc ls (v :: .ref a :: rest)) :=
  va_put hx hb hts hin ty0 hty hnm hown hK hP hD hS q0 he hc k hk (hts _ hlink) (fun _ h => by rw [← href]; exact h) hfin (by rw [hty k hk, hd]) hn hfit hl hdg (fun H1 locs1 a b c => kk H1 locs1 (hw ▸ a) (hw ▸ b) c)
theorem n_min (hx : p.tables.exec = Jvm.exec) (hb : c.code = cc) (hml : c.maxLocals = ls.size) {own : String} {index : Nat} (hown : s.vm.findClass own = some m.cls) {Ts : List Cond} (hts : ∀ w ∈ Ts, w.before args s = true) (h1 : (Cond.methodLink own index Lib.Math.min.name) ∈ Ts) (h2 : (Cond.static Lib.Math.min.name) ∈ Ts) (h3 : (Cond.initialized "java/lang/Math") ∈ Ts) (h4 : (Cond.code Lib.Math.min.name Lib.Math.min.code 2 (some .int)) ∈ Ts)
    (hframes : 1 ≤ R.frames) (hlocals : (rest.map fun v => v.category).sum + 13 ≤ R.locals) (hc : cells ≤ R.cells) (hs : slots ≤ R.slots) {a b : Nat} (ha : a < 2147483648) (hb2 : b < 2147483648) (hdg : decode cc pc = .ok (.invokestatic index, 3))
    (kk : W p l e R s m args below meth c H locs cells slots Q (F0 m (pc + 3) ls (.int (nI (min a b)) :: rest))) : W p l e R s m args below meth c H locs cells slots Q (F0 m pc ls (.int (nI b) :: .int (nI a) :: rest)) :=
  va_mmin hx hb hml hown (hts _ h1) (hts _ h2) (hts _ h3) (hts _ h4) hframes hlocals hc hs hdg (by rw [min_nI ha hb2]; exact kk)
theorem n_max (hx : p.tables.exec = Jvm.exec) (hb : c.code = cc) (hml : c.maxLocals = ls.size) {own : String} {index : Nat} (hown : s.vm.findClass own = some m.cls) {Ts : List Cond} (hts : ∀ w ∈ Ts, w.before args s = true) (h1 : (Cond.methodLink own index Lib.Math.max.name) ∈ Ts) (h2 : (Cond.static Lib.Math.max.name) ∈ Ts) (h3 : (Cond.initialized "java/lang/Math") ∈ Ts) (h4 : (Cond.code Lib.Math.max.name Lib.Math.max.code 2 (some .int)) ∈ Ts)
    (hframes : 1 ≤ R.frames) (hlocals : (rest.map fun v => v.category).sum + 13 ≤ R.locals) (hc : cells ≤ R.cells) (hs : slots ≤ R.slots) {a b : Int32} {v : Int32} (hv : (if a < b then b else a) = v) (hdg : decode cc pc = .ok (.invokestatic index, 3))
    (kk : W p l e R s m args below meth c H locs cells slots Q (F0 m (pc + 3) ls (.int v :: rest))) : W p l e R s m args below meth c H locs cells slots Q (F0 m pc ls (.int b :: .int a :: rest)) :=
  va_mmax hx hb hml hown (hts _ h1) (hts _ h2) (hts _ h3) (hts _ h4) hframes hlocals hc hs hdg (by rw [hv]; exact kk)
theorem W_loop1 {α0 : Type} {nL : Nat} (I : α0 → Prop) (wd : α0 → va_W) (lv : α0 → List (Nat × Value)) (μ : α0 → Nat)
    (step : ∀ (x0 : α0) (H : Heap) (locs : List Loc) (ls : Array Slot), I x0 → PP G (wd x0) H → va_D A (wd x0) → va_S A s.heap H locs → lv_has ls nL (lv x0) → (∀ (y0 : α0) (H1 : Heap) (locs1 : List Loc) (ls1 : Array Slot), μ y0 < μ x0 → I y0 → PP G (wd y0) H1 → va_D A (wd y0) → va_S A s.heap H1 locs1 → lv_has ls1 nL (lv y0) → W p l e R s m args below meth c H1 locs1 cells slots Q (F0 m pc ls1 [])) → W p l e R s m args below meth c H locs cells slots Q (F0 m pc ls []))
    (x0 : α0) (hI : I x0) (hP : PP G (wd x0) H) (hD : va_D A (wd x0)) (hS : va_S A s.heap H locs) (hl : lv_has ls nL (lv x0)) : W p l e R s m args below meth c H locs cells slots Q (F0 m pc ls []) := by
  have go : ∀ (n : Nat) (x0 : α0) (H : Heap) (locs : List Loc) (ls : Array Slot), μ x0 < n → I x0 → PP G (wd x0) H → va_D A (wd x0) → va_S A s.heap H locs → lv_has ls nL (lv x0) → W p l e R s m args below meth c H locs cells slots Q (F0 m pc ls []) := by
    intro n
    induction n with
    | zero => intro x0 H locs ls h; exact absurd h (Nat.not_lt_zero _)
    | succ n ih =>
      intro x0 H locs ls h h1 h2 h3 h4 h5
      exact step x0 H locs ls h1 h2 h3 h4 h5 (fun y0 H1 locs1 ls1 g => ih y0 H1 locs1 ls1 (by omega))
  exact go _ x0 H locs ls (Nat.lt_succ_self _) hI hP hD hS hl
theorem W_loop2 {α0 : Type} {α1 : Type} {nL : Nat} (I : α0 → α1 → Prop) (wd : α0 → α1 → va_W) (lv : α0 → α1 → List (Nat × Value)) (μ : α0 → α1 → Nat)
    (step : ∀ (x0 : α0) (x1 : α1) (H : Heap) (locs : List Loc) (ls : Array Slot), I x0 x1 → PP G (wd x0 x1) H → va_D A (wd x0 x1) → va_S A s.heap H locs → lv_has ls nL (lv x0 x1) → (∀ (y0 : α0) (y1 : α1) (H1 : Heap) (locs1 : List Loc) (ls1 : Array Slot), μ y0 y1 < μ x0 x1 → I y0 y1 → PP G (wd y0 y1) H1 → va_D A (wd y0 y1) → va_S A s.heap H1 locs1 → lv_has ls1 nL (lv y0 y1) → W p l e R s m args below meth c H1 locs1 cells slots Q (F0 m pc ls1 [])) → W p l e R s m args below meth c H locs cells slots Q (F0 m pc ls []))
    (x0 : α0) (x1 : α1) (hI : I x0 x1) (hP : PP G (wd x0 x1) H) (hD : va_D A (wd x0 x1)) (hS : va_S A s.heap H locs) (hl : lv_has ls nL (lv x0 x1)) : W p l e R s m args below meth c H locs cells slots Q (F0 m pc ls []) := by
  have go : ∀ (n : Nat) (x0 : α0) (x1 : α1) (H : Heap) (locs : List Loc) (ls : Array Slot), μ x0 x1 < n → I x0 x1 → PP G (wd x0 x1) H → va_D A (wd x0 x1) → va_S A s.heap H locs → lv_has ls nL (lv x0 x1) → W p l e R s m args below meth c H locs cells slots Q (F0 m pc ls []) := by
    intro n
    induction n with
    | zero => intro x0 x1 H locs ls h; exact absurd h (Nat.not_lt_zero _)
    | succ n ih =>
      intro x0 x1 H locs ls h h1 h2 h3 h4 h5
      exact step x0 x1 H locs ls h1 h2 h3 h4 h5 (fun y0 y1 H1 locs1 ls1 g => ih y0 y1 H1 locs1 ls1 (by omega))
  exact go _ x0 x1 H locs ls (Nat.lt_succ_self _) hI hP hD hS hl
theorem W_loop3 {α0 : Type} {α1 : Type} {α2 : Type} {nL : Nat} (I : α0 → α1 → α2 → Prop) (wd : α0 → α1 → α2 → va_W) (lv : α0 → α1 → α2 → List (Nat × Value)) (μ : α0 → α1 → α2 → Nat)
    (step : ∀ (x0 : α0) (x1 : α1) (x2 : α2) (H : Heap) (locs : List Loc) (ls : Array Slot), I x0 x1 x2 → PP G (wd x0 x1 x2) H → va_D A (wd x0 x1 x2) → va_S A s.heap H locs → lv_has ls nL (lv x0 x1 x2) → (∀ (y0 : α0) (y1 : α1) (y2 : α2) (H1 : Heap) (locs1 : List Loc) (ls1 : Array Slot), μ y0 y1 y2 < μ x0 x1 x2 → I y0 y1 y2 → PP G (wd y0 y1 y2) H1 → va_D A (wd y0 y1 y2) → va_S A s.heap H1 locs1 → lv_has ls1 nL (lv y0 y1 y2) → W p l e R s m args below meth c H1 locs1 cells slots Q (F0 m pc ls1 [])) → W p l e R s m args below meth c H locs cells slots Q (F0 m pc ls []))
    (x0 : α0) (x1 : α1) (x2 : α2) (hI : I x0 x1 x2) (hP : PP G (wd x0 x1 x2) H) (hD : va_D A (wd x0 x1 x2)) (hS : va_S A s.heap H locs) (hl : lv_has ls nL (lv x0 x1 x2)) : W p l e R s m args below meth c H locs cells slots Q (F0 m pc ls []) := by
  have go : ∀ (n : Nat) (x0 : α0) (x1 : α1) (x2 : α2) (H : Heap) (locs : List Loc) (ls : Array Slot), μ x0 x1 x2 < n → I x0 x1 x2 → PP G (wd x0 x1 x2) H → va_D A (wd x0 x1 x2) → va_S A s.heap H locs → lv_has ls nL (lv x0 x1 x2) → W p l e R s m args below meth c H locs cells slots Q (F0 m pc ls []) := by
    intro n
    induction n with
    | zero => intro x0 x1 x2 H locs ls h; exact absurd h (Nat.not_lt_zero _)
    | succ n ih =>
      intro x0 x1 x2 H locs ls h h1 h2 h3 h4 h5
      exact step x0 x1 x2 H locs ls h1 h2 h3 h4 h5 (fun y0 y1 y2 H1 locs1 ls1 g => ih y0 y1 y2 H1 locs1 ls1 (by omega))
  exact go _ x0 x1 x2 H locs ls (Nat.lt_succ_self _) hI hP hD hS hl
theorem W_loop4 {α0 : Type} {α1 : Type} {α2 : Type} {α3 : Type} {nL : Nat} (I : α0 → α1 → α2 → α3 → Prop) (wd : α0 → α1 → α2 → α3 → va_W) (lv : α0 → α1 → α2 → α3 → List (Nat × Value)) (μ : α0 → α1 → α2 → α3 → Nat)
    (step : ∀ (x0 : α0) (x1 : α1) (x2 : α2) (x3 : α3) (H : Heap) (locs : List Loc) (ls : Array Slot), I x0 x1 x2 x3 → PP G (wd x0 x1 x2 x3) H → va_D A (wd x0 x1 x2 x3) → va_S A s.heap H locs → lv_has ls nL (lv x0 x1 x2 x3) → (∀ (y0 : α0) (y1 : α1) (y2 : α2) (y3 : α3) (H1 : Heap) (locs1 : List Loc) (ls1 : Array Slot), μ y0 y1 y2 y3 < μ x0 x1 x2 x3 → I y0 y1 y2 y3 → PP G (wd y0 y1 y2 y3) H1 → va_D A (wd y0 y1 y2 y3) → va_S A s.heap H1 locs1 → lv_has ls1 nL (lv y0 y1 y2 y3) → W p l e R s m args below meth c H1 locs1 cells slots Q (F0 m pc ls1 [])) → W p l e R s m args below meth c H locs cells slots Q (F0 m pc ls []))
    (x0 : α0) (x1 : α1) (x2 : α2) (x3 : α3) (hI : I x0 x1 x2 x3) (hP : PP G (wd x0 x1 x2 x3) H) (hD : va_D A (wd x0 x1 x2 x3)) (hS : va_S A s.heap H locs) (hl : lv_has ls nL (lv x0 x1 x2 x3)) : W p l e R s m args below meth c H locs cells slots Q (F0 m pc ls []) := by
  have go : ∀ (n : Nat) (x0 : α0) (x1 : α1) (x2 : α2) (x3 : α3) (H : Heap) (locs : List Loc) (ls : Array Slot), μ x0 x1 x2 x3 < n → I x0 x1 x2 x3 → PP G (wd x0 x1 x2 x3) H → va_D A (wd x0 x1 x2 x3) → va_S A s.heap H locs → lv_has ls nL (lv x0 x1 x2 x3) → W p l e R s m args below meth c H locs cells slots Q (F0 m pc ls []) := by
    intro n
    induction n with
    | zero => intro x0 x1 x2 x3 H locs ls h; exact absurd h (Nat.not_lt_zero _)
    | succ n ih =>
      intro x0 x1 x2 x3 H locs ls h h1 h2 h3 h4 h5
      exact step x0 x1 x2 x3 H locs ls h1 h2 h3 h4 h5 (fun y0 y1 y2 y3 H1 locs1 ls1 g => ih y0 y1 y2 y3 H1 locs1 ls1 (by omega))
  exact go _ x0 x1 x2 x3 H locs ls (Nat.lt_succ_self _) hI hP hD hS hl
theorem W_loop5 {α0 : Type} {α1 : Type} {α2 : Type} {α3 : Type} {α4 : Type} {nL : Nat} (I : α0 → α1 → α2 → α3 → α4 → Prop) (wd : α0 → α1 → α2 → α3 → α4 → va_W) (lv : α0 → α1 → α2 → α3 → α4 → List (Nat × Value)) (μ : α0 → α1 → α2 → α3 → α4 → Nat)
    (step : ∀ (x0 : α0) (x1 : α1) (x2 : α2) (x3 : α3) (x4 : α4) (H : Heap) (locs : List Loc) (ls : Array Slot), I x0 x1 x2 x3 x4 → PP G (wd x0 x1 x2 x3 x4) H → va_D A (wd x0 x1 x2 x3 x4) → va_S A s.heap H locs → lv_has ls nL (lv x0 x1 x2 x3 x4) → (∀ (y0 : α0) (y1 : α1) (y2 : α2) (y3 : α3) (y4 : α4) (H1 : Heap) (locs1 : List Loc) (ls1 : Array Slot), μ y0 y1 y2 y3 y4 < μ x0 x1 x2 x3 x4 → I y0 y1 y2 y3 y4 → PP G (wd y0 y1 y2 y3 y4) H1 → va_D A (wd y0 y1 y2 y3 y4) → va_S A s.heap H1 locs1 → lv_has ls1 nL (lv y0 y1 y2 y3 y4) → W p l e R s m args below meth c H1 locs1 cells slots Q (F0 m pc ls1 [])) → W p l e R s m args below meth c H locs cells slots Q (F0 m pc ls []))
    (x0 : α0) (x1 : α1) (x2 : α2) (x3 : α3) (x4 : α4) (hI : I x0 x1 x2 x3 x4) (hP : PP G (wd x0 x1 x2 x3 x4) H) (hD : va_D A (wd x0 x1 x2 x3 x4)) (hS : va_S A s.heap H locs) (hl : lv_has ls nL (lv x0 x1 x2 x3 x4)) : W p l e R s m args below meth c H locs cells slots Q (F0 m pc ls []) := by
  have go : ∀ (n : Nat) (x0 : α0) (x1 : α1) (x2 : α2) (x3 : α3) (x4 : α4) (H : Heap) (locs : List Loc) (ls : Array Slot), μ x0 x1 x2 x3 x4 < n → I x0 x1 x2 x3 x4 → PP G (wd x0 x1 x2 x3 x4) H → va_D A (wd x0 x1 x2 x3 x4) → va_S A s.heap H locs → lv_has ls nL (lv x0 x1 x2 x3 x4) → W p l e R s m args below meth c H locs cells slots Q (F0 m pc ls []) := by
    intro n
    induction n with
    | zero => intro x0 x1 x2 x3 x4 H locs ls h; exact absurd h (Nat.not_lt_zero _)
    | succ n ih =>
      intro x0 x1 x2 x3 x4 H locs ls h h1 h2 h3 h4 h5
      exact step x0 x1 x2 x3 x4 H locs ls h1 h2 h3 h4 h5 (fun y0 y1 y2 y3 y4 H1 locs1 ls1 g => ih y0 y1 y2 y3 y4 H1 locs1 ls1 (by omega))
  exact go _ x0 x1 x2 x3 x4 H locs ls (Nat.lt_succ_self _) hI hP hD hS hl
theorem W_loop6 {α0 : Type} {α1 : Type} {α2 : Type} {α3 : Type} {α4 : Type} {α5 : Type} {nL : Nat} (I : α0 → α1 → α2 → α3 → α4 → α5 → Prop) (wd : α0 → α1 → α2 → α3 → α4 → α5 → va_W) (lv : α0 → α1 → α2 → α3 → α4 → α5 → List (Nat × Value)) (μ : α0 → α1 → α2 → α3 → α4 → α5 → Nat)
    (step : ∀ (x0 : α0) (x1 : α1) (x2 : α2) (x3 : α3) (x4 : α4) (x5 : α5) (H : Heap) (locs : List Loc) (ls : Array Slot), I x0 x1 x2 x3 x4 x5 → PP G (wd x0 x1 x2 x3 x4 x5) H → va_D A (wd x0 x1 x2 x3 x4 x5) → va_S A s.heap H locs → lv_has ls nL (lv x0 x1 x2 x3 x4 x5) → (∀ (y0 : α0) (y1 : α1) (y2 : α2) (y3 : α3) (y4 : α4) (y5 : α5) (H1 : Heap) (locs1 : List Loc) (ls1 : Array Slot), μ y0 y1 y2 y3 y4 y5 < μ x0 x1 x2 x3 x4 x5 → I y0 y1 y2 y3 y4 y5 → PP G (wd y0 y1 y2 y3 y4 y5) H1 → va_D A (wd y0 y1 y2 y3 y4 y5) → va_S A s.heap H1 locs1 → lv_has ls1 nL (lv y0 y1 y2 y3 y4 y5) → W p l e R s m args below meth c H1 locs1 cells slots Q (F0 m pc ls1 [])) → W p l e R s m args below meth c H locs cells slots Q (F0 m pc ls []))
    (x0 : α0) (x1 : α1) (x2 : α2) (x3 : α3) (x4 : α4) (x5 : α5) (hI : I x0 x1 x2 x3 x4 x5) (hP : PP G (wd x0 x1 x2 x3 x4 x5) H) (hD : va_D A (wd x0 x1 x2 x3 x4 x5)) (hS : va_S A s.heap H locs) (hl : lv_has ls nL (lv x0 x1 x2 x3 x4 x5)) : W p l e R s m args below meth c H locs cells slots Q (F0 m pc ls []) := by
  have go : ∀ (n : Nat) (x0 : α0) (x1 : α1) (x2 : α2) (x3 : α3) (x4 : α4) (x5 : α5) (H : Heap) (locs : List Loc) (ls : Array Slot), μ x0 x1 x2 x3 x4 x5 < n → I x0 x1 x2 x3 x4 x5 → PP G (wd x0 x1 x2 x3 x4 x5) H → va_D A (wd x0 x1 x2 x3 x4 x5) → va_S A s.heap H locs → lv_has ls nL (lv x0 x1 x2 x3 x4 x5) → W p l e R s m args below meth c H locs cells slots Q (F0 m pc ls []) := by
    intro n
    induction n with
    | zero => intro x0 x1 x2 x3 x4 x5 H locs ls h; exact absurd h (Nat.not_lt_zero _)
    | succ n ih =>
      intro x0 x1 x2 x3 x4 x5 H locs ls h h1 h2 h3 h4 h5
      exact step x0 x1 x2 x3 x4 x5 H locs ls h1 h2 h3 h4 h5 (fun y0 y1 y2 y3 y4 y5 H1 locs1 ls1 g => ih y0 y1 y2 y3 y4 y5 H1 locs1 ls1 (by omega))
  exact go _ x0 x1 x2 x3 x4 x5 H locs ls (Nat.lt_succ_self _) hI hP hD hS hl
end ORW
