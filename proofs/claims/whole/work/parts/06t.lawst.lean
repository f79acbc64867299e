/-! ===== the law: what stands between two calls ===== -/
theorem ph_0 {tb : Nat → Nat} {ln w g p c s : Nat} {σ : Sg} : (phN tb ln w g p c s σ).2.2 0 = σ 0 := by
  unfold phN
  split
  · split
    · exact un_ps (by decide)
    · rfl
  · rfl
theorem ps_0 {tb : Nat → Nat} {ln kd s : Nat} {σ : Sg} : (psN tb ln kd s σ).2.2 0 = σ 0 := by
  have a : (psA tb ln kd s σ).2.2 0 = σ 0 := ph_0.trans (by rw [add_at (by decide)]; rfl)
  have b : (psB tb ln kd s σ).2.2 0 = σ 0 := ph_0.trans a
  have c : (psC tb ln kd s σ).2.2 0 = σ 0 := ph_0.trans b
  unfold psN
  split
  · split
    · split
      · exact c
      · exact b
    · exact a
  · rfl
theorem eg_0 {tb : Nat → Nat} {ln g f s : Nat} {σ : Sg} (hf : ¬ 0 = f) : (egN tb ln g f s σ).2.2 0 = σ 0 := by
  unfold egN
  split
  · exact un_n hf
  · rfl
theorem it_0 {tb : Nat → Nat} {ln s : Nat} {σ : Sg} : (itN tb ln s σ).2.2 0 = σ 0 := by
  unfold itN
  split
  · exact ps_0
  · split
    · exact eg_0 (by decide)
    · split
      · exact eg_0 (by decide)
      · rfl
theorem hd_z {tb : Nat → Nat} {ln : Nat} {σ : Sg} (n : Nat) : (hdN tb ln σ n).2 0 = σ 0 := by
  induction n with
  | zero => rfl
  | succ n ih => rw [hd_2, it_0, ih]
theorem tx_z {tb : Nat → Nat} {ln : Nat} {σ : Sg} : (txN tb ln σ).2.2 0 = σ 0 := by
  unfold txN iaN
  rw [it_0, hd_z]
abbrev IP (σ : Sg) : Prop := Inv σ ∧ σ 0 ≤ 9999
theorem hs_P {e : Nat} {σ' σ : Sg} {P : Sg → Prop} (h : P σ) (h1 : e = 7 → P σ') : P (hs e σ' σ) := by
  unfold hs
  split
  · rename_i q; exact h1 q
  · exact h
theorem ip_house {σ : Sg} {w v : Int} (h : IP σ) : IP (hs (house_e w v) (un σ (1 + w.toNat) v.toNat) σ) := hs_P h (fun q => by
  unfold house_e at q
  split at q
  · rename_i z
    rcases z with ⟨rfl, a, b⟩ | ⟨rfl, a, b⟩ | ⟨rfl, a, b⟩
    · exact ⟨Inv.un1 h.1 (by omega), by show un σ 1 _ 0 ≤ _; rw [un_n (by decide)]; exact h.2⟩
    · exact ⟨Inv.un2 h.1 (by omega), by show un σ 2 _ 0 ≤ _; rw [un_n (by decide)]; exact h.2⟩
    · exact ⟨Inv.un3 h.1 (by omega), by show un σ 3 _ 0 ≤ _; rw [un_n (by decide)]; exact h.2⟩
  · omega)
theorem ip_person {σ : Sg} {k : Int} (h : IP σ) : IP (hs (person_e σ k) (addN σ k.toNat) σ) := hs_P h (fun q => by
  unfold person_e at q
  split at q
  · split at q
    · exact ⟨add_Inv h.1 (by assumption) (by omega), by rw [add_at (by decide)]; exact h.2⟩
    · omega
  · omega)
theorem ip_set {σ : Sg} {p w v : Int} (h : IP σ) : IP (hs (set_e σ p w v) (un σ (pl p.toNat w.toNat) v.toNat) σ) := hs_P h (fun q => by
  unfold set_e at q
  split at q
  · rename_i z
    exact ⟨Inv.unp h.1 (by omega) (by omega), by rw [un_ps (by decide)]; exact h.2⟩
  · omega)
theorem ip_turn {σ : Sg} {p k : Int} (h : IP σ) : IP (hs (turn_e σ p k) (un σ (pl p.toNat 0) k.toNat) σ) := hs_P h (fun q => by
  unfold turn_e at q
  split at q
  · rename_i z
    exact ⟨Inv.unp h.1 (by omega) (by omega), by rw [un_ps (by decide)]; exact h.2⟩
  · omega)
theorem ip_swap {σ : Sg} {p k : Int} (h : IP σ) : IP (hs (swap_e σ p k) (swapN σ p.toNat k.toNat) σ) := hs_P h (fun q => by
  unfold swap_e at q
  have h5 := h.1.1.2.2.2.2
  split at q
  · rename_i z
    exact ⟨swap_Inv h.1 (by omega) (by omega), by rw [swap_s (by decide)]; exact h.2⟩
  · omega)
theorem ip_breaks {σ : Sg} {p n : Int} (h : IP σ) : IP (hs (breaks_e σ p n) (crackN σ p.toNat n.toNat) σ) := hs_P h (fun q => by
  unfold breaks_e at q
  split at q
  · split at q
    · omega
    · exact ⟨crack_Inv h.1 (by omega), by rw [(crack_0 σ _ _).1]; exact h.2⟩
  · omega)
theorem ip_days {σ : Sg} {n : Int} (h : IP σ) : IP (hs (days_e σ n) (daysN n.toNat σ) σ) := hs_P h (fun q => by
  unfold days_e at q
  split at q
  · split at q
    · omega
    · exact ⟨days_Inv h.1 _, by rw [(days_0 σ _).1]; omega⟩
  · omega)
theorem ip_lays {σ : Sg} {nb : Nat → Int64} {s e n : Nat} (h : IP σ) : IP (hs e (layN nb s σ n).1 σ) := hs_P h (fun _ => ⟨lay_Inv nb s h.1 n, by rw [lay_s nb s σ (by decide)]; exact h.2⟩)
theorem ip_undo {σ κ : Sg} {e : Nat} (h : IP σ) (h1 : IP κ) : IP (hs e κ σ) := hs_P h (fun _ => h1)
theorem ip_text {σ : Sg} {tb : Nat → Nat} {ln : Nat} (h : IP σ) : IP (if txI tb ln σ then (txN tb ln σ).2.2 else σ) := by
  split
  · exact ⟨tx_Inv h.1, by rw [tx_z]; exact h.2⟩
  · exact h
theorem si_sheet {wd zs : Nat → Nat} {s w n : Int} (h : SInv wd zs) : SInv (hs (sheet_e s w n) (un wd s.toNat w.toNat) wd) (hs (sheet_e s w n) (un zs s.toNat (if w.toNat = 0 then 0 else n.toNat)) zs) := by
  unfold hs
  split
  · rename_i q
    unfold sheet_e at q
    intro j hj
    have a := h j hj
    split at q
    · rename_i z
      rw [un_eq, un_eq]
      (repeat' split) <;> (repeat' split at q) <;> omega
    · omega
  · exact h
theorem tb_feed {tb : Nat → Nat} (h : ∀ j, tb j < 256) {e ln k : Nat} {v : Int32} {n : Nat} : ∀ j, hs e (feedN tb v n ln k) tb j < 256 := by
  unfold hs
  split
  · exact feed_lt h v n ln k
  · exact h
theorem z_feed0 {ζ : Nat → Nat} {e v : Nat} : (hs e (un ζ 1 v) ζ) 0 = ζ 0 := by
  unfold hs
  split
  · exact un_n (by decide)
  · rfl
theorem z_feed1 {ζ : Nat → Nat} {e v : Nat} : (hs e (un ζ 1 v) ζ) 1 = hn e v (ζ 1) := by
  unfold hs hn
  split
  · exact un_s
  · rfl
theorem feed_120 {ln : Nat} {n : Int} (h : ln ≤ 120) : hn (feed_e ln n) (ln + n.toNat) ln ≤ 120 := by
  unfold hn
  split
  · rename_i q
    unfold feed_e at q
    split at q
    · split at q <;> omega
    · omega
  · exact h
theorem un_rs {z : Nat} {κ κ' : Sg} (h1 : z ≤ 1) (h : z = 1 → κ' = κ) : rs (undo_e z) (nI (κ' 5)) = rs (undo_e z) (nI (κ 5)) := by
  by_cases e : z = 1
  · rw [h e]
  · unfold rs undo_e
    rw [if_pos (show z = 0 by omega), if_neg (by decide), if_neg (by decide)]
theorem un_hs {z : Nat} {κ κ' σ : Sg} (h1 : z ≤ 1) (h : z = 1 → κ' = κ) : hs (undo_e z) κ' σ = hs (undo_e z) κ σ := by
  by_cases e : z = 1
  · rw [h e]
  · unfold hs undo_e
    rw [if_pos (show z = 0 by omega), if_neg (by decide), if_neg (by decide)]
def LInv (σ κ κ' ζ tb wd zs : Nat → Nat) : Prop := IP σ ∧ IP κ ∧ (κ' 5 ≤ 8 ∧ (ζ 0 = 1 → κ' = κ)) ∧ (ζ 0 ≤ 1 ∧ ζ 1 ≤ 120) ∧ (∀ j, tb j < 256) ∧ SInv wd zs
theorem sub6_T : ∀ a, a < 6 → (nI a - nI 6).toInt = (a : Int) - 6 := by decide +kernel
theorem len_T {a : Nat} (ha : a < 2147483648) : (nI a - nI 6).toInt = (a : Int) - 6 := by
  rcases Nat.lt_or_ge a 6 with h | h
  · exact sub6_T a h
  · rw [pk_sub h, nI_T (by omega)]; omega
theorem nI_six (j : Nat) : nI (6 * j) + Int32.ofInt 6 = nI (6 * (j + 1)) := nI_add (6 * j) 6
section OLW
variable {p : Program} {l : Launch} {e : Env} {R : Room} {s : State} {m : MethodId} {args : Array Value} {below : List Frame} {meth : Method} {c : Code} {H : Heap} {locs : List Loc} {cells slots : Nat} {Q : State → Prop}
variable {cc : ByteArray} {pc : Nat} {ls : Array Slot} {rest : List Value} {A : Nat → Prop}
theorem n_sld (hx : p.tables.exec = Jvm.exec) (hb : c.code = cc) {b L : Nat} {xs : Nat → Int32} (hX : va_X b L xs s s.heap) (hbl : b < s.heap.size) (hbA : ¬ A b) (hS : va_S A s.heap H locs) {i : Nat} (hi : i < L) (hi2 : i < 2147483648) (hdg : decode cc pc = .ok (.iaload, 1))
    (k : W p l e R s m args below meth c H locs cells slots Q (F0 m (pc + 1) ls (.int (xs i) :: rest))) : W p l e R s m args below meth c H locs cells slots Q (F0 m pc ls (.int (nI i) :: .ref b :: rest)) := by
  refine va_sld hx hb hX hbl hbA hS (vp_in_iff.mpr (by rw [nI_T hi2]; omega)) hdg ?_
  rw [nI_C hi2]
  exact k
end OLW
