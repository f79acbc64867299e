/-! ===== as ===== -/
def abN (j : Nat) : Value := if j = 0 then .int (-1) else if j = 4 then .int (nI 1) else if j = 5 then .int (nI 2) else .int (nI 0)
def XZ (t : Nat) : XT := fun A U => va_Z RX2 "ABOVE" "[I" (.ref t) A U U.heap ∧ va_T .int t 6 abN A U U.heap
theorem XZB {t : Nat} : XB (XZ t) := fun A U g mk a h => ⟨va_Z.moved (u := U) (U := U.calling g mk a) (Vm.Alike.refl U.vm) h.1, va_T.moved (u := U) (U := U.calling g mk a) (Vm.Alike.refl U.vm) h.2⟩
theorem XZ_at {t : Nat} {A : Nat → Prop} {s : State} {H : Heap} {locs : List Loc} {ws wc : va_W} (hX : XZ t A s) (hS : va_S A s.heap H locs) (hD : va_D A ws) (hA : ∀ q, s.heap.size ≤ q → A q) (isC : List Nat) (hC : isC.map (fun i => ws[i]?) = wc.map some) (U : State) (hU : U.heap = H) (hW : s.WarmedH U.vm) : XZ t (va_A wc H.size) U := by
  have hf := va_free (wc := wc) hD hS hA isC hC
  have hk : ∀ a : Nat, a < s.heap.size → ¬ A a → U.heap[a]? = s.heap[a]? := fun a h1 h2 => by rw [hU]; exact hS.2.1 a h1 h2
  exact ⟨((hX.1.moved hW.alike).kept hk).narrow hf, ((hX.2.moved hW.alike).kept hk).narrow hf⟩
