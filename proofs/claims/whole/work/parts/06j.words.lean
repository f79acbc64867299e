/-! ===== the words, String constants of the class ===== -/
def lenW : List Nat := [4, 3, 5, 7, 5, 6, 5, 6, 7, 4, 4]
def bytW : List (List Int32) := [[99, 111, 111, 107], [98, 111, 121], [114, 101, 98, 101, 108], [112, 111, 97, 99, 104, 101, 114], [112, 117, 112, 105, 108], [108, 101, 97, 100, 101, 114], [110, 101, 101, 100, 115], [114, 101, 97, 115, 111, 110], [119, 97, 116, 99, 104, 101, 100], [101, 103, 103, 115], [108, 97, 105, 100]]
def wdL : List (List Nat) := [[99, 111, 111, 107], [98, 111, 121], [114, 101, 98, 101, 108], [112, 111, 97, 99, 104, 101, 114], [112, 117, 112, 105, 108], [108, 101, 97, 100, 101, 114], [110, 101, 101, 100, 115], [114, 101, 97, 115, 111, 110], [119, 97, 116, 99, 104, 101, 100], [101, 103, 103, 115], [108, 97, 105, 100]]
def poW : List Nat := [88, 92, 94, 96, 98, 100, 68, 78, 83, 47, 53]
def txW : List String := ["cook", "boy", "rebel", "poacher", "pupil", "leader", "needs", "reason", "watched", "eggs", "laid"]
def wdN (i k : Nat) : Nat := (wdL.getD i []).getD k 0
abbrev lnW (i : Nat) : Nat := lenW.getD i 0
theorem ln_shr : ∀ i, i < 11 → nI (lnW i) >>> (nI 0 &&& 31) = nI (lnW i) := by decide
theorem ln_le : ∀ i, i < 11 → 3 ≤ lnW i ∧ lnW i ≤ 7 := by decide
theorem ch_and : ∀ i, i < 11 → ∀ k, k < 7 → ((((bytW.getD i []).getD k 0) &&& nI 255).toUInt32 % 65536).toInt32 = nI (wdN i k) := by decide
theorem wd_lt : ∀ i, i < 11 → ∀ k, k < 7 → wdN i k < 256 := by decide
theorem wd_isL : ∀ i, i < 11 → ∀ k, k < lnW i → isL (wdN i k) := by decide
def wdQ (tb : Nat → Nat) (s i : Nat) : Nat → Bool := fun k => decide (¬ tb (s + k) = wdN i k)
abbrev isW (tb : Nat → Nat) (ln i s : Nat) : Prop := tyN tb ln s = 1 ∧ enN tb ln s - s = lnW i ∧ fstN (wdQ tb s i) (lnW i) = lnW i
def kiN (tb : Nat → Nat) (ln s : Nat) : Nat := fstN (fun k => decide (isW tb ln k s)) 6
def kiV (tb : Nat → Nat) (ln s : Nat) : Int32 := if kiN tb ln s < 6 then nI (kiN tb ln s) else (-1)
theorem nI_char : ∀ v, v < 256 → narrow .char (.int (nI v)) = .int (nI v) := by decide +kernel
def XS (adK adV : Nat → Nat) : XT := fun A U => vk_S 11 lenW bytW adK adV A U U.heap ∧ va_Z "java/lang/String" "COMPACT_STRINGS" "Z" (.int 1) A U U.heap ∧ va_Zq "jdk/internal/util/Preconditions" "SIOOBE_FORMATTER" "Ljava/util/function/BiFunction;" A U U.heap ∧ ∀ i, i < 11 → vk_R RX1 (poW.getD i 0) (txW.getD i "") (adK i) U
theorem XSB {adK adV : Nat → Nat} : XB (XS adK adV) := fun A U g mk a h => ⟨vk_S.moved (u := U) (U := U.calling g mk a) (Vm.Alike.refl U.vm) h.1, va_Z.moved (u := U) (U := U.calling g mk a) (Vm.Alike.refl U.vm) h.2.1, va_Zq.moved (u := U) (U := U.calling g mk a) (Vm.Alike.refl U.vm) h.2.2.1, fun i hi => vk_R.same (u := U) (U := U.calling g mk a) rfl (h.2.2.2 i hi)⟩
theorem XS_at {adK adV : Nat → Nat} {A : Nat → Prop} {s : State} {H : Heap} {locs : List Loc} {ws wc : va_W} (hX : XS adK adV A s) (hS : va_S A s.heap H locs) (hD : va_D A ws) (hA : ∀ q, s.heap.size ≤ q → A q) (isC : List Nat) (hC : isC.map (fun i => ws[i]?) = wc.map some) (U : State) (hU : U.heap = H) (hW : s.WarmedH U.vm) : XS adK adV (va_A wc H.size) U := by
  have hf := va_free (wc := wc) hD hS hA isC hC
  have hk : ∀ a : Nat, a < s.heap.size → ¬ A a → U.heap[a]? = s.heap[a]? := fun a h1 h2 => by rw [hU]; exact hS.2.1 a h1 h2
  exact ⟨((hX.1.moved hW.alike).kept hk).narrow hf, ((hX.2.1.moved hW.alike).kept hk).narrow hf, ((hX.2.2.1.moved hW.alike).kept hk).narrow hf, fun i hi => (hX.2.2.2 i hi).warm hW⟩
section OWQ
variable {p : Program} {l : Launch} {e : Env} {R : Room} {s : State} {m : MethodId} {args : Array Value} {below : List Frame} {meth : Method} {c : Code} {H : Heap} {locs : List Loc} {cells slots : Nat} {Q : State → Prop}
variable {cc : ByteArray} {pc : Nat} {ls : Array Slot} {rest st : List Value} {A : Nat → Prop} {G : GT} {ws wc : va_W}
theorem callQI {S : Type} {X : XT} {y : MethodName} {bytes : ByteArray} {maxL nL n index : Nat} {ret : Option FieldType} {wsy Ts : List Cond} {rm : Room} {own C : String} {b : Nat} {As : List Value} {ok : S → Prop} {R1 : S → Int32} {w1 wn : S → va_W} (fx : CallFix p m c cc nL s args Ts own) (hM : MI l G X y wsy rm (.ref b :: As) wc H.size ok R1 w1) (cw : CallW R s args own C index y bytes maxL ret wsy rm rm.cells rm.slots n)
    (hXb : XB X) (hX : ∀ U : State, U.heap = H → s.WarmedH U.vm → X (va_A wc H.size) U) (hK : KK G s) (hP : PP G ws H) (hD : va_D A ws) (hS : va_S A s.heap H locs) (hA : ∀ q, s.heap.size ≤ q → A q) (hrc : ∃ cell : Cell, H[b]? = some cell ∧ cell.vm.isStatics = false ∧ s.vm.findClass C = some cell.cls) (hn : As.length = n) (hsize : ls.size = nL) (hst : st = As.reverse ++ .ref b :: rest) (hW : (rest.map fun v => v.category).sum ≤ 8) (hdg : decode cc pc = .ok (.invokevirtual index, 3)) (hf : cells + rm.cells ≤ R.cells ∧ slots + rm.slots ≤ R.slots) (isC : List Nat) (hC : isC.map (fun i => ws[i]?) = wc.map some) (hnd : va_nd isC = true)
    (fa : List Nat) (hfa : wc.map Prod.fst = fa) (hfst : ∀ u, (w1 u).map Prod.fst = fa) (hwn : ∀ u, rpl ws isC (w1 u) = wn u)
    (kk : ∀ (u : S) (H1 : Heap) (locs1 : List Loc), ok u → PP G (wn u) H1 → va_D A (wn u) → va_S A s.heap H1 locs1 → W p l e R s m args below meth c H1 locs1 (cells + rm.cells) (slots + rm.slots) Q (F0 m (pc + 3) ls (.int (R1 u) :: rest))) : W p l e R s m args below meth c H locs cells slots Q (F0 m pc ls st) := by
  have hPc : PP G wc H := fun k q hq => by
    have h1 : (isC.map (fun i => ws[i]?))[k]? = some (some q) := by rw [hC, List.getElem?_map, hq]; rfl
    rw [List.getElem?_map] at h1
    cases hi : isC[k]? with
    | none => rw [hi] at h1; cases h1
    | some i => rw [hi] at h1; exact hP i q (Option.some.inj h1)
  have hDc : va_D A wc := hD.sub isC hnd hC
  have hFc := va_free (wc := wc) hD hS hA isC hC
  refine va_calli (va_runV (As := As) (rest := rest) fx hM cw ⟨PreM_blind hXb, hrc, PreM_at hK hPc hDc hX⟩ rfl hn hsize hst (lv_room hW) hdg hf) hS (fun q _ h => hFc q h) hFc (fun r u t H1 locs1 ht hvm hq hB hz hk hS1 => ?_)
  obtain ⟨hq, rfl⟩ := hq
  obtain ⟨hP1, hD1⟩ := hB
  rw [ht] at hP1
  obtain ⟨hP2, hD2⟩ := va_rplJ hP hD isC hC ((hfst u).trans hfa.symm) hk hP1
  rw [hwn u] at hP2 hD2
  exact kk u H1 locs1 hq hP2 hD2 hS1
end OWQ
