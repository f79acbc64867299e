/-! ===== own rows: the frame in which every method is walked ===== -/
abbrev GT : Type := va_G × ClassId × ClassId × ClassId
abbrev gtys (G : GT) : List (ClassId × FieldType) := [(G.2.1, .int), (G.2.2.1, .long), (G.2.2.2, .char)]
abbrev KK (G : GT) (U : State) : Prop := va_K G.1 vwCl (gtys G) U
abbrev PP (G : GT) (ws : va_W) (H : Heap) : Prop := va_P G.1 vwCl ws H
abbrev XT : Type := (Nat → Prop) → State → Prop
def noX : XT := fun _ _ => True
def XB (X : XT) : Prop := ∀ (A : Nat → Prop) (U : State) (g : JFrame) (mk : MethodId) (a : Array Value), X A U → X A (U.calling g mk a)
theorem noXB : XB noX := fun _ _ _ _ _ h => h
def PreM (G : GT) (X : XT) (As : List Value) (wc : va_W) (sz : Nat) : Array Value → State → Prop :=
  va_Pc As (fun U => U.heap.size = sz ∧ PP G wc U.heap ∧ KK G U ∧ va_D (fun _ => True) wc ∧ X (va_A wc sz) U)
abbrev WB {S : Type} (G : GT) (A : Nat → Prop) (w1 : S → va_W) : S → State → Prop := fun u t => PP G (w1 u) t.heap ∧ va_D A (w1 u)
def MI {S : Type} (l : Launch) (G : GT) (X : XT) (y : MethodName) (ws : List Cond) (rm : Room) (As : List Value) (wc : va_W) (sz : Nat) (ok : S → Prop) (R : S → Int32) (w1 : S → va_W) : Prop :=
  Met l y ws rm (PreM G X As wc sz) (va_Qi (fun r u => ok u ∧ r = R u) (WB G (va_A wc sz) w1) (va_A wc sz)) rm.cells rm.slots (va_A wc sz)
def ML {S : Type} (l : Launch) (G : GT) (X : XT) (y : MethodName) (ws : List Cond) (rm : Room) (As : List Value) (wc : va_W) (sz : Nat) (ok : S → Prop) (R : S → Int64) (w1 : S → va_W) : Prop :=
  Met l y ws rm (PreM G X As wc sz) (va_Ql (fun r u => ok u ∧ r = R u) (WB G (va_A wc sz) w1) (va_A wc sz)) rm.cells rm.slots (va_A wc sz)
def MV {S : Type} (l : Launch) (G : GT) (X : XT) (y : MethodName) (ws : List Cond) (rm : Room) (As : List Value) (wc : va_W) (sz : Nat) (ok : S → Prop) (w1 : S → va_W) : Prop :=
  Met l y ws rm (PreM G X As wc sz) (va_Qv ok (WB G (va_A wc sz) w1) (va_A wc sz)) rm.cells rm.slots (va_A wc sz)
theorem PreM_blind {G : GT} {X : XT} {As : List Value} {wc : va_W} {sz : Nat} (hX : XB X) : FrameBlind (PreM G X As wc sz) := by
  intro a U g mk q
  obtain ⟨q0, q1, qP, qK, qD, qX⟩ := q
  exact ⟨q0, q1, qP, va_K.moved (u := U) (U := U.calling g mk a) (Vm.Alike.refl U.vm) qK, qD, hX _ _ _ _ _ qX⟩
theorem PreM_at {G : GT} {X : XT} {As : List Value} {wc : va_W} {s : State} {H : Heap} {A : Nat → Prop} (hK : KK G s) (hP : PP G wc H) (hD : va_D A wc) (hX : ∀ U : State, U.heap = H → s.WarmedH U.vm → X (va_A wc H.size) U) (U : State) (hU : U.heap = H) (hW : s.WarmedH U.vm) : PreM G X As wc H.size As.toArray U :=
  ⟨rfl, by rw [hU], by rw [hU]; exact hP, va_K.moved hW.alike hK, hD.weaken (fun _ _ _ _ => trivial), hX U hU hW⟩

theorem MI_enter {S : Type} {l : Launch} {G : GT} {X : XT} {y : MethodName} {ws ws' : List Cond} {rm : Room} {As : List Value} {wc : va_W} {sz : Nat} {ok : S → Prop} {R : S → Int32} {w1 : S → va_W} {cc : ByteArray} {maxL : Nat} {ret : Option FieldType} (hy : plainName y.cls = true) (hw : ws = Cond.code y cc maxL ret :: ws') (hn : (lg_sl As).length ≤ maxL)
    (body : ∀ (p : Program) (e : Env) (s : State) (m : MethodId) (below : List Frame) (meth : Method) (c : Code) (A : Nat → Prop) (ls : Array Slot) (H : Heap), p.tables.exec = Jvm.exec → c.code = cc → meth.sig.returnType = ret → meth.locks = false → c.maxLocals = maxL → s.vm.findClass y.cls = some m.cls → (∀ w ∈ ws, w.before As.toArray s = true) → (∀ q, s.heap.size ≤ q → A q) → va_S A s.heap H [] → PP G wc H → KK G s → va_D A wc → X A s → lv_has ls maxL (lv_args 0 As) → meth.name = y.name →
      W p l e rm s m As.toArray below meth c H [] 0 0 (MQ below (va_Qi (fun r u => ok u ∧ r = R u) (WB G A w1) A) As.toArray s rm.cells rm.slots A) (F0 m 0 ls [])) : MI l G X y ws rm As wc sz ok R w1 := by
  refine Met.ofW (cc := cc) (maxL := maxL) (ret := ret) hy hw ?_
  intro p e s m args below meth c s₁ B hml hv
  obtain ⟨rfl, hsz, hP, hK, hD0, hX⟩ := hv
  have hts := atoms_spec (ws := ws) B.pre
  have hl := lv_entry As (n := maxL) hn
  rw [lg_entry_eq]
  generalize (lg_sl As ++ List.replicate (maxL - (lg_sl As).length) Slot.unset).toArray = ls at hl ⊢
  exact body p e s m below meth c _ ls s.heap B.exec B.bytes B.returns B.notSynchronized hml (findClass_of_methodNamed B.named) hts (fun q h => Or.inr (by rw [← hsz]; exact h)) va_S.rf hP hK hD0.self hX hl (name_of_methodNamed B.named B.method).1

theorem ML_enter {S : Type} {l : Launch} {G : GT} {X : XT} {y : MethodName} {ws ws' : List Cond} {rm : Room} {As : List Value} {wc : va_W} {sz : Nat} {ok : S → Prop} {R : S → Int64} {w1 : S → va_W} {cc : ByteArray} {maxL : Nat} {ret : Option FieldType} (hy : plainName y.cls = true) (hw : ws = Cond.code y cc maxL ret :: ws') (hn : (lg_sl As).length ≤ maxL)
    (body : ∀ (p : Program) (e : Env) (s : State) (m : MethodId) (below : List Frame) (meth : Method) (c : Code) (A : Nat → Prop) (ls : Array Slot) (H : Heap), p.tables.exec = Jvm.exec → c.code = cc → meth.sig.returnType = ret → meth.locks = false → c.maxLocals = maxL → s.vm.findClass y.cls = some m.cls → (∀ w ∈ ws, w.before As.toArray s = true) → (∀ q, s.heap.size ≤ q → A q) → va_S A s.heap H [] → PP G wc H → KK G s → va_D A wc → X A s → lv_has ls maxL (lv_args 0 As) → meth.name = y.name →
      W p l e rm s m As.toArray below meth c H [] 0 0 (MQ below (va_Ql (fun r u => ok u ∧ r = R u) (WB G A w1) A) As.toArray s rm.cells rm.slots A) (F0 m 0 ls [])) : ML l G X y ws rm As wc sz ok R w1 := by
  refine Met.ofW (cc := cc) (maxL := maxL) (ret := ret) hy hw ?_
  intro p e s m args below meth c s₁ B hml hv
  obtain ⟨rfl, hsz, hP, hK, hD0, hX⟩ := hv
  have hts := atoms_spec (ws := ws) B.pre
  have hl := lv_entry As (n := maxL) hn
  rw [lg_entry_eq]
  generalize (lg_sl As ++ List.replicate (maxL - (lg_sl As).length) Slot.unset).toArray = ls at hl ⊢
  exact body p e s m below meth c _ ls s.heap B.exec B.bytes B.returns B.notSynchronized hml (findClass_of_methodNamed B.named) hts (fun q h => Or.inr (by rw [← hsz]; exact h)) va_S.rf hP hK hD0.self hX hl (name_of_methodNamed B.named B.method).1

theorem MV_enter {S : Type} {l : Launch} {G : GT} {X : XT} {y : MethodName} {ws ws' : List Cond} {rm : Room} {As : List Value} {wc : va_W} {sz : Nat} {ok : S → Prop} {w1 : S → va_W} {cc : ByteArray} {maxL : Nat} {ret : Option FieldType} (hy : plainName y.cls = true) (hw : ws = Cond.code y cc maxL ret :: ws') (hn : (lg_sl As).length ≤ maxL)
    (body : ∀ (p : Program) (e : Env) (s : State) (m : MethodId) (below : List Frame) (meth : Method) (c : Code) (A : Nat → Prop) (ls : Array Slot) (H : Heap), p.tables.exec = Jvm.exec → c.code = cc → meth.sig.returnType = ret → meth.locks = false → c.maxLocals = maxL → s.vm.findClass y.cls = some m.cls → (∀ w ∈ ws, w.before As.toArray s = true) → (∀ q, s.heap.size ≤ q → A q) → va_S A s.heap H [] → PP G wc H → KK G s → va_D A wc → X A s → lv_has ls maxL (lv_args 0 As) → meth.name = y.name →
      W p l e rm s m As.toArray below meth c H [] 0 0 (MQ below (va_Qv ok (WB G A w1) A) As.toArray s rm.cells rm.slots A) (F0 m 0 ls [])) : MV l G X y ws rm As wc sz ok w1 := by
  refine Met.ofW (cc := cc) (maxL := maxL) (ret := ret) hy hw ?_
  intro p e s m args below meth c s₁ B hml hv
  obtain ⟨rfl, hsz, hP, hK, hD0, hX⟩ := hv
  have hts := atoms_spec (ws := ws) B.pre
  have hl := lv_entry As (n := maxL) hn
  rw [lg_entry_eq]
  generalize (lg_sl As ++ List.replicate (maxL - (lg_sl As).length) Slot.unset).toArray = ls at hl ⊢
  exact body p e s m below meth c _ ls s.heap B.exec B.bytes B.returns B.notSynchronized hml (findClass_of_methodNamed B.named) hts (fun q h => Or.inr (by rw [← hsz]; exact h)) va_S.rf hP hK hD0.self hX hl (name_of_methodNamed B.named B.method).1

/-! worlds: cells put in for others at the same addresses -/
def rpl : va_W → List Nat → va_W → va_W
  | ws, i :: is, c :: cs => rpl (ws.set i c) is cs
  | ws, _, _ => ws
theorem va_D_fst {A : Nat → Prop} {w1 w2 : va_W} (hf : w2.map Prod.fst = w1.map Prod.fst) (h : va_D A w1) : va_D A w2 := by
  have look : ∀ (k : Nat) (q : Nat × va_E), w2[k]? = some q → ∃ q', w1[k]? = some q' ∧ q'.1 = q.1 := by
    intro k q hq
    have h1 : (w2.map Prod.fst)[k]? = some q.1 := by rw [List.getElem?_map, hq]; rfl
    rw [hf, List.getElem?_map] at h1
    cases hw : w1[k]? with
    | none => rw [hw] at h1; cases h1
    | some q' => rw [hw] at h1; exact ⟨q', rfl, Option.some.inj h1⟩
  refine ⟨fun i j p q hi hj hpq => ?_, fun k q hk => ?_⟩
  · obtain ⟨p', a1, a2⟩ := look i p hi
    obtain ⟨q', b1, b2⟩ := look j q hj
    exact h.1 i j p' q' a1 b1 (by rw [a2, b2]; exact hpq)
  · obtain ⟨q', a1, a2⟩ := look k q hk
    rw [← a2]
    exact h.2 k q' a1
theorem set_fst {ws : va_W} {i : Nat} {c : Nat × va_E} (h : (ws.map Prod.fst)[i]? = some c.1) : (ws.set i c).map Prod.fst = ws.map Prod.fst := by
  rw [List.map_set]
  apply List.ext_getElem?
  intro k
  rw [List.getElem?_set]
  split
  · rename_i hk
    subst hk
    split
    · exact h.symm
    · rename_i h2
      exact (List.getElem?_eq_none (by omega)).symm
  · rfl
theorem rpl_fst : ∀ (is : List Nat) (cs ws : va_W), is.map (fun i => (ws.map Prod.fst)[i]?) = cs.map (fun c => some c.1) → (rpl ws is cs).map Prod.fst = ws.map Prod.fst
  | [], cs, ws, _ => by cases cs <;> rfl
  | i :: is, [], ws, h => by simp at h
  | i :: is, c :: cs, ws, h => by
    simp only [List.map_cons, List.cons.injEq] at h
    have e := set_fst h.1
    show (rpl (ws.set i c) is cs).map Prod.fst = _
    rw [rpl_fst is cs (ws.set i c) (by rw [e]; exact h.2), e]
theorem rpl_at : ∀ (is : List Nat) (cs ws : va_W), is.length = cs.length → ∀ (k : Nat) (q : Nat × va_E), (rpl ws is cs)[k]? = some q → q ∈ cs ∨ (k ∉ is ∧ ws[k]? = some q)
  | [], cs, ws, _, k, q, h => by
    refine Or.inr ⟨List.not_mem_nil, ?_⟩
    cases cs <;> exact h
  | i :: is, [], ws, hl, k, q, h => by simp at hl
  | i :: is, c :: cs, ws, hl, k, q, h => by
    rcases rpl_at is cs (ws.set i c) (by simpa using hl) k q h with h1 | ⟨h1, h2⟩
    · exact Or.inl (List.mem_cons_of_mem _ h1)
    · rw [List.getElem?_set] at h2
      split at h2
      · rename_i hk
        split at h2
        · exact Or.inl (by cases h2; exact List.mem_cons_self)
        · cases h2
      · rename_i hk
        exact Or.inr ⟨fun hm => by rcases List.mem_cons.mp hm with e | e; exact hk e.symm; exact h1 e, h2⟩
theorem va_rplJ {A : Nat → Prop} {G : GT} {ws wc w1 : va_W} {H H1 : Heap} (hP : PP G ws H) (hD : va_D A ws) (isC : List Nat) (hC : isC.map (fun i => ws[i]?) = wc.map some) (hf : w1.map Prod.fst = wc.map Prod.fst)
    (hk : ∀ q : Nat, q < H.size → ¬ va_A wc H.size q → H1[q]? = H[q]?) (hP1 : PP G w1 H1) : PP G (rpl ws isC w1) H1 ∧ va_D A (rpl ws isC w1) := by
  have hlen : isC.length = w1.length := by
    have a := congrArg List.length hC
    have b := congrArg List.length hf
    simp at a b
    omega
  have hfst : isC.map (fun i => (ws.map Prod.fst)[i]?) = w1.map (fun c => some c.1) := by
    have a := congrArg (List.map (Option.map Prod.fst)) hC
    simp only [List.map_map] at a
    have e1 : isC.map (fun i => (ws.map Prod.fst)[i]?) = isC.map (Option.map Prod.fst ∘ fun i => ws[i]?) := by
      apply List.map_congr_left
      intro i _
      simp [List.getElem?_map]
    rw [e1, a]
    have e2 : (Option.map Prod.fst ∘ some : Nat × va_E → Option Nat) = some ∘ Prod.fst := rfl
    have e3 : (fun c : Nat × va_E => some c.1) = some ∘ Prod.fst := rfl
    rw [e2, e3, ← List.map_map, ← List.map_map, hf]
  refine ⟨fun k q hq => ?_, va_D_fst (rpl_fst isC w1 ws hfst) hD⟩
  rcases rpl_at isC w1 ws hlen k q hq with h | ⟨h1, h2⟩
  · obtain ⟨j, hj⟩ := List.getElem?_of_mem h
    exact hP1 j q hj
  · refine (hP k q h2).kept (hk q.1 (hP k q h2).lt ?_)
    rintro (⟨k2, e, h⟩ | h)
    · have h3 : (isC.map (fun i => ws[i]?))[k2]? = some (some (q.1, e)) := by rw [hC, List.getElem?_map, h]; rfl
      rw [List.getElem?_map] at h3
      cases hi : isC[k2]? with
      | none => rw [hi] at h3; cases h3
      | some i =>
        rw [hi] at h3
        have hij := hD.1 k i q (q.1, e) h2 (Option.some.inj h3) rfl
        subst hij
        exact h1 (List.mem_of_getElem? hi)
    · have := (hP k q h2).lt
      omega
/-- an array's contents beyond its length are nobody's -/
theorem arrV_congr {cA : ClassId} {n : Nat} {f g : Nat → Value} (h : ∀ j, j < n → f j = g j) : arrV cA n f = arrV cA n g := by
  unfold arrV
  congr 1
  apply Array.ext
  · simp
  · intro i h1 h2
    simp at h1 ⊢
    exact h i h1
def eqE (a b : va_E) : Prop := match a, b with
  | .inl (cA, n, .inl f), .inl (cB, k, .inl g) => cA = cB ∧ n = k ∧ ∀ j, j < n → f j = g j
  | .inl (cA, n, .inr (.inl f)), .inl (cB, k, .inr (.inl g)) => cA = cB ∧ n = k ∧ ∀ j, j < n → f j = g j
  | a, b => a = b
def eqW : va_W → va_W → Prop
  | [], [] => True
  | a :: as, b :: bs => a.1 = b.1 ∧ eqE a.2 b.2 ∧ eqW as bs
  | _, _ => False
theorem eqE_at {D : va_G} {cl : List vw_C} {q : Nat} {a b : va_E} {H : Heap} (h : eqE a b) (ha : va_at D cl (q, a) H) : va_at D cl (q, b) H := by
  unfold eqE at h
  split at h
  · obtain ⟨rfl, rfl, h⟩ := h
    rename_i f g
    refine Eq.trans (show H[q]? = _ from ha) (congrArg some ?_)
    exact arrV_congr (f := fun j => .int (f j)) (g := fun j => .int (g j)) (fun j hj => by rw [h j hj])
  · obtain ⟨rfl, rfl, h⟩ := h
    rename_i f g
    refine Eq.trans (show H[q]? = _ from ha) (congrArg some ?_)
    exact arrV_congr (f := fun j => .long (f j)) (g := fun j => .long (g j)) (fun j hj => by rw [h j hj])
  · subst h; exact ha
theorem eqW_P {D : va_G} {cl : List vw_C} {H : Heap} : ∀ {w1 w2 : va_W}, eqW w1 w2 → va_P D cl w1 H → va_P D cl w2 H
  | [], [], _, h => h
  | [], _ :: _, e, _ => e.elim
  | _ :: _, [], e, _ => e.elim
  | a :: as, b :: bs, e, h => by
    obtain ⟨e1, e2, e3⟩ := e
    intro k q hq
    cases k with
    | zero =>
      cases hq
      have h0 := h 0 a rfl
      obtain ⟨a1, a2⟩ := a
      obtain ⟨b1, b2⟩ := b
      cases e1
      exact eqE_at e2 h0
    | succ k => exact eqW_P e3 (fun k q hk => h (k + 1) q hk) k q hq
theorem eqW_fst : ∀ {w1 w2 : va_W}, eqW w1 w2 → w2.map Prod.fst = w1.map Prod.fst
  | [], [], _ => rfl
  | [], _ :: _, e => e.elim
  | _ :: _, [], e => e.elim
  | a :: as, b :: bs, e => by
    obtain ⟨e1, _, e3⟩ := e
    simp only [List.map_cons]
    rw [eqW_fst e3, e1]
theorem eqE.rf : ∀ a : va_E, eqE a a
  | .inl (_, _, .inl _) => ⟨rfl, rfl, fun _ _ => rfl⟩
  | .inl (_, _, .inr (.inl _)) => ⟨rfl, rfl, fun _ _ => rfl⟩
  | .inl (_, _, .inr (.inr _)) => rfl
  | .inr _ => rfl
theorem eqW.rf : ∀ w : va_W, eqW w w
  | [] => trivial
  | a :: as => ⟨rfl, eqE.rf a.2, eqW.rf as⟩

section OWF
variable {p : Program} {l : Launch} {e : Env} {R : Room} {s : State} {m : MethodId} {args : Array Value} {below : List Frame} {meth : Method} {c : Code} {H : Heap} {locs : List Loc} {cells slots : Nat} {Q : State → Prop}
variable {cc : ByteArray} {pc : Nat} {ls : Array Slot} {rest st : List Value} {A : Nat → Prop} {G : GT} {ws wc : va_W}

theorem fin_i {S : Type} {ok : S → Prop} {R1 : S → Int32} {w1 : S → va_W} {v : Int32} (hx : p.tables.exec = Jvm.exec) (hb : c.code = cc) (hr : meth.sig.returnType = some .int) (hlk : meth.locks = false) (hS : va_S A s.heap H locs) (hP : PP G ws H) (hD : va_D A ws) (u : S) (hu : ok u) (hv : v = R1 u) (hw : eqW ws (w1 u)) (hdg : decode cc pc = .ok (.ireturn, 1)) : W p l e R s m args below meth c H locs cells slots (MQ below (va_Qi (fun r u => ok u ∧ r = R1 u) (WB G A w1) A) args s cells slots A) (F0 m pc ls [.int v]) :=
  W.iret hx hb hr (fun t ht hW => ⟨⟨v, u, rfl, ⟨hu, hv⟩, by rw [ht]; exact eqW_P hw hP, va_D_fst (eqW_fst hw) hD⟩, hS.F ht⟩) hS.2.2 hdg hlk

theorem fin_z {S : Type} {ok : S → Prop} {R1 : S → Int32} {w1 : S → va_W} {v : Int32} {ty : FieldType} (hn : narrow ty (.int v) = .int v) (hx : p.tables.exec = Jvm.exec) (hb : c.code = cc) (hr : meth.sig.returnType = some ty) (hlk : meth.locks = false) (hS : va_S A s.heap H locs) (hP : PP G ws H) (hD : va_D A ws) (u : S) (hu : ok u) (hv : v = R1 u) (hw : eqW ws (w1 u)) (hdg : decode cc pc = .ok (.ireturn, 1)) : W p l e R s m args below meth c H locs cells slots (MQ below (va_Qi (fun r u => ok u ∧ r = R1 u) (WB G A w1) A) args s cells slots A) (F0 m pc ls [.int v]) :=
  W.zret hx hb hr hn (fun t ht hW => ⟨⟨v, u, rfl, ⟨hu, hv⟩, by rw [ht]; exact eqW_P hw hP, va_D_fst (eqW_fst hw) hD⟩, hS.F ht⟩) hS.2.2 hdg hlk

theorem fin_l {S : Type} {ok : S → Prop} {R1 : S → Int64} {w1 : S → va_W} {v : Int64} (hx : p.tables.exec = Jvm.exec) (hb : c.code = cc) (hr : meth.sig.returnType = some .long) (hlk : meth.locks = false) (hS : va_S A s.heap H locs) (hP : PP G ws H) (hD : va_D A ws) (u : S) (hu : ok u) (hv : v = R1 u) (hw : eqW ws (w1 u)) (hdg : decode cc pc = .ok (.lreturn, 1)) : W p l e R s m args below meth c H locs cells slots (MQ below (va_Ql (fun r u => ok u ∧ r = R1 u) (WB G A w1) A) args s cells slots A) (F0 m pc ls [.long v]) :=
  W.lret hx hb hr (fun t ht hW => ⟨⟨v, u, rfl, ⟨hu, hv⟩, by rw [ht]; exact eqW_P hw hP, va_D_fst (eqW_fst hw) hD⟩, hS.F ht⟩) hS.2.2 hdg hlk

theorem fin_v {S : Type} {ok : S → Prop} {w1 : S → va_W} (hx : p.tables.exec = Jvm.exec) (hb : c.code = cc) (hr : meth.sig.returnType = none) (hlk : meth.locks = false) (hS : va_S A s.heap H locs) (hP : PP G ws H) (hD : va_D A ws) (u : S) (hu : ok u) (hw : eqW ws (w1 u)) (hdg : decode cc pc = .ok (.return_, 1)) : W p l e R s m args below meth c H locs cells slots (MQ below (va_Qv ok (WB G A w1) A) args s cells slots A) (F0 m pc ls []) :=
  W.vret hx hb hr (fun t ht hW => ⟨⟨u, rfl, hu, by rw [ht]; exact eqW_P hw hP, va_D_fst (eqW_fst hw) hD⟩, hS.F ht⟩) hS.2.2 hdg hlk

theorem callVI {S : Type} {X : XT} {y : MethodName} {bytes : ByteArray} {maxL nL n index : Nat} {ret : Option FieldType} {wsy Ts : List Cond} {rm : Room} {own C : String} {b : Nat} {As : List Value} {ok : S → Prop} {R1 : S → Int32} {w1 wn : S → va_W} (fx : CallFix p m c cc nL s args Ts own) (hM : MI l G X y wsy rm (.ref b :: As) wc H.size ok R1 w1) (cw : CallW R s args own C index y bytes maxL ret wsy rm rm.cells rm.slots n)
    (hXb : XB X) (hX : ∀ U : State, U.heap = H → s.WarmedH U.vm → X (va_A wc H.size) U) (hK : KK G s) (hP : PP G ws H) (hD : va_D A ws) (hS : va_S A s.heap H locs) (hA : ∀ q, s.heap.size ≤ q → A q) (ci q0 : Nat) {T : u_T} {N : Nat} {fs : List Value} (hc : vwCl[ci]? = some (C, T, N)) (he : wc[q0]? = some (b, .inr (ci, fs))) (hn : As.length = n) (hsize : ls.size = nL) (hst : st = As.reverse ++ .ref b :: rest) (hW : (rest.map fun v => v.category).sum ≤ 8) (hdg : decode cc pc = .ok (.invokevirtual index, 3)) (hf : cells + rm.cells ≤ R.cells ∧ slots + rm.slots ≤ R.slots) (isC : List Nat) (hC : isC.map (fun i => ws[i]?) = wc.map some) (hnd : va_nd isC = true)
    (fa : List Nat) (hfa : wc.map Prod.fst = fa) (hfst : ∀ u, (w1 u).map Prod.fst = fa) (hwn : ∀ u, rpl ws isC (w1 u) = wn u)
    (kk : ∀ (u : S) (H1 : Heap) (locs1 : List Loc), ok u → PP G (wn u) H1 → va_D A (wn u) → va_S A s.heap H1 locs1 → W p l e R s m args below meth c H1 locs1 (cells + rm.cells) (slots + rm.slots) Q (F0 m (pc + 3) ls (.int (R1 u) :: rest))) : W p l e R s m args below meth c H locs cells slots Q (F0 m pc ls st) := by
  have hPc : PP G wc H := fun k q hq => by
    have h1 : (isC.map (fun i => ws[i]?))[k]? = some (some q) := by rw [hC, List.getElem?_map, hq]; rfl
    rw [List.getElem?_map] at h1
    cases hi : isC[k]? with
    | none => rw [hi] at h1; cases h1
    | some i => rw [hi] at h1; exact hP i q (Option.some.inj h1)
  have hDc : va_D A wc := hD.sub isC hnd hC
  have hFc := va_free (wc := wc) hD hS hA isC hC
  refine va_calli (va_runV (As := As) (rest := rest) fx hM cw ⟨PreM_blind hXb, va_recv hK hPc hc he, PreM_at hK hPc hDc hX⟩ rfl hn hsize hst (lv_room hW) hdg hf) hS (fun q _ h => hFc q h) hFc (fun r u t H1 locs1 ht hvm hq hB hz hk hS1 => ?_)
  obtain ⟨hq, rfl⟩ := hq
  obtain ⟨hP1, hD1⟩ := hB
  rw [ht] at hP1
  obtain ⟨hP2, hD2⟩ := va_rplJ hP hD isC hC ((hfst u).trans hfa.symm) hk hP1
  rw [hwn u] at hP2 hD2
  exact kk u H1 locs1 hq hP2 hD2 hS1

theorem callVIg {S : Type} {X : XT} {y : MethodName} {bytes : ByteArray} {maxL nL n index : Nat} {ret : Option FieldType} {wsy Ts : List Cond} {rm : Room} {own C : String} {b : Nat} {As : List Value} {ok : S → Prop} {R1 : S → Int32} {w1 : S → va_W} (fx : CallFix p m c cc nL s args Ts own) (hM : MI l G X y wsy rm (.ref b :: As) wc H.size ok R1 w1) (cw : CallW R s args own C index y bytes maxL ret wsy rm rm.cells rm.slots n)
    (hXb : XB X) (hX : ∀ U : State, U.heap = H → s.WarmedH U.vm → X (va_A wc H.size) U) (hK : KK G s) (hP : PP G ws H) (hD : va_D A ws) (hS : va_S A s.heap H locs) (hA : ∀ q, s.heap.size ≤ q → A q) (ci q0 : Nat) {T : u_T} {N : Nat} {fs : List Value} (hc : vwCl[ci]? = some (C, T, N)) (he : wc[q0]? = some (b, .inr (ci, fs))) (hn : As.length = n) (hsize : ls.size = nL) (hst : st = As.reverse ++ .ref b :: rest) (hW : (rest.map fun v => v.category).sum ≤ 8) (hdg : decode cc pc = .ok (.invokevirtual index, 3)) (hf : cells + rm.cells ≤ R.cells ∧ slots + rm.slots ≤ R.slots) (isC : List Nat) (hC : isC.map (fun i => ws[i]?) = wc.map some) (hnd : va_nd isC = true) {wr : va_W} (isR : List Nat) (hR : isR.map (fun i => ws[i]?) = wr.map some) (hndR : va_nd isR = true) (hdis : ∀ i ∈ isR, i ∉ isC)
    (kk : ∀ (u : S) (H1 : Heap) (locs1 : List Loc), ok u → PP G (wr ++ w1 u) H1 → va_D A (wr ++ w1 u) → va_S A s.heap H1 locs1 → W p l e R s m args below meth c H1 locs1 (cells + rm.cells) (slots + rm.slots) Q (F0 m (pc + 3) ls (.int (R1 u) :: rest))) : W p l e R s m args below meth c H locs cells slots Q (F0 m pc ls st) := by
  have hPc : PP G wc H := fun k q hq => by
    have h1 : (isC.map (fun i => ws[i]?))[k]? = some (some q) := by rw [hC, List.getElem?_map, hq]; rfl
    rw [List.getElem?_map] at h1
    cases hi : isC[k]? with
    | none => rw [hi] at h1; cases h1
    | some i => rw [hi] at h1; exact hP i q (Option.some.inj h1)
  have hDc : va_D A wc := hD.sub isC hnd hC
  have hFc := va_free (wc := wc) hD hS hA isC hC
  refine va_calli (va_runV (As := As) (rest := rest) fx hM cw ⟨PreM_blind hXb, va_recv hK hPc hc he, PreM_at hK hPc hDc hX⟩ rfl hn hsize hst (lv_room hW) hdg hf) hS (fun q _ h => hFc q h) hFc (fun r u t H1 locs1 ht hvm hq hB hz hk hS1 => ?_)
  obtain ⟨hq, rfl⟩ := hq
  obtain ⟨hP1, hD1⟩ := hB
  rw [ht] at hP1
  obtain ⟨hP2, hD2⟩ := va_join (wr := wr) hP hD isC isR hC hR hndR hdis hk hFc hP1 hD1
  exact kk u H1 locs1 hq hP2 hD2 hS1

theorem callSI {S : Type} {X : XT} {y : MethodName} {bytes : ByteArray} {maxL nL n index : Nat} {ret : Option FieldType} {wsy Ts : List Cond} {rm : Room} {own : String} {As : List Value} {ok : S → Prop} {R1 : S → Int32} {w1 wn : S → va_W} (fx : CallFix p m c cc nL s args Ts own) (hM : MI l G X y wsy rm As wc H.size ok R1 w1) (cw : CallB R s args own index y bytes maxL ret wsy rm rm.cells rm.slots n ∧ (Cond.static y).before args s = true)
    (hXb : XB X) (hX : ∀ U : State, U.heap = H → s.WarmedH U.vm → X (va_A wc H.size) U) (hK : KK G s) (hP : PP G ws H) (hD : va_D A ws) (hS : va_S A s.heap H locs) (hA : ∀ q, s.heap.size ≤ q → A q) (hn : As.length = n) (hsize : ls.size = nL) (hst : st = As.reverse ++ rest) (hW : (rest.map fun v => v.category).sum ≤ 8) (hdg : decode cc pc = .ok (.invokestatic index, 3)) (hf : cells + rm.cells ≤ R.cells ∧ slots + rm.slots ≤ R.slots) (isC : List Nat) (hC : isC.map (fun i => ws[i]?) = wc.map some) (hnd : va_nd isC = true)
    (fa : List Nat) (hfa : wc.map Prod.fst = fa) (hfst : ∀ u, (w1 u).map Prod.fst = fa) (hwn : ∀ u, rpl ws isC (w1 u) = wn u)
    (kk : ∀ (u : S) (H1 : Heap) (locs1 : List Loc), ok u → PP G (wn u) H1 → va_D A (wn u) → va_S A s.heap H1 locs1 → W p l e R s m args below meth c H1 locs1 (cells + rm.cells) (slots + rm.slots) Q (F0 m (pc + 3) ls (.int (R1 u) :: rest))) : W p l e R s m args below meth c H locs cells slots Q (F0 m pc ls st) := by
  have hPc : PP G wc H := fun k q hq => by
    have h1 : (isC.map (fun i => ws[i]?))[k]? = some (some q) := by rw [hC, List.getElem?_map, hq]; rfl
    rw [List.getElem?_map] at h1
    cases hi : isC[k]? with
    | none => rw [hi] at h1; cases h1
    | some i => rw [hi] at h1; exact hP i q (Option.some.inj h1)
  have hDc : va_D A wc := hD.sub isC hnd hC
  have hFc := va_free (wc := wc) hD hS hA isC hC
  refine va_calli (va_runS (As := As) (rest := rest) fx hM cw ⟨PreM_blind hXb, PreM_at hK hPc hDc hX⟩ rfl hn hsize hst (lv_room hW) hdg hf) hS (fun q _ h => hFc q h) hFc (fun r u t H1 locs1 ht hvm hq hB hz hk hS1 => ?_)
  obtain ⟨hq, rfl⟩ := hq
  obtain ⟨hP1, hD1⟩ := hB
  rw [ht] at hP1
  obtain ⟨hP2, hD2⟩ := va_rplJ hP hD isC hC ((hfst u).trans hfa.symm) hk hP1
  rw [hwn u] at hP2 hD2
  exact kk u H1 locs1 hq hP2 hD2 hS1

theorem callSIg {S : Type} {X : XT} {y : MethodName} {bytes : ByteArray} {maxL nL n index : Nat} {ret : Option FieldType} {wsy Ts : List Cond} {rm : Room} {own : String} {As : List Value} {ok : S → Prop} {R1 : S → Int32} {w1 : S → va_W} (fx : CallFix p m c cc nL s args Ts own) (hM : MI l G X y wsy rm As wc H.size ok R1 w1) (cw : CallB R s args own index y bytes maxL ret wsy rm rm.cells rm.slots n ∧ (Cond.static y).before args s = true)
    (hXb : XB X) (hX : ∀ U : State, U.heap = H → s.WarmedH U.vm → X (va_A wc H.size) U) (hK : KK G s) (hP : PP G ws H) (hD : va_D A ws) (hS : va_S A s.heap H locs) (hA : ∀ q, s.heap.size ≤ q → A q) (hn : As.length = n) (hsize : ls.size = nL) (hst : st = As.reverse ++ rest) (hW : (rest.map fun v => v.category).sum ≤ 8) (hdg : decode cc pc = .ok (.invokestatic index, 3)) (hf : cells + rm.cells ≤ R.cells ∧ slots + rm.slots ≤ R.slots) (isC : List Nat) (hC : isC.map (fun i => ws[i]?) = wc.map some) (hnd : va_nd isC = true) {wr : va_W} (isR : List Nat) (hR : isR.map (fun i => ws[i]?) = wr.map some) (hndR : va_nd isR = true) (hdis : ∀ i ∈ isR, i ∉ isC)
    (kk : ∀ (u : S) (H1 : Heap) (locs1 : List Loc), ok u → PP G (wr ++ w1 u) H1 → va_D A (wr ++ w1 u) → va_S A s.heap H1 locs1 → W p l e R s m args below meth c H1 locs1 (cells + rm.cells) (slots + rm.slots) Q (F0 m (pc + 3) ls (.int (R1 u) :: rest))) : W p l e R s m args below meth c H locs cells slots Q (F0 m pc ls st) := by
  have hPc : PP G wc H := fun k q hq => by
    have h1 : (isC.map (fun i => ws[i]?))[k]? = some (some q) := by rw [hC, List.getElem?_map, hq]; rfl
    rw [List.getElem?_map] at h1
    cases hi : isC[k]? with
    | none => rw [hi] at h1; cases h1
    | some i => rw [hi] at h1; exact hP i q (Option.some.inj h1)
  have hDc : va_D A wc := hD.sub isC hnd hC
  have hFc := va_free (wc := wc) hD hS hA isC hC
  refine va_calli (va_runS (As := As) (rest := rest) fx hM cw ⟨PreM_blind hXb, PreM_at hK hPc hDc hX⟩ rfl hn hsize hst (lv_room hW) hdg hf) hS (fun q _ h => hFc q h) hFc (fun r u t H1 locs1 ht hvm hq hB hz hk hS1 => ?_)
  obtain ⟨hq, rfl⟩ := hq
  obtain ⟨hP1, hD1⟩ := hB
  rw [ht] at hP1
  obtain ⟨hP2, hD2⟩ := va_join (wr := wr) hP hD isC isR hC hR hndR hdis hk hFc hP1 hD1
  exact kk u H1 locs1 hq hP2 hD2 hS1

theorem callVL {S : Type} {X : XT} {y : MethodName} {bytes : ByteArray} {maxL nL n index : Nat} {ret : Option FieldType} {wsy Ts : List Cond} {rm : Room} {own C : String} {b : Nat} {As : List Value} {ok : S → Prop} {R1 : S → Int64} {w1 wn : S → va_W} (fx : CallFix p m c cc nL s args Ts own) (hM : ML l G X y wsy rm (.ref b :: As) wc H.size ok R1 w1) (cw : CallW R s args own C index y bytes maxL ret wsy rm rm.cells rm.slots n)
    (hXb : XB X) (hX : ∀ U : State, U.heap = H → s.WarmedH U.vm → X (va_A wc H.size) U) (hK : KK G s) (hP : PP G ws H) (hD : va_D A ws) (hS : va_S A s.heap H locs) (hA : ∀ q, s.heap.size ≤ q → A q) (ci q0 : Nat) {T : u_T} {N : Nat} {fs : List Value} (hc : vwCl[ci]? = some (C, T, N)) (he : wc[q0]? = some (b, .inr (ci, fs))) (hn : As.length = n) (hsize : ls.size = nL) (hst : st = As.reverse ++ .ref b :: rest) (hW : (rest.map fun v => v.category).sum ≤ 8) (hdg : decode cc pc = .ok (.invokevirtual index, 3)) (hf : cells + rm.cells ≤ R.cells ∧ slots + rm.slots ≤ R.slots) (isC : List Nat) (hC : isC.map (fun i => ws[i]?) = wc.map some) (hnd : va_nd isC = true)
    (fa : List Nat) (hfa : wc.map Prod.fst = fa) (hfst : ∀ u, (w1 u).map Prod.fst = fa) (hwn : ∀ u, rpl ws isC (w1 u) = wn u)
    (kk : ∀ (u : S) (H1 : Heap) (locs1 : List Loc), ok u → PP G (wn u) H1 → va_D A (wn u) → va_S A s.heap H1 locs1 → W p l e R s m args below meth c H1 locs1 (cells + rm.cells) (slots + rm.slots) Q (F0 m (pc + 3) ls (.long (R1 u) :: rest))) : W p l e R s m args below meth c H locs cells slots Q (F0 m pc ls st) := by
  have hPc : PP G wc H := fun k q hq => by
    have h1 : (isC.map (fun i => ws[i]?))[k]? = some (some q) := by rw [hC, List.getElem?_map, hq]; rfl
    rw [List.getElem?_map] at h1
    cases hi : isC[k]? with
    | none => rw [hi] at h1; cases h1
    | some i => rw [hi] at h1; exact hP i q (Option.some.inj h1)
  have hDc : va_D A wc := hD.sub isC hnd hC
  have hFc := va_free (wc := wc) hD hS hA isC hC
  refine va_calll (va_runV (As := As) (rest := rest) fx hM cw ⟨PreM_blind hXb, va_recv hK hPc hc he, PreM_at hK hPc hDc hX⟩ rfl hn hsize hst (lv_room hW) hdg hf) hS (fun q _ h => hFc q h) hFc (fun r u t H1 locs1 ht hvm hq hB hz hk hS1 => ?_)
  obtain ⟨hq, rfl⟩ := hq
  obtain ⟨hP1, hD1⟩ := hB
  rw [ht] at hP1
  obtain ⟨hP2, hD2⟩ := va_rplJ hP hD isC hC ((hfst u).trans hfa.symm) hk hP1
  rw [hwn u] at hP2 hD2
  exact kk u H1 locs1 hq hP2 hD2 hS1

theorem callVLg {S : Type} {X : XT} {y : MethodName} {bytes : ByteArray} {maxL nL n index : Nat} {ret : Option FieldType} {wsy Ts : List Cond} {rm : Room} {own C : String} {b : Nat} {As : List Value} {ok : S → Prop} {R1 : S → Int64} {w1 : S → va_W} (fx : CallFix p m c cc nL s args Ts own) (hM : ML l G X y wsy rm (.ref b :: As) wc H.size ok R1 w1) (cw : CallW R s args own C index y bytes maxL ret wsy rm rm.cells rm.slots n)
    (hXb : XB X) (hX : ∀ U : State, U.heap = H → s.WarmedH U.vm → X (va_A wc H.size) U) (hK : KK G s) (hP : PP G ws H) (hD : va_D A ws) (hS : va_S A s.heap H locs) (hA : ∀ q, s.heap.size ≤ q → A q) (ci q0 : Nat) {T : u_T} {N : Nat} {fs : List Value} (hc : vwCl[ci]? = some (C, T, N)) (he : wc[q0]? = some (b, .inr (ci, fs))) (hn : As.length = n) (hsize : ls.size = nL) (hst : st = As.reverse ++ .ref b :: rest) (hW : (rest.map fun v => v.category).sum ≤ 8) (hdg : decode cc pc = .ok (.invokevirtual index, 3)) (hf : cells + rm.cells ≤ R.cells ∧ slots + rm.slots ≤ R.slots) (isC : List Nat) (hC : isC.map (fun i => ws[i]?) = wc.map some) (hnd : va_nd isC = true) {wr : va_W} (isR : List Nat) (hR : isR.map (fun i => ws[i]?) = wr.map some) (hndR : va_nd isR = true) (hdis : ∀ i ∈ isR, i ∉ isC)
    (kk : ∀ (u : S) (H1 : Heap) (locs1 : List Loc), ok u → PP G (wr ++ w1 u) H1 → va_D A (wr ++ w1 u) → va_S A s.heap H1 locs1 → W p l e R s m args below meth c H1 locs1 (cells + rm.cells) (slots + rm.slots) Q (F0 m (pc + 3) ls (.long (R1 u) :: rest))) : W p l e R s m args below meth c H locs cells slots Q (F0 m pc ls st) := by
  have hPc : PP G wc H := fun k q hq => by
    have h1 : (isC.map (fun i => ws[i]?))[k]? = some (some q) := by rw [hC, List.getElem?_map, hq]; rfl
    rw [List.getElem?_map] at h1
    cases hi : isC[k]? with
    | none => rw [hi] at h1; cases h1
    | some i => rw [hi] at h1; exact hP i q (Option.some.inj h1)
  have hDc : va_D A wc := hD.sub isC hnd hC
  have hFc := va_free (wc := wc) hD hS hA isC hC
  refine va_calll (va_runV (As := As) (rest := rest) fx hM cw ⟨PreM_blind hXb, va_recv hK hPc hc he, PreM_at hK hPc hDc hX⟩ rfl hn hsize hst (lv_room hW) hdg hf) hS (fun q _ h => hFc q h) hFc (fun r u t H1 locs1 ht hvm hq hB hz hk hS1 => ?_)
  obtain ⟨hq, rfl⟩ := hq
  obtain ⟨hP1, hD1⟩ := hB
  rw [ht] at hP1
  obtain ⟨hP2, hD2⟩ := va_join (wr := wr) hP hD isC isR hC hR hndR hdis hk hFc hP1 hD1
  exact kk u H1 locs1 hq hP2 hD2 hS1

theorem callSL {S : Type} {X : XT} {y : MethodName} {bytes : ByteArray} {maxL nL n index : Nat} {ret : Option FieldType} {wsy Ts : List Cond} {rm : Room} {own : String} {As : List Value} {ok : S → Prop} {R1 : S → Int64} {w1 wn : S → va_W} (fx : CallFix p m c cc nL s args Ts own) (hM : ML l G X y wsy rm As wc H.size ok R1 w1) (cw : CallB R s args own index y bytes maxL ret wsy rm rm.cells rm.slots n ∧ (Cond.static y).before args s = true)
    (hXb : XB X) (hX : ∀ U : State, U.heap = H → s.WarmedH U.vm → X (va_A wc H.size) U) (hK : KK G s) (hP : PP G ws H) (hD : va_D A ws) (hS : va_S A s.heap H locs) (hA : ∀ q, s.heap.size ≤ q → A q) (hn : As.length = n) (hsize : ls.size = nL) (hst : st = As.reverse ++ rest) (hW : (rest.map fun v => v.category).sum ≤ 8) (hdg : decode cc pc = .ok (.invokestatic index, 3)) (hf : cells + rm.cells ≤ R.cells ∧ slots + rm.slots ≤ R.slots) (isC : List Nat) (hC : isC.map (fun i => ws[i]?) = wc.map some) (hnd : va_nd isC = true)
    (fa : List Nat) (hfa : wc.map Prod.fst = fa) (hfst : ∀ u, (w1 u).map Prod.fst = fa) (hwn : ∀ u, rpl ws isC (w1 u) = wn u)
    (kk : ∀ (u : S) (H1 : Heap) (locs1 : List Loc), ok u → PP G (wn u) H1 → va_D A (wn u) → va_S A s.heap H1 locs1 → W p l e R s m args below meth c H1 locs1 (cells + rm.cells) (slots + rm.slots) Q (F0 m (pc + 3) ls (.long (R1 u) :: rest))) : W p l e R s m args below meth c H locs cells slots Q (F0 m pc ls st) := by
  have hPc : PP G wc H := fun k q hq => by
    have h1 : (isC.map (fun i => ws[i]?))[k]? = some (some q) := by rw [hC, List.getElem?_map, hq]; rfl
    rw [List.getElem?_map] at h1
    cases hi : isC[k]? with
    | none => rw [hi] at h1; cases h1
    | some i => rw [hi] at h1; exact hP i q (Option.some.inj h1)
  have hDc : va_D A wc := hD.sub isC hnd hC
  have hFc := va_free (wc := wc) hD hS hA isC hC
  refine va_calll (va_runS (As := As) (rest := rest) fx hM cw ⟨PreM_blind hXb, PreM_at hK hPc hDc hX⟩ rfl hn hsize hst (lv_room hW) hdg hf) hS (fun q _ h => hFc q h) hFc (fun r u t H1 locs1 ht hvm hq hB hz hk hS1 => ?_)
  obtain ⟨hq, rfl⟩ := hq
  obtain ⟨hP1, hD1⟩ := hB
  rw [ht] at hP1
  obtain ⟨hP2, hD2⟩ := va_rplJ hP hD isC hC ((hfst u).trans hfa.symm) hk hP1
  rw [hwn u] at hP2 hD2
  exact kk u H1 locs1 hq hP2 hD2 hS1

theorem callSLg {S : Type} {X : XT} {y : MethodName} {bytes : ByteArray} {maxL nL n index : Nat} {ret : Option FieldType} {wsy Ts : List Cond} {rm : Room} {own : String} {As : List Value} {ok : S → Prop} {R1 : S → Int64} {w1 : S → va_W} (fx : CallFix p m c cc nL s args Ts own) (hM : ML l G X y wsy rm As wc H.size ok R1 w1) (cw : CallB R s args own index y bytes maxL ret wsy rm rm.cells rm.slots n ∧ (Cond.static y).before args s = true)
    (hXb : XB X) (hX : ∀ U : State, U.heap = H → s.WarmedH U.vm → X (va_A wc H.size) U) (hK : KK G s) (hP : PP G ws H) (hD : va_D A ws) (hS : va_S A s.heap H locs) (hA : ∀ q, s.heap.size ≤ q → A q) (hn : As.length = n) (hsize : ls.size = nL) (hst : st = As.reverse ++ rest) (hW : (rest.map fun v => v.category).sum ≤ 8) (hdg : decode cc pc = .ok (.invokestatic index, 3)) (hf : cells + rm.cells ≤ R.cells ∧ slots + rm.slots ≤ R.slots) (isC : List Nat) (hC : isC.map (fun i => ws[i]?) = wc.map some) (hnd : va_nd isC = true) {wr : va_W} (isR : List Nat) (hR : isR.map (fun i => ws[i]?) = wr.map some) (hndR : va_nd isR = true) (hdis : ∀ i ∈ isR, i ∉ isC)
    (kk : ∀ (u : S) (H1 : Heap) (locs1 : List Loc), ok u → PP G (wr ++ w1 u) H1 → va_D A (wr ++ w1 u) → va_S A s.heap H1 locs1 → W p l e R s m args below meth c H1 locs1 (cells + rm.cells) (slots + rm.slots) Q (F0 m (pc + 3) ls (.long (R1 u) :: rest))) : W p l e R s m args below meth c H locs cells slots Q (F0 m pc ls st) := by
  have hPc : PP G wc H := fun k q hq => by
    have h1 : (isC.map (fun i => ws[i]?))[k]? = some (some q) := by rw [hC, List.getElem?_map, hq]; rfl
    rw [List.getElem?_map] at h1
    cases hi : isC[k]? with
    | none => rw [hi] at h1; cases h1
    | some i => rw [hi] at h1; exact hP i q (Option.some.inj h1)
  have hDc : va_D A wc := hD.sub isC hnd hC
  have hFc := va_free (wc := wc) hD hS hA isC hC
  refine va_calll (va_runS (As := As) (rest := rest) fx hM cw ⟨PreM_blind hXb, PreM_at hK hPc hDc hX⟩ rfl hn hsize hst (lv_room hW) hdg hf) hS (fun q _ h => hFc q h) hFc (fun r u t H1 locs1 ht hvm hq hB hz hk hS1 => ?_)
  obtain ⟨hq, rfl⟩ := hq
  obtain ⟨hP1, hD1⟩ := hB
  rw [ht] at hP1
  obtain ⟨hP2, hD2⟩ := va_join (wr := wr) hP hD isC isR hC hR hndR hdis hk hFc hP1 hD1
  exact kk u H1 locs1 hq hP2 hD2 hS1

theorem callVV {S : Type} {X : XT} {y : MethodName} {bytes : ByteArray} {maxL nL n index : Nat} {ret : Option FieldType} {wsy Ts : List Cond} {rm : Room} {own C : String} {b : Nat} {As : List Value} {ok : S → Prop} {w1 wn : S → va_W} (fx : CallFix p m c cc nL s args Ts own) (hM : MV l G X y wsy rm (.ref b :: As) wc H.size ok w1) (cw : CallW R s args own C index y bytes maxL ret wsy rm rm.cells rm.slots n)
    (hXb : XB X) (hX : ∀ U : State, U.heap = H → s.WarmedH U.vm → X (va_A wc H.size) U) (hK : KK G s) (hP : PP G ws H) (hD : va_D A ws) (hS : va_S A s.heap H locs) (hA : ∀ q, s.heap.size ≤ q → A q) (ci q0 : Nat) {T : u_T} {N : Nat} {fs : List Value} (hc : vwCl[ci]? = some (C, T, N)) (he : wc[q0]? = some (b, .inr (ci, fs))) (hn : As.length = n) (hsize : ls.size = nL) (hst : st = As.reverse ++ .ref b :: rest) (hW : (rest.map fun v => v.category).sum ≤ 8) (hdg : decode cc pc = .ok (.invokevirtual index, 3)) (hf : cells + rm.cells ≤ R.cells ∧ slots + rm.slots ≤ R.slots) (isC : List Nat) (hC : isC.map (fun i => ws[i]?) = wc.map some) (hnd : va_nd isC = true)
    (fa : List Nat) (hfa : wc.map Prod.fst = fa) (hfst : ∀ u, (w1 u).map Prod.fst = fa) (hwn : ∀ u, rpl ws isC (w1 u) = wn u)
    (kk : ∀ (u : S) (H1 : Heap) (locs1 : List Loc), ok u → PP G (wn u) H1 → va_D A (wn u) → va_S A s.heap H1 locs1 → W p l e R s m args below meth c H1 locs1 (cells + rm.cells) (slots + rm.slots) Q (F0 m (pc + 3) ls rest)) : W p l e R s m args below meth c H locs cells slots Q (F0 m pc ls st) := by
  have hPc : PP G wc H := fun k q hq => by
    have h1 : (isC.map (fun i => ws[i]?))[k]? = some (some q) := by rw [hC, List.getElem?_map, hq]; rfl
    rw [List.getElem?_map] at h1
    cases hi : isC[k]? with
    | none => rw [hi] at h1; cases h1
    | some i => rw [hi] at h1; exact hP i q (Option.some.inj h1)
  have hDc : va_D A wc := hD.sub isC hnd hC
  have hFc := va_free (wc := wc) hD hS hA isC hC
  refine va_callv (va_runV (As := As) (rest := rest) fx hM cw ⟨PreM_blind hXb, va_recv hK hPc hc he, PreM_at hK hPc hDc hX⟩ rfl hn hsize hst (lv_room hW) hdg hf) hS (fun q _ h => hFc q h) hFc (fun u t H1 locs1 ht hvm hq hB hz hk hS1 => ?_)
  obtain ⟨hP1, hD1⟩ := hB
  rw [ht] at hP1
  obtain ⟨hP2, hD2⟩ := va_rplJ hP hD isC hC ((hfst u).trans hfa.symm) hk hP1
  rw [hwn u] at hP2 hD2
  exact kk u H1 locs1 hq hP2 hD2 hS1

theorem callVVg {S : Type} {X : XT} {y : MethodName} {bytes : ByteArray} {maxL nL n index : Nat} {ret : Option FieldType} {wsy Ts : List Cond} {rm : Room} {own C : String} {b : Nat} {As : List Value} {ok : S → Prop} {w1 : S → va_W} (fx : CallFix p m c cc nL s args Ts own) (hM : MV l G X y wsy rm (.ref b :: As) wc H.size ok w1) (cw : CallW R s args own C index y bytes maxL ret wsy rm rm.cells rm.slots n)
    (hXb : XB X) (hX : ∀ U : State, U.heap = H → s.WarmedH U.vm → X (va_A wc H.size) U) (hK : KK G s) (hP : PP G ws H) (hD : va_D A ws) (hS : va_S A s.heap H locs) (hA : ∀ q, s.heap.size ≤ q → A q) (ci q0 : Nat) {T : u_T} {N : Nat} {fs : List Value} (hc : vwCl[ci]? = some (C, T, N)) (he : wc[q0]? = some (b, .inr (ci, fs))) (hn : As.length = n) (hsize : ls.size = nL) (hst : st = As.reverse ++ .ref b :: rest) (hW : (rest.map fun v => v.category).sum ≤ 8) (hdg : decode cc pc = .ok (.invokevirtual index, 3)) (hf : cells + rm.cells ≤ R.cells ∧ slots + rm.slots ≤ R.slots) (isC : List Nat) (hC : isC.map (fun i => ws[i]?) = wc.map some) (hnd : va_nd isC = true) {wr : va_W} (isR : List Nat) (hR : isR.map (fun i => ws[i]?) = wr.map some) (hndR : va_nd isR = true) (hdis : ∀ i ∈ isR, i ∉ isC)
    (kk : ∀ (u : S) (H1 : Heap) (locs1 : List Loc), ok u → PP G (wr ++ w1 u) H1 → va_D A (wr ++ w1 u) → va_S A s.heap H1 locs1 → W p l e R s m args below meth c H1 locs1 (cells + rm.cells) (slots + rm.slots) Q (F0 m (pc + 3) ls rest)) : W p l e R s m args below meth c H locs cells slots Q (F0 m pc ls st) := by
  have hPc : PP G wc H := fun k q hq => by
    have h1 : (isC.map (fun i => ws[i]?))[k]? = some (some q) := by rw [hC, List.getElem?_map, hq]; rfl
    rw [List.getElem?_map] at h1
    cases hi : isC[k]? with
    | none => rw [hi] at h1; cases h1
    | some i => rw [hi] at h1; exact hP i q (Option.some.inj h1)
  have hDc : va_D A wc := hD.sub isC hnd hC
  have hFc := va_free (wc := wc) hD hS hA isC hC
  refine va_callv (va_runV (As := As) (rest := rest) fx hM cw ⟨PreM_blind hXb, va_recv hK hPc hc he, PreM_at hK hPc hDc hX⟩ rfl hn hsize hst (lv_room hW) hdg hf) hS (fun q _ h => hFc q h) hFc (fun u t H1 locs1 ht hvm hq hB hz hk hS1 => ?_)
  obtain ⟨hP1, hD1⟩ := hB
  rw [ht] at hP1
  obtain ⟨hP2, hD2⟩ := va_join (wr := wr) hP hD isC isR hC hR hndR hdis hk hFc hP1 hD1
  exact kk u H1 locs1 hq hP2 hD2 hS1

theorem callSV {S : Type} {X : XT} {y : MethodName} {bytes : ByteArray} {maxL nL n index : Nat} {ret : Option FieldType} {wsy Ts : List Cond} {rm : Room} {own : String} {As : List Value} {ok : S → Prop} {w1 wn : S → va_W} (fx : CallFix p m c cc nL s args Ts own) (hM : MV l G X y wsy rm As wc H.size ok w1) (cw : CallB R s args own index y bytes maxL ret wsy rm rm.cells rm.slots n ∧ (Cond.static y).before args s = true)
    (hXb : XB X) (hX : ∀ U : State, U.heap = H → s.WarmedH U.vm → X (va_A wc H.size) U) (hK : KK G s) (hP : PP G ws H) (hD : va_D A ws) (hS : va_S A s.heap H locs) (hA : ∀ q, s.heap.size ≤ q → A q) (hn : As.length = n) (hsize : ls.size = nL) (hst : st = As.reverse ++ rest) (hW : (rest.map fun v => v.category).sum ≤ 8) (hdg : decode cc pc = .ok (.invokestatic index, 3)) (hf : cells + rm.cells ≤ R.cells ∧ slots + rm.slots ≤ R.slots) (isC : List Nat) (hC : isC.map (fun i => ws[i]?) = wc.map some) (hnd : va_nd isC = true)
    (fa : List Nat) (hfa : wc.map Prod.fst = fa) (hfst : ∀ u, (w1 u).map Prod.fst = fa) (hwn : ∀ u, rpl ws isC (w1 u) = wn u)
    (kk : ∀ (u : S) (H1 : Heap) (locs1 : List Loc), ok u → PP G (wn u) H1 → va_D A (wn u) → va_S A s.heap H1 locs1 → W p l e R s m args below meth c H1 locs1 (cells + rm.cells) (slots + rm.slots) Q (F0 m (pc + 3) ls rest)) : W p l e R s m args below meth c H locs cells slots Q (F0 m pc ls st) := by
  have hPc : PP G wc H := fun k q hq => by
    have h1 : (isC.map (fun i => ws[i]?))[k]? = some (some q) := by rw [hC, List.getElem?_map, hq]; rfl
    rw [List.getElem?_map] at h1
    cases hi : isC[k]? with
    | none => rw [hi] at h1; cases h1
    | some i => rw [hi] at h1; exact hP i q (Option.some.inj h1)
  have hDc : va_D A wc := hD.sub isC hnd hC
  have hFc := va_free (wc := wc) hD hS hA isC hC
  refine va_callv (va_runS (As := As) (rest := rest) fx hM cw ⟨PreM_blind hXb, PreM_at hK hPc hDc hX⟩ rfl hn hsize hst (lv_room hW) hdg hf) hS (fun q _ h => hFc q h) hFc (fun u t H1 locs1 ht hvm hq hB hz hk hS1 => ?_)
  obtain ⟨hP1, hD1⟩ := hB
  rw [ht] at hP1
  obtain ⟨hP2, hD2⟩ := va_rplJ hP hD isC hC ((hfst u).trans hfa.symm) hk hP1
  rw [hwn u] at hP2 hD2
  exact kk u H1 locs1 hq hP2 hD2 hS1

theorem callSVg {S : Type} {X : XT} {y : MethodName} {bytes : ByteArray} {maxL nL n index : Nat} {ret : Option FieldType} {wsy Ts : List Cond} {rm : Room} {own : String} {As : List Value} {ok : S → Prop} {w1 : S → va_W} (fx : CallFix p m c cc nL s args Ts own) (hM : MV l G X y wsy rm As wc H.size ok w1) (cw : CallB R s args own index y bytes maxL ret wsy rm rm.cells rm.slots n ∧ (Cond.static y).before args s = true)
    (hXb : XB X) (hX : ∀ U : State, U.heap = H → s.WarmedH U.vm → X (va_A wc H.size) U) (hK : KK G s) (hP : PP G ws H) (hD : va_D A ws) (hS : va_S A s.heap H locs) (hA : ∀ q, s.heap.size ≤ q → A q) (hn : As.length = n) (hsize : ls.size = nL) (hst : st = As.reverse ++ rest) (hW : (rest.map fun v => v.category).sum ≤ 8) (hdg : decode cc pc = .ok (.invokestatic index, 3)) (hf : cells + rm.cells ≤ R.cells ∧ slots + rm.slots ≤ R.slots) (isC : List Nat) (hC : isC.map (fun i => ws[i]?) = wc.map some) (hnd : va_nd isC = true) {wr : va_W} (isR : List Nat) (hR : isR.map (fun i => ws[i]?) = wr.map some) (hndR : va_nd isR = true) (hdis : ∀ i ∈ isR, i ∉ isC)
    (kk : ∀ (u : S) (H1 : Heap) (locs1 : List Loc), ok u → PP G (wr ++ w1 u) H1 → va_D A (wr ++ w1 u) → va_S A s.heap H1 locs1 → W p l e R s m args below meth c H1 locs1 (cells + rm.cells) (slots + rm.slots) Q (F0 m (pc + 3) ls rest)) : W p l e R s m args below meth c H locs cells slots Q (F0 m pc ls st) := by
  have hPc : PP G wc H := fun k q hq => by
    have h1 : (isC.map (fun i => ws[i]?))[k]? = some (some q) := by rw [hC, List.getElem?_map, hq]; rfl
    rw [List.getElem?_map] at h1
    cases hi : isC[k]? with
    | none => rw [hi] at h1; cases h1
    | some i => rw [hi] at h1; exact hP i q (Option.some.inj h1)
  have hDc : va_D A wc := hD.sub isC hnd hC
  have hFc := va_free (wc := wc) hD hS hA isC hC
  refine va_callv (va_runS (As := As) (rest := rest) fx hM cw ⟨PreM_blind hXb, PreM_at hK hPc hDc hX⟩ rfl hn hsize hst (lv_room hW) hdg hf) hS (fun q _ h => hFc q h) hFc (fun u t H1 locs1 ht hvm hq hB hz hk hS1 => ?_)
  obtain ⟨hP1, hD1⟩ := hB
  rw [ht] at hP1
  obtain ⟨hP2, hD2⟩ := va_join (wr := wr) hP hD isC isR hC hR hndR hdis hk hFc hP1 hD1
  exact kk u H1 locs1 hq hP2 hD2 hS1

theorem callJV {S : Type} {X : XT} {y : MethodName} {bytes : ByteArray} {maxL nL n index : Nat} {ret : Option FieldType} {wsy Ts : List Cond} {rm : Room} {own : String} {b : Nat} {As : List Value} {ok : S → Prop} {w1 wn : S → va_W} (fx : CallFix p m c cc nL s args Ts own) (hM : MV l G X y wsy rm (.ref b :: As) wc H.size ok w1) (cw : CallB R s args own index y bytes maxL none wsy rm rm.cells rm.slots n ∧ y.name = "<init>" ∧ (Cond.instanceMethod y).before args s = true)
    (hXb : XB X) (hX : ∀ U : State, U.heap = H → s.WarmedH U.vm → X (va_A wc H.size) U) (hK : KK G s) (hP : PP G ws H) (hD : va_D A ws) (hS : va_S A s.heap H locs) (hA : ∀ q, s.heap.size ≤ q → A q) (hn : As.length = n) (hsize : ls.size = nL) (hst : st = As.reverse ++ .ref b :: rest) (hW : (rest.map fun v => v.category).sum ≤ 8) (hdg : decode cc pc = .ok (.invokespecial index, 3)) (hf : cells + rm.cells ≤ R.cells ∧ slots + rm.slots ≤ R.slots) (isC : List Nat) (hC : isC.map (fun i => ws[i]?) = wc.map some) (hnd : va_nd isC = true)
    (fa : List Nat) (hfa : wc.map Prod.fst = fa) (hfst : ∀ u, (w1 u).map Prod.fst = fa) (hwn : ∀ u, rpl ws isC (w1 u) = wn u)
    (kk : ∀ (u : S) (H1 : Heap) (locs1 : List Loc), ok u → PP G (wn u) H1 → va_D A (wn u) → va_S A s.heap H1 locs1 → W p l e R s m args below meth c H1 locs1 (cells + rm.cells) (slots + rm.slots) Q (F0 m (pc + 3) ls rest)) : W p l e R s m args below meth c H locs cells slots Q (F0 m pc ls st) := by
  have hPc : PP G wc H := fun k q hq => by
    have h1 : (isC.map (fun i => ws[i]?))[k]? = some (some q) := by rw [hC, List.getElem?_map, hq]; rfl
    rw [List.getElem?_map] at h1
    cases hi : isC[k]? with
    | none => rw [hi] at h1; cases h1
    | some i => rw [hi] at h1; exact hP i q (Option.some.inj h1)
  have hDc : va_D A wc := hD.sub isC hnd hC
  have hFc := va_free (wc := wc) hD hS hA isC hC
  refine va_callv (va_runI (As := As) (rest := rest) fx hM cw ⟨PreM_blind hXb, PreM_at hK hPc hDc hX⟩ rfl hn hsize hst (lv_room hW) hdg hf) hS (fun q _ h => hFc q h) hFc (fun u t H1 locs1 ht hvm hq hB hz hk hS1 => ?_)
  obtain ⟨hP1, hD1⟩ := hB
  rw [ht] at hP1
  obtain ⟨hP2, hD2⟩ := va_rplJ hP hD isC hC ((hfst u).trans hfa.symm) hk hP1
  rw [hwn u] at hP2 hD2
  exact kk u H1 locs1 hq hP2 hD2 hS1

theorem callJVg {S : Type} {X : XT} {y : MethodName} {bytes : ByteArray} {maxL nL n index : Nat} {ret : Option FieldType} {wsy Ts : List Cond} {rm : Room} {own : String} {b : Nat} {As : List Value} {ok : S → Prop} {w1 : S → va_W} (fx : CallFix p m c cc nL s args Ts own) (hM : MV l G X y wsy rm (.ref b :: As) wc H.size ok w1) (cw : CallB R s args own index y bytes maxL none wsy rm rm.cells rm.slots n ∧ y.name = "<init>" ∧ (Cond.instanceMethod y).before args s = true)
    (hXb : XB X) (hX : ∀ U : State, U.heap = H → s.WarmedH U.vm → X (va_A wc H.size) U) (hK : KK G s) (hP : PP G ws H) (hD : va_D A ws) (hS : va_S A s.heap H locs) (hA : ∀ q, s.heap.size ≤ q → A q) (hn : As.length = n) (hsize : ls.size = nL) (hst : st = As.reverse ++ .ref b :: rest) (hW : (rest.map fun v => v.category).sum ≤ 8) (hdg : decode cc pc = .ok (.invokespecial index, 3)) (hf : cells + rm.cells ≤ R.cells ∧ slots + rm.slots ≤ R.slots) (isC : List Nat) (hC : isC.map (fun i => ws[i]?) = wc.map some) (hnd : va_nd isC = true) {wr : va_W} (isR : List Nat) (hR : isR.map (fun i => ws[i]?) = wr.map some) (hndR : va_nd isR = true) (hdis : ∀ i ∈ isR, i ∉ isC)
    (kk : ∀ (u : S) (H1 : Heap) (locs1 : List Loc), ok u → PP G (wr ++ w1 u) H1 → va_D A (wr ++ w1 u) → va_S A s.heap H1 locs1 → W p l e R s m args below meth c H1 locs1 (cells + rm.cells) (slots + rm.slots) Q (F0 m (pc + 3) ls rest)) : W p l e R s m args below meth c H locs cells slots Q (F0 m pc ls st) := by
  have hPc : PP G wc H := fun k q hq => by
    have h1 : (isC.map (fun i => ws[i]?))[k]? = some (some q) := by rw [hC, List.getElem?_map, hq]; rfl
    rw [List.getElem?_map] at h1
    cases hi : isC[k]? with
    | none => rw [hi] at h1; cases h1
    | some i => rw [hi] at h1; exact hP i q (Option.some.inj h1)
  have hDc : va_D A wc := hD.sub isC hnd hC
  have hFc := va_free (wc := wc) hD hS hA isC hC
  refine va_callv (va_runI (As := As) (rest := rest) fx hM cw ⟨PreM_blind hXb, PreM_at hK hPc hDc hX⟩ rfl hn hsize hst (lv_room hW) hdg hf) hS (fun q _ h => hFc q h) hFc (fun u t H1 locs1 ht hvm hq hB hz hk hS1 => ?_)
  obtain ⟨hP1, hD1⟩ := hB
  rw [ht] at hP1
  obtain ⟨hP2, hD2⟩ := va_join (wr := wr) hP hD isC isR hC hR hndR hdis hk hFc hP1 hD1
  exact kk u H1 locs1 hq hP2 hD2 hS1

end OWF
