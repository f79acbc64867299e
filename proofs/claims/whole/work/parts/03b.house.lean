set_option maxHeartbeats 400000 in
set_option maxRecDepth 100000 in
theorem c_X0_hasOne (l : Launch) (G : GT) (sz : Nat) (hm : Nat → Nat) (σ : Sg) (p0 : Int32) (h5 : σ 5 ≤ 8) : MI (S := Unit) l G noX yX0_hasOne wsX0_hasOne ({ frames := 0, cells := 0, slots := 0, locals := 0 } : Room) [.ref (hm 0), .int p0] (wH G hm σ) sz (fun _ => True) (fun _ => zI (0 ≤ p0.toInt ∧ p0.toInt < ((σ 5 : Nat) : Int))) (fun _ => wH G hm σ) := by
  refine MI_enter (cc := cX0_hasOne) (maxL := 2) (ret := (some .boolean)) (by decide) rfl (Nat.le_of_ble_eq_true rfl) ?_
  intro p e s m below meth c A ls H hx hb hr hlk hml hown hts hAq hS hP hK hD hX hl hnm
  have hown : s.vm.findClass RX0 = some m.cls := hown
  have hl : lv_has ls 2 [(0, .ref (hm 0)), (1, .int p0)] := hl
  refine lv_iload_n hx hb dX0_hasOne_0 rfl (lv_at hl 1 rfl) ?_
  refine r_if_lt hx hb (tgt := 16) dX0_hasOne_1 (by decide) (fun c_1 => ?_) (fun c_1 => ?_)
  · refine lv_iconst (v := nI 0) hx hb dX0_hasOne_16 rfl ?_
    exact fin_z (ty := .boolean) (by decide) hx hb hr hlk hS hP hD () trivial (zI_f (by omega)).symm (eqW.rf _) dX0_hasOne_17
  · refine lv_iload_n hx hb dX0_hasOne_4 rfl (lv_at hl 1 rfl) ?_
    refine lv_aload_n hx hb dX0_hasOne_5 rfl (lv_at hl 0 rfl) ?_
    refine n_get (C := RX0) (T := TX0) (N := 11) hx hb hts (fun _ h => List.mem_cons_of_mem _ (List.mem_append_right _ h)) hown hK hP 0 rfl rfl 5 (by decide) (List.mem_of_getElem? (i := 1) rfl) rfl (.int (nI (σ 5))) rfl dX0_hasOne_6 ?_
    refine r_icmp_ge hx hb (tgt := 16) dX0_hasOne_9 (by decide) (fun c_2 => ?_) (fun c_2 => ?_)
    · rw [nI_T (by omega)] at c_2
      refine lv_iconst (v := nI 0) hx hb dX0_hasOne_16 rfl ?_
      exact fin_z (ty := .boolean) (by decide) hx hb hr hlk hS hP hD () trivial (zI_f (by omega)).symm (eqW.rf _) dX0_hasOne_17
    · rw [nI_T (by omega)] at c_2
      refine lv_iconst (v := nI 1) hx hb dX0_hasOne_12 rfl ?_
      refine lv_goto (tgt := 17) hx hb dX0_hasOne_13 (by decide) ?_
      exact fin_z (ty := .boolean) (by decide) hx hb hr hlk hS hP hD () trivial (zI_t (by omega)).symm (eqW.rf _) dX0_hasOne_17
set_option maxHeartbeats 400000 in
set_option maxRecDepth 100000 in
theorem c_X0_isFull (l : Launch) (G : GT) (sz : Nat) (hm : Nat → Nat) (σ : Sg) (h5 : σ 5 ≤ 8) : MI (S := Unit) l G noX yX0_isFull wsX0_isFull ({ frames := 0, cells := 0, slots := 0, locals := 0 } : Room) [.ref (hm 0)] (wH G hm σ) sz (fun _ => True) (fun _ => zI (8 ≤ σ 5)) (fun _ => wH G hm σ) := by
  refine MI_enter (cc := cX0_isFull) (maxL := 1) (ret := (some .boolean)) (by decide) rfl (Nat.le_of_ble_eq_true rfl) ?_
  intro p e s m below meth c A ls H hx hb hr hlk hml hown hts hAq hS hP hK hD hX hl hnm
  have hown : s.vm.findClass RX0 = some m.cls := hown
  have hl : lv_has ls 1 [(0, .ref (hm 0))] := hl
  refine lv_aload_n hx hb dX0_isFull_0 rfl (lv_at hl 0 rfl) ?_
  refine n_get (C := RX0) (T := TX0) (N := 11) hx hb hts (fun _ h => List.mem_cons_of_mem _ (List.mem_append_right _ h)) hown hK hP 0 rfl rfl 5 (by decide) (List.mem_of_getElem? (i := 1) rfl) rfl (.int (nI (σ 5))) rfl dX0_isFull_1 ?_
  refine lv_bipush (v := nI 8) hx hb dX0_isFull_4 rfl ?_
  refine n_icmp_lt hx hb (by omega) (by omega) (tgt := 13) dX0_isFull_6 (by decide) (fun c_1 => ?_) (fun c_1 => ?_)
  · refine lv_iconst (v := nI 0) hx hb dX0_isFull_13 rfl ?_
    exact fin_z (ty := .boolean) (by decide) hx hb hr hlk hS hP hD () trivial (zI_f (by omega)).symm (eqW.rf _) dX0_isFull_14
  · refine lv_iconst (v := nI 1) hx hb dX0_isFull_9 rfl ?_
    refine lv_goto (tgt := 14) hx hb dX0_isFull_10 (by decide) ?_
    exact fin_z (ty := .boolean) (by decide) hx hb hr hlk hS hP hD () trivial (zI_t (by omega)).symm (eqW.rf _) dX0_isFull_14
set_option maxHeartbeats 400000 in
set_option maxRecDepth 100000 in
theorem c_X0_addOne (l : Launch) (G : GT) (sz : Nat) (hm : Nat → Nat) (σ : Sg) (kd : Nat) (h5 : σ 5 ≤ 8) : MI (S := Unit) l G noX yX0_addOne wsX0_addOne ({ frames := 1, cells := 0, slots := 0, locals := 20 } : Room) [.ref (hm 0), .int (nI kd)] (wH G hm σ) sz (fun _ => True) (fun _ => if σ 5 < 8 then nI (σ 5) else (-1)) (fun _ => wH G hm (if σ 5 < 8 then addN σ kd else σ)) := by
  refine MI_enter (cc := cX0_addOne) (maxL := 3) (ret := (some .int)) (by decide) rfl (Nat.le_of_ble_eq_true rfl) ?_
  intro p e s m below meth c A ls H hx hb hr hlk hml hown hts hAq hS hP hK hD hX hl hnm
  have hown : s.vm.findClass RX0 = some m.cls := hown
  have hl : lv_has ls 3 [(0, .ref (hm 0)), (1, .int (nI kd))] := hl
  refine lv_aload_n hx hb dX0_addOne_0 rfl (lv_at hl 0 rfl) ?_
  refine callVI (rest := []) (wn := fun u => wH G hm σ) ⟨hx, hb, hml, hown, hts⟩ (c_X0_isFull l G H.size hm σ (by omega)) (cwV 0 hts gX0_addOne_X0_isFull rfl rfl rfl (by decide +kernel) ⟨Nat.le_of_ble_eq_true rfl, Nat.le_of_ble_eq_true rfl⟩) noXB (fun _ _ _ => trivial) hK hP hD hS hAq 0 0 (T := TX0) (N := 11) rfl rfl rfl hl.1 rfl (Nat.le_of_ble_eq_true rfl) dX0_addOne_1 ⟨Nat.le_of_ble_eq_true rfl, Nat.le_of_ble_eq_true rfl⟩ [0, 1, 2, 3, 4, 5] rfl rfl [hm 0, hm 1, hm 2, hm 3, hm 4, hm 5] rfl (fun _ => rfl) (fun _ => rfl) (fun u H locs hok hP hD hS => ?_)
  refine z_if_eq hx hb (tgt := 9) dX0_addOne_4 (by decide) (fun c_1 => ?_) (fun c_1 => ?_)
  · refine lv_aload_n hx hb dX0_addOne_9 rfl (lv_at hl 0 rfl) ?_
    refine n_get (C := RX0) (T := TX0) (N := 11) hx hb hts (fun _ h => List.mem_cons_of_mem _ (List.mem_append_right _ h)) hown hK hP 0 rfl rfl 5 (by decide) (List.mem_of_getElem? (i := 1) rfl) rfl (.int (nI (σ 5))) rfl dX0_addOne_10 ?_
    refine lv_istore_n (lv' := [(2, .int (nI (σ 5))), (0, .ref (hm 0)), (1, .int (nI kd))]) hx hb dX0_addOne_13 rfl hl (by decide) rfl (fun ls hl => ?_)
    refine lv_aload_n hx hb dX0_addOne_14 rfl (lv_at hl 1 rfl) ?_
    refine n_get (C := RX0) (T := TX0) (N := 11) hx hb hts (fun _ h => List.mem_cons_of_mem _ (List.mem_append_right _ h)) hown hK hP 0 rfl rfl 6 (by decide) (List.mem_of_getElem? (i := 2) rfl) rfl (.ref (hm 1)) rfl dX0_addOne_15 ?_
    refine lv_iload_n hx hb dX0_addOne_18 rfl (lv_at hl 0 rfl) ?_
    refine lv_iload_n hx hb dX0_addOne_19 rfl (lv_at hl 2 rfl) ?_
    refine n_iast hx hb hK hP hD hS 1 (wn := wH G hm (un σ (pl (σ 5) 0) kd)) rfl (by omega) (by omega) (wH_p0 G hm σ (σ 5) kd) dX0_addOne_20 (fun H locs hP hD hS => ?_)
    refine lv_aload_n hx hb dX0_addOne_21 rfl (lv_at hl 1 rfl) ?_
    refine n_get (C := RX0) (T := TX0) (N := 11) hx hb hts (fun _ h => List.mem_cons_of_mem _ (List.mem_append_right _ h)) hown hK hP 0 rfl rfl 7 (by decide) (List.mem_of_getElem? (i := 3) rfl) rfl (.ref (hm 2)) rfl dX0_addOne_22 ?_
    refine lv_iload_n hx hb dX0_addOne_25 rfl (lv_at hl 0 rfl) ?_
    refine lv_iconst (v := nI 3) hx hb dX0_addOne_26 rfl ?_
    refine n_iast hx hb hK hP hD hS 2 (wn := wH G hm (un (un σ (pl (σ 5) 0) kd) (pl (σ 5) 1) 3)) rfl (by omega) (by omega) (wH_p1 G hm (un σ (pl (σ 5) 0) kd) (σ 5) 3) dX0_addOne_27 (fun H locs hP hD hS => ?_)
    refine lv_aload_n hx hb dX0_addOne_28 rfl (lv_at hl 1 rfl) ?_
    refine n_get (C := RX0) (T := TX0) (N := 11) hx hb hts (fun _ h => List.mem_cons_of_mem _ (List.mem_append_right _ h)) hown hK hP 0 rfl rfl 8 (by decide) (List.mem_of_getElem? (i := 4) rfl) rfl (.ref (hm 3)) rfl dX0_addOne_29 ?_
    refine lv_iload_n hx hb dX0_addOne_32 rfl (lv_at hl 0 rfl) ?_
    refine lv_iconst (v := nI 5) hx hb dX0_addOne_33 rfl ?_
    refine n_iast hx hb hK hP hD hS 3 (wn := wH G hm (un (un (un σ (pl (σ 5) 0) kd) (pl (σ 5) 1) 3) (pl (σ 5) 2) 5)) rfl (by omega) (by omega) (wH_p2 G hm (un (un σ (pl (σ 5) 0) kd) (pl (σ 5) 1) 3) (σ 5) 5) dX0_addOne_34 (fun H locs hP hD hS => ?_)
    refine lv_aload_n hx hb dX0_addOne_35 rfl (lv_at hl 1 rfl) ?_
    refine n_get (C := RX0) (T := TX0) (N := 11) hx hb hts (fun _ h => List.mem_cons_of_mem _ (List.mem_append_right _ h)) hown hK hP 0 rfl rfl 9 (by decide) (List.mem_of_getElem? (i := 5) rfl) rfl (.ref (hm 4)) rfl dX0_addOne_36 ?_
    refine lv_iload_n hx hb dX0_addOne_39 rfl (lv_at hl 0 rfl) ?_
    refine lv_iconst (v := nI 0) hx hb dX0_addOne_40 rfl ?_
    refine n_iast hx hb hK hP hD hS 4 (wn := wH G hm (un (un (un (un σ (pl (σ 5) 0) kd) (pl (σ 5) 1) 3) (pl (σ 5) 2) 5) (pl (σ 5) 3) 0)) rfl (by omega) (by omega) (wH_p3 G hm (un (un (un σ (pl (σ 5) 0) kd) (pl (σ 5) 1) 3) (pl (σ 5) 2) 5) (σ 5) 0) dX0_addOne_41 (fun H locs hP hD hS => ?_)
    refine lv_aload_n hx hb dX0_addOne_42 rfl (lv_at hl 1 rfl) ?_
    refine n_get (C := RX0) (T := TX0) (N := 11) hx hb hts (fun _ h => List.mem_cons_of_mem _ (List.mem_append_right _ h)) hown hK hP 0 rfl rfl 10 (by decide) (List.mem_of_getElem? (i := 6) rfl) rfl (.ref (hm 5)) rfl dX0_addOne_43 ?_
    refine lv_iload_n hx hb dX0_addOne_46 rfl (lv_at hl 0 rfl) ?_
    refine lv_iconst (v := nI 0) hx hb dX0_addOne_47 rfl ?_
    refine n_iast hx hb hK hP hD hS 5 (wn := wH G hm (un (un (un (un (un σ (pl (σ 5) 0) kd) (pl (σ 5) 1) 3) (pl (σ 5) 2) 5) (pl (σ 5) 3) 0) (pl (σ 5) 4) 0)) rfl (by omega) (by omega) (wH_p4 G hm (un (un (un (un σ (pl (σ 5) 0) kd) (pl (σ 5) 1) 3) (pl (σ 5) 2) 5) (pl (σ 5) 3) 0) (σ 5) 0) dX0_addOne_48 (fun H locs hP hD hS => ?_)
    refine lv_aload_n hx hb dX0_addOne_49 rfl (lv_at hl 1 rfl) ?_
    refine lv_dup hx hb dX0_addOne_50 rfl ?_
    refine n_get (C := RX0) (T := TX0) (N := 11) hx hb hts (fun _ h => List.mem_cons_of_mem _ (List.mem_append_right _ h)) hown hK hP 0 rfl rfl 5 (by decide) (List.mem_of_getElem? (i := 1) rfl) rfl (_) rfl dX0_addOne_51 ?_
    refine n_top (y := (nI (σ 5))) (congrArg nI (Eq.trans (un_ps (by decide)) (Eq.trans (un_ps (by decide)) (Eq.trans (un_ps (by decide)) (Eq.trans (un_ps (by decide)) (un_ps (by decide))))))) ?_
    refine lv_iconst (v := nI 1) hx hb dX0_addOne_54 rfl ?_
    refine n_iadd hx hb dX0_addOne_55 ?_
    refine n_put (C := RX0) (T := TX0) (N := 11) hx hb hts (fun _ h => List.mem_cons_of_mem _ (List.mem_append_right _ h)) tyX0 tyX0_ok nmX0 hown hK hP hD hS 0 rfl rfl 5 (by decide) (List.mem_of_getElem? (i := 1) rfl) rfl rfl (ty := .int) (v := .int (nI ((σ 5) + 1))) rfl rfl rfl (Nat.le_of_ble_eq_true rfl) (wn := wH G hm (un (un (un (un (un (un σ (pl (σ 5) 0) kd) (pl (σ 5) 1) 3) (pl (σ 5) 2) 5) (pl (σ 5) 3) 0) (pl (σ 5) 4) 0) 5 ((σ 5) + 1))) (wH_f5 G hm (un (un (un (un (un σ (pl (σ 5) 0) kd) (pl (σ 5) 1) 3) (pl (σ 5) 2) 5) (pl (σ 5) 3) 0) (pl (σ 5) 4) 0) ((σ 5) + 1)) dX0_addOne_56 (fun H locs hP hD hS => ?_)
    refine lv_iload_n hx hb dX0_addOne_59 rfl (lv_at hl 0 rfl) ?_
    exact fin_i hx hb hr hlk hS hP hD () trivial (by rw [if_pos (by omega)]) (by rw [if_pos (by omega)]; exact eqW.rf _) dX0_addOne_60
  · refine lv_iconst (v := (-1)) hx hb dX0_addOne_7 rfl ?_
    exact fin_i hx hb hr hlk hS hP hD () trivial (by rw [if_neg (by omega)]) (by rw [if_neg (by omega)]; exact eqW.rf _) dX0_addOne_8
set_option maxHeartbeats 400000 in
set_option maxRecDepth 100000 in
theorem c_X0_exchange (l : Launch) (G : GT) (sz : Nat) (ra : Nat) (g : Nat → Nat) (i j : Nat) (hi : i < 8) (hj : j < 8) : MV (S := Unit) l G noX yX0_exchange wsX0_exchange ({ frames := 0, cells := 0, slots := 0, locals := 0 } : Room) [.ref ra, .int (nI i), .int (nI j)] ([(ra, .inl (G.2.1, 8, .inl (nF g)))]) sz (fun _ => True) (fun _ => [(ra, .inl (G.2.1, 8, .inl (nF (un (un g i (g j)) j (g i)))))]) := by
  refine MV_enter (cc := cX0_exchange) (maxL := 4) (ret := none) (by decide) rfl (Nat.le_of_ble_eq_true rfl) ?_
  intro p e s m below meth c A ls H hx hb hr hlk hml hown hts hAq hS hP hK hD hX hl hnm
  have hown : s.vm.findClass RX0 = some m.cls := hown
  have hl : lv_has ls 4 [(0, .ref ra), (1, .int (nI i)), (2, .int (nI j))] := hl
  refine lv_aload_n hx hb dX0_exchange_0 rfl (lv_at hl 0 rfl) ?_
  refine lv_iload_n hx hb dX0_exchange_1 rfl (lv_at hl 1 rfl) ?_
  refine n_iald hx hb hK hP 0 (v := (nI (g i))) rfl (by omega) (by omega) rfl dX0_exchange_2 ?_
  refine lv_istore_n (lv' := [(3, .int (nI (g i))), (0, .ref ra), (1, .int (nI i)), (2, .int (nI j))]) hx hb dX0_exchange_3 rfl hl (by decide) rfl (fun ls hl => ?_)
  refine lv_aload_n hx hb dX0_exchange_4 rfl (lv_at hl 1 rfl) ?_
  refine lv_iload_n hx hb dX0_exchange_5 rfl (lv_at hl 2 rfl) ?_
  refine lv_aload_n hx hb dX0_exchange_6 rfl (lv_at hl 1 rfl) ?_
  refine lv_iload_n hx hb dX0_exchange_7 rfl (lv_at hl 3 rfl) ?_
  refine n_iald hx hb hK hP 0 (v := (nI (g j))) rfl (by omega) (by omega) rfl dX0_exchange_8 ?_
  refine n_iast hx hb hK hP hD hS 0 (wn := [(ra, .inl (G.2.1, 8, .inl (nF (un g i (g j)))))]) rfl (by omega) (by omega) (by rw [nF_un]; rfl) dX0_exchange_9 (fun H locs hP hD hS => ?_)
  refine lv_aload_n hx hb dX0_exchange_10 rfl (lv_at hl 1 rfl) ?_
  refine lv_iload_n hx hb dX0_exchange_11 rfl (lv_at hl 3 rfl) ?_
  refine lv_iload_n hx hb dX0_exchange_12 rfl (lv_at hl 0 rfl) ?_
  refine n_iast hx hb hK hP hD hS 0 (wn := [(ra, .inl (G.2.1, 8, .inl (nF (un (un g i (g j)) j (g i)))))]) rfl (by omega) (by omega) (by rw [nF_un]; rfl) dX0_exchange_13 (fun H locs hP hD hS => ?_)
  exact fin_v hx hb hr hlk hS hP hD () trivial (eqW.rf _) dX0_exchange_14
set_option maxHeartbeats 400000 in
set_option maxRecDepth 100000 in
theorem c_X0_changeNumbers (l : Launch) (G : GT) (sz : Nat) (hm : Nat → Nat) (σ : Sg) (i j : Nat) (h5 : σ 5 ≤ 8) (hi : i < σ 5) (hj : j < σ 5) : MV (S := Unit) l G noX yX0_changeNumbers wsX0_changeNumbers ({ frames := 1, cells := 0, slots := 0, locals := 23 } : Room) [.ref (hm 0), .int (nI i), .int (nI j)] (wH G hm σ) sz (fun _ => True) (fun _ => wH G hm (swapN σ i j)) := by
  refine MV_enter (cc := cX0_changeNumbers) (maxL := 3) (ret := none) (by decide) rfl (Nat.le_of_ble_eq_true rfl) ?_
  intro p e s m below meth c A ls H hx hb hr hlk hml hown hts hAq hS hP hK hD hX hl hnm
  have hown : s.vm.findClass RX0 = some m.cls := hown
  have hl : lv_has ls 3 [(0, .ref (hm 0)), (1, .int (nI i)), (2, .int (nI j))] := hl
  refine lv_aload_n hx hb dX0_changeNumbers_0 rfl (lv_at hl 0 rfl) ?_
  refine lv_iload_n hx hb dX0_changeNumbers_1 rfl (lv_at hl 1 rfl) ?_
  refine callVI (rest := []) (wn := fun u => wH G hm σ) ⟨hx, hb, hml, hown, hts⟩ (c_X0_hasOne l G H.size hm σ (nI i) (by omega)) (cwV 1 hts gX0_changeNumbers_X0_hasOne rfl rfl rfl (by decide +kernel) ⟨Nat.le_of_ble_eq_true rfl, Nat.le_of_ble_eq_true rfl⟩) noXB (fun _ _ _ => trivial) hK hP hD hS hAq 0 0 (T := TX0) (N := 11) rfl rfl rfl hl.1 rfl (Nat.le_of_ble_eq_true rfl) dX0_changeNumbers_2 ⟨Nat.le_of_ble_eq_true rfl, Nat.le_of_ble_eq_true rfl⟩ [0, 1, 2, 3, 4, 5] rfl rfl [hm 0, hm 1, hm 2, hm 3, hm 4, hm 5] rfl (fun _ => rfl) (fun _ => rfl) (fun u H locs hok hP hD hS => ?_)
  refine z_if_eq hx hb (tgt := 16) dX0_changeNumbers_5 (by decide) (fun c_1 => ?_) (fun c_1 => ?_)
  · rw [nI_T (by omega)] at c_1; omega
  · refine lv_aload_n hx hb dX0_changeNumbers_8 rfl (lv_at hl 0 rfl) ?_
    refine lv_iload_n hx hb dX0_changeNumbers_9 rfl (lv_at hl 2 rfl) ?_
    refine callVI (rest := []) (wn := fun u => wH G hm σ) ⟨hx, hb, hml, hown, hts⟩ (c_X0_hasOne l G H.size hm σ (nI j) (by omega)) (cwV 1 hts gX0_changeNumbers_X0_hasOne rfl rfl rfl (by decide +kernel) ⟨Nat.le_of_ble_eq_true rfl, Nat.le_of_ble_eq_true rfl⟩) noXB (fun _ _ _ => trivial) hK hP hD hS hAq 0 0 (T := TX0) (N := 11) rfl rfl rfl hl.1 rfl (Nat.le_of_ble_eq_true rfl) dX0_changeNumbers_10 ⟨Nat.le_of_ble_eq_true rfl, Nat.le_of_ble_eq_true rfl⟩ [0, 1, 2, 3, 4, 5] rfl rfl [hm 0, hm 1, hm 2, hm 3, hm 4, hm 5] rfl (fun _ => rfl) (fun _ => rfl) (fun u H locs hok hP hD hS => ?_)
    refine z_if_ne hx hb (tgt := 17) dX0_changeNumbers_13 (by decide) (fun c_2 => ?_) (fun c_2 => ?_)
    · refine lv_aload_n hx hb dX0_changeNumbers_17 rfl (lv_at hl 0 rfl) ?_
      refine n_get (C := RX0) (T := TX0) (N := 11) hx hb hts (fun _ h => List.mem_cons_of_mem _ (List.mem_append_right _ h)) hown hK hP 0 rfl rfl 6 (by decide) (List.mem_of_getElem? (i := 1) rfl) rfl (.ref (hm 1)) rfl dX0_changeNumbers_18 ?_
      refine lv_iload_n hx hb dX0_changeNumbers_21 rfl (lv_at hl 1 rfl) ?_
      refine lv_iload_n hx hb dX0_changeNumbers_22 rfl (lv_at hl 2 rfl) ?_
      refine callSV (rest := []) (wn := fun u => wH G hm (exN σ 0 i j)) ⟨hx, hb, hml, hown, hts⟩ (c_X0_exchange l G H.size (hm 1) (hA σ 0) i j (by omega) (by omega)) (va_cwS 3 hts gX0_changeNumbers_X0_exchange rfl rfl rfl (by decide +kernel) ⟨Nat.le_of_ble_eq_true rfl, Nat.le_of_ble_eq_true rfl⟩) noXB (fun _ _ _ => trivial) hK hP hD hS hAq rfl hl.1 rfl (Nat.le_of_ble_eq_true rfl) dX0_changeNumbers_23 ⟨Nat.le_of_ble_eq_true rfl, Nat.le_of_ble_eq_true rfl⟩ [1] rfl rfl [hm 1] rfl (fun _ => rfl) (fun _ => wH_x0 G hm σ i j) (fun u H locs hok hP hD hS => ?_)
      refine lv_aload_n hx hb dX0_changeNumbers_26 rfl (lv_at hl 0 rfl) ?_
      refine n_get (C := RX0) (T := TX0) (N := 11) hx hb hts (fun _ h => List.mem_cons_of_mem _ (List.mem_append_right _ h)) hown hK hP 0 rfl rfl 7 (by decide) (List.mem_of_getElem? (i := 2) rfl) rfl (.ref (hm 2)) rfl dX0_changeNumbers_27 ?_
      refine lv_iload_n hx hb dX0_changeNumbers_30 rfl (lv_at hl 1 rfl) ?_
      refine lv_iload_n hx hb dX0_changeNumbers_31 rfl (lv_at hl 2 rfl) ?_
      refine callSV (rest := []) (wn := fun u => wH G hm (exN (exN σ 0 i j) 1 i j)) ⟨hx, hb, hml, hown, hts⟩ (c_X0_exchange l G H.size (hm 2) (hA (exN σ 0 i j) 1) i j (by omega) (by omega)) (va_cwS 3 hts gX0_changeNumbers_X0_exchange rfl rfl rfl (by decide +kernel) ⟨Nat.le_of_ble_eq_true rfl, Nat.le_of_ble_eq_true rfl⟩) noXB (fun _ _ _ => trivial) hK hP hD hS hAq rfl hl.1 rfl (Nat.le_of_ble_eq_true rfl) dX0_changeNumbers_32 ⟨Nat.le_of_ble_eq_true rfl, Nat.le_of_ble_eq_true rfl⟩ [2] rfl rfl [hm 2] rfl (fun _ => rfl) (fun _ => wH_x1 G hm (exN σ 0 i j) i j) (fun u H locs hok hP hD hS => ?_)
      refine lv_aload_n hx hb dX0_changeNumbers_35 rfl (lv_at hl 0 rfl) ?_
      refine n_get (C := RX0) (T := TX0) (N := 11) hx hb hts (fun _ h => List.mem_cons_of_mem _ (List.mem_append_right _ h)) hown hK hP 0 rfl rfl 8 (by decide) (List.mem_of_getElem? (i := 3) rfl) rfl (.ref (hm 3)) rfl dX0_changeNumbers_36 ?_
      refine lv_iload_n hx hb dX0_changeNumbers_39 rfl (lv_at hl 1 rfl) ?_
      refine lv_iload_n hx hb dX0_changeNumbers_40 rfl (lv_at hl 2 rfl) ?_
      refine callSV (rest := []) (wn := fun u => wH G hm (exN (exN (exN σ 0 i j) 1 i j) 2 i j)) ⟨hx, hb, hml, hown, hts⟩ (c_X0_exchange l G H.size (hm 3) (hA (exN (exN σ 0 i j) 1 i j) 2) i j (by omega) (by omega)) (va_cwS 3 hts gX0_changeNumbers_X0_exchange rfl rfl rfl (by decide +kernel) ⟨Nat.le_of_ble_eq_true rfl, Nat.le_of_ble_eq_true rfl⟩) noXB (fun _ _ _ => trivial) hK hP hD hS hAq rfl hl.1 rfl (Nat.le_of_ble_eq_true rfl) dX0_changeNumbers_41 ⟨Nat.le_of_ble_eq_true rfl, Nat.le_of_ble_eq_true rfl⟩ [3] rfl rfl [hm 3] rfl (fun _ => rfl) (fun _ => wH_x2 G hm (exN (exN σ 0 i j) 1 i j) i j) (fun u H locs hok hP hD hS => ?_)
      refine lv_aload_n hx hb dX0_changeNumbers_44 rfl (lv_at hl 0 rfl) ?_
      refine n_get (C := RX0) (T := TX0) (N := 11) hx hb hts (fun _ h => List.mem_cons_of_mem _ (List.mem_append_right _ h)) hown hK hP 0 rfl rfl 9 (by decide) (List.mem_of_getElem? (i := 4) rfl) rfl (.ref (hm 4)) rfl dX0_changeNumbers_45 ?_
      refine lv_iload_n hx hb dX0_changeNumbers_48 rfl (lv_at hl 1 rfl) ?_
      refine lv_iload_n hx hb dX0_changeNumbers_49 rfl (lv_at hl 2 rfl) ?_
      refine callSV (rest := []) (wn := fun u => wH G hm (exN (exN (exN (exN σ 0 i j) 1 i j) 2 i j) 3 i j)) ⟨hx, hb, hml, hown, hts⟩ (c_X0_exchange l G H.size (hm 4) (hA (exN (exN (exN σ 0 i j) 1 i j) 2 i j) 3) i j (by omega) (by omega)) (va_cwS 3 hts gX0_changeNumbers_X0_exchange rfl rfl rfl (by decide +kernel) ⟨Nat.le_of_ble_eq_true rfl, Nat.le_of_ble_eq_true rfl⟩) noXB (fun _ _ _ => trivial) hK hP hD hS hAq rfl hl.1 rfl (Nat.le_of_ble_eq_true rfl) dX0_changeNumbers_50 ⟨Nat.le_of_ble_eq_true rfl, Nat.le_of_ble_eq_true rfl⟩ [4] rfl rfl [hm 4] rfl (fun _ => rfl) (fun _ => wH_x3 G hm (exN (exN (exN σ 0 i j) 1 i j) 2 i j) i j) (fun u H locs hok hP hD hS => ?_)
      refine lv_aload_n hx hb dX0_changeNumbers_53 rfl (lv_at hl 0 rfl) ?_
      refine n_get (C := RX0) (T := TX0) (N := 11) hx hb hts (fun _ h => List.mem_cons_of_mem _ (List.mem_append_right _ h)) hown hK hP 0 rfl rfl 10 (by decide) (List.mem_of_getElem? (i := 5) rfl) rfl (.ref (hm 5)) rfl dX0_changeNumbers_54 ?_
      refine lv_iload_n hx hb dX0_changeNumbers_57 rfl (lv_at hl 1 rfl) ?_
      refine lv_iload_n hx hb dX0_changeNumbers_58 rfl (lv_at hl 2 rfl) ?_
      refine callSV (rest := []) (wn := fun u => wH G hm (exN (exN (exN (exN (exN σ 0 i j) 1 i j) 2 i j) 3 i j) 4 i j)) ⟨hx, hb, hml, hown, hts⟩ (c_X0_exchange l G H.size (hm 5) (hA (exN (exN (exN (exN σ 0 i j) 1 i j) 2 i j) 3 i j) 4) i j (by omega) (by omega)) (va_cwS 3 hts gX0_changeNumbers_X0_exchange rfl rfl rfl (by decide +kernel) ⟨Nat.le_of_ble_eq_true rfl, Nat.le_of_ble_eq_true rfl⟩) noXB (fun _ _ _ => trivial) hK hP hD hS hAq rfl hl.1 rfl (Nat.le_of_ble_eq_true rfl) dX0_changeNumbers_59 ⟨Nat.le_of_ble_eq_true rfl, Nat.le_of_ble_eq_true rfl⟩ [5] rfl rfl [hm 5] rfl (fun _ => rfl) (fun _ => wH_x4 G hm (exN (exN (exN (exN σ 0 i j) 1 i j) 2 i j) 3 i j) i j) (fun u H locs hok hP hD hS => ?_)
      exact fin_v hx hb hr hlk hS hP hD () trivial (eqW.rf _) dX0_changeNumbers_62
    · rw [nI_T (by omega)] at c_2; omega
set_option maxHeartbeats 400000 in
set_option maxRecDepth 100000 in
theorem c_X0_watchAll (l : Launch) (G : GT) (sz : Nat) (hm : Nat → Nat) (σ : Sg) (mem : Nat) (h5 : σ 5 ≤ 8) (hmem : mem < 256) : MV (S := Unit) l G noX yX0_watchAll wsX0_watchAll ({ frames := 0, cells := 0, slots := 0, locals := 0 } : Room) [.ref (hm 0), .int (nI mem)] (wH G hm σ) sz (fun _ => True) (fun _ => wH G hm (wallN σ mem (σ 5))) := by
  refine MV_enter (cc := cX0_watchAll) (maxL := 3) (ret := none) (by decide) rfl (Nat.le_of_ble_eq_true rfl) ?_
  intro p e s m below meth c A ls H hx hb hr hlk hml hown hts hAq hS hP hK hD hX hl hnm
  have hown : s.vm.findClass RX0 = some m.cls := hown
  have hl : lv_has ls 3 [(0, .ref (hm 0)), (1, .int (nI mem))] := hl
  refine lv_iconst (v := nI 0) hx hb dX0_watchAll_0 rfl ?_
  refine lv_istore_n (lv' := [(2, .int (nI 0)), (0, .ref (hm 0)), (1, .int (nI mem))]) hx hb dX0_watchAll_1 rfl hl (by decide) rfl (fun ls hl => ?_)
  refine W_loop1 (I := fun (k : Nat) => k ≤ σ 5) (wd := fun (k : Nat) => wH G hm (wallN σ mem k)) (lv := fun (k : Nat) => [(2, .int (nI k)), (0, .ref (hm 0)), (1, .int (nI mem))]) (μ := fun (k : Nat) => σ 5 - k) ?_ 0 (by omega) hP hD hS (lv_sub hl [0, 1, 2] rfl)
  intro k H locs ls hI0 hP hD hS hl ih
  have hk : k ≤ σ 5 := hI0
  refine lv_iload_n hx hb dX0_watchAll_2 rfl (lv_at hl 0 rfl) ?_
  refine lv_aload_n hx hb dX0_watchAll_3 rfl (lv_at hl 1 rfl) ?_
  refine n_get (C := RX0) (T := TX0) (N := 11) hx hb hts (fun _ h => List.mem_cons_of_mem _ (List.mem_append_right _ h)) hown hK hP 0 rfl rfl 5 (by decide) (List.mem_of_getElem? (i := 1) rfl) rfl (_) rfl dX0_watchAll_4 ?_
  refine n_top (y := (nI (σ 5))) (congrArg nI (wall_s σ mem (by decide) k)) ?_
  refine n_icmp_ge hx hb (by omega) (by omega) (tgt := 32) dX0_watchAll_7 (by decide) (fun c_1 => ?_) (fun c_1 => ?_)
  · have hk5 : k = σ 5 := by omega
    subst hk5
    exact fin_v hx hb hr hlk hS hP hD () trivial (eqW.rf _) dX0_watchAll_32
  · refine lv_iload_n hx hb dX0_watchAll_10 rfl (lv_at hl 2 rfl) ?_
    refine lv_iload_n hx hb dX0_watchAll_11 rfl (lv_at hl 0 rfl) ?_
    refine lv_ishr hx hb dX0_watchAll_12 ?_
    refine lv_iconst (v := nI 1) hx hb dX0_watchAll_13 rfl ?_
    refine lv_iand hx hb dX0_watchAll_14 ?_
    refine n_top (bit_at (by omega) (by omega)) ?_
    refine n_if_eq hx hb (by omega) (tgt := 26) dX0_watchAll_15 (by decide) (fun c_2 => ?_) (fun c_2 => ?_)
    · refine n_iinc (lv' := [(2, .int (nI (k + 1))), (0, .ref (hm 0)), (1, .int (nI mem))]) hx hb dX0_watchAll_26 hl (k := 0) rfl (by decide) rfl (fun ls hl => ?_)
      refine lv_goto (tgt := 2) hx hb dX0_watchAll_29 (by decide) ?_
      have e1 : wallN σ mem (k + 1) = wallN σ mem k := by rw [wall_S]; first | rw [if_pos (by omega)] | rw [if_neg (by omega)]
      exact ih (k + 1) _ _ _ (by omega) (by omega) (by rw [e1]; exact hP) (by rw [e1]; exact hD) hS (lv_sub hl [0, 1, 2] rfl)
    · refine lv_aload_n hx hb dX0_watchAll_18 rfl (lv_at hl 1 rfl) ?_
      refine n_get (C := RX0) (T := TX0) (N := 11) hx hb hts (fun _ h => List.mem_cons_of_mem _ (List.mem_append_right _ h)) hown hK hP 0 rfl rfl 9 (by decide) (List.mem_of_getElem? (i := 2) rfl) rfl (.ref (hm 4)) rfl dX0_watchAll_19 ?_
      refine lv_iload_n hx hb dX0_watchAll_22 rfl (lv_at hl 0 rfl) ?_
      refine lv_bipush (v := nI 99) hx hb dX0_watchAll_23 rfl ?_
      refine n_iast hx hb hK hP hD hS 4 (wn := wH G hm (un (wallN σ mem k) (pl k 3) 99)) rfl (by omega) (by omega) (wH_p3 G hm (wallN σ mem k) k 99) dX0_watchAll_25 (fun H locs hP hD hS => ?_)
      refine n_iinc (lv' := [(2, .int (nI (k + 1))), (0, .ref (hm 0)), (1, .int (nI mem))]) hx hb dX0_watchAll_26 hl (k := 0) rfl (by decide) rfl (fun ls hl => ?_)
      refine lv_goto (tgt := 2) hx hb dX0_watchAll_29 (by decide) ?_
      have e1 : wallN σ mem (k + 1) = un (wallN σ mem k) (pl k 3) 99 := by rw [wall_S]; first | rw [if_pos (by omega)] | rw [if_neg (by omega)]
      exact ih (k + 1) _ _ _ (by omega) (by omega) (by rw [e1]; exact hP) (by rw [e1]; exact hD) hS (lv_sub hl [0, 1, 2] rfl)
set_option maxHeartbeats 400000 in
set_option maxRecDepth 100000 in
theorem c_X0_watchedSet (l : Launch) (G : GT) (sz : Nat) (hm : Nat → Nat) (σ : Sg) (hI : Inv σ) : MI (S := Unit) l G noX yX0_watchedSet wsX0_watchedSet ({ frames := 0, cells := 0, slots := 0, locals := 0 } : Room) [.ref (hm 0)] (wH G hm σ) sz (fun _ => True) (fun _ => nI (setN σ (σ 5))) (fun _ => wH G hm σ) := by
  refine MI_enter (cc := cX0_watchedSet) (maxL := 3) (ret := (some .int)) (by decide) rfl (Nat.le_of_ble_eq_true rfl) ?_
  intro p e s m below meth c A ls H hx hb hr hlk hml hown hts hAq hS hP hK hD hX hl hnm
  have hown : s.vm.findClass RX0 = some m.cls := hown
  have hl : lv_has ls 3 [(0, .ref (hm 0))] := hl
  obtain ⟨⟨i1, i2, i3, i4, i5⟩, ip⟩ := id hI
  refine lv_iconst (v := nI 0) hx hb dX0_watchedSet_0 rfl ?_
  refine lv_istore_n (lv' := [(1, .int (nI 0)), (0, .ref (hm 0))]) hx hb dX0_watchedSet_1 rfl hl (by decide) rfl (fun ls hl => ?_)
  refine lv_iconst (v := nI 0) hx hb dX0_watchedSet_2 rfl ?_
  refine lv_istore_n (lv' := [(2, .int (nI 0)), (1, .int (nI 0)), (0, .ref (hm 0))]) hx hb dX0_watchedSet_3 rfl hl (by decide) rfl (fun ls hl => ?_)
  refine W_loop1 (I := fun (k : Nat) => k ≤ σ 5) (wd := fun (k : Nat) => wH G hm σ) (lv := fun (k : Nat) => [(2, .int (nI k)), (1, .int (nI (setN σ k))), (0, .ref (hm 0))]) (μ := fun (k : Nat) => σ 5 - k) ?_ 0 (by omega) hP hD hS (lv_sub hl [0, 1, 2] rfl)
  intro k H locs ls hI0 hP hD hS hl ih
  have hk : k ≤ σ 5 := hI0
  have hlt := set_lt σ k (by omega)
  refine lv_iload_n hx hb dX0_watchedSet_4 rfl (lv_at hl 0 rfl) ?_
  refine lv_aload_n hx hb dX0_watchedSet_5 rfl (lv_at hl 2 rfl) ?_
  refine n_get (C := RX0) (T := TX0) (N := 11) hx hb hts (fun _ h => List.mem_cons_of_mem _ (List.mem_append_right _ h)) hown hK hP 0 rfl rfl 5 (by decide) (List.mem_of_getElem? (i := 1) rfl) rfl (.int (nI (σ 5))) rfl dX0_watchedSet_6 ?_
  refine n_icmp_ge hx hb (by omega) (by omega) (tgt := 33) dX0_watchedSet_9 (by decide) (fun c_1 => ?_) (fun c_1 => ?_)
  · have hk5 : k = σ 5 := by omega
    subst hk5
    refine lv_iload_n hx hb dX0_watchedSet_33 rfl (lv_at hl 1 rfl) ?_
    exact fin_i hx hb hr hlk hS hP hD () trivial rfl (eqW.rf _) dX0_watchedSet_34
  · obtain ⟨p0, p1, p2, p3, p4⟩ := ip k (by omega)
    refine lv_aload_n hx hb dX0_watchedSet_12 rfl (lv_at hl 2 rfl) ?_
    refine n_get (C := RX0) (T := TX0) (N := 11) hx hb hts (fun _ h => List.mem_cons_of_mem _ (List.mem_append_right _ h)) hown hK hP 0 rfl rfl 9 (by decide) (List.mem_of_getElem? (i := 2) rfl) rfl (.ref (hm 4)) rfl dX0_watchedSet_13 ?_
    refine lv_iload_n hx hb dX0_watchedSet_16 rfl (lv_at hl 0 rfl) ?_
    refine n_iald hx hb hK hP 4 (v := (nI (σ (pl k 3)))) rfl (by omega) (by omega) rfl dX0_watchedSet_17 ?_
    refine n_if_le hx hb (by omega) (tgt := 27) dX0_watchedSet_18 (by decide) (fun c_2 => ?_) (fun c_2 => ?_)
    · refine n_iinc (lv' := [(2, .int (nI (k + 1))), (1, .int (nI (setN σ k))), (0, .ref (hm 0))]) hx hb dX0_watchedSet_27 hl (k := 0) rfl (by decide) rfl (fun ls hl => ?_)
      refine lv_goto (tgt := 4) hx hb dX0_watchedSet_30 (by decide) ?_
      have e2 : setN σ (k + 1) = setN σ k := by rw [set_S]; first | rw [if_pos (by omega)] | rw [if_neg (by omega)]
      exact ih (k + 1) _ _ _ (by omega) (by omega) hP hD hS (by rw [e2]; exact (lv_sub hl [0, 1, 2] rfl))
    · refine lv_iload_n hx hb dX0_watchedSet_21 rfl (lv_at hl 1 rfl) ?_
      refine lv_iconst (v := nI 1) hx hb dX0_watchedSet_22 rfl ?_
      refine lv_iload_n hx hb dX0_watchedSet_23 rfl (lv_at hl 0 rfl) ?_
      refine lv_ishl hx hb dX0_watchedSet_24 ?_
      refine lv_ior hx hb dX0_watchedSet_25 ?_
      refine n_top (or_at hlt (by omega)) ?_
      refine lv_istore_n (lv' := [(1, .int (nI (setN σ k ||| 2 ^ k))), (2, .int (nI k)), (0, .ref (hm 0))]) hx hb dX0_watchedSet_26 rfl hl (by decide) rfl (fun ls hl => ?_)
      refine n_iinc (lv' := [(2, .int (nI (k + 1))), (1, .int (nI (setN σ k ||| 2 ^ k))), (0, .ref (hm 0))]) hx hb dX0_watchedSet_27 hl (k := 1) rfl (by decide) rfl (fun ls hl => ?_)
      refine lv_goto (tgt := 4) hx hb dX0_watchedSet_30 (by decide) ?_
      have e2 : setN σ (k + 1) = setN σ k ||| 2 ^ k := by rw [set_S]; first | rw [if_pos (by omega)] | rw [if_neg (by omega)]
      exact ih (k + 1) _ _ _ (by omega) (by omega) hP hD hS (by rw [e2]; exact (lv_sub hl [0, 1, 2] rfl))
set_option maxHeartbeats 400000 in
set_option maxRecDepth 100000 in
theorem c_X0_brokeTogether (l : Launch) (G : GT) (sz : Nat) (hm : Nat → Nat) (σ : Sg) (hI : Inv σ) : MI (S := Unit) l G noX yX0_brokeTogether wsX0_brokeTogether ({ frames := 0, cells := 0, slots := 0, locals := 0 } : Room) [.ref (hm 0)] (wH G hm σ) sz (fun _ => True) (fun _ => nI (sumN σ 4 (σ 5))) (fun _ => wH G hm σ) := by
  refine MI_enter (cc := cX0_brokeTogether) (maxL := 3) (ret := (some .int)) (by decide) rfl (Nat.le_of_ble_eq_true rfl) ?_
  intro p e s m below meth c A ls H hx hb hr hlk hml hown hts hAq hS hP hK hD hX hl hnm
  have hown : s.vm.findClass RX0 = some m.cls := hown
  have hl : lv_has ls 3 [(0, .ref (hm 0))] := hl
  obtain ⟨⟨i1, i2, i3, i4, i5⟩, ip⟩ := id hI
  refine lv_iconst (v := nI 0) hx hb dX0_brokeTogether_0 rfl ?_
  refine lv_istore_n (lv' := [(1, .int (nI 0)), (0, .ref (hm 0))]) hx hb dX0_brokeTogether_1 rfl hl (by decide) rfl (fun ls hl => ?_)
  refine lv_iconst (v := nI 0) hx hb dX0_brokeTogether_2 rfl ?_
  refine lv_istore_n (lv' := [(2, .int (nI 0)), (1, .int (nI 0)), (0, .ref (hm 0))]) hx hb dX0_brokeTogether_3 rfl hl (by decide) rfl (fun ls hl => ?_)
  refine W_loop1 (I := fun (k : Nat) => k ≤ σ 5) (wd := fun (k : Nat) => wH G hm σ) (lv := fun (k : Nat) => [(2, .int (nI k)), (1, .int (nI (sumN σ 4 k))), (0, .ref (hm 0))]) (μ := fun (k : Nat) => σ 5 - k) ?_ 0 (by omega) hP hD hS (lv_sub hl [0, 1, 2] rfl)
  intro k H locs ls hI0 hP hD hS hl ih
  have hk : k ≤ σ 5 := hI0
  refine lv_iload_n hx hb dX0_brokeTogether_4 rfl (lv_at hl 0 rfl) ?_
  refine lv_aload_n hx hb dX0_brokeTogether_5 rfl (lv_at hl 2 rfl) ?_
  refine n_get (C := RX0) (T := TX0) (N := 11) hx hb hts (fun _ h => List.mem_cons_of_mem _ (List.mem_append_right _ h)) hown hK hP 0 rfl rfl 5 (by decide) (List.mem_of_getElem? (i := 1) rfl) rfl (.int (nI (σ 5))) rfl dX0_brokeTogether_6 ?_
  refine n_icmp_ge hx hb (by omega) (by omega) (tgt := 27) dX0_brokeTogether_9 (by decide) (fun c_1 => ?_) (fun c_1 => ?_)
  · have hk5 : k = σ 5 := by omega
    subst hk5
    refine lv_iload_n hx hb dX0_brokeTogether_27 rfl (lv_at hl 1 rfl) ?_
    exact fin_i hx hb hr hlk hS hP hD () trivial rfl (eqW.rf _) dX0_brokeTogether_28
  · refine lv_iload_n hx hb dX0_brokeTogether_12 rfl (lv_at hl 1 rfl) ?_
    refine lv_aload_n hx hb dX0_brokeTogether_13 rfl (lv_at hl 2 rfl) ?_
    refine n_get (C := RX0) (T := TX0) (N := 11) hx hb hts (fun _ h => List.mem_cons_of_mem _ (List.mem_append_right _ h)) hown hK hP 0 rfl rfl 10 (by decide) (List.mem_of_getElem? (i := 2) rfl) rfl (.ref (hm 5)) rfl dX0_brokeTogether_14 ?_
    refine lv_iload_n hx hb dX0_brokeTogether_17 rfl (lv_at hl 0 rfl) ?_
    refine n_iald hx hb hK hP 5 (v := (nI (σ (pl k 4)))) rfl (by omega) (by omega) rfl dX0_brokeTogether_18 ?_
    refine n_iadd hx hb dX0_brokeTogether_19 ?_
    refine lv_istore_n (lv' := [(1, .int (nI ((sumN σ 4 k) + (σ (pl k 4))))), (2, .int (nI k)), (0, .ref (hm 0))]) hx hb dX0_brokeTogether_20 rfl hl (by decide) rfl (fun ls hl => ?_)
    refine n_iinc (lv' := [(2, .int (nI (k + 1))), (1, .int (nI ((sumN σ 4 k) + (σ (pl k 4))))), (0, .ref (hm 0))]) hx hb dX0_brokeTogether_21 hl (k := 1) rfl (by decide) rfl (fun ls hl => ?_)
    refine lv_goto (tgt := 4) hx hb dX0_brokeTogether_24 (by decide) ?_
    exact ih (k + 1) _ _ _ (by omega) (by omega) hP hD hS (lv_sub hl [0, 1, 2] rfl)
set_option maxHeartbeats 400000 in
set_option maxRecDepth 100000 in
theorem c_X0_reasonsTogether (l : Launch) (G : GT) (sz : Nat) (hm : Nat → Nat) (σ : Sg) (hI : Inv σ) : MI (S := Unit) l G noX yX0_reasonsTogether wsX0_reasonsTogether ({ frames := 0, cells := 0, slots := 0, locals := 0 } : Room) [.ref (hm 0)] (wH G hm σ) sz (fun _ => True) (fun _ => nI (sumN σ 2 (σ 5))) (fun _ => wH G hm σ) := by
  refine MI_enter (cc := cX0_reasonsTogether) (maxL := 3) (ret := (some .int)) (by decide) rfl (Nat.le_of_ble_eq_true rfl) ?_
  intro p e s m below meth c A ls H hx hb hr hlk hml hown hts hAq hS hP hK hD hX hl hnm
  have hown : s.vm.findClass RX0 = some m.cls := hown
  have hl : lv_has ls 3 [(0, .ref (hm 0))] := hl
  obtain ⟨⟨i1, i2, i3, i4, i5⟩, ip⟩ := id hI
  refine lv_iconst (v := nI 0) hx hb dX0_reasonsTogether_0 rfl ?_
  refine lv_istore_n (lv' := [(1, .int (nI 0)), (0, .ref (hm 0))]) hx hb dX0_reasonsTogether_1 rfl hl (by decide) rfl (fun ls hl => ?_)
  refine lv_iconst (v := nI 0) hx hb dX0_reasonsTogether_2 rfl ?_
  refine lv_istore_n (lv' := [(2, .int (nI 0)), (1, .int (nI 0)), (0, .ref (hm 0))]) hx hb dX0_reasonsTogether_3 rfl hl (by decide) rfl (fun ls hl => ?_)
  refine W_loop1 (I := fun (k : Nat) => k ≤ σ 5) (wd := fun (k : Nat) => wH G hm σ) (lv := fun (k : Nat) => [(2, .int (nI k)), (1, .int (nI (sumN σ 2 k))), (0, .ref (hm 0))]) (μ := fun (k : Nat) => σ 5 - k) ?_ 0 (by omega) hP hD hS (lv_sub hl [0, 1, 2] rfl)
  intro k H locs ls hI0 hP hD hS hl ih
  have hk : k ≤ σ 5 := hI0
  refine lv_iload_n hx hb dX0_reasonsTogether_4 rfl (lv_at hl 0 rfl) ?_
  refine lv_aload_n hx hb dX0_reasonsTogether_5 rfl (lv_at hl 2 rfl) ?_
  refine n_get (C := RX0) (T := TX0) (N := 11) hx hb hts (fun _ h => List.mem_cons_of_mem _ (List.mem_append_right _ h)) hown hK hP 0 rfl rfl 5 (by decide) (List.mem_of_getElem? (i := 1) rfl) rfl (.int (nI (σ 5))) rfl dX0_reasonsTogether_6 ?_
  refine n_icmp_ge hx hb (by omega) (by omega) (tgt := 27) dX0_reasonsTogether_9 (by decide) (fun c_1 => ?_) (fun c_1 => ?_)
  · have hk5 : k = σ 5 := by omega
    subst hk5
    refine lv_iload_n hx hb dX0_reasonsTogether_27 rfl (lv_at hl 1 rfl) ?_
    exact fin_i hx hb hr hlk hS hP hD () trivial rfl (eqW.rf _) dX0_reasonsTogether_28
  · refine lv_iload_n hx hb dX0_reasonsTogether_12 rfl (lv_at hl 1 rfl) ?_
    refine lv_aload_n hx hb dX0_reasonsTogether_13 rfl (lv_at hl 2 rfl) ?_
    refine n_get (C := RX0) (T := TX0) (N := 11) hx hb hts (fun _ h => List.mem_cons_of_mem _ (List.mem_append_right _ h)) hown hK hP 0 rfl rfl 8 (by decide) (List.mem_of_getElem? (i := 2) rfl) rfl (.ref (hm 3)) rfl dX0_reasonsTogether_14 ?_
    refine lv_iload_n hx hb dX0_reasonsTogether_17 rfl (lv_at hl 0 rfl) ?_
    refine n_iald hx hb hK hP 3 (v := (nI (σ (pl k 2)))) rfl (by omega) (by omega) rfl dX0_reasonsTogether_18 ?_
    refine n_iadd hx hb dX0_reasonsTogether_19 ?_
    refine lv_istore_n (lv' := [(1, .int (nI ((sumN σ 2 k) + (σ (pl k 2))))), (2, .int (nI k)), (0, .ref (hm 0))]) hx hb dX0_reasonsTogether_20 rfl hl (by decide) rfl (fun ls hl => ?_)
    refine n_iinc (lv' := [(2, .int (nI (k + 1))), (1, .int (nI ((sumN σ 2 k) + (σ (pl k 2))))), (0, .ref (hm 0))]) hx hb dX0_reasonsTogether_21 hl (k := 1) rfl (by decide) rfl (fun ls hl => ?_)
    refine lv_goto (tgt := 4) hx hb dX0_reasonsTogether_24 (by decide) ?_
    exact ih (k + 1) _ _ _ (by omega) (by omega) hP hD hS (lv_sub hl [0, 1, 2] rfl)
set_option maxHeartbeats 400000 in
set_option maxRecDepth 100000 in
theorem c_X0_wantsOf (l : Launch) (G : GT) (sz : Nat) (hm : Nat → Nat) (σ : Sg) (k : Nat) (hI : Inv σ) (hk : k < σ 5) (hd0 : σ 0 < 1000000) : MI (S := Unit) l G noX yX0_wantsOf wsX0_wantsOf ({ frames := 2, cells := 0, slots := 0, locals := 44 } : Room) [.ref (hm 0), .int (nI k)] (wH G hm σ) sz (fun _ => True) (fun _ => nI (wantsN σ k)) (fun _ => wH G hm σ) := by
  refine MI_enter (cc := cX0_wantsOf) (maxL := 2) (ret := (some .int)) (by decide) rfl (Nat.le_of_ble_eq_true rfl) ?_
  intro p e s m below meth c A ls H hx hb hr hlk hml hown hts hAq hS hP hK hD hX hl hnm
  have hown : s.vm.findClass RX0 = some m.cls := hown
  have hl : lv_has ls 2 [(0, .ref (hm 0)), (1, .int (nI k))] := hl
  obtain ⟨⟨i1, i2, i3, i4, i5⟩, ip⟩ := id hI
  obtain ⟨p0, p1, p2, p3, p4⟩ := ip k (by omega)
  refine lv_aload_n hx hb dX0_wantsOf_0 rfl (lv_at hl 0 rfl) ?_
  refine lv_iload_n hx hb dX0_wantsOf_1 rfl (lv_at hl 1 rfl) ?_
  refine callVI (rest := []) (wn := fun u => wH G hm σ) ⟨hx, hb, hml, hown, hts⟩ (c_X0_hasOne l G H.size hm σ (nI k) (by omega)) (cwV 1 hts gX0_wantsOf_X0_hasOne rfl rfl rfl (by decide +kernel) ⟨Nat.le_of_ble_eq_true rfl, Nat.le_of_ble_eq_true rfl⟩) noXB (fun _ _ _ => trivial) hK hP hD hS hAq 0 0 (T := TX0) (N := 11) rfl rfl rfl hl.1 rfl (Nat.le_of_ble_eq_true rfl) dX0_wantsOf_2 ⟨Nat.le_of_ble_eq_true rfl, Nat.le_of_ble_eq_true rfl⟩ [0, 1, 2, 3, 4, 5] rfl rfl [hm 0, hm 1, hm 2, hm 3, hm 4, hm 5] rfl (fun _ => rfl) (fun _ => rfl) (fun u H locs hok hP hD hS => ?_)
  refine z_if_ne hx hb (tgt := 10) dX0_wantsOf_5 (by decide) (fun c_1 => ?_) (fun c_1 => ?_)
  · refine lv_aload_n hx hb dX0_wantsOf_10 rfl (lv_at hl 0 rfl) ?_
    refine n_get (C := RX0) (T := TX0) (N := 11) hx hb hts (fun _ h => List.mem_cons_of_mem _ (List.mem_append_right _ h)) hown hK hP 0 rfl rfl 6 (by decide) (List.mem_of_getElem? (i := 1) rfl) rfl (.ref (hm 1)) rfl dX0_wantsOf_11 ?_
    refine lv_iload_n hx hb dX0_wantsOf_14 rfl (lv_at hl 1 rfl) ?_
    refine n_iald hx hb hK hP 1 (v := (nI (σ (pl k 0)))) rfl (by omega) (by omega) rfl dX0_wantsOf_15 ?_
    refine lv_aload_n hx hb dX0_wantsOf_16 rfl (lv_at hl 0 rfl) ?_
    refine n_get (C := RX0) (T := TX0) (N := 11) hx hb hts (fun _ h => List.mem_cons_of_mem _ (List.mem_append_right _ h)) hown hK hP 0 rfl rfl 7 (by decide) (List.mem_of_getElem? (i := 2) rfl) rfl (.ref (hm 2)) rfl dX0_wantsOf_17 ?_
    refine lv_iload_n hx hb dX0_wantsOf_20 rfl (lv_at hl 1 rfl) ?_
    refine n_iald hx hb hK hP 2 (v := (nI (σ (pl k 1)))) rfl (by omega) (by omega) rfl dX0_wantsOf_21 ?_
    refine lv_aload_n hx hb dX0_wantsOf_22 rfl (lv_at hl 0 rfl) ?_
    refine n_get (C := RX0) (T := TX0) (N := 11) hx hb hts (fun _ h => List.mem_cons_of_mem _ (List.mem_append_right _ h)) hown hK hP 0 rfl rfl 0 (by decide) (List.mem_of_getElem? (i := 3) rfl) rfl (.int (nI (σ 0))) rfl dX0_wantsOf_23 ?_
    refine lv_aload_n hx hb dX0_wantsOf_26 rfl (lv_at hl 0 rfl) ?_
    refine n_get (C := RX0) (T := TX0) (N := 11) hx hb hts (fun _ h => List.mem_cons_of_mem _ (List.mem_append_right _ h)) hown hK hP 0 rfl rfl 3 (by decide) (List.mem_of_getElem? (i := 4) rfl) rfl (.int (nI (σ 3))) rfl dX0_wantsOf_27 ?_
    refine callSI (rest := []) (wn := fun u => wH G hm σ) ⟨hx, hb, hml, hown, hts⟩ (c_X2_wants l G H.size (σ (pl k 0)) (σ (pl k 1)) (σ 0) (σ 3) (by omega) (by omega) (by omega)) (va_cwS 4 hts gX0_wantsOf_X2_wants rfl rfl rfl (by decide +kernel) ⟨Nat.le_of_ble_eq_true rfl, Nat.le_of_ble_eq_true rfl⟩) noXB (fun _ _ _ => trivial) hK hP hD hS hAq rfl hl.1 rfl (Nat.le_of_ble_eq_true rfl) dX0_wantsOf_30 ⟨Nat.le_of_ble_eq_true rfl, Nat.le_of_ble_eq_true rfl⟩ [] rfl rfl [] rfl (fun _ => rfl) (fun _ => rfl) (fun u H locs hok hP hD hS => ?_)
    exact fin_i hx hb hr hlk hS hP hD () trivial rfl (eqW.rf _) dX0_wantsOf_33
  · rw [nI_T (by omega)] at c_1; omega
set_option maxHeartbeats 400000 in
set_option maxRecDepth 100000 in
theorem c_X0_crack (l : Launch) (G : GT) (sz : Nat) (hm : Nat → Nat) (σ : Sg) (k n : Nat) (hI : Inv σ) (hk : k < σ 5) (hn : n ≤ σ 1) : MV (S := Unit) l G noX yX0_crack wsX0_crack ({ frames := 2, cells := 0, slots := 0, locals := 43 } : Room) [.ref (hm 0), .int (nI k), .int (nI n)] (wH G hm σ) sz (fun _ => True) (fun _ => wH G hm (crackN σ k n)) := by
  refine MV_enter (cc := cX0_crack) (maxL := 4) (ret := none) (by decide) rfl (Nat.le_of_ble_eq_true rfl) ?_
  intro p e s m below meth c A ls H hx hb hr hlk hml hown hts hAq hS hP hK hD hX hl hnm
  have hown : s.vm.findClass RX0 = some m.cls := hown
  have hl : lv_has ls 4 [(0, .ref (hm 0)), (1, .int (nI k)), (2, .int (nI n))] := hl
  obtain ⟨⟨i1, i2, i3, i4, i5⟩, ip⟩ := id hI
  obtain ⟨p0, p1, p2, p3, p4⟩ := ip k (by omega)
  have he := @entersK_le (σ (pl k 0)) (σ (pl k 2)) n (by omega) (by omega)
  refine lv_aload_n hx hb dX0_crack_0 rfl (lv_at hl 0 rfl) ?_
  refine lv_iload_n hx hb dX0_crack_1 rfl (lv_at hl 1 rfl) ?_
  refine callVI (rest := []) (wn := fun u => wH G hm σ) ⟨hx, hb, hml, hown, hts⟩ (c_X0_hasOne l G H.size hm σ (nI k) (by omega)) (cwV 1 hts gX0_crack_X0_hasOne rfl rfl rfl (by decide +kernel) ⟨Nat.le_of_ble_eq_true rfl, Nat.le_of_ble_eq_true rfl⟩) noXB (fun _ _ _ => trivial) hK hP hD hS hAq 0 0 (T := TX0) (N := 11) rfl rfl rfl hl.1 rfl (Nat.le_of_ble_eq_true rfl) dX0_crack_2 ⟨Nat.le_of_ble_eq_true rfl, Nat.le_of_ble_eq_true rfl⟩ [0, 1, 2, 3, 4, 5] rfl rfl [hm 0, hm 1, hm 2, hm 3, hm 4, hm 5] rfl (fun _ => rfl) (fun _ => rfl) (fun u H locs hok hP hD hS => ?_)
  refine z_if_ne hx hb (tgt := 9) dX0_crack_5 (by decide) (fun c_1 => ?_) (fun c_1 => ?_)
  · refine lv_aload_n hx hb dX0_crack_9 rfl (lv_at hl 0 rfl) ?_
    refine n_get (C := RX0) (T := TX0) (N := 11) hx hb hts (fun _ h => List.mem_cons_of_mem _ (List.mem_append_right _ h)) hown hK hP 0 rfl rfl 6 (by decide) (List.mem_of_getElem? (i := 1) rfl) rfl (.ref (hm 1)) rfl dX0_crack_10 ?_
    refine lv_iload_n hx hb dX0_crack_13 rfl (lv_at hl 1 rfl) ?_
    refine n_iald hx hb hK hP 1 (v := (nI (σ (pl k 0)))) rfl (by omega) (by omega) rfl dX0_crack_14 ?_
    refine lv_aload_n hx hb dX0_crack_15 rfl (lv_at hl 0 rfl) ?_
    refine n_get (C := RX0) (T := TX0) (N := 11) hx hb hts (fun _ h => List.mem_cons_of_mem _ (List.mem_append_right _ h)) hown hK hP 0 rfl rfl 8 (by decide) (List.mem_of_getElem? (i := 2) rfl) rfl (.ref (hm 3)) rfl dX0_crack_16 ?_
    refine lv_iload_n hx hb dX0_crack_19 rfl (lv_at hl 1 rfl) ?_
    refine n_iald hx hb hK hP 3 (v := (nI (σ (pl k 2)))) rfl (by omega) (by omega) rfl dX0_crack_20 ?_
    refine lv_iload_n hx hb dX0_crack_21 rfl (lv_at hl 2 rfl) ?_
    refine callSI (rest := []) (wn := fun u => wH G hm σ) ⟨hx, hb, hml, hown, hts⟩ (c_X2_enters l G H.size (σ (pl k 0)) (σ (pl k 2)) n (by omega) (by omega)) (va_cwS 3 hts gX0_crack_X2_enters rfl rfl rfl (by decide +kernel) ⟨Nat.le_of_ble_eq_true rfl, Nat.le_of_ble_eq_true rfl⟩) noXB (fun _ _ _ => trivial) hK hP hD hS hAq rfl hl.1 rfl (Nat.le_of_ble_eq_true rfl) dX0_crack_22 ⟨Nat.le_of_ble_eq_true rfl, Nat.le_of_ble_eq_true rfl⟩ [] rfl rfl [] rfl (fun _ => rfl) (fun _ => rfl) (fun u H locs hok hP hD hS => ?_)
    refine lv_istore_n (lv' := [(3, .int (nI (entersK (σ (pl k 0)) (σ (pl k 2)) n))), (0, .ref (hm 0)), (1, .int (nI k)), (2, .int (nI n))]) hx hb dX0_crack_25 rfl hl (by decide) rfl (fun ls hl => ?_)
    refine lv_aload_n hx hb dX0_crack_26 rfl (lv_at hl 1 rfl) ?_
    refine lv_dup hx hb dX0_crack_27 rfl ?_
    refine n_get (C := RX0) (T := TX0) (N := 11) hx hb hts (fun _ h => List.mem_cons_of_mem _ (List.mem_append_right _ h)) hown hK hP 0 rfl rfl 1 (by decide) (List.mem_of_getElem? (i := 3) rfl) rfl (.int (nI (σ 1))) rfl dX0_crack_28 ?_
    refine lv_iload_n hx hb dX0_crack_31 rfl (lv_at hl 3 rfl) ?_
    refine n_isub hx hb (by omega) dX0_crack_32 ?_
    refine n_put (C := RX0) (T := TX0) (N := 11) hx hb hts (fun _ h => List.mem_cons_of_mem _ (List.mem_append_right _ h)) tyX0 tyX0_ok nmX0 hown hK hP hD hS 0 rfl rfl 1 (by decide) (List.mem_of_getElem? (i := 3) rfl) rfl rfl (ty := .int) (v := .int (nI ((σ 1) - n))) rfl rfl rfl (Nat.le_of_ble_eq_true rfl) (wn := wH G hm (un σ 1 ((σ 1) - n))) (wH_f1 G hm σ ((σ 1) - n)) dX0_crack_33 (fun H locs hP hD hS => ?_)
    refine lv_aload_n hx hb dX0_crack_36 rfl (lv_at hl 1 rfl) ?_
    refine n_get (C := RX0) (T := TX0) (N := 11) hx hb hts (fun _ h => List.mem_cons_of_mem _ (List.mem_append_right _ h)) hown hK hP 0 rfl rfl 10 (by decide) (List.mem_of_getElem? (i := 4) rfl) rfl (.ref (hm 5)) rfl dX0_crack_37 ?_
    refine lv_iload_n hx hb dX0_crack_40 rfl (lv_at hl 2 rfl) ?_
    refine lv_ldc (v := 99999) hx hb hown (hts _ (List.mem_of_getElem? (i := 5) rfl)) dX0_crack_41 ?_
    refine n_top (y := nI 99999) rfl ?_
    refine lv_aload_n hx hb dX0_crack_43 rfl (lv_at hl 1 rfl) ?_
    refine n_get (C := RX0) (T := TX0) (N := 11) hx hb hts (fun _ h => List.mem_cons_of_mem _ (List.mem_append_right _ h)) hown hK hP 0 rfl rfl 10 (by decide) (List.mem_of_getElem? (i := 4) rfl) rfl (.ref (hm 5)) rfl dX0_crack_44 ?_
    refine lv_iload_n hx hb dX0_crack_47 rfl (lv_at hl 2 rfl) ?_
    refine n_iald hx hb hK hP 5 (v := (nI (σ (pl k 4)))) rfl (by omega) (by omega) (congrArg nI (un_sp (by decide))) dX0_crack_48 ?_
    refine lv_iload_n hx hb dX0_crack_49 rfl (lv_at hl 3 rfl) ?_
    refine n_iadd hx hb dX0_crack_50 ?_
    refine n_min hx hb (hml.trans hl.1.symm) hown hts (List.mem_of_getElem? (i := 6) rfl) (List.mem_of_getElem? (i := 7) rfl) (List.mem_of_getElem? (i := 8) rfl) (List.mem_of_getElem? (i := 9) rfl) (Nat.le_of_ble_eq_true rfl) (Nat.le_of_ble_eq_true rfl) (Nat.le_of_ble_eq_true rfl) (Nat.le_of_ble_eq_true rfl) (by omega) (by omega) dX0_crack_51 ?_
    refine n_iast hx hb hK hP hD hS 5 (wn := wH G hm (un (un σ 1 ((σ 1) - n)) (pl k 4) (min 99999 ((σ (pl k 4)) + n)))) rfl (by omega) (by omega) (wH_p4 G hm (un σ 1 ((σ 1) - n)) k (min 99999 ((σ (pl k 4)) + n))) dX0_crack_54 (fun H locs hP hD hS => ?_)
    refine lv_aload_n hx hb dX0_crack_55 rfl (lv_at hl 1 rfl) ?_
    refine lv_ldc (v := 99999999) hx hb hown (hts _ (List.mem_of_getElem? (i := 10) rfl)) dX0_crack_56 ?_
    refine n_top (y := nI 99999999) rfl ?_
    refine lv_aload_n hx hb dX0_crack_58 rfl (lv_at hl 1 rfl) ?_
    refine n_get (C := RX0) (T := TX0) (N := 11) hx hb hts (fun _ h => List.mem_cons_of_mem _ (List.mem_append_right _ h)) hown hK hP 0 rfl rfl 3 (by decide) (List.mem_of_getElem? (i := 11) rfl) rfl (_) rfl dX0_crack_59 ?_
    refine n_top (y := (nI (σ 3))) (congrArg nI (Eq.trans (un_ps (by decide)) (un_n (by decide)))) ?_
    refine lv_iload_n hx hb dX0_crack_62 rfl (lv_at hl 0 rfl) ?_
    refine n_iadd hx hb dX0_crack_63 ?_
    refine n_min hx hb (hml.trans hl.1.symm) hown hts (List.mem_of_getElem? (i := 6) rfl) (List.mem_of_getElem? (i := 7) rfl) (List.mem_of_getElem? (i := 8) rfl) (List.mem_of_getElem? (i := 9) rfl) (Nat.le_of_ble_eq_true rfl) (Nat.le_of_ble_eq_true rfl) (Nat.le_of_ble_eq_true rfl) (Nat.le_of_ble_eq_true rfl) (by omega) (by omega) dX0_crack_64 ?_
    refine n_put (C := RX0) (T := TX0) (N := 11) hx hb hts (fun _ h => List.mem_cons_of_mem _ (List.mem_append_right _ h)) tyX0 tyX0_ok nmX0 hown hK hP hD hS 0 rfl rfl 3 (by decide) (List.mem_of_getElem? (i := 11) rfl) rfl rfl (ty := .int) (v := .int (nI (min 99999999 ((σ 3) + (entersK (σ (pl k 0)) (σ (pl k 2)) n))))) rfl rfl rfl (Nat.le_of_ble_eq_true rfl) (wn := wH G hm (un (un (un σ 1 ((σ 1) - n)) (pl k 4) (min 99999 ((σ (pl k 4)) + n))) 3 (min 99999999 ((σ 3) + (entersK (σ (pl k 0)) (σ (pl k 2)) n))))) (wH_f3 G hm (un (un σ 1 ((σ 1) - n)) (pl k 4) (min 99999 ((σ (pl k 4)) + n))) (min 99999999 ((σ 3) + (entersK (σ (pl k 0)) (σ (pl k 2)) n)))) dX0_crack_67 (fun H locs hP hD hS => ?_)
    refine lv_aload_n hx hb dX0_crack_70 rfl (lv_at hl 1 rfl) ?_
    refine n_get (C := RX0) (T := TX0) (N := 11) hx hb hts (fun _ h => List.mem_cons_of_mem _ (List.mem_append_right _ h)) hown hK hP 0 rfl rfl 9 (by decide) (List.mem_of_getElem? (i := 12) rfl) rfl (.ref (hm 4)) rfl dX0_crack_71 ?_
    refine lv_iload_n hx hb dX0_crack_74 rfl (lv_at hl 2 rfl) ?_
    refine lv_aload_n hx hb dX0_crack_75 rfl (lv_at hl 1 rfl) ?_
    refine n_get (C := RX0) (T := TX0) (N := 11) hx hb hts (fun _ h => List.mem_cons_of_mem _ (List.mem_append_right _ h)) hown hK hP 0 rfl rfl 6 (by decide) (List.mem_of_getElem? (i := 1) rfl) rfl (.ref (hm 1)) rfl dX0_crack_76 ?_
    refine lv_iload_n hx hb dX0_crack_79 rfl (lv_at hl 2 rfl) ?_
    refine n_iald hx hb hK hP 1 (v := (nI (σ (pl k 0)))) rfl (by omega) (by omega) (congrArg nI (Eq.trans (un_sp (by decide)) (Eq.trans (un_pd (by decide) (by decide) (by decide)) (un_sp (by decide))))) dX0_crack_80 ?_
    refine lv_iload_n hx hb dX0_crack_81 rfl (lv_at hl 3 rfl) ?_
    refine lv_iload_n hx hb dX0_crack_82 rfl (lv_at hl 0 rfl) ?_
    refine callSI (rest := [.int (nI k), .ref (hm 4)]) (wn := fun u => wH G hm (un (un (un σ 1 ((σ 1) - n)) (pl k 4) (min 99999 ((σ (pl k 4)) + n))) 3 (min 99999999 ((σ 3) + (entersK (σ (pl k 0)) (σ (pl k 2)) n))))) ⟨hx, hb, hml, hown, hts⟩ (c_X2_watchDays l G H.size (σ (pl k 0)) n (entersK (σ (pl k 0)) (σ (pl k 2)) n) (by omega) (by omega) (by omega)) (va_cwS 3 hts gX0_crack_X2_watchDays rfl rfl rfl (by decide +kernel) ⟨Nat.le_of_ble_eq_true rfl, Nat.le_of_ble_eq_true rfl⟩) noXB (fun _ _ _ => trivial) hK hP hD hS hAq rfl hl.1 rfl (Nat.le_of_ble_eq_true rfl) dX0_crack_83 ⟨Nat.le_of_ble_eq_true rfl, Nat.le_of_ble_eq_true rfl⟩ [] rfl rfl [] rfl (fun _ => rfl) (fun _ => rfl) (fun u H locs hok hP hD hS => ?_)
    refine n_iast hx hb hK hP hD hS 4 (wn := wH G hm (un (un (un (un σ 1 ((σ 1) - n)) (pl k 4) (min 99999 ((σ (pl k 4)) + n))) 3 (min 99999999 ((σ 3) + (entersK (σ (pl k 0)) (σ (pl k 2)) n)))) (pl k 3) (watchK (σ (pl k 0)) n (entersK (σ (pl k 0)) (σ (pl k 2)) n)))) rfl (by omega) (by omega) (wH_p3 G hm (un (un (un σ 1 ((σ 1) - n)) (pl k 4) (min 99999 ((σ (pl k 4)) + n))) 3 (min 99999999 ((σ 3) + (entersK (σ (pl k 0)) (σ (pl k 2)) n)))) k (watchK (σ (pl k 0)) n (entersK (σ (pl k 0)) (σ (pl k 2)) n))) dX0_crack_86 (fun H locs hP hD hS => ?_)
    exact fin_v hx hb hr hlk hS hP hD () trivial (eqW.rf _) dX0_crack_87
  · rw [nI_T (by omega)] at c_1; omega
set_option maxHeartbeats 400000 in
set_option maxRecDepth 100000 in
theorem c_X0_hensMind (l : Launch) (G : GT) (sz : Nat) (hm : Nat → Nat) (σ : Sg) (g q : Nat) (h2 : σ 2 ≤ 99) (hg : g ≤ 999) (hq : q ≤ g) : MV (S := Unit) l G noX yX0_hensMind wsX0_hensMind ({ frames := 1, cells := 0, slots := 0, locals := 14 } : Room) [.ref (hm 0), .int (nI g), .int (nI q)] (wH G hm σ) sz (fun _ => True) (fun _ => wH G hm (un σ 2 (laidN (σ 2) g q))) := by
  refine MV_enter (cc := cX0_hensMind) (maxL := 3) (ret := none) (by decide) rfl (Nat.le_of_ble_eq_true rfl) ?_
  intro p e s m below meth c A ls H hx hb hr hlk hml hown hts hAq hS hP hK hD hX hl hnm
  have hown : s.vm.findClass RX0 = some m.cls := hown
  have hl : lv_has ls 3 [(0, .ref (hm 0)), (1, .int (nI g)), (2, .int (nI q))] := hl
  refine lv_iconst (v := nI 2) hx hb dX0_hensMind_0 rfl ?_
  refine lv_iload_n hx hb dX0_hensMind_1 rfl (lv_at hl 2 rfl) ?_
  refine n_imul hx hb dX0_hensMind_2 ?_
  refine lv_iload_n hx hb dX0_hensMind_3 rfl (lv_at hl 1 rfl) ?_
  refine n_icmp_le hx hb (by omega) (by omega) (tgt := 24) dX0_hensMind_4 (by decide) (fun c_1 => ?_) (fun c_1 => ?_)
  · refine lv_iconst (v := nI 4) hx hb dX0_hensMind_24 rfl ?_
    refine lv_iload_n hx hb dX0_hensMind_25 rfl (lv_at hl 2 rfl) ?_
    refine n_imul hx hb dX0_hensMind_26 ?_
    refine lv_iload_n hx hb dX0_hensMind_27 rfl (lv_at hl 1 rfl) ?_
    refine n_icmp_ge hx hb (by omega) (by omega) (tgt := 46) dX0_hensMind_28 (by decide) (fun c_2 => ?_) (fun c_2 => ?_)
    · exact fin_v hx hb hr hlk hS hP hD () trivial (by rw [show laidN (σ 2) g q = σ 2 from by unfold laidN; rw [if_neg (by omega), if_neg (by omega)], un_id]; exact eqW.rf _) dX0_hensMind_46
    · refine lv_aload_n hx hb dX0_hensMind_31 rfl (lv_at hl 0 rfl) ?_
      refine lv_bipush (v := nI 99) hx hb dX0_hensMind_32 rfl ?_
      refine lv_aload_n hx hb dX0_hensMind_34 rfl (lv_at hl 0 rfl) ?_
      refine n_get (C := RX0) (T := TX0) (N := 11) hx hb hts (fun _ h => List.mem_cons_of_mem _ (List.mem_append_right _ h)) hown hK hP 0 rfl rfl 2 (by decide) (List.mem_of_getElem? (i := 1) rfl) rfl (.int (nI (σ 2))) rfl dX0_hensMind_35 ?_
      refine lv_iconst (v := nI 1) hx hb dX0_hensMind_38 rfl ?_
      refine n_iadd hx hb dX0_hensMind_39 ?_
      refine n_min hx hb (hml.trans hl.1.symm) hown hts (List.mem_of_getElem? (i := 6) rfl) (List.mem_of_getElem? (i := 7) rfl) (List.mem_of_getElem? (i := 4) rfl) (List.mem_of_getElem? (i := 8) rfl) (Nat.le_of_ble_eq_true rfl) (Nat.le_of_ble_eq_true rfl) (Nat.le_of_ble_eq_true rfl) (Nat.le_of_ble_eq_true rfl) (by omega) (by omega) dX0_hensMind_40 ?_
      refine n_put (C := RX0) (T := TX0) (N := 11) hx hb hts (fun _ h => List.mem_cons_of_mem _ (List.mem_append_right _ h)) tyX0 tyX0_ok nmX0 hown hK hP hD hS 0 rfl rfl 2 (by decide) (List.mem_of_getElem? (i := 1) rfl) rfl rfl (ty := .int) (v := .int (nI (min 99 ((σ 2) + 1)))) rfl rfl rfl (Nat.le_of_ble_eq_true rfl) (wn := wH G hm (un σ 2 (min 99 ((σ 2) + 1)))) (wH_f2 G hm σ (min 99 ((σ 2) + 1))) dX0_hensMind_43 (fun H locs hP hD hS => ?_)
      exact fin_v hx hb hr hlk hS hP hD () trivial (by rw [show laidN (σ 2) g q = min 99 ((σ 2) + 1) from by unfold laidN; first | rw [if_pos (by omega)] | rw [if_neg (by omega), if_pos (by omega)]]; exact eqW.rf _) dX0_hensMind_46
  · refine lv_aload_n hx hb dX0_hensMind_7 rfl (lv_at hl 0 rfl) ?_
    refine lv_iconst (v := nI 0) hx hb dX0_hensMind_8 rfl ?_
    refine lv_aload_n hx hb dX0_hensMind_9 rfl (lv_at hl 0 rfl) ?_
    refine n_get (C := RX0) (T := TX0) (N := 11) hx hb hts (fun _ h => List.mem_cons_of_mem _ (List.mem_append_right _ h)) hown hK hP 0 rfl rfl 2 (by decide) (List.mem_of_getElem? (i := 1) rfl) rfl (.int (nI (σ 2))) rfl dX0_hensMind_10 ?_
    refine lv_iconst (v := nI 1) hx hb dX0_hensMind_13 rfl ?_
    refine lv_isub hx hb dX0_hensMind_14 ?_
    refine n_max hx hb (hml.trans hl.1.symm) hown hts (List.mem_of_getElem? (i := 2) rfl) (List.mem_of_getElem? (i := 3) rfl) (List.mem_of_getElem? (i := 4) rfl) (List.mem_of_getElem? (i := 5) rfl) (Nat.le_of_ble_eq_true rfl) (Nat.le_of_ble_eq_true rfl) (Nat.le_of_ble_eq_true rfl) (Nat.le_of_ble_eq_true rfl) (v := (nI (σ 2 - 1))) (sub1_max (by omega)) dX0_hensMind_15 ?_
    refine n_put (C := RX0) (T := TX0) (N := 11) hx hb hts (fun _ h => List.mem_cons_of_mem _ (List.mem_append_right _ h)) tyX0 tyX0_ok nmX0 hown hK hP hD hS 0 rfl rfl 2 (by decide) (List.mem_of_getElem? (i := 1) rfl) rfl rfl (ty := .int) (v := .int (nI (σ 2 - 1))) rfl rfl rfl (Nat.le_of_ble_eq_true rfl) (wn := wH G hm (un σ 2 (σ 2 - 1))) (wH_f2 G hm σ (σ 2 - 1)) dX0_hensMind_18 (fun H locs hP hD hS => ?_)
    refine lv_goto (tgt := 46) hx hb dX0_hensMind_21 (by decide) ?_
    exact fin_v hx hb hr hlk hS hP hD () trivial (by rw [show laidN (σ 2) g q = σ 2 - 1 from by unfold laidN; first | rw [if_pos (by omega)] | rw [if_neg (by omega), if_pos (by omega)]]; exact eqW.rf _) dX0_hensMind_46
set_option maxHeartbeats 400000 in
set_option maxRecDepth 100000 in
theorem c_X0_goOneDay (l : Launch) (G : GT) (sz : Nat) (hm : Nat → Nat) (σ : Sg) (hI : Inv σ) (hd0 : σ 0 < 1000000) : MV (S := Unit) l G noX yX0_goOneDay wsX0_goOneDay ({ frames := 3, cells := 0, slots := 0, locals := 66 } : Room) [.ref (hm 0)] (wH G hm σ) sz (fun _ => True) (fun _ => wH G hm (dayN σ)) := by
  refine MV_enter (cc := cX0_goOneDay) (maxL := 6) (ret := none) (by decide) rfl (Nat.le_of_ble_eq_true rfl) ?_
  intro p e s m below meth c A ls H hx hb hr hlk hml hown hts hAq hS hP hK hD hX hl hnm
  have hown : s.vm.findClass RX0 = some m.cls := hown
  have hl : lv_has ls 6 [(0, .ref (hm 0))] := hl
  obtain ⟨⟨i1, i2, i3, i4, i5⟩, ip⟩ := id hI
  have hm1 : mornN σ 1 ≤ 999 := (morn_Inv hI).1.1
  refine lv_aload_n hx hb dX0_goOneDay_0 rfl (lv_at hl 0 rfl) ?_
  refine lv_sipush (v := nI 999) hx hb dX0_goOneDay_1 rfl ?_
  refine lv_aload_n hx hb dX0_goOneDay_4 rfl (lv_at hl 0 rfl) ?_
  refine n_get (C := RX0) (T := TX0) (N := 11) hx hb hts (fun _ h => List.mem_cons_of_mem _ (List.mem_append_right _ h)) hown hK hP 0 rfl rfl 1 (by decide) (List.mem_of_getElem? (i := 1) rfl) rfl (.int (nI (σ 1))) rfl dX0_goOneDay_5 ?_
  refine lv_aload_n hx hb dX0_goOneDay_8 rfl (lv_at hl 0 rfl) ?_
  refine n_get (C := RX0) (T := TX0) (N := 11) hx hb hts (fun _ h => List.mem_cons_of_mem _ (List.mem_append_right _ h)) hown hK hP 0 rfl rfl 2 (by decide) (List.mem_of_getElem? (i := 2) rfl) rfl (.int (nI (σ 2))) rfl dX0_goOneDay_9 ?_
  refine n_iadd hx hb dX0_goOneDay_12 ?_
  refine n_min hx hb (hml.trans hl.1.symm) hown hts (List.mem_of_getElem? (i := 3) rfl) (List.mem_of_getElem? (i := 4) rfl) (List.mem_of_getElem? (i := 5) rfl) (List.mem_of_getElem? (i := 6) rfl) (Nat.le_of_ble_eq_true rfl) (Nat.le_of_ble_eq_true rfl) (Nat.le_of_ble_eq_true rfl) (Nat.le_of_ble_eq_true rfl) (by omega) (by omega) dX0_goOneDay_13 ?_
  refine n_put (C := RX0) (T := TX0) (N := 11) hx hb hts (fun _ h => List.mem_cons_of_mem _ (List.mem_append_right _ h)) tyX0 tyX0_ok nmX0 hown hK hP hD hS 0 rfl rfl 1 (by decide) (List.mem_of_getElem? (i := 1) rfl) rfl rfl (ty := .int) (v := .int (nI (min 999 ((σ 1) + (σ 2))))) rfl rfl rfl (Nat.le_of_ble_eq_true rfl) (wn := wH G hm (un σ 1 (min 999 ((σ 1) + (σ 2))))) (wH_f1 G hm σ (min 999 ((σ 1) + (σ 2)))) dX0_goOneDay_16 (fun H locs hP hD hS => ?_)
  refine lv_aload_n hx hb dX0_goOneDay_19 rfl (lv_at hl 0 rfl) ?_
  refine n_get (C := RX0) (T := TX0) (N := 11) hx hb hts (fun _ h => List.mem_cons_of_mem _ (List.mem_append_right _ h)) hown hK hP 0 rfl rfl 1 (by decide) (List.mem_of_getElem? (i := 1) rfl) rfl (_) rfl dX0_goOneDay_20 ?_
  refine n_top (y := (nI (min 999 ((σ 1) + (σ 2))))) (congrArg nI un_s) ?_
  refine lv_istore_n (lv' := [(1, .int (nI (min 999 ((σ 1) + (σ 2))))), (0, .ref (hm 0))]) hx hb dX0_goOneDay_23 rfl hl (by decide) rfl (fun ls hl => ?_)
  refine lv_iconst (v := nI 0) hx hb dX0_goOneDay_24 rfl ?_
  refine lv_istore_n (lv' := [(2, .int (nI 0)), (1, .int (nI (min 999 ((σ 1) + (σ 2))))), (0, .ref (hm 0))]) hx hb dX0_goOneDay_25 rfl hl (by decide) rfl (fun ls hl => ?_)
  refine lv_iconst (v := nI 0) hx hb dX0_goOneDay_26 rfl ?_
  refine lv_istore_n (lv' := [(3, .int (nI 0)), (2, .int (nI 0)), (1, .int (nI (min 999 ((σ 1) + (σ 2))))), (0, .ref (hm 0))]) hx hb dX0_goOneDay_27 rfl hl (by decide) rfl (fun ls hl => ?_)
  refine W_loop1 (I := fun (k : Nat) => k ≤ σ 5) (wd := fun (k : Nat) => wH G hm ((eatenN σ k).1)) (lv := fun (k : Nat) => [(3, .int (nI k)), (2, .int (nI ((eatenN σ k).2))), (1, .int (nI (mornN σ 1))), (0, .ref (hm 0))]) (μ := fun (k : Nat) => σ 5 - k) ?_ 0 (by omega) hP hD hS (lv_sub hl [0, 1, 2, 3] rfl)
  intro k H locs ls hI0 hP hD hS hl ih
  have hk : k ≤ σ 5 := hI0
  have hE := eaten_Inv hI k (by omega)
  obtain ⟨⟨j1, j2, j3, j4, j5⟩, jp⟩ := id hE
  obtain ⟨f0, f2, f4, f5, f1, f6⟩ := eaten_at σ k
  refine lv_iload_n hx hb dX0_goOneDay_28 rfl (lv_at hl 0 rfl) ?_
  refine lv_aload_n hx hb dX0_goOneDay_29 rfl (lv_at hl 3 rfl) ?_
  refine n_get (C := RX0) (T := TX0) (N := 11) hx hb hts (fun _ h => List.mem_cons_of_mem _ (List.mem_append_right _ h)) hown hK hP 0 rfl rfl 5 (by decide) (List.mem_of_getElem? (i := 7) rfl) rfl (_) rfl dX0_goOneDay_30 ?_
  refine n_top (y := (nI (σ 5))) (congrArg nI (eaten_at σ k).2.2.2.1) ?_
  refine n_icmp_ge hx hb (by omega) (by omega) (tgt := 106) dX0_goOneDay_33 (by decide) (fun c_1 => ?_) (fun c_1 => ?_)
  · have hk5 : k = σ 5 := by omega
    subst hk5
    refine lv_aload_n hx hb dX0_goOneDay_106 rfl (lv_at hl 3 rfl) ?_
    refine lv_iload_n hx hb dX0_goOneDay_107 rfl (lv_at hl 2 rfl) ?_
    refine lv_iload_n hx hb dX0_goOneDay_108 rfl (lv_at hl 2 rfl) ?_
    refine lv_aload_n hx hb dX0_goOneDay_109 rfl (lv_at hl 3 rfl) ?_
    refine n_get (C := RX0) (T := TX0) (N := 11) hx hb hts (fun _ h => List.mem_cons_of_mem _ (List.mem_append_right _ h)) hown hK hP 0 rfl rfl 1 (by decide) (List.mem_of_getElem? (i := 1) rfl) rfl (.int (nI (((eatenN σ (σ 5)).1) 1))) rfl dX0_goOneDay_110 ?_
    refine n_isub hx hb (by omega) dX0_goOneDay_113 ?_
    refine callVV (rest := []) (wn := fun u => wH G hm (un ((eatenN σ (σ 5)).1) 2 (laidN (((eatenN σ (σ 5)).1) 2) (mornN σ 1) ((mornN σ 1) - (((eatenN σ (σ 5)).1) 1))))) ⟨hx, hb, hml, hown, hts⟩ (c_X0_hensMind l G H.size hm ((eatenN σ (σ 5)).1) (mornN σ 1) ((mornN σ 1) - (((eatenN σ (σ 5)).1) 1)) (by omega) (by omega) (by omega)) (cwV 2 hts gX0_goOneDay_X0_hensMind rfl rfl rfl (by decide +kernel) ⟨Nat.le_of_ble_eq_true rfl, Nat.le_of_ble_eq_true rfl⟩) noXB (fun _ _ _ => trivial) hK hP hD hS hAq 0 0 (T := TX0) (N := 11) rfl rfl rfl hl.1 rfl (Nat.le_of_ble_eq_true rfl) dX0_goOneDay_114 ⟨Nat.le_of_ble_eq_true rfl, Nat.le_of_ble_eq_true rfl⟩ [0, 1, 2, 3, 4, 5] rfl rfl [hm 0, hm 1, hm 2, hm 3, hm 4, hm 5] rfl (fun _ => rfl) (fun _ => rfl) (fun u H locs hok hP hD hS => ?_)
    refine lv_iload_n hx hb dX0_goOneDay_117 rfl (lv_at hl 1 rfl) ?_
    refine n_if_eq hx hb (by omega) (tgt := 137) dX0_goOneDay_118 (by decide) (fun c_2 => ?_) (fun c_2 => ?_)
    · refine lv_aload_n hx hb dX0_goOneDay_137 rfl (lv_at hl 3 rfl) ?_
      refine lv_dup hx hb dX0_goOneDay_138 rfl ?_
      refine n_get (C := RX0) (T := TX0) (N := 11) hx hb hts (fun _ h => List.mem_cons_of_mem _ (List.mem_append_right _ h)) hown hK hP 0 rfl rfl 0 (by decide) (List.mem_of_getElem? (i := 10) rfl) rfl (_) rfl dX0_goOneDay_139 ?_
      refine n_top (y := (nI (((eatenN σ (σ 5)).1) 0))) (congrArg nI (un_n (by decide))) ?_
      refine lv_iconst (v := nI 1) hx hb dX0_goOneDay_142 rfl ?_
      refine n_iadd hx hb dX0_goOneDay_143 ?_
      refine n_put (C := RX0) (T := TX0) (N := 11) hx hb hts (fun _ h => List.mem_cons_of_mem _ (List.mem_append_right _ h)) tyX0 tyX0_ok nmX0 hown hK hP hD hS 0 rfl rfl 0 (by decide) (List.mem_of_getElem? (i := 10) rfl) rfl rfl (ty := .int) (v := .int (nI ((((eatenN σ (σ 5)).1) 0) + 1))) rfl rfl rfl (Nat.le_of_ble_eq_true rfl) (wn := wH G hm (un (un ((eatenN σ (σ 5)).1) 2 (laidN (((eatenN σ (σ 5)).1) 2) (mornN σ 1) ((mornN σ 1) - (((eatenN σ (σ 5)).1) 1)))) 0 ((((eatenN σ (σ 5)).1) 0) + 1))) (wH_f0 G hm (un ((eatenN σ (σ 5)).1) 2 (laidN (((eatenN σ (σ 5)).1) 2) (mornN σ 1) ((mornN σ 1) - (((eatenN σ (σ 5)).1) 1)))) ((((eatenN σ (σ 5)).1) 0) + 1)) dX0_goOneDay_144 (fun H locs hP hD hS => ?_)
      have eh : (eatenN σ (σ 5)).2 = 0 := by omega
      exact fin_v hx hb hr hlk hS hP hD () trivial (by rw [show dayN σ = evenN (mornN σ 1) 0 (eatenN σ (σ 5)).1 from by unfold dayN; rw [eh], even_0 (by omega)]; exact eqW.rf _) dX0_goOneDay_147
    · refine lv_aload_n hx hb dX0_goOneDay_121 rfl (lv_at hl 3 rfl) ?_
      refine lv_sipush (v := nI 9999) hx hb dX0_goOneDay_122 rfl ?_
      refine lv_aload_n hx hb dX0_goOneDay_125 rfl (lv_at hl 3 rfl) ?_
      refine n_get (C := RX0) (T := TX0) (N := 11) hx hb hts (fun _ h => List.mem_cons_of_mem _ (List.mem_append_right _ h)) hown hK hP 0 rfl rfl 4 (by decide) (List.mem_of_getElem? (i := 9) rfl) rfl (_) rfl dX0_goOneDay_126 ?_
      refine n_top (y := (nI (((eatenN σ (σ 5)).1) 4))) (congrArg nI (un_n (by decide))) ?_
      refine lv_iconst (v := nI 1) hx hb dX0_goOneDay_129 rfl ?_
      refine n_iadd hx hb dX0_goOneDay_130 ?_
      refine n_min hx hb (hml.trans hl.1.symm) hown hts (List.mem_of_getElem? (i := 3) rfl) (List.mem_of_getElem? (i := 4) rfl) (List.mem_of_getElem? (i := 5) rfl) (List.mem_of_getElem? (i := 6) rfl) (Nat.le_of_ble_eq_true rfl) (Nat.le_of_ble_eq_true rfl) (Nat.le_of_ble_eq_true rfl) (Nat.le_of_ble_eq_true rfl) (by omega) (by omega) dX0_goOneDay_131 ?_
      refine n_put (C := RX0) (T := TX0) (N := 11) hx hb hts (fun _ h => List.mem_cons_of_mem _ (List.mem_append_right _ h)) tyX0 tyX0_ok nmX0 hown hK hP hD hS 0 rfl rfl 4 (by decide) (List.mem_of_getElem? (i := 9) rfl) rfl rfl (ty := .int) (v := .int (nI (min 9999 ((((eatenN σ (σ 5)).1) 4) + 1)))) rfl rfl rfl (Nat.le_of_ble_eq_true rfl) (wn := wH G hm (un (un ((eatenN σ (σ 5)).1) 2 (laidN (((eatenN σ (σ 5)).1) 2) (mornN σ 1) ((mornN σ 1) - (((eatenN σ (σ 5)).1) 1)))) 4 (min 9999 ((((eatenN σ (σ 5)).1) 4) + 1)))) (wH_f4 G hm (un ((eatenN σ (σ 5)).1) 2 (laidN (((eatenN σ (σ 5)).1) 2) (mornN σ 1) ((mornN σ 1) - (((eatenN σ (σ 5)).1) 1)))) (min 9999 ((((eatenN σ (σ 5)).1) 4) + 1))) dX0_goOneDay_134 (fun H locs hP hD hS => ?_)
      refine lv_aload_n hx hb dX0_goOneDay_137 rfl (lv_at hl 3 rfl) ?_
      refine lv_dup hx hb dX0_goOneDay_138 rfl ?_
      refine n_get (C := RX0) (T := TX0) (N := 11) hx hb hts (fun _ h => List.mem_cons_of_mem _ (List.mem_append_right _ h)) hown hK hP 0 rfl rfl 0 (by decide) (List.mem_of_getElem? (i := 10) rfl) rfl (_) rfl dX0_goOneDay_139 ?_
      refine n_top (y := (nI (((eatenN σ (σ 5)).1) 0))) (congrArg nI (Eq.trans (un_n (by decide)) (un_n (by decide)))) ?_
      refine lv_iconst (v := nI 1) hx hb dX0_goOneDay_142 rfl ?_
      refine n_iadd hx hb dX0_goOneDay_143 ?_
      refine n_put (C := RX0) (T := TX0) (N := 11) hx hb hts (fun _ h => List.mem_cons_of_mem _ (List.mem_append_right _ h)) tyX0 tyX0_ok nmX0 hown hK hP hD hS 0 rfl rfl 0 (by decide) (List.mem_of_getElem? (i := 10) rfl) rfl rfl (ty := .int) (v := .int (nI ((((eatenN σ (σ 5)).1) 0) + 1))) rfl rfl rfl (Nat.le_of_ble_eq_true rfl) (wn := wH G hm (un (un (un ((eatenN σ (σ 5)).1) 2 (laidN (((eatenN σ (σ 5)).1) 2) (mornN σ 1) ((mornN σ 1) - (((eatenN σ (σ 5)).1) 1)))) 4 (min 9999 ((((eatenN σ (σ 5)).1) 4) + 1))) 0 ((((eatenN σ (σ 5)).1) 0) + 1))) (wH_f0 G hm (un (un ((eatenN σ (σ 5)).1) 2 (laidN (((eatenN σ (σ 5)).1) 2) (mornN σ 1) ((mornN σ 1) - (((eatenN σ (σ 5)).1) 1)))) 4 (min 9999 ((((eatenN σ (σ 5)).1) 4) + 1))) ((((eatenN σ (σ 5)).1) 0) + 1)) dX0_goOneDay_144 (fun H locs hP hD hS => ?_)
      have eh : (eatenN σ (σ 5)).2 = 1 := by omega
      exact fin_v hx hb hr hlk hS hP hD () trivial (by rw [show dayN σ = evenN (mornN σ 1) 1 (eatenN σ (σ 5)).1 from by unfold dayN; rw [eh], even_1 (by omega)]; exact eqW.rf _) dX0_goOneDay_147
  · obtain ⟨p0, p1, p2, p3, p4⟩ := jp k (by omega)
    have hwl := wantsN_le p1
    refine lv_aload_n hx hb dX0_goOneDay_36 rfl (lv_at hl 3 rfl) ?_
    refine n_get (C := RX0) (T := TX0) (N := 11) hx hb hts (fun _ h => List.mem_cons_of_mem _ (List.mem_append_right _ h)) hown hK hP 0 rfl rfl 9 (by decide) (List.mem_of_getElem? (i := 8) rfl) rfl (.ref (hm 4)) rfl dX0_goOneDay_37 ?_
    refine lv_iload_n hx hb dX0_goOneDay_40 rfl (lv_at hl 0 rfl) ?_
    refine n_iald hx hb hK hP 4 (v := (nI (((eatenN σ k).1) (pl k 3)))) rfl (by omega) (by omega) rfl dX0_goOneDay_41 ?_
    refine n_if_le hx hb (by omega) (tgt := 58) dX0_goOneDay_42 (by decide) (fun c_3 => ?_) (fun c_3 => ?_)
    · refine lv_aload_n hx hb dX0_goOneDay_58 rfl (lv_at hl 3 rfl) ?_
      refine lv_iload_n hx hb dX0_goOneDay_59 rfl (lv_at hl 0 rfl) ?_
      refine callVI (rest := []) (wn := fun u => wH G hm ((eatenN σ k).1)) ⟨hx, hb, hml, hown, hts⟩ (c_X0_wantsOf l G H.size hm ((eatenN σ k).1) k hE (by omega) (by omega)) (cwV 1 hts gX0_goOneDay_X0_wantsOf rfl rfl rfl (by decide +kernel) ⟨Nat.le_of_ble_eq_true rfl, Nat.le_of_ble_eq_true rfl⟩) noXB (fun _ _ _ => trivial) hK hP hD hS hAq 0 0 (T := TX0) (N := 11) rfl rfl rfl hl.1 rfl (Nat.le_of_ble_eq_true rfl) dX0_goOneDay_60 ⟨Nat.le_of_ble_eq_true rfl, Nat.le_of_ble_eq_true rfl⟩ [0, 1, 2, 3, 4, 5] rfl rfl [hm 0, hm 1, hm 2, hm 3, hm 4, hm 5] rfl (fun _ => rfl) (fun _ => rfl) (fun u H locs hok hP hD hS => ?_)
      refine lv_istore (lv' := [(4, .int (nI (wantsN ((eatenN σ k).1) k))), (3, .int (nI k)), (2, .int (nI ((eatenN σ k).2))), (1, .int (nI (mornN σ 1))), (0, .ref (hm 0))]) hx hb dX0_goOneDay_63 hl (by decide) rfl (fun ls hl => ?_)
      refine lv_iload hx hb dX0_goOneDay_65 (lv_at hl 0 rfl) ?_
      refine lv_aload_n hx hb dX0_goOneDay_67 rfl (lv_at hl 4 rfl) ?_
      refine n_get (C := RX0) (T := TX0) (N := 11) hx hb hts (fun _ h => List.mem_cons_of_mem _ (List.mem_append_right _ h)) hown hK hP 0 rfl rfl 1 (by decide) (List.mem_of_getElem? (i := 1) rfl) rfl (.int (nI (((eatenN σ k).1) 1))) rfl dX0_goOneDay_68 ?_
      refine n_min hx hb (hml.trans hl.1.symm) hown hts (List.mem_of_getElem? (i := 3) rfl) (List.mem_of_getElem? (i := 4) rfl) (List.mem_of_getElem? (i := 5) rfl) (List.mem_of_getElem? (i := 6) rfl) (Nat.le_of_ble_eq_true rfl) (Nat.le_of_ble_eq_true rfl) (Nat.le_of_ble_eq_true rfl) (Nat.le_of_ble_eq_true rfl) (by omega) (by omega) dX0_goOneDay_71 ?_
      refine lv_istore (lv' := [(5, .int (nI (min (wantsN ((eatenN σ k).1) k) (((eatenN σ k).1) 1)))), (4, .int (nI (wantsN ((eatenN σ k).1) k))), (3, .int (nI k)), (2, .int (nI ((eatenN σ k).2))), (1, .int (nI (mornN σ 1))), (0, .ref (hm 0))]) hx hb dX0_goOneDay_74 hl (by decide) rfl (fun ls hl => ?_)
      refine lv_iload hx hb dX0_goOneDay_76 (lv_at hl 0 rfl) ?_
      refine n_if_le hx hb (by omega) (tgt := 88) dX0_goOneDay_78 (by decide) (fun c_4 => ?_) (fun c_4 => ?_)
      · refine lv_iload hx hb dX0_goOneDay_88 (lv_at hl 1 rfl) ?_
        refine n_if_le hx hb (by omega) (tgt := 100) dX0_goOneDay_90 (by decide) (fun c_5 => ?_) (fun c_5 => ?_)
        · refine n_iinc (lv' := [(3, .int (nI (k + 1))), (5, .int (nI (min (wantsN ((eatenN σ k).1) k) (((eatenN σ k).1) 1)))), (4, .int (nI (wantsN ((eatenN σ k).1) k))), (2, .int (nI ((eatenN σ k).2))), (1, .int (nI (mornN σ 1))), (0, .ref (hm 0))]) hx hb dX0_goOneDay_100 hl (k := 2) rfl (by decide) rfl (fun ls hl => ?_)
          refine lv_goto (tgt := 28) hx hb dX0_goOneDay_103 (by decide) ?_
          have e1 : (eatenN σ (k + 1)).1 = (eatenN σ k).1 := by first | (exfalso; omega) | (rw [eaten_1]; unfold eatN; first | rw [if_pos (by omega)] | rw [if_neg (by omega), if_pos (by omega)] | rw [if_neg (by omega), if_neg (by omega)])
          have e2 : (eatenN σ (k + 1)).2 = (eatenN σ k).2 := by first | (exfalso; omega) | (rw [eaten_2]; unfold hunI; first | rw [if_pos (by omega)] | rw [if_neg (by omega)])
          exact ih (k + 1) _ _ _ (by omega) (by omega) (by rw [e1]; exact hP) (by rw [e1]; exact hD) hS (by rw [e2]; exact (lv_sub hl [0, 3, 4, 5] rfl))
        · refine lv_iload hx hb dX0_goOneDay_93 (lv_at hl 0 rfl) ?_
          refine n_if_ne hx hb (by omega) (tgt := 100) dX0_goOneDay_95 (by decide) (fun c_6 => ?_) (fun c_6 => ?_)
          · refine n_iinc (lv' := [(3, .int (nI (k + 1))), (5, .int (nI (min (wantsN ((eatenN σ k).1) k) (((eatenN σ k).1) 1)))), (4, .int (nI (wantsN ((eatenN σ k).1) k))), (2, .int (nI ((eatenN σ k).2))), (1, .int (nI (mornN σ 1))), (0, .ref (hm 0))]) hx hb dX0_goOneDay_100 hl (k := 2) rfl (by decide) rfl (fun ls hl => ?_)
            refine lv_goto (tgt := 28) hx hb dX0_goOneDay_103 (by decide) ?_
            have e1 : (eatenN σ (k + 1)).1 = (eatenN σ k).1 := by first | (exfalso; omega) | (rw [eaten_1]; unfold eatN; first | rw [if_pos (by omega)] | rw [if_neg (by omega), if_pos (by omega)] | rw [if_neg (by omega), if_neg (by omega)])
            have e2 : (eatenN σ (k + 1)).2 = (eatenN σ k).2 := by first | (exfalso; omega) | (rw [eaten_2]; unfold hunI; first | rw [if_pos (by omega)] | rw [if_neg (by omega)])
            exact ih (k + 1) _ _ _ (by omega) (by omega) (by rw [e1]; exact hP) (by rw [e1]; exact hD) hS (by rw [e2]; exact (lv_sub hl [0, 3, 4, 5] rfl))
          · refine lv_iconst (v := nI 1) hx hb dX0_goOneDay_98 rfl ?_
            refine lv_istore_n (lv' := [(2, .int (nI 1)), (5, .int (nI (min (wantsN ((eatenN σ k).1) k) (((eatenN σ k).1) 1)))), (4, .int (nI (wantsN ((eatenN σ k).1) k))), (3, .int (nI k)), (1, .int (nI (mornN σ 1))), (0, .ref (hm 0))]) hx hb dX0_goOneDay_99 rfl hl (by decide) rfl (fun ls hl => ?_)
            refine n_iinc (lv' := [(3, .int (nI (k + 1))), (2, .int (nI 1)), (5, .int (nI (min (wantsN ((eatenN σ k).1) k) (((eatenN σ k).1) 1)))), (4, .int (nI (wantsN ((eatenN σ k).1) k))), (1, .int (nI (mornN σ 1))), (0, .ref (hm 0))]) hx hb dX0_goOneDay_100 hl (k := 3) rfl (by decide) rfl (fun ls hl => ?_)
            refine lv_goto (tgt := 28) hx hb dX0_goOneDay_103 (by decide) ?_
            have e1 : (eatenN σ (k + 1)).1 = (eatenN σ k).1 := by first | (exfalso; omega) | (rw [eaten_1]; unfold eatN; first | rw [if_pos (by omega)] | rw [if_neg (by omega), if_pos (by omega)] | rw [if_neg (by omega), if_neg (by omega)])
            have e2 : (eatenN σ (k + 1)).2 = 1 := by first | (exfalso; omega) | (rw [eaten_2]; unfold hunI; first | rw [if_pos (by omega)] | rw [if_neg (by omega)])
            exact ih (k + 1) _ _ _ (by omega) (by omega) (by rw [e1]; exact hP) (by rw [e1]; exact hD) hS (by rw [e2]; exact (lv_sub hl [0, 1, 4, 5] rfl))
      · refine lv_aload_n hx hb dX0_goOneDay_81 rfl (lv_at hl 5 rfl) ?_
        refine lv_iload_n hx hb dX0_goOneDay_82 rfl (lv_at hl 2 rfl) ?_
        refine lv_iload hx hb dX0_goOneDay_83 (lv_at hl 0 rfl) ?_
        refine callVV (rest := []) (wn := fun u => wH G hm (crackN ((eatenN σ k).1) k (min (wantsN ((eatenN σ k).1) k) (((eatenN σ k).1) 1)))) ⟨hx, hb, hml, hown, hts⟩ (c_X0_crack l G H.size hm ((eatenN σ k).1) k (min (wantsN ((eatenN σ k).1) k) (((eatenN σ k).1) 1)) hE (by omega) (by omega)) (cwV 2 hts gX0_goOneDay_X0_crack rfl rfl rfl (by decide +kernel) ⟨Nat.le_of_ble_eq_true rfl, Nat.le_of_ble_eq_true rfl⟩) noXB (fun _ _ _ => trivial) hK hP hD hS hAq 0 0 (T := TX0) (N := 11) rfl rfl rfl hl.1 rfl (Nat.le_of_ble_eq_true rfl) dX0_goOneDay_85 ⟨Nat.le_of_ble_eq_true rfl, Nat.le_of_ble_eq_true rfl⟩ [0, 1, 2, 3, 4, 5] rfl rfl [hm 0, hm 1, hm 2, hm 3, hm 4, hm 5] rfl (fun _ => rfl) (fun _ => rfl) (fun u H locs hok hP hD hS => ?_)
        refine lv_iload hx hb dX0_goOneDay_88 (lv_at hl 1 rfl) ?_
        refine n_if_le hx hb (by omega) (tgt := 100) dX0_goOneDay_90 (by decide) (fun c_7 => ?_) (fun c_7 => ?_)
        · refine n_iinc (lv' := [(3, .int (nI (k + 1))), (5, .int (nI (min (wantsN ((eatenN σ k).1) k) (((eatenN σ k).1) 1)))), (4, .int (nI (wantsN ((eatenN σ k).1) k))), (2, .int (nI ((eatenN σ k).2))), (1, .int (nI (mornN σ 1))), (0, .ref (hm 0))]) hx hb dX0_goOneDay_100 hl (k := 2) rfl (by decide) rfl (fun ls hl => ?_)
          refine lv_goto (tgt := 28) hx hb dX0_goOneDay_103 (by decide) ?_
          have e1 : (eatenN σ (k + 1)).1 = crackN ((eatenN σ k).1) k (min (wantsN ((eatenN σ k).1) k) (((eatenN σ k).1) 1)) := by first | (exfalso; omega) | (rw [eaten_1]; unfold eatN; first | rw [if_pos (by omega)] | rw [if_neg (by omega), if_pos (by omega)] | rw [if_neg (by omega), if_neg (by omega)])
          have e2 : (eatenN σ (k + 1)).2 = (eatenN σ k).2 := by first | (exfalso; omega) | (rw [eaten_2]; unfold hunI; first | rw [if_pos (by omega)] | rw [if_neg (by omega)])
          exact ih (k + 1) _ _ _ (by omega) (by omega) (by rw [e1]; exact hP) (by rw [e1]; exact hD) hS (by rw [e2]; exact (lv_sub hl [0, 3, 4, 5] rfl))
        · refine lv_iload hx hb dX0_goOneDay_93 (lv_at hl 0 rfl) ?_
          refine n_if_ne hx hb (by omega) (tgt := 100) dX0_goOneDay_95 (by decide) (fun c_8 => ?_) (fun c_8 => ?_)
          · refine n_iinc (lv' := [(3, .int (nI (k + 1))), (5, .int (nI (min (wantsN ((eatenN σ k).1) k) (((eatenN σ k).1) 1)))), (4, .int (nI (wantsN ((eatenN σ k).1) k))), (2, .int (nI ((eatenN σ k).2))), (1, .int (nI (mornN σ 1))), (0, .ref (hm 0))]) hx hb dX0_goOneDay_100 hl (k := 2) rfl (by decide) rfl (fun ls hl => ?_)
            refine lv_goto (tgt := 28) hx hb dX0_goOneDay_103 (by decide) ?_
            have e1 : (eatenN σ (k + 1)).1 = crackN ((eatenN σ k).1) k (min (wantsN ((eatenN σ k).1) k) (((eatenN σ k).1) 1)) := by first | (exfalso; omega) | (rw [eaten_1]; unfold eatN; first | rw [if_pos (by omega)] | rw [if_neg (by omega), if_pos (by omega)] | rw [if_neg (by omega), if_neg (by omega)])
            have e2 : (eatenN σ (k + 1)).2 = (eatenN σ k).2 := by first | (exfalso; omega) | (rw [eaten_2]; unfold hunI; first | rw [if_pos (by omega)] | rw [if_neg (by omega)])
            exact ih (k + 1) _ _ _ (by omega) (by omega) (by rw [e1]; exact hP) (by rw [e1]; exact hD) hS (by rw [e2]; exact (lv_sub hl [0, 3, 4, 5] rfl))
          · refine lv_iconst (v := nI 1) hx hb dX0_goOneDay_98 rfl ?_
            refine lv_istore_n (lv' := [(2, .int (nI 1)), (5, .int (nI (min (wantsN ((eatenN σ k).1) k) (((eatenN σ k).1) 1)))), (4, .int (nI (wantsN ((eatenN σ k).1) k))), (3, .int (nI k)), (1, .int (nI (mornN σ 1))), (0, .ref (hm 0))]) hx hb dX0_goOneDay_99 rfl hl (by decide) rfl (fun ls hl => ?_)
            refine n_iinc (lv' := [(3, .int (nI (k + 1))), (2, .int (nI 1)), (5, .int (nI (min (wantsN ((eatenN σ k).1) k) (((eatenN σ k).1) 1)))), (4, .int (nI (wantsN ((eatenN σ k).1) k))), (1, .int (nI (mornN σ 1))), (0, .ref (hm 0))]) hx hb dX0_goOneDay_100 hl (k := 3) rfl (by decide) rfl (fun ls hl => ?_)
            refine lv_goto (tgt := 28) hx hb dX0_goOneDay_103 (by decide) ?_
            have e1 : (eatenN σ (k + 1)).1 = crackN ((eatenN σ k).1) k (min (wantsN ((eatenN σ k).1) k) (((eatenN σ k).1) 1)) := by first | (exfalso; omega) | (rw [eaten_1]; unfold eatN; first | rw [if_pos (by omega)] | rw [if_neg (by omega), if_pos (by omega)] | rw [if_neg (by omega), if_neg (by omega)])
            have e2 : (eatenN σ (k + 1)).2 = 1 := by first | (exfalso; omega) | (rw [eaten_2]; unfold hunI; first | rw [if_pos (by omega)] | rw [if_neg (by omega)])
            exact ih (k + 1) _ _ _ (by omega) (by omega) (by rw [e1]; exact hP) (by rw [e1]; exact hD) hS (by rw [e2]; exact (lv_sub hl [0, 1, 4, 5] rfl))
    · refine lv_aload_n hx hb dX0_goOneDay_45 rfl (lv_at hl 3 rfl) ?_
      refine n_get (C := RX0) (T := TX0) (N := 11) hx hb hts (fun _ h => List.mem_cons_of_mem _ (List.mem_append_right _ h)) hown hK hP 0 rfl rfl 9 (by decide) (List.mem_of_getElem? (i := 8) rfl) rfl (.ref (hm 4)) rfl dX0_goOneDay_46 ?_
      refine lv_iload_n hx hb dX0_goOneDay_49 rfl (lv_at hl 0 rfl) ?_
      refine lv_dup2_11 hx hb dX0_goOneDay_50 rfl rfl ?_
      refine n_iald hx hb hK hP 4 (v := (nI (((eatenN σ k).1) (pl k 3)))) rfl (by omega) (by omega) rfl dX0_goOneDay_51 ?_
      refine lv_iconst (v := nI 1) hx hb dX0_goOneDay_52 rfl ?_
      refine n_isub hx hb (by omega) dX0_goOneDay_53 ?_
      refine n_iast hx hb hK hP hD hS 4 (wn := wH G hm (un ((eatenN σ k).1) (pl k 3) ((((eatenN σ k).1) (pl k 3)) - 1))) rfl (by omega) (by omega) (wH_p3 G hm ((eatenN σ k).1) k ((((eatenN σ k).1) (pl k 3)) - 1)) dX0_goOneDay_54 (fun H locs hP hD hS => ?_)
      refine lv_goto (tgt := 100) hx hb dX0_goOneDay_55 (by decide) ?_
      refine n_iinc (lv' := [(3, .int (nI (k + 1))), (2, .int (nI ((eatenN σ k).2))), (1, .int (nI (mornN σ 1))), (0, .ref (hm 0))]) hx hb dX0_goOneDay_100 hl (k := 0) rfl (by decide) rfl (fun ls hl => ?_)
      refine lv_goto (tgt := 28) hx hb dX0_goOneDay_103 (by decide) ?_
      have e1 : (eatenN σ (k + 1)).1 = un ((eatenN σ k).1) (pl k 3) ((((eatenN σ k).1) (pl k 3)) - 1) := by first | (exfalso; omega) | (rw [eaten_1]; unfold eatN; first | rw [if_pos (by omega)] | rw [if_neg (by omega), if_pos (by omega)] | rw [if_neg (by omega), if_neg (by omega)])
      have e2 : (eatenN σ (k + 1)).2 = (eatenN σ k).2 := by first | (exfalso; omega) | (rw [eaten_2]; unfold hunI; first | rw [if_pos (by omega)] | rw [if_neg (by omega)])
      exact ih (k + 1) _ _ _ (by omega) (by omega) (by rw [e1]; exact hP) (by rw [e1]; exact hD) hS (by rw [e2]; exact (lv_sub hl [0, 1, 2, 3] rfl))
set_option maxHeartbeats 400000 in
set_option maxRecDepth 100000 in
theorem c_X0_goOn (l : Launch) (G : GT) (sz : Nat) (hm : Nat → Nat) (σ : Sg) (n : Nat) (hI : Inv σ) (hd0 : σ 0 + n < 1000000) : MV (S := Unit) l G noX yX0_goOn wsX0_goOn ({ frames := 4, cells := 0, slots := 0, locals := 91 } : Room) [.ref (hm 0), .int (nI n)] (wH G hm σ) sz (fun _ => True) (fun _ => wH G hm (daysN n σ)) := by
  refine MV_enter (cc := cX0_goOn) (maxL := 3) (ret := none) (by decide) rfl (Nat.le_of_ble_eq_true rfl) ?_
  intro p e s m below meth c A ls H hx hb hr hlk hml hown hts hAq hS hP hK hD hX hl hnm
  have hown : s.vm.findClass RX0 = some m.cls := hown
  have hl : lv_has ls 3 [(0, .ref (hm 0)), (1, .int (nI n))] := hl
  obtain ⟨⟨i1, i2, i3, i4, i5⟩, ip⟩ := id hI
  refine lv_iconst (v := nI 0) hx hb dX0_goOn_0 rfl ?_
  refine lv_istore_n (lv' := [(2, .int (nI 0)), (0, .ref (hm 0)), (1, .int (nI n))]) hx hb dX0_goOn_1 rfl hl (by decide) rfl (fun ls hl => ?_)
  refine W_loop1 (I := fun (k : Nat) => k ≤ n) (wd := fun (k : Nat) => wH G hm (daysN k σ)) (lv := fun (k : Nat) => [(2, .int (nI k)), (0, .ref (hm 0)), (1, .int (nI n))]) (μ := fun (k : Nat) => n - k) ?_ 0 (by omega) hP hD hS (lv_sub hl [0, 1, 2] rfl)
  intro k H locs ls hI0 hP hD hS hl ih
  have hk : k ≤ n := hI0
  have hE := days_Inv hI k
  have hE0 := (days_0 σ k).1
  refine lv_iload_n hx hb dX0_goOn_2 rfl (lv_at hl 0 rfl) ?_
  refine lv_iload_n hx hb dX0_goOn_3 rfl (lv_at hl 2 rfl) ?_
  refine n_icmp_ge hx hb (by omega) (by omega) (tgt := 17) dX0_goOn_4 (by decide) (fun c_1 => ?_) (fun c_1 => ?_)
  · have hk5 : k = n := by omega
    subst hk5
    exact fin_v hx hb hr hlk hS hP hD () trivial (eqW.rf _) dX0_goOn_17
  · refine lv_aload_n hx hb dX0_goOn_7 rfl (lv_at hl 1 rfl) ?_
    refine callVV (rest := []) (wn := fun u => wH G hm (dayN (daysN k σ))) ⟨hx, hb, hml, hown, hts⟩ (c_X0_goOneDay l G H.size hm (daysN k σ) hE (by omega)) (cwV 0 hts gX0_goOn_X0_goOneDay rfl rfl rfl (by decide +kernel) ⟨Nat.le_of_ble_eq_true rfl, Nat.le_of_ble_eq_true rfl⟩) noXB (fun _ _ _ => trivial) hK hP hD hS hAq 0 0 (T := TX0) (N := 11) rfl rfl rfl hl.1 rfl (Nat.le_of_ble_eq_true rfl) dX0_goOn_8 ⟨Nat.le_of_ble_eq_true rfl, Nat.le_of_ble_eq_true rfl⟩ [0, 1, 2, 3, 4, 5] rfl rfl [hm 0, hm 1, hm 2, hm 3, hm 4, hm 5] rfl (fun _ => rfl) (fun _ => rfl) (fun u H locs hok hP hD hS => ?_)
    refine n_iinc (lv' := [(2, .int (nI (k + 1))), (0, .ref (hm 0)), (1, .int (nI n))]) hx hb dX0_goOn_11 hl (k := 0) rfl (by decide) rfl (fun ls hl => ?_)
    refine lv_goto (tgt := 2) hx hb dX0_goOn_14 (by decide) ?_
    exact ih (k + 1) _ _ _ (by omega) (by omega) hP hD hS (lv_sub hl [0, 1, 2] rfl)
set_option maxHeartbeats 400000 in
set_option maxRecDepth 100000 in
theorem c_X0_become (l : Launch) (G : GT) (sz : Nat) (hm : Nat → Nat) (σ : Sg) (ot : Nat → Nat) (τ : Sg) : MV (S := Unit) l G noX yX0_become wsX0_become ({ frames := 0, cells := 0, slots := 0, locals := 0 } : Room) [.ref (hm 0), .ref (ot 0)] ((wH G hm σ ++ (wH G ot τ))) sz (fun _ => True) (fun _ => (wH G hm τ ++ (wH G ot τ))) := by
  refine MV_enter (cc := cX0_become) (maxL := 3) (ret := none) (by decide) rfl (Nat.le_of_ble_eq_true rfl) ?_
  intro p e s m below meth c A ls H hx hb hr hlk hml hown hts hAq hS hP hK hD hX hl hnm
  have hown : s.vm.findClass RX0 = some m.cls := hown
  have hl : lv_has ls 3 [(0, .ref (hm 0)), (1, .ref (ot 0))] := hl
  refine lv_aload_n hx hb dX0_become_0 rfl (lv_at hl 0 rfl) ?_
  refine lv_aload_n hx hb dX0_become_1 rfl (lv_at hl 1 rfl) ?_
  refine n_get (C := RX0) (T := TX0) (N := 11) hx hb hts (fun _ h => List.mem_cons_of_mem _ (List.mem_append_right _ h)) hown hK hP 6 rfl rfl 0 (by decide) (List.mem_of_getElem? (i := 1) rfl) rfl (.int (nI (τ 0))) rfl dX0_become_2 ?_
  refine n_put (C := RX0) (T := TX0) (N := 11) hx hb hts (fun _ h => List.mem_cons_of_mem _ (List.mem_append_right _ h)) tyX0 tyX0_ok nmX0 hown hK hP hD hS 0 rfl rfl 0 (by decide) (List.mem_of_getElem? (i := 1) rfl) rfl rfl (ty := .int) (v := .int (nI (τ 0))) rfl rfl rfl (Nat.le_of_ble_eq_true rfl) (wn := (wH G hm (un σ 0 (τ 0)) ++ (wH G ot τ))) (congrArg (fun hole_w : va_W => (hole_w ++ (wH G ot τ))) (wH_f0 G hm σ (τ 0))) dX0_become_5 (fun H locs hP hD hS => ?_)
  refine lv_aload_n hx hb dX0_become_8 rfl (lv_at hl 0 rfl) ?_
  refine lv_aload_n hx hb dX0_become_9 rfl (lv_at hl 1 rfl) ?_
  refine n_get (C := RX0) (T := TX0) (N := 11) hx hb hts (fun _ h => List.mem_cons_of_mem _ (List.mem_append_right _ h)) hown hK hP 6 rfl rfl 1 (by decide) (List.mem_of_getElem? (i := 2) rfl) rfl (.int (nI (τ 1))) rfl dX0_become_10 ?_
  refine n_put (C := RX0) (T := TX0) (N := 11) hx hb hts (fun _ h => List.mem_cons_of_mem _ (List.mem_append_right _ h)) tyX0 tyX0_ok nmX0 hown hK hP hD hS 0 rfl rfl 1 (by decide) (List.mem_of_getElem? (i := 2) rfl) rfl rfl (ty := .int) (v := .int (nI (τ 1))) rfl rfl rfl (Nat.le_of_ble_eq_true rfl) (wn := (wH G hm (un (un σ 0 (τ 0)) 1 (τ 1)) ++ (wH G ot τ))) (congrArg (fun hole_w : va_W => (hole_w ++ (wH G ot τ))) (wH_f1 G hm (un σ 0 (τ 0)) (τ 1))) dX0_become_13 (fun H locs hP hD hS => ?_)
  refine lv_aload_n hx hb dX0_become_16 rfl (lv_at hl 0 rfl) ?_
  refine lv_aload_n hx hb dX0_become_17 rfl (lv_at hl 1 rfl) ?_
  refine n_get (C := RX0) (T := TX0) (N := 11) hx hb hts (fun _ h => List.mem_cons_of_mem _ (List.mem_append_right _ h)) hown hK hP 6 rfl rfl 2 (by decide) (List.mem_of_getElem? (i := 3) rfl) rfl (.int (nI (τ 2))) rfl dX0_become_18 ?_
  refine n_put (C := RX0) (T := TX0) (N := 11) hx hb hts (fun _ h => List.mem_cons_of_mem _ (List.mem_append_right _ h)) tyX0 tyX0_ok nmX0 hown hK hP hD hS 0 rfl rfl 2 (by decide) (List.mem_of_getElem? (i := 3) rfl) rfl rfl (ty := .int) (v := .int (nI (τ 2))) rfl rfl rfl (Nat.le_of_ble_eq_true rfl) (wn := (wH G hm (un (un (un σ 0 (τ 0)) 1 (τ 1)) 2 (τ 2)) ++ (wH G ot τ))) (congrArg (fun hole_w : va_W => (hole_w ++ (wH G ot τ))) (wH_f2 G hm (un (un σ 0 (τ 0)) 1 (τ 1)) (τ 2))) dX0_become_21 (fun H locs hP hD hS => ?_)
  refine lv_aload_n hx hb dX0_become_24 rfl (lv_at hl 0 rfl) ?_
  refine lv_aload_n hx hb dX0_become_25 rfl (lv_at hl 1 rfl) ?_
  refine n_get (C := RX0) (T := TX0) (N := 11) hx hb hts (fun _ h => List.mem_cons_of_mem _ (List.mem_append_right _ h)) hown hK hP 6 rfl rfl 3 (by decide) (List.mem_of_getElem? (i := 4) rfl) rfl (.int (nI (τ 3))) rfl dX0_become_26 ?_
  refine n_put (C := RX0) (T := TX0) (N := 11) hx hb hts (fun _ h => List.mem_cons_of_mem _ (List.mem_append_right _ h)) tyX0 tyX0_ok nmX0 hown hK hP hD hS 0 rfl rfl 3 (by decide) (List.mem_of_getElem? (i := 4) rfl) rfl rfl (ty := .int) (v := .int (nI (τ 3))) rfl rfl rfl (Nat.le_of_ble_eq_true rfl) (wn := (wH G hm (un (un (un (un σ 0 (τ 0)) 1 (τ 1)) 2 (τ 2)) 3 (τ 3)) ++ (wH G ot τ))) (congrArg (fun hole_w : va_W => (hole_w ++ (wH G ot τ))) (wH_f3 G hm (un (un (un σ 0 (τ 0)) 1 (τ 1)) 2 (τ 2)) (τ 3))) dX0_become_29 (fun H locs hP hD hS => ?_)
  refine lv_aload_n hx hb dX0_become_32 rfl (lv_at hl 0 rfl) ?_
  refine lv_aload_n hx hb dX0_become_33 rfl (lv_at hl 1 rfl) ?_
  refine n_get (C := RX0) (T := TX0) (N := 11) hx hb hts (fun _ h => List.mem_cons_of_mem _ (List.mem_append_right _ h)) hown hK hP 6 rfl rfl 4 (by decide) (List.mem_of_getElem? (i := 5) rfl) rfl (.int (nI (τ 4))) rfl dX0_become_34 ?_
  refine n_put (C := RX0) (T := TX0) (N := 11) hx hb hts (fun _ h => List.mem_cons_of_mem _ (List.mem_append_right _ h)) tyX0 tyX0_ok nmX0 hown hK hP hD hS 0 rfl rfl 4 (by decide) (List.mem_of_getElem? (i := 5) rfl) rfl rfl (ty := .int) (v := .int (nI (τ 4))) rfl rfl rfl (Nat.le_of_ble_eq_true rfl) (wn := (wH G hm (un (un (un (un (un σ 0 (τ 0)) 1 (τ 1)) 2 (τ 2)) 3 (τ 3)) 4 (τ 4)) ++ (wH G ot τ))) (congrArg (fun hole_w : va_W => (hole_w ++ (wH G ot τ))) (wH_f4 G hm (un (un (un (un σ 0 (τ 0)) 1 (τ 1)) 2 (τ 2)) 3 (τ 3)) (τ 4))) dX0_become_37 (fun H locs hP hD hS => ?_)
  refine lv_aload_n hx hb dX0_become_40 rfl (lv_at hl 0 rfl) ?_
  refine lv_aload_n hx hb dX0_become_41 rfl (lv_at hl 1 rfl) ?_
  refine n_get (C := RX0) (T := TX0) (N := 11) hx hb hts (fun _ h => List.mem_cons_of_mem _ (List.mem_append_right _ h)) hown hK hP 6 rfl rfl 5 (by decide) (List.mem_of_getElem? (i := 6) rfl) rfl (.int (nI (τ 5))) rfl dX0_become_42 ?_
  refine n_put (C := RX0) (T := TX0) (N := 11) hx hb hts (fun _ h => List.mem_cons_of_mem _ (List.mem_append_right _ h)) tyX0 tyX0_ok nmX0 hown hK hP hD hS 0 rfl rfl 5 (by decide) (List.mem_of_getElem? (i := 6) rfl) rfl rfl (ty := .int) (v := .int (nI (τ 5))) rfl rfl rfl (Nat.le_of_ble_eq_true rfl) (wn := (wH G hm (un (un (un (un (un (un σ 0 (τ 0)) 1 (τ 1)) 2 (τ 2)) 3 (τ 3)) 4 (τ 4)) 5 (τ 5)) ++ (wH G ot τ))) (congrArg (fun hole_w : va_W => (hole_w ++ (wH G ot τ))) (wH_f5 G hm (un (un (un (un (un σ 0 (τ 0)) 1 (τ 1)) 2 (τ 2)) 3 (τ 3)) 4 (τ 4)) (τ 5))) dX0_become_45 (fun H locs hP hD hS => ?_)
  refine lv_iconst (v := nI 0) hx hb dX0_become_48 rfl ?_
  refine lv_istore_n (lv' := [(2, .int (nI 0)), (0, .ref (hm 0)), (1, .ref (ot 0))]) hx hb dX0_become_49 rfl hl (by decide) rfl (fun ls hl => ?_)
  refine W_loop1 (I := fun (k : Nat) => k ≤ 8) (wd := fun (k : Nat) => (wH G hm (cpN σ τ k) ++ (wH G ot τ))) (lv := fun (k : Nat) => [(2, .int (nI k)), (0, .ref (hm 0)), (1, .ref (ot 0))]) (μ := fun (k : Nat) => 8 - k) ?_ 0 (by omega) (by rw [← cp_0]; exact hP) (by rw [← cp_0]; exact hD) hS (lv_sub hl [0, 1, 2] rfl)
  intro k H locs ls hI0 hP hD hS hl ih
  have hk : k ≤ 8 := hI0
  refine lv_iload_n hx hb dX0_become_50 rfl (lv_at hl 0 rfl) ?_
  refine lv_bipush (v := nI 8) hx hb dX0_become_51 rfl ?_
  refine n_icmp_ge hx hb (by omega) (by omega) (tgt := 122) dX0_become_53 (by decide) (fun c_1 => ?_) (fun c_1 => ?_)
  · have hk5 : k = 8 := by omega
    subst hk5
    exact fin_v hx hb hr hlk hS hP hD () trivial (cp_8 G hm σ τ _) dX0_become_122
  · refine lv_aload_n hx hb dX0_become_56 rfl (lv_at hl 1 rfl) ?_
    refine n_get (C := RX0) (T := TX0) (N := 11) hx hb hts (fun _ h => List.mem_cons_of_mem _ (List.mem_append_right _ h)) hown hK hP 0 rfl rfl 6 (by decide) (List.mem_of_getElem? (i := 7) rfl) rfl (.ref (hm 1)) rfl dX0_become_57 ?_
    refine lv_iload_n hx hb dX0_become_60 rfl (lv_at hl 0 rfl) ?_
    refine lv_aload_n hx hb dX0_become_61 rfl (lv_at hl 2 rfl) ?_
    refine n_get (C := RX0) (T := TX0) (N := 11) hx hb hts (fun _ h => List.mem_cons_of_mem _ (List.mem_append_right _ h)) hown hK hP 6 rfl rfl 6 (by decide) (List.mem_of_getElem? (i := 7) rfl) rfl (.ref (ot 1)) rfl dX0_become_62 ?_
    refine lv_iload_n hx hb dX0_become_65 rfl (lv_at hl 0 rfl) ?_
    refine n_iald hx hb hK hP 7 (v := (nI (τ (pl k 0)))) rfl (by omega) (by omega) rfl dX0_become_66 ?_
    refine n_iast hx hb hK hP hD hS 1 (wn := (wH G hm (un (cpN σ τ k) (pl k 0) (τ (pl k 0))) ++ (wH G ot τ))) rfl (by omega) (by omega) (congrArg (fun hole_w : va_W => (hole_w ++ (wH G ot τ))) (wH_p0 G hm (cpN σ τ k) k (τ (pl k 0)))) dX0_become_67 (fun H locs hP hD hS => ?_)
    refine lv_aload_n hx hb dX0_become_68 rfl (lv_at hl 1 rfl) ?_
    refine n_get (C := RX0) (T := TX0) (N := 11) hx hb hts (fun _ h => List.mem_cons_of_mem _ (List.mem_append_right _ h)) hown hK hP 0 rfl rfl 7 (by decide) (List.mem_of_getElem? (i := 8) rfl) rfl (.ref (hm 2)) rfl dX0_become_69 ?_
    refine lv_iload_n hx hb dX0_become_72 rfl (lv_at hl 0 rfl) ?_
    refine lv_aload_n hx hb dX0_become_73 rfl (lv_at hl 2 rfl) ?_
    refine n_get (C := RX0) (T := TX0) (N := 11) hx hb hts (fun _ h => List.mem_cons_of_mem _ (List.mem_append_right _ h)) hown hK hP 6 rfl rfl 7 (by decide) (List.mem_of_getElem? (i := 8) rfl) rfl (.ref (ot 2)) rfl dX0_become_74 ?_
    refine lv_iload_n hx hb dX0_become_77 rfl (lv_at hl 0 rfl) ?_
    refine n_iald hx hb hK hP 8 (v := (nI (τ (pl k 1)))) rfl (by omega) (by omega) rfl dX0_become_78 ?_
    refine n_iast hx hb hK hP hD hS 2 (wn := (wH G hm (un (un (cpN σ τ k) (pl k 0) (τ (pl k 0))) (pl k 1) (τ (pl k 1))) ++ (wH G ot τ))) rfl (by omega) (by omega) (congrArg (fun hole_w : va_W => (hole_w ++ (wH G ot τ))) (wH_p1 G hm (un (cpN σ τ k) (pl k 0) (τ (pl k 0))) k (τ (pl k 1)))) dX0_become_79 (fun H locs hP hD hS => ?_)
    refine lv_aload_n hx hb dX0_become_80 rfl (lv_at hl 1 rfl) ?_
    refine n_get (C := RX0) (T := TX0) (N := 11) hx hb hts (fun _ h => List.mem_cons_of_mem _ (List.mem_append_right _ h)) hown hK hP 0 rfl rfl 8 (by decide) (List.mem_of_getElem? (i := 9) rfl) rfl (.ref (hm 3)) rfl dX0_become_81 ?_
    refine lv_iload_n hx hb dX0_become_84 rfl (lv_at hl 0 rfl) ?_
    refine lv_aload_n hx hb dX0_become_85 rfl (lv_at hl 2 rfl) ?_
    refine n_get (C := RX0) (T := TX0) (N := 11) hx hb hts (fun _ h => List.mem_cons_of_mem _ (List.mem_append_right _ h)) hown hK hP 6 rfl rfl 8 (by decide) (List.mem_of_getElem? (i := 9) rfl) rfl (.ref (ot 3)) rfl dX0_become_86 ?_
    refine lv_iload_n hx hb dX0_become_89 rfl (lv_at hl 0 rfl) ?_
    refine n_iald hx hb hK hP 9 (v := (nI (τ (pl k 2)))) rfl (by omega) (by omega) rfl dX0_become_90 ?_
    refine n_iast hx hb hK hP hD hS 3 (wn := (wH G hm (un (un (un (cpN σ τ k) (pl k 0) (τ (pl k 0))) (pl k 1) (τ (pl k 1))) (pl k 2) (τ (pl k 2))) ++ (wH G ot τ))) rfl (by omega) (by omega) (congrArg (fun hole_w : va_W => (hole_w ++ (wH G ot τ))) (wH_p2 G hm (un (un (cpN σ τ k) (pl k 0) (τ (pl k 0))) (pl k 1) (τ (pl k 1))) k (τ (pl k 2)))) dX0_become_91 (fun H locs hP hD hS => ?_)
    refine lv_aload_n hx hb dX0_become_92 rfl (lv_at hl 1 rfl) ?_
    refine n_get (C := RX0) (T := TX0) (N := 11) hx hb hts (fun _ h => List.mem_cons_of_mem _ (List.mem_append_right _ h)) hown hK hP 0 rfl rfl 9 (by decide) (List.mem_of_getElem? (i := 10) rfl) rfl (.ref (hm 4)) rfl dX0_become_93 ?_
    refine lv_iload_n hx hb dX0_become_96 rfl (lv_at hl 0 rfl) ?_
    refine lv_aload_n hx hb dX0_become_97 rfl (lv_at hl 2 rfl) ?_
    refine n_get (C := RX0) (T := TX0) (N := 11) hx hb hts (fun _ h => List.mem_cons_of_mem _ (List.mem_append_right _ h)) hown hK hP 6 rfl rfl 9 (by decide) (List.mem_of_getElem? (i := 10) rfl) rfl (.ref (ot 4)) rfl dX0_become_98 ?_
    refine lv_iload_n hx hb dX0_become_101 rfl (lv_at hl 0 rfl) ?_
    refine n_iald hx hb hK hP 10 (v := (nI (τ (pl k 3)))) rfl (by omega) (by omega) rfl dX0_become_102 ?_
    refine n_iast hx hb hK hP hD hS 4 (wn := (wH G hm (un (un (un (un (cpN σ τ k) (pl k 0) (τ (pl k 0))) (pl k 1) (τ (pl k 1))) (pl k 2) (τ (pl k 2))) (pl k 3) (τ (pl k 3))) ++ (wH G ot τ))) rfl (by omega) (by omega) (congrArg (fun hole_w : va_W => (hole_w ++ (wH G ot τ))) (wH_p3 G hm (un (un (un (cpN σ τ k) (pl k 0) (τ (pl k 0))) (pl k 1) (τ (pl k 1))) (pl k 2) (τ (pl k 2))) k (τ (pl k 3)))) dX0_become_103 (fun H locs hP hD hS => ?_)
    refine lv_aload_n hx hb dX0_become_104 rfl (lv_at hl 1 rfl) ?_
    refine n_get (C := RX0) (T := TX0) (N := 11) hx hb hts (fun _ h => List.mem_cons_of_mem _ (List.mem_append_right _ h)) hown hK hP 0 rfl rfl 10 (by decide) (List.mem_of_getElem? (i := 11) rfl) rfl (.ref (hm 5)) rfl dX0_become_105 ?_
    refine lv_iload_n hx hb dX0_become_108 rfl (lv_at hl 0 rfl) ?_
    refine lv_aload_n hx hb dX0_become_109 rfl (lv_at hl 2 rfl) ?_
    refine n_get (C := RX0) (T := TX0) (N := 11) hx hb hts (fun _ h => List.mem_cons_of_mem _ (List.mem_append_right _ h)) hown hK hP 6 rfl rfl 10 (by decide) (List.mem_of_getElem? (i := 11) rfl) rfl (.ref (ot 5)) rfl dX0_become_110 ?_
    refine lv_iload_n hx hb dX0_become_113 rfl (lv_at hl 0 rfl) ?_
    refine n_iald hx hb hK hP 11 (v := (nI (τ (pl k 4)))) rfl (by omega) (by omega) rfl dX0_become_114 ?_
    refine n_iast hx hb hK hP hD hS 5 (wn := (wH G hm (un (un (un (un (un (cpN σ τ k) (pl k 0) (τ (pl k 0))) (pl k 1) (τ (pl k 1))) (pl k 2) (τ (pl k 2))) (pl k 3) (τ (pl k 3))) (pl k 4) (τ (pl k 4))) ++ (wH G ot τ))) rfl (by omega) (by omega) (congrArg (fun hole_w : va_W => (hole_w ++ (wH G ot τ))) (wH_p4 G hm (un (un (un (un (cpN σ τ k) (pl k 0) (τ (pl k 0))) (pl k 1) (τ (pl k 1))) (pl k 2) (τ (pl k 2))) (pl k 3) (τ (pl k 3))) k (τ (pl k 4)))) dX0_become_115 (fun H locs hP hD hS => ?_)
    refine n_iinc (lv' := [(2, .int (nI (k + 1))), (0, .ref (hm 0)), (1, .ref (ot 0))]) hx hb dX0_become_116 hl (k := 0) rfl (by decide) rfl (fun ls hl => ?_)
    refine lv_goto (tgt := 50) hx hb dX0_become_119 (by decide) ?_
    exact ih (k + 1) _ _ _ (by omega) (by omega) (by rw [← cp_S]; exact hP) (by rw [← cp_S]; exact hD) hS (lv_sub hl [0, 1, 2] rfl)
