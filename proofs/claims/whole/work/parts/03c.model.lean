set_option maxHeartbeats 400000 in
set_option maxRecDepth 100000 in
theorem c_X6_less (l : Launch) (G : GT) (sz : Nat) (i j : Nat) (hi : i < 2147483648) (hj : j < 2147483648) : MI (S := Unit) l G noX yX6_less wsX6_less ({ frames := 0, cells := 0, slots := 0, locals := 0 } : Room) [.int (nI i), .int (nI j)] (([] : va_W)) sz (fun _ => True) (fun _ => nI (min i j)) (fun _ => ([] : va_W)) := by
  refine MI_enter (cc := cX6_less) (maxL := 2) (ret := (some .int)) (by decide) rfl (Nat.le_of_ble_eq_true rfl) ?_
  intro p e s m below meth c A ls H hx hb hr hlk hml hown hts hAq hS hP hK hD hX hl hnm
  have hown : s.vm.findClass RX6 = some m.cls := hown
  have hl : lv_has ls 2 [(0, .int (nI i)), (1, .int (nI j))] := hl
  refine lv_iload_n hx hb dX6_less_0 rfl (lv_at hl 0 rfl) ?_
  refine lv_iload_n hx hb dX6_less_1 rfl (lv_at hl 1 rfl) ?_
  refine n_icmp_ge hx hb (by omega) (by omega) (tgt := 9) dX6_less_2 (by decide) (fun c_1 => ?_) (fun c_1 => ?_)
  · refine lv_iload_n hx hb dX6_less_9 rfl (lv_at hl 1 rfl) ?_
    exact fin_i hx hb hr hlk hS hP hD () trivial (congrArg nI (by omega)) (eqW.rf _) dX6_less_10
  · refine lv_iload_n hx hb dX6_less_5 rfl (lv_at hl 0 rfl) ?_
    refine lv_goto (tgt := 10) hx hb dX6_less_6 (by decide) ?_
    exact fin_i hx hb hr hlk hS hP hD () trivial (congrArg nI (by omega)) (eqW.rf _) dX6_less_10
set_option maxHeartbeats 400000 in
set_option maxRecDepth 100000 in
theorem c_X6_in1 (l : Launch) (G : GT) (sz : Nat) (p0 p1 p2 : Int32) : MI (S := Unit) l G noX yX6_in1 wsX6_in1 ({ frames := 0, cells := 0, slots := 0, locals := 0 } : Room) [.int p0, .int p1, .int p2] (([] : va_W)) sz (fun _ => True) (fun _ => zI (p1.toInt ≤ p0.toInt ∧ p0.toInt ≤ p2.toInt)) (fun _ => ([] : va_W)) := by
  refine MI_enter (cc := cX6_in1) (maxL := 3) (ret := (some .boolean)) (by decide) rfl (Nat.le_of_ble_eq_true rfl) ?_
  intro p e s m below meth c A ls H hx hb hr hlk hml hown hts hAq hS hP hK hD hX hl hnm
  have hown : s.vm.findClass RX6 = some m.cls := hown
  have hl : lv_has ls 3 [(0, .int p0), (1, .int p1), (2, .int p2)] := hl
  refine lv_iload_n hx hb dX6_in1_0 rfl (lv_at hl 0 rfl) ?_
  refine lv_iload_n hx hb dX6_in1_1 rfl (lv_at hl 1 rfl) ?_
  refine r_icmp_lt hx hb (tgt := 14) dX6_in1_2 (by decide) (fun c_1 => ?_) (fun c_1 => ?_)
  · refine lv_iconst (v := nI 0) hx hb dX6_in1_14 rfl ?_
    exact fin_z (ty := .boolean) (by decide) hx hb hr hlk hS hP hD () trivial (zI_f (by omega)).symm (eqW.rf _) dX6_in1_15
  · refine lv_iload_n hx hb dX6_in1_5 rfl (lv_at hl 0 rfl) ?_
    refine lv_iload_n hx hb dX6_in1_6 rfl (lv_at hl 2 rfl) ?_
    refine r_icmp_gt hx hb (tgt := 14) dX6_in1_7 (by decide) (fun c_2 => ?_) (fun c_2 => ?_)
    · refine lv_iconst (v := nI 0) hx hb dX6_in1_14 rfl ?_
      exact fin_z (ty := .boolean) (by decide) hx hb hr hlk hS hP hD () trivial (zI_f (by omega)).symm (eqW.rf _) dX6_in1_15
    · refine lv_iconst (v := nI 1) hx hb dX6_in1_10 rfl ?_
      refine lv_goto (tgt := 15) hx hb dX6_in1_11 (by decide) ?_
      exact fin_z (ty := .boolean) (by decide) hx hb hr hlk hS hP hD () trivial (zI_t (by omega)).symm (eqW.rf _) dX6_in1_15
set_option maxHeartbeats 400000 in
set_option maxRecDepth 100000 in
theorem c_X5_isWithin (l : Launch) (G : GT) (sz : Nat) (p0 p1 p2 : Int32) : MI (S := Unit) l G noX yX5_isWithin wsX5_isWithin ({ frames := 0, cells := 0, slots := 0, locals := 0 } : Room) [.int p0, .int p1, .int p2] (([] : va_W)) sz (fun _ => True) (fun _ => zI (p1.toInt ≤ p0.toInt ∧ p0.toInt ≤ p2.toInt)) (fun _ => ([] : va_W)) := by
  refine MI_enter (cc := cX5_isWithin) (maxL := 3) (ret := (some .boolean)) (by decide) rfl (Nat.le_of_ble_eq_true rfl) ?_
  intro p e s m below meth c A ls H hx hb hr hlk hml hown hts hAq hS hP hK hD hX hl hnm
  have hown : s.vm.findClass RX5 = some m.cls := hown
  have hl : lv_has ls 3 [(0, .int p0), (1, .int p1), (2, .int p2)] := hl
  refine lv_iload_n hx hb dX5_isWithin_0 rfl (lv_at hl 0 rfl) ?_
  refine lv_iload_n hx hb dX5_isWithin_1 rfl (lv_at hl 1 rfl) ?_
  refine r_icmp_lt hx hb (tgt := 14) dX5_isWithin_2 (by decide) (fun c_1 => ?_) (fun c_1 => ?_)
  · refine lv_iconst (v := nI 0) hx hb dX5_isWithin_14 rfl ?_
    exact fin_z (ty := .boolean) (by decide) hx hb hr hlk hS hP hD () trivial (zI_f (by omega)).symm (eqW.rf _) dX5_isWithin_15
  · refine lv_iload_n hx hb dX5_isWithin_5 rfl (lv_at hl 0 rfl) ?_
    refine lv_iload_n hx hb dX5_isWithin_6 rfl (lv_at hl 2 rfl) ?_
    refine r_icmp_gt hx hb (tgt := 14) dX5_isWithin_7 (by decide) (fun c_2 => ?_) (fun c_2 => ?_)
    · refine lv_iconst (v := nI 0) hx hb dX5_isWithin_14 rfl ?_
      exact fin_z (ty := .boolean) (by decide) hx hb hr hlk hS hP hD () trivial (zI_f (by omega)).symm (eqW.rf _) dX5_isWithin_15
    · refine lv_iconst (v := nI 1) hx hb dX5_isWithin_10 rfl ?_
      refine lv_goto (tgt := 15) hx hb dX5_isWithin_11 (by decide) ?_
      exact fin_z (ty := .boolean) (by decide) hx hb hr hlk hS hP hD () trivial (zI_t (by omega)).symm (eqW.rf _) dX5_isWithin_15
set_option maxHeartbeats 400000 in
set_option maxRecDepth 100000 in
theorem c_X6_get (l : Launch) (G : GT) (sz : Nat) (b : Nat → Nat) (ζ : Nat → Nat) (vv : Int64) (σ : Sg) (k f : Nat) (hk : k < 8) (hf : f < 5) : MI (S := Unit) l G noX yX6_get wsX6_get ({ frames := 0, cells := 0, slots := 0, locals := 0 } : Room) [.ref (b 0), .int (nI k), .int (nI f)] ([mO b ζ vv, (b 1, .inl (G.2.1, 46, .inl (nF σ)))]) sz (fun _ => True) (fun _ => nI (σ (pl k f))) (fun _ => [mO b ζ vv, (b 1, .inl (G.2.1, 46, .inl (nF σ)))]) := by
  refine MI_enter (cc := cX6_get) (maxL := 3) (ret := (some .int)) (by decide) rfl (Nat.le_of_ble_eq_true rfl) ?_
  intro p e s m below meth c A ls H hx hb hr hlk hml hown hts hAq hS hP hK hD hX hl hnm
  have hown : s.vm.findClass RX6 = some m.cls := hown
  have hl : lv_has ls 3 [(0, .ref (b 0)), (1, .int (nI k)), (2, .int (nI f))] := hl
  refine lv_aload_n hx hb dX6_get_0 rfl (lv_at hl 0 rfl) ?_
  refine n_get (C := RX6) (T := TX6) (N := 18) hx hb hts (fun _ h => List.mem_cons_of_mem _ (List.mem_append_right _ h)) hown hK hP 0 rfl rfl 0 (by decide) (List.mem_of_getElem? (i := 1) rfl) rfl (.ref (b 1)) rfl dX6_get_1 ?_
  refine lv_bipush (v := nI 6) hx hb dX6_get_4 rfl ?_
  refine lv_iconst (v := nI 5) hx hb dX6_get_6 rfl ?_
  refine lv_iload_n hx hb dX6_get_7 rfl (lv_at hl 1 rfl) ?_
  refine n_imul hx hb dX6_get_8 ?_
  refine n_iadd hx hb dX6_get_9 ?_
  refine lv_iload_n hx hb dX6_get_10 rfl (lv_at hl 2 rfl) ?_
  refine n_iadd hx hb dX6_get_11 ?_
  refine n_iald hx hb hK hP 1 (v := (nI (σ ((6 + (5 * k)) + f)))) rfl (by omega) (by omega) rfl dX6_get_12 ?_
  exact fin_i hx hb hr hlk hS hP hD () trivial rfl (eqW.rf _) dX6_get_13
set_option maxHeartbeats 400000 in
set_option maxRecDepth 100000 in
theorem c_X6_puts (l : Launch) (G : GT) (sz : Nat) (b : Nat → Nat) (ζ : Nat → Nat) (vv : Int64) (σ : Sg) (k f x : Nat) (hk : k < 8) (hf : f < 5) : MV (S := Unit) l G noX yX6_puts wsX6_puts ({ frames := 0, cells := 0, slots := 0, locals := 0 } : Room) [.ref (b 0), .int (nI k), .int (nI f), .int (nI x)] ([mO b ζ vv, (b 1, .inl (G.2.1, 46, .inl (nF σ)))]) sz (fun _ => True) (fun _ => [mO b ζ vv, (b 1, .inl (G.2.1, 46, .inl (nF (un σ (pl k f) x))))]) := by
  refine MV_enter (cc := cX6_puts) (maxL := 4) (ret := none) (by decide) rfl (Nat.le_of_ble_eq_true rfl) ?_
  intro p e s m below meth c A ls H hx hb hr hlk hml hown hts hAq hS hP hK hD hX hl hnm
  have hown : s.vm.findClass RX6 = some m.cls := hown
  have hl : lv_has ls 4 [(0, .ref (b 0)), (1, .int (nI k)), (2, .int (nI f)), (3, .int (nI x))] := hl
  refine lv_aload_n hx hb dX6_puts_0 rfl (lv_at hl 0 rfl) ?_
  refine n_get (C := RX6) (T := TX6) (N := 18) hx hb hts (fun _ h => List.mem_cons_of_mem _ (List.mem_append_right _ h)) hown hK hP 0 rfl rfl 0 (by decide) (List.mem_of_getElem? (i := 1) rfl) rfl (.ref (b 1)) rfl dX6_puts_1 ?_
  refine lv_bipush (v := nI 6) hx hb dX6_puts_4 rfl ?_
  refine lv_iconst (v := nI 5) hx hb dX6_puts_6 rfl ?_
  refine lv_iload_n hx hb dX6_puts_7 rfl (lv_at hl 1 rfl) ?_
  refine n_imul hx hb dX6_puts_8 ?_
  refine n_iadd hx hb dX6_puts_9 ?_
  refine lv_iload_n hx hb dX6_puts_10 rfl (lv_at hl 2 rfl) ?_
  refine n_iadd hx hb dX6_puts_11 ?_
  refine lv_iload_n hx hb dX6_puts_12 rfl (lv_at hl 3 rfl) ?_
  refine n_iast hx hb hK hP hD hS 1 (wn := [mO b ζ vv, (b 1, .inl (G.2.1, 46, .inl (nF (un σ ((6 + (5 * k)) + f) x))))]) rfl (by omega) (by omega) (by rw [nF_un]; rfl) dX6_puts_13 (fun H locs hP hD hS => ?_)
  exact fin_v hx hb hr hlk hS hP hD () trivial (eqW.rf _) dX6_puts_14
set_option maxHeartbeats 400000 in
set_option maxRecDepth 100000 in
theorem c_X6_isPerson (l : Launch) (G : GT) (sz : Nat) (b : Nat → Nat) (ζ : Nat → Nat) (vv : Int64) (σ : Sg) (p0 : Int32) (h5 : σ 5 ≤ 8) : MI (S := Unit) l G noX yX6_isPerson wsX6_isPerson ({ frames := 1, cells := 0, slots := 0, locals := 22 } : Room) [.ref (b 0), .int p0] ([mO b ζ vv, (b 1, .inl (G.2.1, 46, .inl (nF σ)))]) sz (fun _ => True) (fun _ => zI (0 ≤ p0.toInt ∧ p0.toInt < ((σ 5 : Nat) : Int))) (fun _ => [mO b ζ vv, (b 1, .inl (G.2.1, 46, .inl (nF σ)))]) := by
  refine MI_enter (cc := cX6_isPerson) (maxL := 2) (ret := (some .boolean)) (by decide) rfl (Nat.le_of_ble_eq_true rfl) ?_
  intro p e s m below meth c A ls H hx hb hr hlk hml hown hts hAq hS hP hK hD hX hl hnm
  have hown : s.vm.findClass RX6 = some m.cls := hown
  have hl : lv_has ls 2 [(0, .ref (b 0)), (1, .int p0)] := hl
  refine lv_iload_n hx hb dX6_isPerson_0 rfl (lv_at hl 1 rfl) ?_
  refine lv_iconst (v := nI 0) hx hb dX6_isPerson_1 rfl ?_
  refine lv_aload_n hx hb dX6_isPerson_2 rfl (lv_at hl 0 rfl) ?_
  refine n_get (C := RX6) (T := TX6) (N := 18) hx hb hts (fun _ h => List.mem_cons_of_mem _ (List.mem_append_right _ h)) hown hK hP 0 rfl rfl 0 (by decide) (List.mem_of_getElem? (i := 1) rfl) rfl (.ref (b 1)) rfl dX6_isPerson_3 ?_
  refine lv_iconst (v := nI 5) hx hb dX6_isPerson_6 rfl ?_
  refine n_iald hx hb hK hP 1 (v := (nI (σ 5))) rfl (by omega) (by omega) rfl dX6_isPerson_7 ?_
  refine lv_iconst (v := nI 1) hx hb dX6_isPerson_8 rfl ?_
  refine lv_isub hx hb dX6_isPerson_9 ?_
  refine callSI (rest := []) (wn := fun u => [mO b ζ vv, (b 1, .inl (G.2.1, 46, .inl (nF σ)))]) ⟨hx, hb, hml, hown, hts⟩ (c_X6_in1 l G H.size p0 (nI 0) ((nI (σ 5)) - (nI 1))) (va_cwS 3 hts gX6_isPerson_X6_in1 rfl rfl rfl (by decide +kernel) ⟨Nat.le_of_ble_eq_true rfl, Nat.le_of_ble_eq_true rfl⟩) noXB (fun _ _ _ => trivial) hK hP hD hS hAq rfl hl.1 rfl (Nat.le_of_ble_eq_true rfl) dX6_isPerson_10 ⟨Nat.le_of_ble_eq_true rfl, Nat.le_of_ble_eq_true rfl⟩ [] rfl rfl [] rfl (fun _ => rfl) (fun _ => rfl) (fun u H locs hok hP hD hS => ?_)
  exact fin_z (ty := .boolean) zI_n hx hb hr hlk hS hP hD () trivial (zI_c (by rw [nI_T (show 0 < 2147483648 by decide), pred_T (by omega)]; omega)) (eqW.rf _) dX6_isPerson_13
set_option maxHeartbeats 400000 in
set_option maxRecDepth 100000 in
theorem c_X6_wantsOf (l : Launch) (G : GT) (sz : Nat) (b : Nat → Nat) (ζ : Nat → Nat) (vv : Int64) (σ : Sg) (k : Nat) (hI : Inv σ) (hk : k < σ 5) (hd0 : σ 0 < 1000000) : MI (S := Unit) l G noX yX6_wantsOf wsX6_wantsOf ({ frames := 1, cells := 0, slots := 0, locals := 22 } : Room) [.ref (b 0), .int (nI k)] ([mO b ζ vv, (b 1, .inl (G.2.1, 46, .inl (nF σ)))]) sz (fun _ => True) (fun _ => nI (wantsN σ k)) (fun _ => [mO b ζ vv, (b 1, .inl (G.2.1, 46, .inl (nF σ)))]) := by
  refine MI_enter (cc := cX6_wantsOf) (maxL := 5) (ret := (some .int)) (by decide) rfl (Nat.le_of_ble_eq_true rfl) ?_
  intro p e s m below meth c A ls H hx hb hr hlk hml hown hts hAq hS hP hK hD hX hl hnm
  have hown : s.vm.findClass RX6 = some m.cls := hown
  have hl : lv_has ls 5 [(0, .ref (b 0)), (1, .int (nI k))] := hl
  obtain ⟨⟨i1, i2, i3, i4, i5⟩, ip⟩ := id hI
  obtain ⟨p0, p1, p2, p3, p4⟩ := ip k (by omega)
  refine lv_aload_n hx hb dX6_wantsOf_0 rfl (lv_at hl 0 rfl) ?_
  refine lv_iload_n hx hb dX6_wantsOf_1 rfl (lv_at hl 1 rfl) ?_
  refine lv_iconst (v := nI 1) hx hb dX6_wantsOf_2 rfl ?_
  refine callVI (rest := []) (wn := fun u => [mO b ζ vv, (b 1, .inl (G.2.1, 46, .inl (nF σ)))]) ⟨hx, hb, hml, hown, hts⟩ (c_X6_get l G H.size b ζ vv σ k 1 (by omega) (by omega)) (cwV 2 hts gX6_wantsOf_X6_get rfl rfl rfl (by decide +kernel) ⟨Nat.le_of_ble_eq_true rfl, Nat.le_of_ble_eq_true rfl⟩) noXB (fun _ _ _ => trivial) hK hP hD hS hAq 5 0 (T := TX6) (N := 18) rfl rfl rfl hl.1 rfl (Nat.le_of_ble_eq_true rfl) dX6_wantsOf_3 ⟨Nat.le_of_ble_eq_true rfl, Nat.le_of_ble_eq_true rfl⟩ [0, 1] rfl rfl [b 0, b 1] rfl (fun _ => rfl) (fun _ => rfl) (fun u H locs hok hP hD hS => ?_)
  refine lv_istore_n (lv' := [(2, .int (nI (σ (pl k 1)))), (0, .ref (b 0)), (1, .int (nI k))]) hx hb dX6_wantsOf_6 rfl hl (by decide) rfl (fun ls hl => ?_)
  refine lv_aload_n hx hb dX6_wantsOf_7 rfl (lv_at hl 1 rfl) ?_
  refine n_get (C := RX6) (T := TX6) (N := 18) hx hb hts (fun _ h => List.mem_cons_of_mem _ (List.mem_append_right _ h)) hown hK hP 0 rfl rfl 0 (by decide) (List.mem_of_getElem? (i := 1) rfl) rfl (.ref (b 1)) rfl dX6_wantsOf_8 ?_
  refine lv_iconst (v := nI 0) hx hb dX6_wantsOf_11 rfl ?_
  refine n_iald hx hb hK hP 1 (v := (nI (σ 0))) rfl (by omega) (by omega) rfl dX6_wantsOf_12 ?_
  refine lv_iconst (v := nI 2) hx hb dX6_wantsOf_13 rfl ?_
  refine n_irem hx hb (by omega) (by decide) (by decide) dX6_wantsOf_14 ?_
  refine lv_iconst (v := nI 1) hx hb dX6_wantsOf_15 rfl ?_
  refine n_icmp_ne hx hb (by omega) (by omega) (tgt := 23) dX6_wantsOf_16 (by decide) (fun c_1 => ?_) (fun c_1 => ?_)
  · refine lv_iconst (v := nI 0) hx hb dX6_wantsOf_23 rfl ?_
    refine lv_istore_n (lv' := [(3, .int (nI 0)), (2, .int (nI (σ (pl k 1)))), (0, .ref (b 0)), (1, .int (nI k))]) hx hb dX6_wantsOf_24 rfl hl (by decide) rfl (fun ls hl => ?_)
    refine lv_aload_n hx hb dX6_wantsOf_25 rfl (lv_at hl 2 rfl) ?_
    refine n_get (C := RX6) (T := TX6) (N := 18) hx hb hts (fun _ h => List.mem_cons_of_mem _ (List.mem_append_right _ h)) hown hK hP 0 rfl rfl 0 (by decide) (List.mem_of_getElem? (i := 1) rfl) rfl (.ref (b 1)) rfl dX6_wantsOf_26 ?_
    refine lv_iconst (v := nI 3) hx hb dX6_wantsOf_29 rfl ?_
    refine n_iald hx hb hK hP 1 (v := (nI (σ 3))) rfl (by omega) (by omega) rfl dX6_wantsOf_30 ?_
    refine lv_sipush (v := nI 500) hx hb dX6_wantsOf_31 rfl ?_
    refine n_icmp_le hx hb (by omega) (by omega) (tgt := 43) dX6_wantsOf_34 (by decide) (fun c_2 => ?_) (fun c_2 => ?_)
    · refine lv_iload_n hx hb dX6_wantsOf_43 rfl (lv_at hl 1 rfl) ?_
      refine lv_istore (lv' := [(4, .int (nI (σ (pl k 1)))), (3, .int (nI 0)), (2, .int (nI (σ (pl k 1)))), (0, .ref (b 0)), (1, .int (nI k))]) hx hb dX6_wantsOf_44 hl (by decide) rfl (fun ls hl => ?_)
      refine lv_aload_n hx hb dX6_wantsOf_46 rfl (lv_at hl 3 rfl) ?_
      refine lv_iload_n hx hb dX6_wantsOf_47 rfl (lv_at hl 4 rfl) ?_
      refine lv_iconst (v := nI 0) hx hb dX6_wantsOf_48 rfl ?_
      refine callVI (rest := []) (wn := fun u => [mO b ζ vv, (b 1, .inl (G.2.1, 46, .inl (nF σ)))]) ⟨hx, hb, hml, hown, hts⟩ (c_X6_get l G H.size b ζ vv σ k 0 (by omega) (by omega)) (cwV 2 hts gX6_wantsOf_X6_get rfl rfl rfl (by decide +kernel) ⟨Nat.le_of_ble_eq_true rfl, Nat.le_of_ble_eq_true rfl⟩) noXB (fun _ _ _ => trivial) hK hP hD hS hAq 5 0 (T := TX6) (N := 18) rfl rfl rfl hl.1 rfl (Nat.le_of_ble_eq_true rfl) dX6_wantsOf_49 ⟨Nat.le_of_ble_eq_true rfl, Nat.le_of_ble_eq_true rfl⟩ [0, 1] rfl rfl [b 0, b 1] rfl (fun _ => rfl) (fun _ => rfl) (fun u H locs hok hP hD hS => ?_)
      rcases (show σ (pl k 0) = 0 ∨ σ (pl k 0) = 1 ∨ σ (pl k 0) = 2 ∨ σ (pl k 0) = 3 ∨ σ (pl k 0) = 4 ∨ σ (pl k 0) = 5 by omega) with hsw | hsw | hsw | hsw | hsw | hsw
      · refine n_tableOut hsw (tgt := 148) hx hb dX6_wantsOf_52 (by decide) (by decide) ?_
        refine lv_iload_n hx hb dX6_wantsOf_148 rfl (lv_at hl 2 rfl) ?_
        exact fin_i hx hb hr hlk hS hP hD () trivial (congrArg nI (by unfold wantsN wantsK; rw [hsw]; simp <;> ((repeat' split) <;> omega))) (eqW.rf _) dX6_wantsOf_149
      · refine n_tableIn hsw (off := 36) (tgt := 88) hx hb dX6_wantsOf_52 (by decide) (by decide) (by decide) (by decide) ?_
        refine lv_iload_n hx hb dX6_wantsOf_88 rfl (lv_at hl 1 rfl) ?_
        refine n_if_eq hx hb (by omega) (tgt := 96) dX6_wantsOf_89 (by decide) (fun c_3 => ?_) (fun c_3 => ?_)
        · refine lv_iload_n hx hb dX6_wantsOf_96 rfl (lv_at hl 2 rfl) ?_
          exact fin_i hx hb hr hlk hS hP hD () trivial (congrArg nI (by unfold wantsN wantsK; rw [hsw]; simp <;> ((repeat' split) <;> omega))) (eqW.rf _) dX6_wantsOf_97
        · omega
      · refine n_tableIn hsw (off := 46) (tgt := 98) hx hb dX6_wantsOf_52 (by decide) (by decide) (by decide) (by decide) ?_
        refine lv_iload hx hb dX6_wantsOf_98 (lv_at hl 0 rfl) ?_
        exact fin_i hx hb hr hlk hS hP hD () trivial (congrArg nI (by unfold wantsN wantsK; rw [hsw]; simp <;> ((repeat' split) <;> omega))) (eqW.rf _) dX6_wantsOf_100
      · refine n_tableIn hsw (off := 49) (tgt := 101) hx hb dX6_wantsOf_52 (by decide) (by decide) (by decide) (by decide) ?_
        refine lv_iload_n hx hb dX6_wantsOf_101 rfl (lv_at hl 1 rfl) ?_
        refine n_if_eq hx hb (by omega) (tgt := 109) dX6_wantsOf_102 (by decide) (fun c_4 => ?_) (fun c_4 => ?_)
        · refine lv_iload_n hx hb dX6_wantsOf_109 rfl (lv_at hl 2 rfl) ?_
          refine lv_iconst (v := nI 1) hx hb dX6_wantsOf_110 rfl ?_
          refine n_iadd hx hb dX6_wantsOf_111 ?_
          exact fin_i hx hb hr hlk hS hP hD () trivial (congrArg nI (by unfold wantsN wantsK; rw [hsw]; simp <;> ((repeat' split) <;> omega))) (eqW.rf _) dX6_wantsOf_112
        · omega
      · refine n_tableIn hsw (off := 61) (tgt := 113) hx hb dX6_wantsOf_52 (by decide) (by decide) (by decide) (by decide) ?_
        refine lv_iload_n hx hb dX6_wantsOf_113 rfl (lv_at hl 1 rfl) ?_
        refine n_if_eq hx hb (by omega) (tgt := 121) dX6_wantsOf_114 (by decide) (fun c_5 => ?_) (fun c_5 => ?_)
        · refine lv_iload_n hx hb dX6_wantsOf_121 rfl (lv_at hl 2 rfl) ?_
          refine lv_iconst (v := nI 1) hx hb dX6_wantsOf_122 rfl ?_
          refine n_iadd hx hb dX6_wantsOf_123 ?_
          exact fin_i hx hb hr hlk hS hP hD () trivial (congrArg nI (by unfold wantsN wantsK; rw [hsw]; simp <;> ((repeat' split) <;> omega))) (eqW.rf _) dX6_wantsOf_124
        · omega
      · refine n_tableIn hsw (off := 73) (tgt := 125) hx hb dX6_wantsOf_52 (by decide) (by decide) (by decide) (by decide) ?_
        refine lv_aload_n hx hb dX6_wantsOf_125 rfl (lv_at hl 3 rfl) ?_
        refine n_get (C := RX6) (T := TX6) (N := 18) hx hb hts (fun _ h => List.mem_cons_of_mem _ (List.mem_append_right _ h)) hown hK hP 0 rfl rfl 0 (by decide) (List.mem_of_getElem? (i := 1) rfl) rfl (.ref (b 1)) rfl dX6_wantsOf_126 ?_
        refine lv_iconst (v := nI 0) hx hb dX6_wantsOf_129 rfl ?_
        refine n_iald hx hb hK hP 1 (v := (nI (σ 0))) rfl (by omega) (by omega) rfl dX6_wantsOf_130 ?_
        refine lv_bipush (v := nI 10) hx hb dX6_wantsOf_131 rfl ?_
        refine n_irem hx hb (by omega) (by decide) (by decide) dX6_wantsOf_133 ?_
        refine n_if_ne hx hb (by omega) (tgt := 145) dX6_wantsOf_134 (by decide) (fun c_6 => ?_) (fun c_6 => ?_)
        · refine lv_iload hx hb dX6_wantsOf_145 (lv_at hl 0 rfl) ?_
          exact fin_i hx hb hr hlk hS hP hD () trivial (congrArg nI (by unfold wantsN wantsK; rw [hsw]; simp <;> ((repeat' split) <;> omega))) (eqW.rf _) dX6_wantsOf_147
        · refine lv_iload hx hb dX6_wantsOf_137 (lv_at hl 0 rfl) ?_
          refine lv_bipush (v := nI 12) hx hb dX6_wantsOf_139 rfl ?_
          refine n_iadd hx hb dX6_wantsOf_141 ?_
          refine lv_goto (tgt := 147) hx hb dX6_wantsOf_142 (by decide) ?_
          exact fin_i hx hb hr hlk hS hP hD () trivial (congrArg nI (by unfold wantsN wantsK; rw [hsw]; simp <;> ((repeat' split) <;> omega))) (eqW.rf _) dX6_wantsOf_147
    · refine lv_iconst (v := nI 4) hx hb dX6_wantsOf_37 rfl ?_
      refine lv_iload_n hx hb dX6_wantsOf_38 rfl (lv_at hl 1 rfl) ?_
      refine n_imul hx hb dX6_wantsOf_39 ?_
      refine lv_goto (tgt := 44) hx hb dX6_wantsOf_40 (by decide) ?_
      refine lv_istore (lv' := [(4, .int (nI (4 * (σ (pl k 1))))), (3, .int (nI 0)), (2, .int (nI (σ (pl k 1)))), (0, .ref (b 0)), (1, .int (nI k))]) hx hb dX6_wantsOf_44 hl (by decide) rfl (fun ls hl => ?_)
      refine lv_aload_n hx hb dX6_wantsOf_46 rfl (lv_at hl 3 rfl) ?_
      refine lv_iload_n hx hb dX6_wantsOf_47 rfl (lv_at hl 4 rfl) ?_
      refine lv_iconst (v := nI 0) hx hb dX6_wantsOf_48 rfl ?_
      refine callVI (rest := []) (wn := fun u => [mO b ζ vv, (b 1, .inl (G.2.1, 46, .inl (nF σ)))]) ⟨hx, hb, hml, hown, hts⟩ (c_X6_get l G H.size b ζ vv σ k 0 (by omega) (by omega)) (cwV 2 hts gX6_wantsOf_X6_get rfl rfl rfl (by decide +kernel) ⟨Nat.le_of_ble_eq_true rfl, Nat.le_of_ble_eq_true rfl⟩) noXB (fun _ _ _ => trivial) hK hP hD hS hAq 5 0 (T := TX6) (N := 18) rfl rfl rfl hl.1 rfl (Nat.le_of_ble_eq_true rfl) dX6_wantsOf_49 ⟨Nat.le_of_ble_eq_true rfl, Nat.le_of_ble_eq_true rfl⟩ [0, 1] rfl rfl [b 0, b 1] rfl (fun _ => rfl) (fun _ => rfl) (fun u H locs hok hP hD hS => ?_)
      rcases (show σ (pl k 0) = 0 ∨ σ (pl k 0) = 1 ∨ σ (pl k 0) = 2 ∨ σ (pl k 0) = 3 ∨ σ (pl k 0) = 4 ∨ σ (pl k 0) = 5 by omega) with hsw | hsw | hsw | hsw | hsw | hsw
      · refine n_tableOut hsw (tgt := 148) hx hb dX6_wantsOf_52 (by decide) (by decide) ?_
        refine lv_iload_n hx hb dX6_wantsOf_148 rfl (lv_at hl 2 rfl) ?_
        exact fin_i hx hb hr hlk hS hP hD () trivial (congrArg nI (by unfold wantsN wantsK; rw [hsw]; simp <;> ((repeat' split) <;> omega))) (eqW.rf _) dX6_wantsOf_149
      · refine n_tableIn hsw (off := 36) (tgt := 88) hx hb dX6_wantsOf_52 (by decide) (by decide) (by decide) (by decide) ?_
        refine lv_iload_n hx hb dX6_wantsOf_88 rfl (lv_at hl 1 rfl) ?_
        refine n_if_eq hx hb (by omega) (tgt := 96) dX6_wantsOf_89 (by decide) (fun c_7 => ?_) (fun c_7 => ?_)
        · refine lv_iload_n hx hb dX6_wantsOf_96 rfl (lv_at hl 2 rfl) ?_
          exact fin_i hx hb hr hlk hS hP hD () trivial (congrArg nI (by unfold wantsN wantsK; rw [hsw]; simp <;> ((repeat' split) <;> omega))) (eqW.rf _) dX6_wantsOf_97
        · omega
      · refine n_tableIn hsw (off := 46) (tgt := 98) hx hb dX6_wantsOf_52 (by decide) (by decide) (by decide) (by decide) ?_
        refine lv_iload hx hb dX6_wantsOf_98 (lv_at hl 0 rfl) ?_
        exact fin_i hx hb hr hlk hS hP hD () trivial (congrArg nI (by unfold wantsN wantsK; rw [hsw]; simp <;> ((repeat' split) <;> omega))) (eqW.rf _) dX6_wantsOf_100
      · refine n_tableIn hsw (off := 49) (tgt := 101) hx hb dX6_wantsOf_52 (by decide) (by decide) (by decide) (by decide) ?_
        refine lv_iload_n hx hb dX6_wantsOf_101 rfl (lv_at hl 1 rfl) ?_
        refine n_if_eq hx hb (by omega) (tgt := 109) dX6_wantsOf_102 (by decide) (fun c_8 => ?_) (fun c_8 => ?_)
        · refine lv_iload_n hx hb dX6_wantsOf_109 rfl (lv_at hl 2 rfl) ?_
          refine lv_iconst (v := nI 1) hx hb dX6_wantsOf_110 rfl ?_
          refine n_iadd hx hb dX6_wantsOf_111 ?_
          exact fin_i hx hb hr hlk hS hP hD () trivial (congrArg nI (by unfold wantsN wantsK; rw [hsw]; simp <;> ((repeat' split) <;> omega))) (eqW.rf _) dX6_wantsOf_112
        · omega
      · refine n_tableIn hsw (off := 61) (tgt := 113) hx hb dX6_wantsOf_52 (by decide) (by decide) (by decide) (by decide) ?_
        refine lv_iload_n hx hb dX6_wantsOf_113 rfl (lv_at hl 1 rfl) ?_
        refine n_if_eq hx hb (by omega) (tgt := 121) dX6_wantsOf_114 (by decide) (fun c_9 => ?_) (fun c_9 => ?_)
        · refine lv_iload_n hx hb dX6_wantsOf_121 rfl (lv_at hl 2 rfl) ?_
          refine lv_iconst (v := nI 1) hx hb dX6_wantsOf_122 rfl ?_
          refine n_iadd hx hb dX6_wantsOf_123 ?_
          exact fin_i hx hb hr hlk hS hP hD () trivial (congrArg nI (by unfold wantsN wantsK; rw [hsw]; simp <;> ((repeat' split) <;> omega))) (eqW.rf _) dX6_wantsOf_124
        · omega
      · refine n_tableIn hsw (off := 73) (tgt := 125) hx hb dX6_wantsOf_52 (by decide) (by decide) (by decide) (by decide) ?_
        refine lv_aload_n hx hb dX6_wantsOf_125 rfl (lv_at hl 3 rfl) ?_
        refine n_get (C := RX6) (T := TX6) (N := 18) hx hb hts (fun _ h => List.mem_cons_of_mem _ (List.mem_append_right _ h)) hown hK hP 0 rfl rfl 0 (by decide) (List.mem_of_getElem? (i := 1) rfl) rfl (.ref (b 1)) rfl dX6_wantsOf_126 ?_
        refine lv_iconst (v := nI 0) hx hb dX6_wantsOf_129 rfl ?_
        refine n_iald hx hb hK hP 1 (v := (nI (σ 0))) rfl (by omega) (by omega) rfl dX6_wantsOf_130 ?_
        refine lv_bipush (v := nI 10) hx hb dX6_wantsOf_131 rfl ?_
        refine n_irem hx hb (by omega) (by decide) (by decide) dX6_wantsOf_133 ?_
        refine n_if_ne hx hb (by omega) (tgt := 145) dX6_wantsOf_134 (by decide) (fun c_10 => ?_) (fun c_10 => ?_)
        · refine lv_iload hx hb dX6_wantsOf_145 (lv_at hl 0 rfl) ?_
          exact fin_i hx hb hr hlk hS hP hD () trivial (congrArg nI (by unfold wantsN wantsK; rw [hsw]; simp <;> ((repeat' split) <;> omega))) (eqW.rf _) dX6_wantsOf_147
        · refine lv_iload hx hb dX6_wantsOf_137 (lv_at hl 0 rfl) ?_
          refine lv_bipush (v := nI 12) hx hb dX6_wantsOf_139 rfl ?_
          refine n_iadd hx hb dX6_wantsOf_141 ?_
          refine lv_goto (tgt := 147) hx hb dX6_wantsOf_142 (by decide) ?_
          exact fin_i hx hb hr hlk hS hP hD () trivial (congrArg nI (by unfold wantsN wantsK; rw [hsw]; simp <;> ((repeat' split) <;> omega))) (eqW.rf _) dX6_wantsOf_147
  · refine lv_iconst (v := nI 1) hx hb dX6_wantsOf_19 rfl ?_
    refine lv_goto (tgt := 24) hx hb dX6_wantsOf_20 (by decide) ?_
    refine lv_istore_n (lv' := [(3, .int (nI 1)), (2, .int (nI (σ (pl k 1)))), (0, .ref (b 0)), (1, .int (nI k))]) hx hb dX6_wantsOf_24 rfl hl (by decide) rfl (fun ls hl => ?_)
    refine lv_aload_n hx hb dX6_wantsOf_25 rfl (lv_at hl 2 rfl) ?_
    refine n_get (C := RX6) (T := TX6) (N := 18) hx hb hts (fun _ h => List.mem_cons_of_mem _ (List.mem_append_right _ h)) hown hK hP 0 rfl rfl 0 (by decide) (List.mem_of_getElem? (i := 1) rfl) rfl (.ref (b 1)) rfl dX6_wantsOf_26 ?_
    refine lv_iconst (v := nI 3) hx hb dX6_wantsOf_29 rfl ?_
    refine n_iald hx hb hK hP 1 (v := (nI (σ 3))) rfl (by omega) (by omega) rfl dX6_wantsOf_30 ?_
    refine lv_sipush (v := nI 500) hx hb dX6_wantsOf_31 rfl ?_
    refine n_icmp_le hx hb (by omega) (by omega) (tgt := 43) dX6_wantsOf_34 (by decide) (fun c_11 => ?_) (fun c_11 => ?_)
    · refine lv_iload_n hx hb dX6_wantsOf_43 rfl (lv_at hl 1 rfl) ?_
      refine lv_istore (lv' := [(4, .int (nI (σ (pl k 1)))), (3, .int (nI 1)), (2, .int (nI (σ (pl k 1)))), (0, .ref (b 0)), (1, .int (nI k))]) hx hb dX6_wantsOf_44 hl (by decide) rfl (fun ls hl => ?_)
      refine lv_aload_n hx hb dX6_wantsOf_46 rfl (lv_at hl 3 rfl) ?_
      refine lv_iload_n hx hb dX6_wantsOf_47 rfl (lv_at hl 4 rfl) ?_
      refine lv_iconst (v := nI 0) hx hb dX6_wantsOf_48 rfl ?_
      refine callVI (rest := []) (wn := fun u => [mO b ζ vv, (b 1, .inl (G.2.1, 46, .inl (nF σ)))]) ⟨hx, hb, hml, hown, hts⟩ (c_X6_get l G H.size b ζ vv σ k 0 (by omega) (by omega)) (cwV 2 hts gX6_wantsOf_X6_get rfl rfl rfl (by decide +kernel) ⟨Nat.le_of_ble_eq_true rfl, Nat.le_of_ble_eq_true rfl⟩) noXB (fun _ _ _ => trivial) hK hP hD hS hAq 5 0 (T := TX6) (N := 18) rfl rfl rfl hl.1 rfl (Nat.le_of_ble_eq_true rfl) dX6_wantsOf_49 ⟨Nat.le_of_ble_eq_true rfl, Nat.le_of_ble_eq_true rfl⟩ [0, 1] rfl rfl [b 0, b 1] rfl (fun _ => rfl) (fun _ => rfl) (fun u H locs hok hP hD hS => ?_)
      rcases (show σ (pl k 0) = 0 ∨ σ (pl k 0) = 1 ∨ σ (pl k 0) = 2 ∨ σ (pl k 0) = 3 ∨ σ (pl k 0) = 4 ∨ σ (pl k 0) = 5 by omega) with hsw | hsw | hsw | hsw | hsw | hsw
      · refine n_tableOut hsw (tgt := 148) hx hb dX6_wantsOf_52 (by decide) (by decide) ?_
        refine lv_iload_n hx hb dX6_wantsOf_148 rfl (lv_at hl 2 rfl) ?_
        exact fin_i hx hb hr hlk hS hP hD () trivial (congrArg nI (by unfold wantsN wantsK; rw [hsw]; simp <;> ((repeat' split) <;> omega))) (eqW.rf _) dX6_wantsOf_149
      · refine n_tableIn hsw (off := 36) (tgt := 88) hx hb dX6_wantsOf_52 (by decide) (by decide) (by decide) (by decide) ?_
        refine lv_iload_n hx hb dX6_wantsOf_88 rfl (lv_at hl 1 rfl) ?_
        refine n_if_eq hx hb (by omega) (tgt := 96) dX6_wantsOf_89 (by decide) (fun c_12 => ?_) (fun c_12 => ?_)
        · omega
        · refine lv_iconst (v := nI 1) hx hb dX6_wantsOf_92 rfl ?_
          refine lv_goto (tgt := 97) hx hb dX6_wantsOf_93 (by decide) ?_
          exact fin_i hx hb hr hlk hS hP hD () trivial (congrArg nI (by unfold wantsN wantsK; rw [hsw]; simp <;> ((repeat' split) <;> omega))) (eqW.rf _) dX6_wantsOf_97
      · refine n_tableIn hsw (off := 46) (tgt := 98) hx hb dX6_wantsOf_52 (by decide) (by decide) (by decide) (by decide) ?_
        refine lv_iload hx hb dX6_wantsOf_98 (lv_at hl 0 rfl) ?_
        exact fin_i hx hb hr hlk hS hP hD () trivial (congrArg nI (by unfold wantsN wantsK; rw [hsw]; simp <;> ((repeat' split) <;> omega))) (eqW.rf _) dX6_wantsOf_100
      · refine n_tableIn hsw (off := 49) (tgt := 101) hx hb dX6_wantsOf_52 (by decide) (by decide) (by decide) (by decide) ?_
        refine lv_iload_n hx hb dX6_wantsOf_101 rfl (lv_at hl 1 rfl) ?_
        refine n_if_eq hx hb (by omega) (tgt := 109) dX6_wantsOf_102 (by decide) (fun c_13 => ?_) (fun c_13 => ?_)
        · omega
        · refine lv_iload_n hx hb dX6_wantsOf_105 rfl (lv_at hl 2 rfl) ?_
          refine lv_goto (tgt := 112) hx hb dX6_wantsOf_106 (by decide) ?_
          exact fin_i hx hb hr hlk hS hP hD () trivial (congrArg nI (by unfold wantsN wantsK; rw [hsw]; simp <;> ((repeat' split) <;> omega))) (eqW.rf _) dX6_wantsOf_112
      · refine n_tableIn hsw (off := 61) (tgt := 113) hx hb dX6_wantsOf_52 (by decide) (by decide) (by decide) (by decide) ?_
        refine lv_iload_n hx hb dX6_wantsOf_113 rfl (lv_at hl 1 rfl) ?_
        refine n_if_eq hx hb (by omega) (tgt := 121) dX6_wantsOf_114 (by decide) (fun c_14 => ?_) (fun c_14 => ?_)
        · omega
        · refine lv_iconst (v := nI 2) hx hb dX6_wantsOf_117 rfl ?_
          refine lv_goto (tgt := 124) hx hb dX6_wantsOf_118 (by decide) ?_
          exact fin_i hx hb hr hlk hS hP hD () trivial (congrArg nI (by unfold wantsN wantsK; rw [hsw]; simp <;> ((repeat' split) <;> omega))) (eqW.rf _) dX6_wantsOf_124
      · refine n_tableIn hsw (off := 73) (tgt := 125) hx hb dX6_wantsOf_52 (by decide) (by decide) (by decide) (by decide) ?_
        refine lv_aload_n hx hb dX6_wantsOf_125 rfl (lv_at hl 3 rfl) ?_
        refine n_get (C := RX6) (T := TX6) (N := 18) hx hb hts (fun _ h => List.mem_cons_of_mem _ (List.mem_append_right _ h)) hown hK hP 0 rfl rfl 0 (by decide) (List.mem_of_getElem? (i := 1) rfl) rfl (.ref (b 1)) rfl dX6_wantsOf_126 ?_
        refine lv_iconst (v := nI 0) hx hb dX6_wantsOf_129 rfl ?_
        refine n_iald hx hb hK hP 1 (v := (nI (σ 0))) rfl (by omega) (by omega) rfl dX6_wantsOf_130 ?_
        refine lv_bipush (v := nI 10) hx hb dX6_wantsOf_131 rfl ?_
        refine n_irem hx hb (by omega) (by decide) (by decide) dX6_wantsOf_133 ?_
        refine n_if_ne hx hb (by omega) (tgt := 145) dX6_wantsOf_134 (by decide) (fun c_15 => ?_) (fun c_15 => ?_)
        · refine lv_iload hx hb dX6_wantsOf_145 (lv_at hl 0 rfl) ?_
          exact fin_i hx hb hr hlk hS hP hD () trivial (congrArg nI (by unfold wantsN wantsK; rw [hsw]; simp <;> ((repeat' split) <;> omega))) (eqW.rf _) dX6_wantsOf_147
        · refine lv_iload hx hb dX6_wantsOf_137 (lv_at hl 0 rfl) ?_
          refine lv_bipush (v := nI 12) hx hb dX6_wantsOf_139 rfl ?_
          refine n_iadd hx hb dX6_wantsOf_141 ?_
          refine lv_goto (tgt := 147) hx hb dX6_wantsOf_142 (by decide) ?_
          exact fin_i hx hb hr hlk hS hP hD () trivial (congrArg nI (by unfold wantsN wantsK; rw [hsw]; simp <;> ((repeat' split) <;> omega))) (eqW.rf _) dX6_wantsOf_147
    · refine lv_iconst (v := nI 4) hx hb dX6_wantsOf_37 rfl ?_
      refine lv_iload_n hx hb dX6_wantsOf_38 rfl (lv_at hl 1 rfl) ?_
      refine n_imul hx hb dX6_wantsOf_39 ?_
      refine lv_goto (tgt := 44) hx hb dX6_wantsOf_40 (by decide) ?_
      refine lv_istore (lv' := [(4, .int (nI (4 * (σ (pl k 1))))), (3, .int (nI 1)), (2, .int (nI (σ (pl k 1)))), (0, .ref (b 0)), (1, .int (nI k))]) hx hb dX6_wantsOf_44 hl (by decide) rfl (fun ls hl => ?_)
      refine lv_aload_n hx hb dX6_wantsOf_46 rfl (lv_at hl 3 rfl) ?_
      refine lv_iload_n hx hb dX6_wantsOf_47 rfl (lv_at hl 4 rfl) ?_
      refine lv_iconst (v := nI 0) hx hb dX6_wantsOf_48 rfl ?_
      refine callVI (rest := []) (wn := fun u => [mO b ζ vv, (b 1, .inl (G.2.1, 46, .inl (nF σ)))]) ⟨hx, hb, hml, hown, hts⟩ (c_X6_get l G H.size b ζ vv σ k 0 (by omega) (by omega)) (cwV 2 hts gX6_wantsOf_X6_get rfl rfl rfl (by decide +kernel) ⟨Nat.le_of_ble_eq_true rfl, Nat.le_of_ble_eq_true rfl⟩) noXB (fun _ _ _ => trivial) hK hP hD hS hAq 5 0 (T := TX6) (N := 18) rfl rfl rfl hl.1 rfl (Nat.le_of_ble_eq_true rfl) dX6_wantsOf_49 ⟨Nat.le_of_ble_eq_true rfl, Nat.le_of_ble_eq_true rfl⟩ [0, 1] rfl rfl [b 0, b 1] rfl (fun _ => rfl) (fun _ => rfl) (fun u H locs hok hP hD hS => ?_)
      rcases (show σ (pl k 0) = 0 ∨ σ (pl k 0) = 1 ∨ σ (pl k 0) = 2 ∨ σ (pl k 0) = 3 ∨ σ (pl k 0) = 4 ∨ σ (pl k 0) = 5 by omega) with hsw | hsw | hsw | hsw | hsw | hsw
      · refine n_tableOut hsw (tgt := 148) hx hb dX6_wantsOf_52 (by decide) (by decide) ?_
        refine lv_iload_n hx hb dX6_wantsOf_148 rfl (lv_at hl 2 rfl) ?_
        exact fin_i hx hb hr hlk hS hP hD () trivial (congrArg nI (by unfold wantsN wantsK; rw [hsw]; simp <;> ((repeat' split) <;> omega))) (eqW.rf _) dX6_wantsOf_149
      · refine n_tableIn hsw (off := 36) (tgt := 88) hx hb dX6_wantsOf_52 (by decide) (by decide) (by decide) (by decide) ?_
        refine lv_iload_n hx hb dX6_wantsOf_88 rfl (lv_at hl 1 rfl) ?_
        refine n_if_eq hx hb (by omega) (tgt := 96) dX6_wantsOf_89 (by decide) (fun c_16 => ?_) (fun c_16 => ?_)
        · omega
        · refine lv_iconst (v := nI 1) hx hb dX6_wantsOf_92 rfl ?_
          refine lv_goto (tgt := 97) hx hb dX6_wantsOf_93 (by decide) ?_
          exact fin_i hx hb hr hlk hS hP hD () trivial (congrArg nI (by unfold wantsN wantsK; rw [hsw]; simp <;> ((repeat' split) <;> omega))) (eqW.rf _) dX6_wantsOf_97
      · refine n_tableIn hsw (off := 46) (tgt := 98) hx hb dX6_wantsOf_52 (by decide) (by decide) (by decide) (by decide) ?_
        refine lv_iload hx hb dX6_wantsOf_98 (lv_at hl 0 rfl) ?_
        exact fin_i hx hb hr hlk hS hP hD () trivial (congrArg nI (by unfold wantsN wantsK; rw [hsw]; simp <;> ((repeat' split) <;> omega))) (eqW.rf _) dX6_wantsOf_100
      · refine n_tableIn hsw (off := 49) (tgt := 101) hx hb dX6_wantsOf_52 (by decide) (by decide) (by decide) (by decide) ?_
        refine lv_iload_n hx hb dX6_wantsOf_101 rfl (lv_at hl 1 rfl) ?_
        refine n_if_eq hx hb (by omega) (tgt := 109) dX6_wantsOf_102 (by decide) (fun c_17 => ?_) (fun c_17 => ?_)
        · omega
        · refine lv_iload_n hx hb dX6_wantsOf_105 rfl (lv_at hl 2 rfl) ?_
          refine lv_goto (tgt := 112) hx hb dX6_wantsOf_106 (by decide) ?_
          exact fin_i hx hb hr hlk hS hP hD () trivial (congrArg nI (by unfold wantsN wantsK; rw [hsw]; simp <;> ((repeat' split) <;> omega))) (eqW.rf _) dX6_wantsOf_112
      · refine n_tableIn hsw (off := 61) (tgt := 113) hx hb dX6_wantsOf_52 (by decide) (by decide) (by decide) (by decide) ?_
        refine lv_iload_n hx hb dX6_wantsOf_113 rfl (lv_at hl 1 rfl) ?_
        refine n_if_eq hx hb (by omega) (tgt := 121) dX6_wantsOf_114 (by decide) (fun c_18 => ?_) (fun c_18 => ?_)
        · omega
        · refine lv_iconst (v := nI 2) hx hb dX6_wantsOf_117 rfl ?_
          refine lv_goto (tgt := 124) hx hb dX6_wantsOf_118 (by decide) ?_
          exact fin_i hx hb hr hlk hS hP hD () trivial (congrArg nI (by unfold wantsN wantsK; rw [hsw]; simp <;> ((repeat' split) <;> omega))) (eqW.rf _) dX6_wantsOf_124
      · refine n_tableIn hsw (off := 73) (tgt := 125) hx hb dX6_wantsOf_52 (by decide) (by decide) (by decide) (by decide) ?_
        refine lv_aload_n hx hb dX6_wantsOf_125 rfl (lv_at hl 3 rfl) ?_
        refine n_get (C := RX6) (T := TX6) (N := 18) hx hb hts (fun _ h => List.mem_cons_of_mem _ (List.mem_append_right _ h)) hown hK hP 0 rfl rfl 0 (by decide) (List.mem_of_getElem? (i := 1) rfl) rfl (.ref (b 1)) rfl dX6_wantsOf_126 ?_
        refine lv_iconst (v := nI 0) hx hb dX6_wantsOf_129 rfl ?_
        refine n_iald hx hb hK hP 1 (v := (nI (σ 0))) rfl (by omega) (by omega) rfl dX6_wantsOf_130 ?_
        refine lv_bipush (v := nI 10) hx hb dX6_wantsOf_131 rfl ?_
        refine n_irem hx hb (by omega) (by decide) (by decide) dX6_wantsOf_133 ?_
        refine n_if_ne hx hb (by omega) (tgt := 145) dX6_wantsOf_134 (by decide) (fun c_19 => ?_) (fun c_19 => ?_)
        · refine lv_iload hx hb dX6_wantsOf_145 (lv_at hl 0 rfl) ?_
          exact fin_i hx hb hr hlk hS hP hD () trivial (congrArg nI (by unfold wantsN wantsK; rw [hsw]; simp <;> ((repeat' split) <;> omega))) (eqW.rf _) dX6_wantsOf_147
        · refine lv_iload hx hb dX6_wantsOf_137 (lv_at hl 0 rfl) ?_
          refine lv_bipush (v := nI 12) hx hb dX6_wantsOf_139 rfl ?_
          refine n_iadd hx hb dX6_wantsOf_141 ?_
          refine lv_goto (tgt := 147) hx hb dX6_wantsOf_142 (by decide) ?_
          exact fin_i hx hb hr hlk hS hP hD () trivial (congrArg nI (by unfold wantsN wantsK; rw [hsw]; simp <;> ((repeat' split) <;> omega))) (eqW.rf _) dX6_wantsOf_147
set_option maxHeartbeats 400000 in
set_option maxRecDepth 100000 in
theorem c_X6_entersOf (l : Launch) (G : GT) (sz : Nat) (b : Nat → Nat) (ζ : Nat → Nat) (vv : Int64) (σ : Sg) (k n : Nat) (hk : k < 8) (hk0 : σ (pl k 0) < 6) (hn : n < 2147483648) : MI (S := Unit) l G noX yX6_entersOf wsX6_entersOf ({ frames := 1, cells := 0, slots := 0, locals := 22 } : Room) [.ref (b 0), .int (nI k), .int (nI n)] ([mO b ζ vv, (b 1, .inl (G.2.1, 46, .inl (nF σ)))]) sz (fun _ => True) (fun _ => nI (entersK (σ (pl k 0)) (σ (pl k 2)) n)) (fun _ => [mO b ζ vv, (b 1, .inl (G.2.1, 46, .inl (nF σ)))]) := by
  refine MI_enter (cc := cX6_entersOf) (maxL := 4) (ret := (some .int)) (by decide) rfl (Nat.le_of_ble_eq_true rfl) ?_
  intro p e s m below meth c A ls H hx hb hr hlk hml hown hts hAq hS hP hK hD hX hl hnm
  have hown : s.vm.findClass RX6 = some m.cls := hown
  have hl : lv_has ls 4 [(0, .ref (b 0)), (1, .int (nI k)), (2, .int (nI n))] := hl
  refine lv_aload_n hx hb dX6_entersOf_0 rfl (lv_at hl 0 rfl) ?_
  refine lv_iload_n hx hb dX6_entersOf_1 rfl (lv_at hl 1 rfl) ?_
  refine lv_iconst (v := nI 2) hx hb dX6_entersOf_2 rfl ?_
  refine callVI (rest := []) (wn := fun u => [mO b ζ vv, (b 1, .inl (G.2.1, 46, .inl (nF σ)))]) ⟨hx, hb, hml, hown, hts⟩ (c_X6_get l G H.size b ζ vv σ k 2 (by omega) (by omega)) (cwV 2 hts gX6_entersOf_X6_get rfl rfl rfl (by decide +kernel) ⟨Nat.le_of_ble_eq_true rfl, Nat.le_of_ble_eq_true rfl⟩) noXB (fun _ _ _ => trivial) hK hP hD hS hAq 5 0 (T := TX6) (N := 18) rfl rfl rfl hl.1 rfl (Nat.le_of_ble_eq_true rfl) dX6_entersOf_3 ⟨Nat.le_of_ble_eq_true rfl, Nat.le_of_ble_eq_true rfl⟩ [0, 1] rfl rfl [b 0, b 1] rfl (fun _ => rfl) (fun _ => rfl) (fun u H locs hok hP hD hS => ?_)
  refine lv_istore_n (lv' := [(3, .int (nI (σ (pl k 2)))), (0, .ref (b 0)), (1, .int (nI k)), (2, .int (nI n))]) hx hb dX6_entersOf_6 rfl hl (by decide) rfl (fun ls hl => ?_)
  refine lv_iload_n hx hb dX6_entersOf_7 rfl (lv_at hl 3 rfl) ?_
  refine n_if_ne hx hb (by omega) (tgt := 13) dX6_entersOf_8 (by decide) (fun c_1 => ?_) (fun c_1 => ?_)
  · refine lv_aload_n hx hb dX6_entersOf_13 rfl (lv_at hl 1 rfl) ?_
    refine lv_iload_n hx hb dX6_entersOf_14 rfl (lv_at hl 2 rfl) ?_
    refine lv_iconst (v := nI 0) hx hb dX6_entersOf_15 rfl ?_
    refine callVI (rest := []) (wn := fun u => [mO b ζ vv, (b 1, .inl (G.2.1, 46, .inl (nF σ)))]) ⟨hx, hb, hml, hown, hts⟩ (c_X6_get l G H.size b ζ vv σ k 0 (by omega) (by omega)) (cwV 2 hts gX6_entersOf_X6_get rfl rfl rfl (by decide +kernel) ⟨Nat.le_of_ble_eq_true rfl, Nat.le_of_ble_eq_true rfl⟩) noXB (fun _ _ _ => trivial) hK hP hD hS hAq 5 0 (T := TX6) (N := 18) rfl rfl rfl hl.1 rfl (Nat.le_of_ble_eq_true rfl) dX6_entersOf_16 ⟨Nat.le_of_ble_eq_true rfl, Nat.le_of_ble_eq_true rfl⟩ [0, 1] rfl rfl [b 0, b 1] rfl (fun _ => rfl) (fun _ => rfl) (fun u H locs hok hP hD hS => ?_)
    rcases (show σ (pl k 0) = 0 ∨ σ (pl k 0) = 1 ∨ σ (pl k 0) = 2 ∨ σ (pl k 0) = 3 ∨ σ (pl k 0) = 4 ∨ σ (pl k 0) = 5 by omega) with hsw | hsw | hsw | hsw | hsw | hsw
    · refine n_tableOut hsw (tgt := 78) hx hb dX6_entersOf_19 (by decide) (by decide) ?_
      refine lv_iload_n hx hb dX6_entersOf_78 rfl (lv_at hl 3 rfl) ?_
      refine lv_iload_n hx hb dX6_entersOf_79 rfl (lv_at hl 0 rfl) ?_
      refine n_imul hx hb dX6_entersOf_80 ?_
      exact fin_i hx hb hr hlk hS hP hD () trivial (congrArg nI (by unfold entersK; rw [if_neg (by omega)]; simp [hsw])) (eqW.rf _) dX6_entersOf_81
    · refine n_tableIn hsw (off := 33) (tgt := 52) hx hb dX6_entersOf_19 (by decide) (by decide) (by decide) (by decide) ?_
      refine lv_iconst (v := nI 2) hx hb dX6_entersOf_52 rfl ?_
      refine lv_iload_n hx hb dX6_entersOf_53 rfl (lv_at hl 3 rfl) ?_
      refine n_imul hx hb dX6_entersOf_54 ?_
      exact fin_i hx hb hr hlk hS hP hD () trivial (congrArg nI (by unfold entersK; rw [if_neg (by omega)]; simp [hsw])) (eqW.rf _) dX6_entersOf_55
    · refine n_tableIn hsw (off := 37) (tgt := 56) hx hb dX6_entersOf_19 (by decide) (by decide) (by decide) (by decide) ?_
      refine lv_iload_n hx hb dX6_entersOf_56 rfl (lv_at hl 3 rfl) ?_
      refine lv_iload_n hx hb dX6_entersOf_57 rfl (lv_at hl 0 rfl) ?_
      refine n_imul hx hb dX6_entersOf_58 ?_
      refine lv_iload_n hx hb dX6_entersOf_59 rfl (lv_at hl 3 rfl) ?_
      refine n_iadd hx hb dX6_entersOf_60 ?_
      exact fin_i hx hb hr hlk hS hP hD () trivial (congrArg nI (by unfold entersK; rw [if_neg (by omega)]; simp [hsw])) (eqW.rf _) dX6_entersOf_61
    · refine n_tableIn hsw (off := 43) (tgt := 62) hx hb dX6_entersOf_19 (by decide) (by decide) (by decide) (by decide) ?_
      refine lv_iconst (v := nI 0) hx hb dX6_entersOf_62 rfl ?_
      exact fin_i hx hb hr hlk hS hP hD () trivial (congrArg nI (by unfold entersK; rw [if_neg (by omega)]; simp [hsw])) (eqW.rf _) dX6_entersOf_63
    · refine n_tableIn hsw (off := 45) (tgt := 64) hx hb dX6_entersOf_19 (by decide) (by decide) (by decide) (by decide) ?_
      refine lv_iconst (v := nI 2) hx hb dX6_entersOf_64 rfl ?_
      refine lv_iload_n hx hb dX6_entersOf_65 rfl (lv_at hl 3 rfl) ?_
      refine n_imul hx hb dX6_entersOf_66 ?_
      refine lv_iload_n hx hb dX6_entersOf_67 rfl (lv_at hl 0 rfl) ?_
      refine n_iadd hx hb dX6_entersOf_68 ?_
      exact fin_i hx hb hr hlk hS hP hD () trivial (congrArg nI (by unfold entersK; rw [if_neg (by omega)]; simp [hsw])) (eqW.rf _) dX6_entersOf_69
    · refine n_tableIn hsw (off := 51) (tgt := 70) hx hb dX6_entersOf_19 (by decide) (by decide) (by decide) (by decide) ?_
      refine lv_iconst (v := nI 2) hx hb dX6_entersOf_70 rfl ?_
      refine lv_iload_n hx hb dX6_entersOf_71 rfl (lv_at hl 3 rfl) ?_
      refine lv_iload_n hx hb dX6_entersOf_72 rfl (lv_at hl 0 rfl) ?_
      refine n_imul hx hb dX6_entersOf_73 ?_
      refine lv_iload_n hx hb dX6_entersOf_74 rfl (lv_at hl 3 rfl) ?_
      refine n_iadd hx hb dX6_entersOf_75 ?_
      refine n_imul hx hb dX6_entersOf_76 ?_
      exact fin_i hx hb hr hlk hS hP hD () trivial (congrArg nI (by unfold entersK; rw [if_neg (by omega)]; simp [hsw])) (eqW.rf _) dX6_entersOf_77
  · refine lv_iconst (v := nI 0) hx hb dX6_entersOf_11 rfl ?_
    exact fin_i hx hb hr hlk hS hP hD () trivial (congrArg nI (by unfold entersK; rw [if_pos (by omega)])) (eqW.rf _) dX6_entersOf_12
set_option maxHeartbeats 400000 in
set_option maxRecDepth 100000 in
theorem c_X6_isWatchedFor (l : Launch) (G : GT) (sz : Nat) (b : Nat → Nat) (ζ : Nat → Nat) (vv : Int64) (σ : Sg) (k n : Nat) (hk : k < 8) (hk0 : σ (pl k 0) < 6) (hk2 : σ (pl k 2) ≤ 99) (hn : n ≤ 999) : MI (S := Unit) l G noX yX6_isWatchedFor wsX6_isWatchedFor ({ frames := 2, cells := 0, slots := 0, locals := 45 } : Room) [.ref (b 0), .int (nI k), .int (nI n)] ([mO b ζ vv, (b 1, .inl (G.2.1, 46, .inl (nF σ)))]) sz (fun _ => True) (fun _ => nI (watchK (σ (pl k 0)) n (entersK (σ (pl k 0)) (σ (pl k 2)) n))) (fun _ => [mO b ζ vv, (b 1, .inl (G.2.1, 46, .inl (nF σ)))]) := by
  refine MI_enter (cc := cX6_isWatchedFor) (maxL := 4) (ret := (some .int)) (by decide) rfl (Nat.le_of_ble_eq_true rfl) ?_
  intro p e s m below meth c A ls H hx hb hr hlk hml hown hts hAq hS hP hK hD hX hl hnm
  have hown : s.vm.findClass RX6 = some m.cls := hown
  have hl : lv_has ls 4 [(0, .ref (b 0)), (1, .int (nI k)), (2, .int (nI n))] := hl
  have he := @entersK_le (σ (pl k 0)) (σ (pl k 2)) n (by omega) (by omega)
  refine lv_aload_n hx hb dX6_isWatchedFor_0 rfl (lv_at hl 0 rfl) ?_
  refine lv_iload_n hx hb dX6_isWatchedFor_1 rfl (lv_at hl 1 rfl) ?_
  refine lv_iload_n hx hb dX6_isWatchedFor_2 rfl (lv_at hl 2 rfl) ?_
  refine callVI (rest := []) (wn := fun u => [mO b ζ vv, (b 1, .inl (G.2.1, 46, .inl (nF σ)))]) ⟨hx, hb, hml, hown, hts⟩ (c_X6_entersOf l G H.size b ζ vv σ k n (by omega) (by omega) (by omega)) (cwV 2 hts gX6_isWatchedFor_X6_entersOf rfl rfl rfl (by decide +kernel) ⟨Nat.le_of_ble_eq_true rfl, Nat.le_of_ble_eq_true rfl⟩) noXB (fun _ _ _ => trivial) hK hP hD hS hAq 5 0 (T := TX6) (N := 18) rfl rfl rfl hl.1 rfl (Nat.le_of_ble_eq_true rfl) dX6_isWatchedFor_3 ⟨Nat.le_of_ble_eq_true rfl, Nat.le_of_ble_eq_true rfl⟩ [0, 1] rfl rfl [b 0, b 1] rfl (fun _ => rfl) (fun _ => rfl) (fun u H locs hok hP hD hS => ?_)
  refine lv_iload_n hx hb dX6_isWatchedFor_6 rfl (lv_at hl 2 rfl) ?_
  refine n_icmp_ge hx hb (by omega) (by omega) (tgt := 14) dX6_isWatchedFor_7 (by decide) (fun c_1 => ?_) (fun c_1 => ?_)
  · refine lv_iconst (v := nI 0) hx hb dX6_isWatchedFor_14 rfl ?_
    refine lv_istore_n (lv' := [(3, .int (nI 0)), (0, .ref (b 0)), (1, .int (nI k)), (2, .int (nI n))]) hx hb dX6_isWatchedFor_15 rfl hl (by decide) rfl (fun ls hl => ?_)
    refine lv_iload_n hx hb dX6_isWatchedFor_16 rfl (lv_at hl 3 rfl) ?_
    refine n_if_ne hx hb (by omega) (tgt := 22) dX6_isWatchedFor_17 (by decide) (fun c_2 => ?_) (fun c_2 => ?_)
    · refine lv_aload_n hx hb dX6_isWatchedFor_22 rfl (lv_at hl 1 rfl) ?_
      refine lv_iload_n hx hb dX6_isWatchedFor_23 rfl (lv_at hl 2 rfl) ?_
      refine lv_iconst (v := nI 0) hx hb dX6_isWatchedFor_24 rfl ?_
      refine callVI (rest := []) (wn := fun u => [mO b ζ vv, (b 1, .inl (G.2.1, 46, .inl (nF σ)))]) ⟨hx, hb, hml, hown, hts⟩ (c_X6_get l G H.size b ζ vv σ k 0 (by omega) (by omega)) (cwV 2 hts gX6_isWatchedFor_X6_get rfl rfl rfl (by decide +kernel) ⟨Nat.le_of_ble_eq_true rfl, Nat.le_of_ble_eq_true rfl⟩) noXB (fun _ _ _ => trivial) hK hP hD hS hAq 5 0 (T := TX6) (N := 18) rfl rfl rfl hl.1 rfl (Nat.le_of_ble_eq_true rfl) dX6_isWatchedFor_25 ⟨Nat.le_of_ble_eq_true rfl, Nat.le_of_ble_eq_true rfl⟩ [0, 1] rfl rfl [b 0, b 1] rfl (fun _ => rfl) (fun _ => rfl) (fun u H locs hok hP hD hS => ?_)
      rcases (show σ (pl k 0) = 0 ∨ σ (pl k 0) = 1 ∨ σ (pl k 0) = 2 ∨ σ (pl k 0) = 3 ∨ σ (pl k 0) = 4 ∨ σ (pl k 0) = 5 by omega) with hsw | hsw | hsw | hsw | hsw | hsw
      · refine n_tableOut hsw (tgt := 91) hx hb dX6_isWatchedFor_28 (by decide) (by decide) ?_
        refine lv_iload_n hx hb dX6_isWatchedFor_91 rfl (lv_at hl 0 rfl) ?_
        exact fin_i hx hb hr hlk hS hP hD () trivial (congrArg nI (by unfold watchK; (repeat' split) <;> omega)) (eqW.rf _) dX6_isWatchedFor_92
      · refine n_tableIn hsw (off := 36) (tgt := 64) hx hb dX6_isWatchedFor_28 (by decide) (by decide) (by decide) (by decide) ?_
        refine lv_iconst (v := nI 0) hx hb dX6_isWatchedFor_64 rfl ?_
        exact fin_i hx hb hr hlk hS hP hD () trivial (congrArg nI (by unfold watchK; (repeat' split) <;> omega)) (eqW.rf _) dX6_isWatchedFor_65
      · refine n_tableIn hsw (off := 63) (tgt := 91) hx hb dX6_isWatchedFor_28 (by decide) (by decide) (by decide) (by decide) ?_
        refine lv_iload_n hx hb dX6_isWatchedFor_91 rfl (lv_at hl 0 rfl) ?_
        exact fin_i hx hb hr hlk hS hP hD () trivial (congrArg nI (by unfold watchK; (repeat' split) <;> omega)) (eqW.rf _) dX6_isWatchedFor_92
      · refine n_tableIn hsw (off := 36) (tgt := 64) hx hb dX6_isWatchedFor_28 (by decide) (by decide) (by decide) (by decide) ?_
        refine lv_iconst (v := nI 0) hx hb dX6_isWatchedFor_64 rfl ?_
        exact fin_i hx hb hr hlk hS hP hD () trivial (congrArg nI (by unfold watchK; (repeat' split) <;> omega)) (eqW.rf _) dX6_isWatchedFor_65
      · refine n_tableIn hsw (off := 38) (tgt := 66) hx hb dX6_isWatchedFor_28 (by decide) (by decide) (by decide) (by decide) ?_
        refine lv_iload_n hx hb dX6_isWatchedFor_66 rfl (lv_at hl 3 rfl) ?_
        refine lv_iconst (v := nI 5) hx hb dX6_isWatchedFor_67 rfl ?_
        refine n_icmp_le hx hb (by omega) (by omega) (tgt := 75) dX6_isWatchedFor_68 (by decide) (fun c_3 => ?_) (fun c_3 => ?_)
        · refine lv_iconst (v := nI 0) hx hb dX6_isWatchedFor_75 rfl ?_
          exact fin_i hx hb hr hlk hS hP hD () trivial (congrArg nI (by unfold watchK; (repeat' split) <;> omega)) (eqW.rf _) dX6_isWatchedFor_76
        · refine lv_iconst (v := nI 1) hx hb dX6_isWatchedFor_71 rfl ?_
          refine lv_goto (tgt := 76) hx hb dX6_isWatchedFor_72 (by decide) ?_
          exact fin_i hx hb hr hlk hS hP hD () trivial (congrArg nI (by unfold watchK; (repeat' split) <;> omega)) (eqW.rf _) dX6_isWatchedFor_76
      · refine n_tableIn hsw (off := 49) (tgt := 77) hx hb dX6_isWatchedFor_28 (by decide) (by decide) (by decide) (by decide) ?_
        refine lv_iload_n hx hb dX6_isWatchedFor_77 rfl (lv_at hl 3 rfl) ?_
        refine lv_bipush (v := nI 30) hx hb dX6_isWatchedFor_78 rfl ?_
        refine n_icmp_le hx hb (by omega) (by omega) (tgt := 89) dX6_isWatchedFor_80 (by decide) (fun c_4 => ?_) (fun c_4 => ?_)
        · refine lv_iload_n hx hb dX6_isWatchedFor_89 rfl (lv_at hl 0 rfl) ?_
          exact fin_i hx hb hr hlk hS hP hD () trivial (congrArg nI (by unfold watchK; (repeat' split) <;> omega)) (eqW.rf _) dX6_isWatchedFor_90
        · refine lv_iload_n hx hb dX6_isWatchedFor_83 rfl (lv_at hl 0 rfl) ?_
          refine lv_iconst (v := nI 1) hx hb dX6_isWatchedFor_84 rfl ?_
          refine n_iadd hx hb dX6_isWatchedFor_85 ?_
          refine lv_goto (tgt := 90) hx hb dX6_isWatchedFor_86 (by decide) ?_
          exact fin_i hx hb hr hlk hS hP hD () trivial (congrArg nI (by unfold watchK; (repeat' split) <;> omega)) (eqW.rf _) dX6_isWatchedFor_90
    · refine lv_iconst (v := nI 0) hx hb dX6_isWatchedFor_20 rfl ?_
      exact fin_i hx hb hr hlk hS hP hD () trivial (congrArg nI (by unfold watchK; rw [if_pos (by omega)])) (eqW.rf _) dX6_isWatchedFor_21
  · refine lv_iconst (v := nI 2) hx hb dX6_isWatchedFor_10 rfl ?_
    refine lv_goto (tgt := 15) hx hb dX6_isWatchedFor_11 (by decide) ?_
    refine lv_istore_n (lv' := [(3, .int (nI 2)), (0, .ref (b 0)), (1, .int (nI k)), (2, .int (nI n))]) hx hb dX6_isWatchedFor_15 rfl hl (by decide) rfl (fun ls hl => ?_)
    refine lv_iload_n hx hb dX6_isWatchedFor_16 rfl (lv_at hl 3 rfl) ?_
    refine n_if_ne hx hb (by omega) (tgt := 22) dX6_isWatchedFor_17 (by decide) (fun c_5 => ?_) (fun c_5 => ?_)
    · refine lv_aload_n hx hb dX6_isWatchedFor_22 rfl (lv_at hl 1 rfl) ?_
      refine lv_iload_n hx hb dX6_isWatchedFor_23 rfl (lv_at hl 2 rfl) ?_
      refine lv_iconst (v := nI 0) hx hb dX6_isWatchedFor_24 rfl ?_
      refine callVI (rest := []) (wn := fun u => [mO b ζ vv, (b 1, .inl (G.2.1, 46, .inl (nF σ)))]) ⟨hx, hb, hml, hown, hts⟩ (c_X6_get l G H.size b ζ vv σ k 0 (by omega) (by omega)) (cwV 2 hts gX6_isWatchedFor_X6_get rfl rfl rfl (by decide +kernel) ⟨Nat.le_of_ble_eq_true rfl, Nat.le_of_ble_eq_true rfl⟩) noXB (fun _ _ _ => trivial) hK hP hD hS hAq 5 0 (T := TX6) (N := 18) rfl rfl rfl hl.1 rfl (Nat.le_of_ble_eq_true rfl) dX6_isWatchedFor_25 ⟨Nat.le_of_ble_eq_true rfl, Nat.le_of_ble_eq_true rfl⟩ [0, 1] rfl rfl [b 0, b 1] rfl (fun _ => rfl) (fun _ => rfl) (fun u H locs hok hP hD hS => ?_)
      rcases (show σ (pl k 0) = 0 ∨ σ (pl k 0) = 1 ∨ σ (pl k 0) = 2 ∨ σ (pl k 0) = 3 ∨ σ (pl k 0) = 4 ∨ σ (pl k 0) = 5 by omega) with hsw | hsw | hsw | hsw | hsw | hsw
      · refine n_tableOut hsw (tgt := 91) hx hb dX6_isWatchedFor_28 (by decide) (by decide) ?_
        refine lv_iload_n hx hb dX6_isWatchedFor_91 rfl (lv_at hl 0 rfl) ?_
        exact fin_i hx hb hr hlk hS hP hD () trivial (congrArg nI (by unfold watchK; (repeat' split) <;> omega)) (eqW.rf _) dX6_isWatchedFor_92
      · refine n_tableIn hsw (off := 36) (tgt := 64) hx hb dX6_isWatchedFor_28 (by decide) (by decide) (by decide) (by decide) ?_
        refine lv_iconst (v := nI 0) hx hb dX6_isWatchedFor_64 rfl ?_
        exact fin_i hx hb hr hlk hS hP hD () trivial (congrArg nI (by unfold watchK; (repeat' split) <;> omega)) (eqW.rf _) dX6_isWatchedFor_65
      · refine n_tableIn hsw (off := 63) (tgt := 91) hx hb dX6_isWatchedFor_28 (by decide) (by decide) (by decide) (by decide) ?_
        refine lv_iload_n hx hb dX6_isWatchedFor_91 rfl (lv_at hl 0 rfl) ?_
        exact fin_i hx hb hr hlk hS hP hD () trivial (congrArg nI (by unfold watchK; (repeat' split) <;> omega)) (eqW.rf _) dX6_isWatchedFor_92
      · refine n_tableIn hsw (off := 36) (tgt := 64) hx hb dX6_isWatchedFor_28 (by decide) (by decide) (by decide) (by decide) ?_
        refine lv_iconst (v := nI 0) hx hb dX6_isWatchedFor_64 rfl ?_
        exact fin_i hx hb hr hlk hS hP hD () trivial (congrArg nI (by unfold watchK; (repeat' split) <;> omega)) (eqW.rf _) dX6_isWatchedFor_65
      · refine n_tableIn hsw (off := 38) (tgt := 66) hx hb dX6_isWatchedFor_28 (by decide) (by decide) (by decide) (by decide) ?_
        refine lv_iload_n hx hb dX6_isWatchedFor_66 rfl (lv_at hl 3 rfl) ?_
        refine lv_iconst (v := nI 5) hx hb dX6_isWatchedFor_67 rfl ?_
        refine n_icmp_le hx hb (by omega) (by omega) (tgt := 75) dX6_isWatchedFor_68 (by decide) (fun c_6 => ?_) (fun c_6 => ?_)
        · refine lv_iconst (v := nI 0) hx hb dX6_isWatchedFor_75 rfl ?_
          exact fin_i hx hb hr hlk hS hP hD () trivial (congrArg nI (by unfold watchK; (repeat' split) <;> omega)) (eqW.rf _) dX6_isWatchedFor_76
        · refine lv_iconst (v := nI 1) hx hb dX6_isWatchedFor_71 rfl ?_
          refine lv_goto (tgt := 76) hx hb dX6_isWatchedFor_72 (by decide) ?_
          exact fin_i hx hb hr hlk hS hP hD () trivial (congrArg nI (by unfold watchK; (repeat' split) <;> omega)) (eqW.rf _) dX6_isWatchedFor_76
      · refine n_tableIn hsw (off := 49) (tgt := 77) hx hb dX6_isWatchedFor_28 (by decide) (by decide) (by decide) (by decide) ?_
        refine lv_iload_n hx hb dX6_isWatchedFor_77 rfl (lv_at hl 3 rfl) ?_
        refine lv_bipush (v := nI 30) hx hb dX6_isWatchedFor_78 rfl ?_
        refine n_icmp_le hx hb (by omega) (by omega) (tgt := 89) dX6_isWatchedFor_80 (by decide) (fun c_7 => ?_) (fun c_7 => ?_)
        · refine lv_iload_n hx hb dX6_isWatchedFor_89 rfl (lv_at hl 0 rfl) ?_
          exact fin_i hx hb hr hlk hS hP hD () trivial (congrArg nI (by unfold watchK; (repeat' split) <;> omega)) (eqW.rf _) dX6_isWatchedFor_90
        · refine lv_iload_n hx hb dX6_isWatchedFor_83 rfl (lv_at hl 0 rfl) ?_
          refine lv_iconst (v := nI 1) hx hb dX6_isWatchedFor_84 rfl ?_
          refine n_iadd hx hb dX6_isWatchedFor_85 ?_
          refine lv_goto (tgt := 90) hx hb dX6_isWatchedFor_86 (by decide) ?_
          exact fin_i hx hb hr hlk hS hP hD () trivial (congrArg nI (by unfold watchK; (repeat' split) <;> omega)) (eqW.rf _) dX6_isWatchedFor_90
    · refine lv_iconst (v := nI 0) hx hb dX6_isWatchedFor_20 rfl ?_
      exact fin_i hx hb hr hlk hS hP hD () trivial (congrArg nI (by unfold watchK; rw [if_pos (by omega)])) (eqW.rf _) dX6_isWatchedFor_21
set_option maxHeartbeats 400000 in
set_option maxRecDepth 100000 in
theorem c_X6_breaksOf (l : Launch) (G : GT) (sz : Nat) (b : Nat → Nat) (ζ : Nat → Nat) (vv : Int64) (σ : Sg) (k n : Nat) (hI : Inv σ) (hk : k < 8) (hn : n ≤ σ 1) : MV (S := Unit) l G noX yX6_breaksOf wsX6_breaksOf ({ frames := 3, cells := 0, slots := 0, locals := 68 } : Room) [.ref (b 0), .int (nI k), .int (nI n)] ([mO b ζ vv, (b 1, .inl (G.2.1, 46, .inl (nF σ)))]) sz (fun _ => True) (fun _ => [mO b ζ vv, (b 1, .inl (G.2.1, 46, .inl (nF (crackN σ k n))))]) := by
  refine MV_enter (cc := cX6_breaksOf) (maxL := 3) (ret := none) (by decide) rfl (Nat.le_of_ble_eq_true rfl) ?_
  intro p e s m below meth c A ls H hx hb hr hlk hml hown hts hAq hS hP hK hD hX hl hnm
  have hown : s.vm.findClass RX6 = some m.cls := hown
  have hl : lv_has ls 3 [(0, .ref (b 0)), (1, .int (nI k)), (2, .int (nI n))] := hl
  obtain ⟨⟨i1, i2, i3, i4, i5⟩, ip⟩ := id hI
  obtain ⟨p0, p1, p2, p3, p4⟩ := ip k (by omega)
  have he := @entersK_le (σ (pl k 0)) (σ (pl k 2)) n (by omega) (by omega)
  refine lv_aload_n hx hb dX6_breaksOf_0 rfl (lv_at hl 0 rfl) ?_
  refine n_get (C := RX6) (T := TX6) (N := 18) hx hb hts (fun _ h => List.mem_cons_of_mem _ (List.mem_append_right _ h)) hown hK hP 0 rfl rfl 0 (by decide) (List.mem_of_getElem? (i := 1) rfl) rfl (.ref (b 1)) rfl dX6_breaksOf_1 ?_
  refine lv_iconst (v := nI 1) hx hb dX6_breaksOf_4 rfl ?_
  refine lv_dup2_11 hx hb dX6_breaksOf_5 rfl rfl ?_
  refine n_iald hx hb hK hP 1 (v := (nI (σ 1))) rfl (by omega) (by omega) rfl dX6_breaksOf_6 ?_
  refine lv_iload_n hx hb dX6_breaksOf_7 rfl (lv_at hl 2 rfl) ?_
  refine n_isub hx hb (by omega) dX6_breaksOf_8 ?_
  refine n_iast hx hb hK hP hD hS 1 (wn := [mO b ζ vv, (b 1, .inl (G.2.1, 46, .inl (nF (un σ 1 ((σ 1) - n)))))]) rfl (by omega) (by omega) (by rw [nF_un]; rfl) dX6_breaksOf_9 (fun H locs hP hD hS => ?_)
  refine lv_aload_n hx hb dX6_breaksOf_10 rfl (lv_at hl 0 rfl) ?_
  refine lv_iload_n hx hb dX6_breaksOf_11 rfl (lv_at hl 1 rfl) ?_
  refine lv_iconst (v := nI 4) hx hb dX6_breaksOf_12 rfl ?_
  refine lv_ldc (v := 99999) hx hb hown (hts _ (List.mem_of_getElem? (i := 2) rfl)) dX6_breaksOf_13 ?_
  refine n_top (y := nI 99999) rfl ?_
  refine lv_aload_n hx hb dX6_breaksOf_15 rfl (lv_at hl 0 rfl) ?_
  refine lv_iload_n hx hb dX6_breaksOf_16 rfl (lv_at hl 1 rfl) ?_
  refine lv_iconst (v := nI 4) hx hb dX6_breaksOf_17 rfl ?_
  refine callVI (rest := [.int (nI 99999), .int (nI 4), .int (nI k), .ref (b 0)]) (wn := fun u => [mO b ζ vv, (b 1, .inl (G.2.1, 46, .inl (nF (un σ 1 ((σ 1) - n)))))]) ⟨hx, hb, hml, hown, hts⟩ (c_X6_get l G H.size b ζ vv (un σ 1 ((σ 1) - n)) k 4 (by omega) (by omega)) (cwV 2 hts gX6_breaksOf_X6_get rfl rfl rfl (by decide +kernel) ⟨Nat.le_of_ble_eq_true rfl, Nat.le_of_ble_eq_true rfl⟩) noXB (fun _ _ _ => trivial) hK hP hD hS hAq 5 0 (T := TX6) (N := 18) rfl rfl rfl hl.1 rfl (Nat.le_of_ble_eq_true rfl) dX6_breaksOf_18 ⟨Nat.le_of_ble_eq_true rfl, Nat.le_of_ble_eq_true rfl⟩ [0, 1] rfl rfl [b 0, b 1] rfl (fun _ => rfl) (fun _ => rfl) (fun u H locs hok hP hD hS => ?_)
  refine n_top (y := (nI (σ (pl k 4)))) (congrArg nI (un_sp (by decide))) ?_
  refine lv_iload_n hx hb dX6_breaksOf_21 rfl (lv_at hl 2 rfl) ?_
  refine n_iadd hx hb dX6_breaksOf_22 ?_
  refine callSI (rest := [.int (nI 4), .int (nI k), .ref (b 0)]) (wn := fun u => [mO b ζ vv, (b 1, .inl (G.2.1, 46, .inl (nF (un σ 1 ((σ 1) - n)))))]) ⟨hx, hb, hml, hown, hts⟩ (c_X6_less l G H.size 99999 ((σ (pl k 4)) + n) (by omega) (by omega)) (va_cwS 2 hts gX6_breaksOf_X6_less rfl rfl rfl (by decide +kernel) ⟨Nat.le_of_ble_eq_true rfl, Nat.le_of_ble_eq_true rfl⟩) noXB (fun _ _ _ => trivial) hK hP hD hS hAq rfl hl.1 rfl (Nat.le_of_ble_eq_true rfl) dX6_breaksOf_23 ⟨Nat.le_of_ble_eq_true rfl, Nat.le_of_ble_eq_true rfl⟩ [] rfl rfl [] rfl (fun _ => rfl) (fun _ => rfl) (fun u H locs hok hP hD hS => ?_)
  refine callVV (rest := []) (wn := fun u => [mO b ζ vv, (b 1, .inl (G.2.1, 46, .inl (nF (un (un σ 1 ((σ 1) - n)) (pl k 4) (min 99999 ((σ (pl k 4)) + n))))))]) ⟨hx, hb, hml, hown, hts⟩ (c_X6_puts l G H.size b ζ vv (un σ 1 ((σ 1) - n)) k 4 (min 99999 ((σ (pl k 4)) + n)) (by omega) (by omega)) (cwV 3 hts gX6_breaksOf_X6_puts rfl rfl rfl (by decide +kernel) ⟨Nat.le_of_ble_eq_true rfl, Nat.le_of_ble_eq_true rfl⟩) noXB (fun _ _ _ => trivial) hK hP hD hS hAq 5 0 (T := TX6) (N := 18) rfl rfl rfl hl.1 rfl (Nat.le_of_ble_eq_true rfl) dX6_breaksOf_26 ⟨Nat.le_of_ble_eq_true rfl, Nat.le_of_ble_eq_true rfl⟩ [0, 1] rfl rfl [b 0, b 1] rfl (fun _ => rfl) (fun _ => rfl) (fun u H locs hok hP hD hS => ?_)
  refine lv_aload_n hx hb dX6_breaksOf_29 rfl (lv_at hl 0 rfl) ?_
  refine n_get (C := RX6) (T := TX6) (N := 18) hx hb hts (fun _ h => List.mem_cons_of_mem _ (List.mem_append_right _ h)) hown hK hP 0 rfl rfl 0 (by decide) (List.mem_of_getElem? (i := 1) rfl) rfl (.ref (b 1)) rfl dX6_breaksOf_30 ?_
  refine lv_iconst (v := nI 3) hx hb dX6_breaksOf_33 rfl ?_
  refine lv_ldc (v := 99999999) hx hb hown (hts _ (List.mem_of_getElem? (i := 3) rfl)) dX6_breaksOf_34 ?_
  refine n_top (y := nI 99999999) rfl ?_
  refine lv_aload_n hx hb dX6_breaksOf_36 rfl (lv_at hl 0 rfl) ?_
  refine n_get (C := RX6) (T := TX6) (N := 18) hx hb hts (fun _ h => List.mem_cons_of_mem _ (List.mem_append_right _ h)) hown hK hP 0 rfl rfl 0 (by decide) (List.mem_of_getElem? (i := 1) rfl) rfl (.ref (b 1)) rfl dX6_breaksOf_37 ?_
  refine lv_iconst (v := nI 3) hx hb dX6_breaksOf_40 rfl ?_
  refine n_iald hx hb hK hP 1 (v := (nI (σ 3))) rfl (by omega) (by omega) (congrArg nI (Eq.trans (un_ps (by decide)) (un_n (by decide)))) dX6_breaksOf_41 ?_
  refine lv_aload_n hx hb dX6_breaksOf_42 rfl (lv_at hl 0 rfl) ?_
  refine lv_iload_n hx hb dX6_breaksOf_43 rfl (lv_at hl 1 rfl) ?_
  refine lv_iload_n hx hb dX6_breaksOf_44 rfl (lv_at hl 2 rfl) ?_
  refine callVI (rest := [.int (nI (σ 3)), .int (nI 99999999), .int (nI 3), .ref (b 1)]) (wn := fun u => [mO b ζ vv, (b 1, .inl (G.2.1, 46, .inl (nF (un (un σ 1 ((σ 1) - n)) (pl k 4) (min 99999 ((σ (pl k 4)) + n))))))]) ⟨hx, hb, hml, hown, hts⟩ (c_X6_entersOf l G H.size b ζ vv (un (un σ 1 ((σ 1) - n)) (pl k 4) (min 99999 ((σ (pl k 4)) + n))) k n (by omega) (by (repeat first | rw [un_pd (by decide) (by decide) (by decide)] | rw [un_sp (by decide)]); omega) (by omega)) (cwV 2 hts gX6_breaksOf_X6_entersOf rfl rfl rfl (by decide +kernel) ⟨Nat.le_of_ble_eq_true rfl, Nat.le_of_ble_eq_true rfl⟩) noXB (fun _ _ _ => trivial) hK hP hD hS hAq 5 0 (T := TX6) (N := 18) rfl rfl rfl hl.1 rfl (Nat.le_of_ble_eq_true rfl) dX6_breaksOf_45 ⟨Nat.le_of_ble_eq_true rfl, Nat.le_of_ble_eq_true rfl⟩ [0, 1] rfl rfl [b 0, b 1] rfl (fun _ => rfl) (fun _ => rfl) (fun u H locs hok hP hD hS => ?_)
  refine n_top (y := (nI (entersK (σ (pl k 0)) (σ (pl k 2)) n))) (congrArg nI (by rw [(show (un (un σ 1 ((σ 1) - n)) (pl k 4) (min 99999 ((σ (pl k 4)) + n))) (pl k 0) = σ (pl k 0) from (Eq.trans (un_pd (by decide) (by decide) (by decide)) (un_sp (by decide)))), (show (un (un σ 1 ((σ 1) - n)) (pl k 4) (min 99999 ((σ (pl k 4)) + n))) (pl k 2) = σ (pl k 2) from (Eq.trans (un_pd (by decide) (by decide) (by decide)) (un_sp (by decide))))])) ?_
  refine n_iadd hx hb dX6_breaksOf_48 ?_
  refine callSI (rest := [.int (nI 3), .ref (b 1)]) (wn := fun u => [mO b ζ vv, (b 1, .inl (G.2.1, 46, .inl (nF (un (un σ 1 ((σ 1) - n)) (pl k 4) (min 99999 ((σ (pl k 4)) + n))))))]) ⟨hx, hb, hml, hown, hts⟩ (c_X6_less l G H.size 99999999 ((σ 3) + (entersK (σ (pl k 0)) (σ (pl k 2)) n)) (by omega) (by omega)) (va_cwS 2 hts gX6_breaksOf_X6_less rfl rfl rfl (by decide +kernel) ⟨Nat.le_of_ble_eq_true rfl, Nat.le_of_ble_eq_true rfl⟩) noXB (fun _ _ _ => trivial) hK hP hD hS hAq rfl hl.1 rfl (Nat.le_of_ble_eq_true rfl) dX6_breaksOf_49 ⟨Nat.le_of_ble_eq_true rfl, Nat.le_of_ble_eq_true rfl⟩ [] rfl rfl [] rfl (fun _ => rfl) (fun _ => rfl) (fun u H locs hok hP hD hS => ?_)
  refine n_iast hx hb hK hP hD hS 1 (wn := [mO b ζ vv, (b 1, .inl (G.2.1, 46, .inl (nF (un (un (un σ 1 ((σ 1) - n)) (pl k 4) (min 99999 ((σ (pl k 4)) + n))) 3 (min 99999999 ((σ 3) + (entersK (σ (pl k 0)) (σ (pl k 2)) n)))))))]) rfl (by omega) (by omega) (by rw [nF_un]; rfl) dX6_breaksOf_52 (fun H locs hP hD hS => ?_)
  refine lv_aload_n hx hb dX6_breaksOf_53 rfl (lv_at hl 0 rfl) ?_
  refine lv_iload_n hx hb dX6_breaksOf_54 rfl (lv_at hl 1 rfl) ?_
  refine lv_iconst (v := nI 3) hx hb dX6_breaksOf_55 rfl ?_
  refine lv_aload_n hx hb dX6_breaksOf_56 rfl (lv_at hl 0 rfl) ?_
  refine lv_iload_n hx hb dX6_breaksOf_57 rfl (lv_at hl 1 rfl) ?_
  refine lv_iload_n hx hb dX6_breaksOf_58 rfl (lv_at hl 2 rfl) ?_
  refine callVI (rest := [.int (nI 3), .int (nI k), .ref (b 0)]) (wn := fun u => [mO b ζ vv, (b 1, .inl (G.2.1, 46, .inl (nF (un (un (un σ 1 ((σ 1) - n)) (pl k 4) (min 99999 ((σ (pl k 4)) + n))) 3 (min 99999999 ((σ 3) + (entersK (σ (pl k 0)) (σ (pl k 2)) n)))))))]) ⟨hx, hb, hml, hown, hts⟩ (c_X6_isWatchedFor l G H.size b ζ vv (un (un (un σ 1 ((σ 1) - n)) (pl k 4) (min 99999 ((σ (pl k 4)) + n))) 3 (min 99999999 ((σ 3) + (entersK (σ (pl k 0)) (σ (pl k 2)) n)))) k n (by omega) (by (repeat first | rw [un_pd (by decide) (by decide) (by decide)] | rw [un_sp (by decide)]); omega) (by (repeat first | rw [un_pd (by decide) (by decide) (by decide)] | rw [un_sp (by decide)]); omega) (by omega)) (cwV 2 hts gX6_breaksOf_X6_isWatchedFor rfl rfl rfl (by decide +kernel) ⟨Nat.le_of_ble_eq_true rfl, Nat.le_of_ble_eq_true rfl⟩) noXB (fun _ _ _ => trivial) hK hP hD hS hAq 5 0 (T := TX6) (N := 18) rfl rfl rfl hl.1 rfl (Nat.le_of_ble_eq_true rfl) dX6_breaksOf_59 ⟨Nat.le_of_ble_eq_true rfl, Nat.le_of_ble_eq_true rfl⟩ [0, 1] rfl rfl [b 0, b 1] rfl (fun _ => rfl) (fun _ => rfl) (fun u H locs hok hP hD hS => ?_)
  refine n_top (y := (nI (watchK (σ (pl k 0)) n (entersK (σ (pl k 0)) (σ (pl k 2)) n)))) (congrArg nI (by rw [(show (un (un (un σ 1 ((σ 1) - n)) (pl k 4) (min 99999 ((σ (pl k 4)) + n))) 3 (min 99999999 ((σ 3) + (entersK (σ (pl k 0)) (σ (pl k 2)) n)))) (pl k 0) = σ (pl k 0) from (Eq.trans (un_sp (by decide)) (Eq.trans (un_pd (by decide) (by decide) (by decide)) (un_sp (by decide))))), (show (un (un (un σ 1 ((σ 1) - n)) (pl k 4) (min 99999 ((σ (pl k 4)) + n))) 3 (min 99999999 ((σ 3) + (entersK (σ (pl k 0)) (σ (pl k 2)) n)))) (pl k 2) = σ (pl k 2) from (Eq.trans (un_sp (by decide)) (Eq.trans (un_pd (by decide) (by decide) (by decide)) (un_sp (by decide)))))])) ?_
  refine callVV (rest := []) (wn := fun u => [mO b ζ vv, (b 1, .inl (G.2.1, 46, .inl (nF (un (un (un (un σ 1 ((σ 1) - n)) (pl k 4) (min 99999 ((σ (pl k 4)) + n))) 3 (min 99999999 ((σ 3) + (entersK (σ (pl k 0)) (σ (pl k 2)) n)))) (pl k 3) (watchK (σ (pl k 0)) n (entersK (σ (pl k 0)) (σ (pl k 2)) n))))))]) ⟨hx, hb, hml, hown, hts⟩ (c_X6_puts l G H.size b ζ vv (un (un (un σ 1 ((σ 1) - n)) (pl k 4) (min 99999 ((σ (pl k 4)) + n))) 3 (min 99999999 ((σ 3) + (entersK (σ (pl k 0)) (σ (pl k 2)) n)))) k 3 (watchK (σ (pl k 0)) n (entersK (σ (pl k 0)) (σ (pl k 2)) n)) (by omega) (by omega)) (cwV 3 hts gX6_breaksOf_X6_puts rfl rfl rfl (by decide +kernel) ⟨Nat.le_of_ble_eq_true rfl, Nat.le_of_ble_eq_true rfl⟩) noXB (fun _ _ _ => trivial) hK hP hD hS hAq 5 0 (T := TX6) (N := 18) rfl rfl rfl hl.1 rfl (Nat.le_of_ble_eq_true rfl) dX6_breaksOf_62 ⟨Nat.le_of_ble_eq_true rfl, Nat.le_of_ble_eq_true rfl⟩ [0, 1] rfl rfl [b 0, b 1] rfl (fun _ => rfl) (fun _ => rfl) (fun u H locs hok hP hD hS => ?_)
  exact fin_v hx hb hr hlk hS hP hD () trivial (eqW.rf _) dX6_breaksOf_65
set_option maxHeartbeats 400000 in
set_option maxRecDepth 100000 in
theorem c_X6_comesIn (l : Launch) (G : GT) (sz : Nat) (b : Nat → Nat) (ζ : Nat → Nat) (vv : Int64) (σ : Sg) (k : Nat) (hI : Inv σ) (hk : k < σ 5) (hd0 : σ 0 < 1000000) : MI (S := Unit) l G noX yX6_comesIn wsX6_comesIn ({ frames := 4, cells := 0, slots := 0, locals := 90 } : Room) [.ref (b 0), .int (nI k)] ([mO b ζ vv, (b 1, .inl (G.2.1, 46, .inl (nF σ)))]) sz (fun _ => True) (fun _ => nI (hunI σ k 0)) (fun _ => [mO b ζ vv, (b 1, .inl (G.2.1, 46, .inl (nF (eatN σ k))))]) := by
  refine MI_enter (cc := cX6_comesIn) (maxL := 4) (ret := (some .boolean)) (by decide) rfl (Nat.le_of_ble_eq_true rfl) ?_
  intro p e s m below meth c A ls H hx hb hr hlk hml hown hts hAq hS hP hK hD hX hl hnm
  have hown : s.vm.findClass RX6 = some m.cls := hown
  have hl : lv_has ls 4 [(0, .ref (b 0)), (1, .int (nI k))] := hl
  obtain ⟨⟨i1, i2, i3, i4, i5⟩, ip⟩ := id hI
  obtain ⟨p0, p1, p2, p3, p4⟩ := ip k (by omega)
  have hwl := wantsN_le p1
  refine lv_aload_n hx hb dX6_comesIn_0 rfl (lv_at hl 0 rfl) ?_
  refine lv_iload_n hx hb dX6_comesIn_1 rfl (lv_at hl 1 rfl) ?_
  refine lv_iconst (v := nI 3) hx hb dX6_comesIn_2 rfl ?_
  refine callVI (rest := []) (wn := fun u => [mO b ζ vv, (b 1, .inl (G.2.1, 46, .inl (nF σ)))]) ⟨hx, hb, hml, hown, hts⟩ (c_X6_get l G H.size b ζ vv σ k 3 (by omega) (by omega)) (cwV 2 hts gX6_comesIn_X6_get rfl rfl rfl (by decide +kernel) ⟨Nat.le_of_ble_eq_true rfl, Nat.le_of_ble_eq_true rfl⟩) noXB (fun _ _ _ => trivial) hK hP hD hS hAq 5 0 (T := TX6) (N := 18) rfl rfl rfl hl.1 rfl (Nat.le_of_ble_eq_true rfl) dX6_comesIn_3 ⟨Nat.le_of_ble_eq_true rfl, Nat.le_of_ble_eq_true rfl⟩ [0, 1] rfl rfl [b 0, b 1] rfl (fun _ => rfl) (fun _ => rfl) (fun u H locs hok hP hD hS => ?_)
  refine n_if_le hx hb (by omega) (tgt := 25) dX6_comesIn_6 (by decide) (fun c_1 => ?_) (fun c_1 => ?_)
  · refine lv_aload_n hx hb dX6_comesIn_25 rfl (lv_at hl 0 rfl) ?_
    refine lv_iload_n hx hb dX6_comesIn_26 rfl (lv_at hl 1 rfl) ?_
    refine callVI (rest := []) (wn := fun u => [mO b ζ vv, (b 1, .inl (G.2.1, 46, .inl (nF σ)))]) ⟨hx, hb, hml, hown, hts⟩ (c_X6_wantsOf l G H.size b ζ vv σ k hI (by omega) (by omega)) (cwV 1 hts gX6_comesIn_X6_wantsOf rfl rfl rfl (by decide +kernel) ⟨Nat.le_of_ble_eq_true rfl, Nat.le_of_ble_eq_true rfl⟩) noXB (fun _ _ _ => trivial) hK hP hD hS hAq 5 0 (T := TX6) (N := 18) rfl rfl rfl hl.1 rfl (Nat.le_of_ble_eq_true rfl) dX6_comesIn_27 ⟨Nat.le_of_ble_eq_true rfl, Nat.le_of_ble_eq_true rfl⟩ [0, 1] rfl rfl [b 0, b 1] rfl (fun _ => rfl) (fun _ => rfl) (fun u H locs hok hP hD hS => ?_)
    refine lv_istore_n (lv' := [(2, .int (nI (wantsN σ k))), (0, .ref (b 0)), (1, .int (nI k))]) hx hb dX6_comesIn_30 rfl hl (by decide) rfl (fun ls hl => ?_)
    refine lv_iload_n hx hb dX6_comesIn_31 rfl (lv_at hl 0 rfl) ?_
    refine n_if_le hx hb (by omega) (tgt := 48) dX6_comesIn_32 (by decide) (fun c_2 => ?_) (fun c_2 => ?_)
    · refine lv_iconst (v := nI 0) hx hb dX6_comesIn_48 rfl ?_
      refine lv_istore_n (lv' := [(3, .int (nI 0)), (2, .int (nI (wantsN σ k))), (0, .ref (b 0)), (1, .int (nI k))]) hx hb dX6_comesIn_49 rfl hl (by decide) rfl (fun ls hl => ?_)
      refine lv_aload_n hx hb dX6_comesIn_50 rfl (lv_at hl 2 rfl) ?_
      refine lv_iload_n hx hb dX6_comesIn_51 rfl (lv_at hl 3 rfl) ?_
      refine lv_iload_n hx hb dX6_comesIn_52 rfl (lv_at hl 1 rfl) ?_
      refine lv_aload_n hx hb dX6_comesIn_53 rfl (lv_at hl 2 rfl) ?_
      refine n_get (C := RX6) (T := TX6) (N := 18) hx hb hts (fun _ h => List.mem_cons_of_mem _ (List.mem_append_right _ h)) hown hK hP 0 rfl rfl 0 (by decide) (List.mem_of_getElem? (i := 1) rfl) rfl (.ref (b 1)) rfl dX6_comesIn_54 ?_
      refine lv_iconst (v := nI 1) hx hb dX6_comesIn_57 rfl ?_
      refine n_iald hx hb hK hP 1 (v := (nI (σ 1))) rfl (by omega) (by omega) rfl dX6_comesIn_58 ?_
      refine callSI (rest := [.int (nI k), .ref (b 0)]) (wn := fun u => [mO b ζ vv, (b 1, .inl (G.2.1, 46, .inl (nF σ)))]) ⟨hx, hb, hml, hown, hts⟩ (c_X6_less l G H.size (wantsN σ k) (σ 1) (by omega) (by omega)) (va_cwS 2 hts gX6_comesIn_X6_less rfl rfl rfl (by decide +kernel) ⟨Nat.le_of_ble_eq_true rfl, Nat.le_of_ble_eq_true rfl⟩) noXB (fun _ _ _ => trivial) hK hP hD hS hAq rfl hl.1 rfl (Nat.le_of_ble_eq_true rfl) dX6_comesIn_59 ⟨Nat.le_of_ble_eq_true rfl, Nat.le_of_ble_eq_true rfl⟩ [] rfl rfl [] rfl (fun _ => rfl) (fun _ => rfl) (fun u H locs hok hP hD hS => ?_)
      refine callVV (rest := []) (wn := fun u => [mO b ζ vv, (b 1, .inl (G.2.1, 46, .inl (nF (crackN σ k (min (wantsN σ k) (σ 1))))))]) ⟨hx, hb, hml, hown, hts⟩ (c_X6_breaksOf l G H.size b ζ vv σ k (min (wantsN σ k) (σ 1)) hI (by omega) (by omega)) (cwV 2 hts gX6_comesIn_X6_breaksOf rfl rfl rfl (by decide +kernel) ⟨Nat.le_of_ble_eq_true rfl, Nat.le_of_ble_eq_true rfl⟩) noXB (fun _ _ _ => trivial) hK hP hD hS hAq 5 0 (T := TX6) (N := 18) rfl rfl rfl hl.1 rfl (Nat.le_of_ble_eq_true rfl) dX6_comesIn_62 ⟨Nat.le_of_ble_eq_true rfl, Nat.le_of_ble_eq_true rfl⟩ [0, 1] rfl rfl [b 0, b 1] rfl (fun _ => rfl) (fun _ => rfl) (fun u H locs hok hP hD hS => ?_)
      refine lv_iload_n hx hb dX6_comesIn_65 rfl (lv_at hl 0 rfl) ?_
      exact fin_z (ty := .boolean) (by decide) hx hb hr hlk hS hP hD () trivial (congrArg nI (by unfold hunI; first | rw [if_pos (by omega)] | rw [if_neg (by omega)])) (by rw [show eatN σ k = crackN σ k (min (wantsN σ k) (σ 1)) from by first | exact eat_c hI (by omega) (by omega) | (unfold eatN; rw [if_pos (by omega)])]; exact eqW.rf _) dX6_comesIn_66
    · refine lv_aload_n hx hb dX6_comesIn_35 rfl (lv_at hl 1 rfl) ?_
      refine n_get (C := RX6) (T := TX6) (N := 18) hx hb hts (fun _ h => List.mem_cons_of_mem _ (List.mem_append_right _ h)) hown hK hP 0 rfl rfl 0 (by decide) (List.mem_of_getElem? (i := 1) rfl) rfl (.ref (b 1)) rfl dX6_comesIn_36 ?_
      refine lv_iconst (v := nI 1) hx hb dX6_comesIn_39 rfl ?_
      refine n_iald hx hb hK hP 1 (v := (nI (σ 1))) rfl (by omega) (by omega) rfl dX6_comesIn_40 ?_
      refine n_if_ne hx hb (by omega) (tgt := 48) dX6_comesIn_41 (by decide) (fun c_3 => ?_) (fun c_3 => ?_)
      · refine lv_iconst (v := nI 0) hx hb dX6_comesIn_48 rfl ?_
        refine lv_istore_n (lv' := [(3, .int (nI 0)), (2, .int (nI (wantsN σ k))), (0, .ref (b 0)), (1, .int (nI k))]) hx hb dX6_comesIn_49 rfl hl (by decide) rfl (fun ls hl => ?_)
        refine lv_aload_n hx hb dX6_comesIn_50 rfl (lv_at hl 2 rfl) ?_
        refine lv_iload_n hx hb dX6_comesIn_51 rfl (lv_at hl 3 rfl) ?_
        refine lv_iload_n hx hb dX6_comesIn_52 rfl (lv_at hl 1 rfl) ?_
        refine lv_aload_n hx hb dX6_comesIn_53 rfl (lv_at hl 2 rfl) ?_
        refine n_get (C := RX6) (T := TX6) (N := 18) hx hb hts (fun _ h => List.mem_cons_of_mem _ (List.mem_append_right _ h)) hown hK hP 0 rfl rfl 0 (by decide) (List.mem_of_getElem? (i := 1) rfl) rfl (.ref (b 1)) rfl dX6_comesIn_54 ?_
        refine lv_iconst (v := nI 1) hx hb dX6_comesIn_57 rfl ?_
        refine n_iald hx hb hK hP 1 (v := (nI (σ 1))) rfl (by omega) (by omega) rfl dX6_comesIn_58 ?_
        refine callSI (rest := [.int (nI k), .ref (b 0)]) (wn := fun u => [mO b ζ vv, (b 1, .inl (G.2.1, 46, .inl (nF σ)))]) ⟨hx, hb, hml, hown, hts⟩ (c_X6_less l G H.size (wantsN σ k) (σ 1) (by omega) (by omega)) (va_cwS 2 hts gX6_comesIn_X6_less rfl rfl rfl (by decide +kernel) ⟨Nat.le_of_ble_eq_true rfl, Nat.le_of_ble_eq_true rfl⟩) noXB (fun _ _ _ => trivial) hK hP hD hS hAq rfl hl.1 rfl (Nat.le_of_ble_eq_true rfl) dX6_comesIn_59 ⟨Nat.le_of_ble_eq_true rfl, Nat.le_of_ble_eq_true rfl⟩ [] rfl rfl [] rfl (fun _ => rfl) (fun _ => rfl) (fun u H locs hok hP hD hS => ?_)
        refine callVV (rest := []) (wn := fun u => [mO b ζ vv, (b 1, .inl (G.2.1, 46, .inl (nF (crackN σ k (min (wantsN σ k) (σ 1))))))]) ⟨hx, hb, hml, hown, hts⟩ (c_X6_breaksOf l G H.size b ζ vv σ k (min (wantsN σ k) (σ 1)) hI (by omega) (by omega)) (cwV 2 hts gX6_comesIn_X6_breaksOf rfl rfl rfl (by decide +kernel) ⟨Nat.le_of_ble_eq_true rfl, Nat.le_of_ble_eq_true rfl⟩) noXB (fun _ _ _ => trivial) hK hP hD hS hAq 5 0 (T := TX6) (N := 18) rfl rfl rfl hl.1 rfl (Nat.le_of_ble_eq_true rfl) dX6_comesIn_62 ⟨Nat.le_of_ble_eq_true rfl, Nat.le_of_ble_eq_true rfl⟩ [0, 1] rfl rfl [b 0, b 1] rfl (fun _ => rfl) (fun _ => rfl) (fun u H locs hok hP hD hS => ?_)
        refine lv_iload_n hx hb dX6_comesIn_65 rfl (lv_at hl 0 rfl) ?_
        exact fin_z (ty := .boolean) (by decide) hx hb hr hlk hS hP hD () trivial (congrArg nI (by unfold hunI; first | rw [if_pos (by omega)] | rw [if_neg (by omega)])) (by rw [show eatN σ k = crackN σ k (min (wantsN σ k) (σ 1)) from by first | exact eat_c hI (by omega) (by omega) | (unfold eatN; rw [if_pos (by omega)])]; exact eqW.rf _) dX6_comesIn_66
      · refine lv_iconst (v := nI 1) hx hb dX6_comesIn_44 rfl ?_
        refine lv_goto (tgt := 49) hx hb dX6_comesIn_45 (by decide) ?_
        refine lv_istore_n (lv' := [(3, .int (nI 1)), (2, .int (nI (wantsN σ k))), (0, .ref (b 0)), (1, .int (nI k))]) hx hb dX6_comesIn_49 rfl hl (by decide) rfl (fun ls hl => ?_)
        refine lv_aload_n hx hb dX6_comesIn_50 rfl (lv_at hl 2 rfl) ?_
        refine lv_iload_n hx hb dX6_comesIn_51 rfl (lv_at hl 3 rfl) ?_
        refine lv_iload_n hx hb dX6_comesIn_52 rfl (lv_at hl 1 rfl) ?_
        refine lv_aload_n hx hb dX6_comesIn_53 rfl (lv_at hl 2 rfl) ?_
        refine n_get (C := RX6) (T := TX6) (N := 18) hx hb hts (fun _ h => List.mem_cons_of_mem _ (List.mem_append_right _ h)) hown hK hP 0 rfl rfl 0 (by decide) (List.mem_of_getElem? (i := 1) rfl) rfl (.ref (b 1)) rfl dX6_comesIn_54 ?_
        refine lv_iconst (v := nI 1) hx hb dX6_comesIn_57 rfl ?_
        refine n_iald hx hb hK hP 1 (v := (nI (σ 1))) rfl (by omega) (by omega) rfl dX6_comesIn_58 ?_
        refine callSI (rest := [.int (nI k), .ref (b 0)]) (wn := fun u => [mO b ζ vv, (b 1, .inl (G.2.1, 46, .inl (nF σ)))]) ⟨hx, hb, hml, hown, hts⟩ (c_X6_less l G H.size (wantsN σ k) (σ 1) (by omega) (by omega)) (va_cwS 2 hts gX6_comesIn_X6_less rfl rfl rfl (by decide +kernel) ⟨Nat.le_of_ble_eq_true rfl, Nat.le_of_ble_eq_true rfl⟩) noXB (fun _ _ _ => trivial) hK hP hD hS hAq rfl hl.1 rfl (Nat.le_of_ble_eq_true rfl) dX6_comesIn_59 ⟨Nat.le_of_ble_eq_true rfl, Nat.le_of_ble_eq_true rfl⟩ [] rfl rfl [] rfl (fun _ => rfl) (fun _ => rfl) (fun u H locs hok hP hD hS => ?_)
        refine callVV (rest := []) (wn := fun u => [mO b ζ vv, (b 1, .inl (G.2.1, 46, .inl (nF (crackN σ k (min (wantsN σ k) (σ 1))))))]) ⟨hx, hb, hml, hown, hts⟩ (c_X6_breaksOf l G H.size b ζ vv σ k (min (wantsN σ k) (σ 1)) hI (by omega) (by omega)) (cwV 2 hts gX6_comesIn_X6_breaksOf rfl rfl rfl (by decide +kernel) ⟨Nat.le_of_ble_eq_true rfl, Nat.le_of_ble_eq_true rfl⟩) noXB (fun _ _ _ => trivial) hK hP hD hS hAq 5 0 (T := TX6) (N := 18) rfl rfl rfl hl.1 rfl (Nat.le_of_ble_eq_true rfl) dX6_comesIn_62 ⟨Nat.le_of_ble_eq_true rfl, Nat.le_of_ble_eq_true rfl⟩ [0, 1] rfl rfl [b 0, b 1] rfl (fun _ => rfl) (fun _ => rfl) (fun u H locs hok hP hD hS => ?_)
        refine lv_iload_n hx hb dX6_comesIn_65 rfl (lv_at hl 0 rfl) ?_
        exact fin_z (ty := .boolean) (by decide) hx hb hr hlk hS hP hD () trivial (congrArg nI (by unfold hunI; first | rw [if_pos (by omega)] | rw [if_neg (by omega)])) (by rw [show eatN σ k = crackN σ k (min (wantsN σ k) (σ 1)) from by first | exact eat_c hI (by omega) (by omega) | (unfold eatN; rw [if_pos (by omega)])]; exact eqW.rf _) dX6_comesIn_66
  · refine lv_aload_n hx hb dX6_comesIn_9 rfl (lv_at hl 0 rfl) ?_
    refine lv_iload_n hx hb dX6_comesIn_10 rfl (lv_at hl 1 rfl) ?_
    refine lv_iconst (v := nI 3) hx hb dX6_comesIn_11 rfl ?_
    refine lv_aload_n hx hb dX6_comesIn_12 rfl (lv_at hl 0 rfl) ?_
    refine lv_iload_n hx hb dX6_comesIn_13 rfl (lv_at hl 1 rfl) ?_
    refine lv_iconst (v := nI 3) hx hb dX6_comesIn_14 rfl ?_
    refine callVI (rest := [.int (nI 3), .int (nI k), .ref (b 0)]) (wn := fun u => [mO b ζ vv, (b 1, .inl (G.2.1, 46, .inl (nF σ)))]) ⟨hx, hb, hml, hown, hts⟩ (c_X6_get l G H.size b ζ vv σ k 3 (by omega) (by omega)) (cwV 2 hts gX6_comesIn_X6_get rfl rfl rfl (by decide +kernel) ⟨Nat.le_of_ble_eq_true rfl, Nat.le_of_ble_eq_true rfl⟩) noXB (fun _ _ _ => trivial) hK hP hD hS hAq 5 0 (T := TX6) (N := 18) rfl rfl rfl hl.1 rfl (Nat.le_of_ble_eq_true rfl) dX6_comesIn_15 ⟨Nat.le_of_ble_eq_true rfl, Nat.le_of_ble_eq_true rfl⟩ [0, 1] rfl rfl [b 0, b 1] rfl (fun _ => rfl) (fun _ => rfl) (fun u H locs hok hP hD hS => ?_)
    refine lv_iconst (v := nI 1) hx hb dX6_comesIn_18 rfl ?_
    refine n_isub hx hb (by omega) dX6_comesIn_19 ?_
    refine callVV (rest := []) (wn := fun u => [mO b ζ vv, (b 1, .inl (G.2.1, 46, .inl (nF (un σ (pl k 3) ((σ (pl k 3)) - 1)))))]) ⟨hx, hb, hml, hown, hts⟩ (c_X6_puts l G H.size b ζ vv σ k 3 ((σ (pl k 3)) - 1) (by omega) (by omega)) (cwV 3 hts gX6_comesIn_X6_puts rfl rfl rfl (by decide +kernel) ⟨Nat.le_of_ble_eq_true rfl, Nat.le_of_ble_eq_true rfl⟩) noXB (fun _ _ _ => trivial) hK hP hD hS hAq 5 0 (T := TX6) (N := 18) rfl rfl rfl hl.1 rfl (Nat.le_of_ble_eq_true rfl) dX6_comesIn_20 ⟨Nat.le_of_ble_eq_true rfl, Nat.le_of_ble_eq_true rfl⟩ [0, 1] rfl rfl [b 0, b 1] rfl (fun _ => rfl) (fun _ => rfl) (fun u H locs hok hP hD hS => ?_)
    refine lv_iconst (v := nI 0) hx hb dX6_comesIn_23 rfl ?_
    exact fin_z (ty := .boolean) (by decide) hx hb hr hlk hS hP hD () trivial (congrArg nI (by unfold hunI; first | rw [if_pos (by omega)] | rw [if_neg (by omega)])) (by rw [show eatN σ k = un σ (pl k 3) ((σ (pl k 3)) - 1) from by first | exact eat_c hI (by omega) (by omega) | (unfold eatN; rw [if_pos (by omega)])]; exact eqW.rf _) dX6_comesIn_24
set_option maxHeartbeats 400000 in
set_option maxRecDepth 100000 in
theorem c_X6_day (l : Launch) (G : GT) (sz : Nat) (b : Nat → Nat) (ζ : Nat → Nat) (vv : Int64) (σ : Sg) (hI : Inv σ) (hd0 : σ 0 < 1000000) : MV (S := Unit) l G noX yX6_day wsX6_day ({ frames := 5, cells := 0, slots := 0, locals := 113 } : Room) [.ref (b 0)] ([mO b ζ vv, (b 1, .inl (G.2.1, 46, .inl (nF σ)))]) sz (fun _ => True) (fun _ => [mO b ζ vv, (b 1, .inl (G.2.1, 46, .inl (nF (dayN σ))))]) := by
  refine MV_enter (cc := cX6_day) (maxL := 4) (ret := none) (by decide) rfl (Nat.le_of_ble_eq_true rfl) ?_
  intro p e s m below meth c A ls H hx hb hr hlk hml hown hts hAq hS hP hK hD hX hl hnm
  have hown : s.vm.findClass RX6 = some m.cls := hown
  have hl : lv_has ls 4 [(0, .ref (b 0))] := hl
  obtain ⟨⟨i1, i2, i3, i4, i5⟩, ip⟩ := id hI
  have hm1 : mornN σ 1 ≤ 999 := (morn_Inv hI).1.1
  refine lv_aload_n hx hb dX6_day_0 rfl (lv_at hl 0 rfl) ?_
  refine n_get (C := RX6) (T := TX6) (N := 18) hx hb hts (fun _ h => List.mem_cons_of_mem _ (List.mem_append_right _ h)) hown hK hP 0 rfl rfl 0 (by decide) (List.mem_of_getElem? (i := 1) rfl) rfl (.ref (b 1)) rfl dX6_day_1 ?_
  refine lv_iconst (v := nI 1) hx hb dX6_day_4 rfl ?_
  refine lv_sipush (v := nI 999) hx hb dX6_day_5 rfl ?_
  refine lv_aload_n hx hb dX6_day_8 rfl (lv_at hl 0 rfl) ?_
  refine n_get (C := RX6) (T := TX6) (N := 18) hx hb hts (fun _ h => List.mem_cons_of_mem _ (List.mem_append_right _ h)) hown hK hP 0 rfl rfl 0 (by decide) (List.mem_of_getElem? (i := 1) rfl) rfl (.ref (b 1)) rfl dX6_day_9 ?_
  refine lv_iconst (v := nI 1) hx hb dX6_day_12 rfl ?_
  refine n_iald hx hb hK hP 1 (v := (nI (σ 1))) rfl (by omega) (by omega) rfl dX6_day_13 ?_
  refine lv_aload_n hx hb dX6_day_14 rfl (lv_at hl 0 rfl) ?_
  refine n_get (C := RX6) (T := TX6) (N := 18) hx hb hts (fun _ h => List.mem_cons_of_mem _ (List.mem_append_right _ h)) hown hK hP 0 rfl rfl 0 (by decide) (List.mem_of_getElem? (i := 1) rfl) rfl (.ref (b 1)) rfl dX6_day_15 ?_
  refine lv_iconst (v := nI 2) hx hb dX6_day_18 rfl ?_
  refine n_iald hx hb hK hP 1 (v := (nI (σ 2))) rfl (by omega) (by omega) rfl dX6_day_19 ?_
  refine n_iadd hx hb dX6_day_20 ?_
  refine callSI (rest := [.int (nI 1), .ref (b 1)]) (wn := fun u => [mO b ζ vv, (b 1, .inl (G.2.1, 46, .inl (nF σ)))]) ⟨hx, hb, hml, hown, hts⟩ (c_X6_less l G H.size 999 ((σ 1) + (σ 2)) (by omega) (by omega)) (va_cwS 2 hts gX6_day_X6_less rfl rfl rfl (by decide +kernel) ⟨Nat.le_of_ble_eq_true rfl, Nat.le_of_ble_eq_true rfl⟩) noXB (fun _ _ _ => trivial) hK hP hD hS hAq rfl hl.1 rfl (Nat.le_of_ble_eq_true rfl) dX6_day_21 ⟨Nat.le_of_ble_eq_true rfl, Nat.le_of_ble_eq_true rfl⟩ [] rfl rfl [] rfl (fun _ => rfl) (fun _ => rfl) (fun u H locs hok hP hD hS => ?_)
  refine n_iast hx hb hK hP hD hS 1 (wn := [mO b ζ vv, (b 1, .inl (G.2.1, 46, .inl (nF (un σ 1 (min 999 ((σ 1) + (σ 2)))))))]) rfl (by omega) (by omega) (by rw [nF_un]; rfl) dX6_day_24 (fun H locs hP hD hS => ?_)
  refine lv_aload_n hx hb dX6_day_25 rfl (lv_at hl 0 rfl) ?_
  refine n_get (C := RX6) (T := TX6) (N := 18) hx hb hts (fun _ h => List.mem_cons_of_mem _ (List.mem_append_right _ h)) hown hK hP 0 rfl rfl 0 (by decide) (List.mem_of_getElem? (i := 1) rfl) rfl (.ref (b 1)) rfl dX6_day_26 ?_
  refine lv_iconst (v := nI 1) hx hb dX6_day_29 rfl ?_
  refine n_iald hx hb hK hP 1 (v := (nI (min 999 ((σ 1) + (σ 2))))) rfl (by omega) (by omega) (congrArg nI un_s) dX6_day_30 ?_
  refine lv_istore_n (lv' := [(1, .int (nI (min 999 ((σ 1) + (σ 2))))), (0, .ref (b 0))]) hx hb dX6_day_31 rfl hl (by decide) rfl (fun ls hl => ?_)
  refine lv_iconst (v := nI 0) hx hb dX6_day_32 rfl ?_
  refine lv_istore_n (lv' := [(2, .int (nI 0)), (1, .int (nI (min 999 ((σ 1) + (σ 2))))), (0, .ref (b 0))]) hx hb dX6_day_33 rfl hl (by decide) rfl (fun ls hl => ?_)
  refine lv_iconst (v := nI 0) hx hb dX6_day_34 rfl ?_
  refine lv_istore_n (lv' := [(3, .int (nI 0)), (2, .int (nI 0)), (1, .int (nI (min 999 ((σ 1) + (σ 2))))), (0, .ref (b 0))]) hx hb dX6_day_35 rfl hl (by decide) rfl (fun ls hl => ?_)
  refine W_loop1 (I := fun (k : Nat) => k ≤ σ 5) (wd := fun (k : Nat) => [mO b ζ vv, (b 1, .inl (G.2.1, 46, .inl (nF ((eatenN σ k).1))))]) (lv := fun (k : Nat) => [(3, .int (nI k)), (2, .int (nI ((eatenN σ k).2))), (1, .int (nI (mornN σ 1))), (0, .ref (b 0))]) (μ := fun (k : Nat) => σ 5 - k) ?_ 0 (by omega) hP hD hS (lv_sub hl [0, 1, 2, 3] rfl)
  intro k H locs ls hI0 hP hD hS hl ih
  have hk : k ≤ σ 5 := hI0
  have hE := eaten_Inv hI k (by omega)
  obtain ⟨⟨j1, j2, j3, j4, j5⟩, jp⟩ := id hE
  obtain ⟨f0, f2, f4, f5, f1, f6⟩ := eaten_at σ k
  refine lv_iload_n hx hb dX6_day_36 rfl (lv_at hl 0 rfl) ?_
  refine lv_aload_n hx hb dX6_day_37 rfl (lv_at hl 3 rfl) ?_
  refine n_get (C := RX6) (T := TX6) (N := 18) hx hb hts (fun _ h => List.mem_cons_of_mem _ (List.mem_append_right _ h)) hown hK hP 0 rfl rfl 0 (by decide) (List.mem_of_getElem? (i := 1) rfl) rfl (.ref (b 1)) rfl dX6_day_38 ?_
  refine lv_iconst (v := nI 5) hx hb dX6_day_41 rfl ?_
  refine n_iald hx hb hK hP 1 (v := (nI (σ 5))) rfl (by omega) (by omega) (congrArg nI (eaten_at σ k).2.2.2.1) dX6_day_42 ?_
  refine n_icmp_ge hx hb (by omega) (by omega) (tgt := 60) dX6_day_43 (by decide) (fun c_1 => ?_) (fun c_1 => ?_)
  · have hk5 : k = σ 5 := by omega
    subst hk5
    refine lv_iload_n hx hb dX6_day_60 rfl (lv_at hl 2 rfl) ?_
    refine lv_aload_n hx hb dX6_day_61 rfl (lv_at hl 3 rfl) ?_
    refine n_get (C := RX6) (T := TX6) (N := 18) hx hb hts (fun _ h => List.mem_cons_of_mem _ (List.mem_append_right _ h)) hown hK hP 0 rfl rfl 0 (by decide) (List.mem_of_getElem? (i := 1) rfl) rfl (.ref (b 1)) rfl dX6_day_62 ?_
    refine lv_iconst (v := nI 1) hx hb dX6_day_65 rfl ?_
    refine n_iald hx hb hK hP 1 (v := (nI (((eatenN σ (σ 5)).1) 1))) rfl (by omega) (by omega) rfl dX6_day_66 ?_
    refine n_isub hx hb (by omega) dX6_day_67 ?_
    refine lv_istore_n (lv' := [(3, .int (nI ((mornN σ 1) - (((eatenN σ (σ 5)).1) 1)))), (2, .int (nI ((eatenN σ (σ 5)).2))), (1, .int (nI (mornN σ 1))), (0, .ref (b 0))]) hx hb dX6_day_68 rfl hl (by decide) rfl (fun ls hl => ?_)
    refine lv_iconst (v := nI 2) hx hb dX6_day_69 rfl ?_
    refine lv_iload_n hx hb dX6_day_70 rfl (lv_at hl 0 rfl) ?_
    refine n_imul hx hb dX6_day_71 ?_
    refine lv_iload_n hx hb dX6_day_72 rfl (lv_at hl 2 rfl) ?_
    refine n_icmp_le hx hb (by omega) (by omega) (tgt := 102) dX6_day_73 (by decide) (fun c_2 => ?_) (fun c_2 => ?_)
    · refine lv_iconst (v := nI 4) hx hb dX6_day_102 rfl ?_
      refine lv_iload_n hx hb dX6_day_103 rfl (lv_at hl 0 rfl) ?_
      refine n_imul hx hb dX6_day_104 ?_
      refine lv_iload_n hx hb dX6_day_105 rfl (lv_at hl 2 rfl) ?_
      refine n_icmp_ge hx hb (by omega) (by omega) (tgt := 128) dX6_day_106 (by decide) (fun c_3 => ?_) (fun c_3 => ?_)
      · refine lv_aload_n hx hb dX6_day_128 rfl (lv_at hl 3 rfl) ?_
        refine n_get (C := RX6) (T := TX6) (N := 18) hx hb hts (fun _ h => List.mem_cons_of_mem _ (List.mem_append_right _ h)) hown hK hP 0 rfl rfl 0 (by decide) (List.mem_of_getElem? (i := 1) rfl) rfl (.ref (b 1)) rfl dX6_day_129 ?_
        refine lv_iconst (v := nI 4) hx hb dX6_day_132 rfl ?_
        refine lv_sipush (v := nI 9999) hx hb dX6_day_133 rfl ?_
        refine lv_aload_n hx hb dX6_day_136 rfl (lv_at hl 3 rfl) ?_
        refine n_get (C := RX6) (T := TX6) (N := 18) hx hb hts (fun _ h => List.mem_cons_of_mem _ (List.mem_append_right _ h)) hown hK hP 0 rfl rfl 0 (by decide) (List.mem_of_getElem? (i := 1) rfl) rfl (.ref (b 1)) rfl dX6_day_137 ?_
        refine lv_iconst (v := nI 4) hx hb dX6_day_140 rfl ?_
        refine n_iald hx hb hK hP 1 (v := (nI (((eatenN σ (σ 5)).1) 4))) rfl (by omega) (by omega) rfl dX6_day_141 ?_
        refine lv_iload_n hx hb dX6_day_142 rfl (lv_at hl 1 rfl) ?_
        refine n_if_eq hx hb (by omega) (tgt := 150) dX6_day_143 (by decide) (fun c_4 => ?_) (fun c_4 => ?_)
        · refine lv_iconst (v := nI 0) hx hb dX6_day_150 rfl ?_
          refine n_iadd hx hb dX6_day_151 ?_
          refine callSI (rest := [.int (nI 4), .ref (b 1)]) (wn := fun u => [mO b ζ vv, (b 1, .inl (G.2.1, 46, .inl (nF ((eatenN σ (σ 5)).1))))]) ⟨hx, hb, hml, hown, hts⟩ (c_X6_less l G H.size 9999 ((((eatenN σ (σ 5)).1) 4) + 0) (by omega) (by omega)) (va_cwS 2 hts gX6_day_X6_less rfl rfl rfl (by decide +kernel) ⟨Nat.le_of_ble_eq_true rfl, Nat.le_of_ble_eq_true rfl⟩) noXB (fun _ _ _ => trivial) hK hP hD hS hAq rfl hl.1 rfl (Nat.le_of_ble_eq_true rfl) dX6_day_152 ⟨Nat.le_of_ble_eq_true rfl, Nat.le_of_ble_eq_true rfl⟩ [] rfl rfl [] rfl (fun _ => rfl) (fun _ => rfl) (fun u H locs hok hP hD hS => ?_)
          refine n_iast hx hb hK hP hD hS 1 (wn := [mO b ζ vv, (b 1, .inl (G.2.1, 46, .inl (nF (un ((eatenN σ (σ 5)).1) 4 (min 9999 ((((eatenN σ (σ 5)).1) 4) + 0))))))]) rfl (by omega) (by omega) (by rw [nF_un]; rfl) dX6_day_155 (fun H locs hP hD hS => ?_)
          refine lv_aload_n hx hb dX6_day_156 rfl (lv_at hl 3 rfl) ?_
          refine n_get (C := RX6) (T := TX6) (N := 18) hx hb hts (fun _ h => List.mem_cons_of_mem _ (List.mem_append_right _ h)) hown hK hP 0 rfl rfl 0 (by decide) (List.mem_of_getElem? (i := 1) rfl) rfl (.ref (b 1)) rfl dX6_day_157 ?_
          refine lv_iconst (v := nI 0) hx hb dX6_day_160 rfl ?_
          refine lv_dup2_11 hx hb dX6_day_161 rfl rfl ?_
          refine n_iald hx hb hK hP 1 (v := (nI (((eatenN σ (σ 5)).1) 0))) rfl (by omega) (by omega) (congrArg nI (un_n (by decide))) dX6_day_162 ?_
          refine lv_iconst (v := nI 1) hx hb dX6_day_163 rfl ?_
          refine n_iadd hx hb dX6_day_164 ?_
          refine n_iast hx hb hK hP hD hS 1 (wn := [mO b ζ vv, (b 1, .inl (G.2.1, 46, .inl (nF (un (un ((eatenN σ (σ 5)).1) 4 (min 9999 ((((eatenN σ (σ 5)).1) 4) + 0))) 0 ((((eatenN σ (σ 5)).1) 0) + 1)))))]) rfl (by omega) (by omega) (by rw [nF_un]; rfl) dX6_day_165 (fun H locs hP hD hS => ?_)
          have eh : (eatenN σ (σ 5)).2 = 0 := by omega
          have el : laidN ((eatenN σ (σ 5)).1 2) (mornN σ 1) (mornN σ 1 - (eatenN σ (σ 5)).1 1) = (eatenN σ (σ 5)).1 2 := by unfold laidN; (repeat' split) <;> omega
          exact fin_v hx hb hr hlk hS hP hD () trivial (by rw [show dayN σ = un (un ((eatenN σ (σ 5)).1) 4 (min 9999 ((((eatenN σ (σ 5)).1) 4) + 0))) 0 ((((eatenN σ (σ 5)).1) 0) + 1) from by refine Eq.trans ?_ (congrArg (fun q => un (un q 4 _) 0 _) (un_id _ 2)); exact day_mk eh el]; exact eqW.rf _) dX6_day_166
        · refine lv_iconst (v := nI 1) hx hb dX6_day_146 rfl ?_
          refine lv_goto (tgt := 151) hx hb dX6_day_147 (by decide) ?_
          refine n_iadd hx hb dX6_day_151 ?_
          refine callSI (rest := [.int (nI 4), .ref (b 1)]) (wn := fun u => [mO b ζ vv, (b 1, .inl (G.2.1, 46, .inl (nF ((eatenN σ (σ 5)).1))))]) ⟨hx, hb, hml, hown, hts⟩ (c_X6_less l G H.size 9999 ((((eatenN σ (σ 5)).1) 4) + 1) (by omega) (by omega)) (va_cwS 2 hts gX6_day_X6_less rfl rfl rfl (by decide +kernel) ⟨Nat.le_of_ble_eq_true rfl, Nat.le_of_ble_eq_true rfl⟩) noXB (fun _ _ _ => trivial) hK hP hD hS hAq rfl hl.1 rfl (Nat.le_of_ble_eq_true rfl) dX6_day_152 ⟨Nat.le_of_ble_eq_true rfl, Nat.le_of_ble_eq_true rfl⟩ [] rfl rfl [] rfl (fun _ => rfl) (fun _ => rfl) (fun u H locs hok hP hD hS => ?_)
          refine n_iast hx hb hK hP hD hS 1 (wn := [mO b ζ vv, (b 1, .inl (G.2.1, 46, .inl (nF (un ((eatenN σ (σ 5)).1) 4 (min 9999 ((((eatenN σ (σ 5)).1) 4) + 1))))))]) rfl (by omega) (by omega) (by rw [nF_un]; rfl) dX6_day_155 (fun H locs hP hD hS => ?_)
          refine lv_aload_n hx hb dX6_day_156 rfl (lv_at hl 3 rfl) ?_
          refine n_get (C := RX6) (T := TX6) (N := 18) hx hb hts (fun _ h => List.mem_cons_of_mem _ (List.mem_append_right _ h)) hown hK hP 0 rfl rfl 0 (by decide) (List.mem_of_getElem? (i := 1) rfl) rfl (.ref (b 1)) rfl dX6_day_157 ?_
          refine lv_iconst (v := nI 0) hx hb dX6_day_160 rfl ?_
          refine lv_dup2_11 hx hb dX6_day_161 rfl rfl ?_
          refine n_iald hx hb hK hP 1 (v := (nI (((eatenN σ (σ 5)).1) 0))) rfl (by omega) (by omega) (congrArg nI (un_n (by decide))) dX6_day_162 ?_
          refine lv_iconst (v := nI 1) hx hb dX6_day_163 rfl ?_
          refine n_iadd hx hb dX6_day_164 ?_
          refine n_iast hx hb hK hP hD hS 1 (wn := [mO b ζ vv, (b 1, .inl (G.2.1, 46, .inl (nF (un (un ((eatenN σ (σ 5)).1) 4 (min 9999 ((((eatenN σ (σ 5)).1) 4) + 1))) 0 ((((eatenN σ (σ 5)).1) 0) + 1)))))]) rfl (by omega) (by omega) (by rw [nF_un]; rfl) dX6_day_165 (fun H locs hP hD hS => ?_)
          have eh : (eatenN σ (σ 5)).2 = 1 := by omega
          have el : laidN ((eatenN σ (σ 5)).1 2) (mornN σ 1) (mornN σ 1 - (eatenN σ (σ 5)).1 1) = (eatenN σ (σ 5)).1 2 := by unfold laidN; (repeat' split) <;> omega
          exact fin_v hx hb hr hlk hS hP hD () trivial (by rw [show dayN σ = un (un ((eatenN σ (σ 5)).1) 4 (min 9999 ((((eatenN σ (σ 5)).1) 4) + 1))) 0 ((((eatenN σ (σ 5)).1) 0) + 1) from by refine Eq.trans ?_ (congrArg (fun q => un (un q 4 _) 0 _) (un_id _ 2)); exact day_mk eh el]; exact eqW.rf _) dX6_day_166
      · refine lv_aload_n hx hb dX6_day_109 rfl (lv_at hl 3 rfl) ?_
        refine n_get (C := RX6) (T := TX6) (N := 18) hx hb hts (fun _ h => List.mem_cons_of_mem _ (List.mem_append_right _ h)) hown hK hP 0 rfl rfl 0 (by decide) (List.mem_of_getElem? (i := 1) rfl) rfl (.ref (b 1)) rfl dX6_day_110 ?_
        refine lv_iconst (v := nI 2) hx hb dX6_day_113 rfl ?_
        refine lv_bipush (v := nI 99) hx hb dX6_day_114 rfl ?_
        refine lv_aload_n hx hb dX6_day_116 rfl (lv_at hl 3 rfl) ?_
        refine n_get (C := RX6) (T := TX6) (N := 18) hx hb hts (fun _ h => List.mem_cons_of_mem _ (List.mem_append_right _ h)) hown hK hP 0 rfl rfl 0 (by decide) (List.mem_of_getElem? (i := 1) rfl) rfl (.ref (b 1)) rfl dX6_day_117 ?_
        refine lv_iconst (v := nI 2) hx hb dX6_day_120 rfl ?_
        refine n_iald hx hb hK hP 1 (v := (nI (((eatenN σ (σ 5)).1) 2))) rfl (by omega) (by omega) rfl dX6_day_121 ?_
        refine lv_iconst (v := nI 1) hx hb dX6_day_122 rfl ?_
        refine n_iadd hx hb dX6_day_123 ?_
        refine callSI (rest := [.int (nI 2), .ref (b 1)]) (wn := fun u => [mO b ζ vv, (b 1, .inl (G.2.1, 46, .inl (nF ((eatenN σ (σ 5)).1))))]) ⟨hx, hb, hml, hown, hts⟩ (c_X6_less l G H.size 99 ((((eatenN σ (σ 5)).1) 2) + 1) (by omega) (by omega)) (va_cwS 2 hts gX6_day_X6_less rfl rfl rfl (by decide +kernel) ⟨Nat.le_of_ble_eq_true rfl, Nat.le_of_ble_eq_true rfl⟩) noXB (fun _ _ _ => trivial) hK hP hD hS hAq rfl hl.1 rfl (Nat.le_of_ble_eq_true rfl) dX6_day_124 ⟨Nat.le_of_ble_eq_true rfl, Nat.le_of_ble_eq_true rfl⟩ [] rfl rfl [] rfl (fun _ => rfl) (fun _ => rfl) (fun u H locs hok hP hD hS => ?_)
        refine n_iast hx hb hK hP hD hS 1 (wn := [mO b ζ vv, (b 1, .inl (G.2.1, 46, .inl (nF (un ((eatenN σ (σ 5)).1) 2 (min 99 ((((eatenN σ (σ 5)).1) 2) + 1))))))]) rfl (by omega) (by omega) (by rw [nF_un]; rfl) dX6_day_127 (fun H locs hP hD hS => ?_)
        refine lv_aload_n hx hb dX6_day_128 rfl (lv_at hl 3 rfl) ?_
        refine n_get (C := RX6) (T := TX6) (N := 18) hx hb hts (fun _ h => List.mem_cons_of_mem _ (List.mem_append_right _ h)) hown hK hP 0 rfl rfl 0 (by decide) (List.mem_of_getElem? (i := 1) rfl) rfl (.ref (b 1)) rfl dX6_day_129 ?_
        refine lv_iconst (v := nI 4) hx hb dX6_day_132 rfl ?_
        refine lv_sipush (v := nI 9999) hx hb dX6_day_133 rfl ?_
        refine lv_aload_n hx hb dX6_day_136 rfl (lv_at hl 3 rfl) ?_
        refine n_get (C := RX6) (T := TX6) (N := 18) hx hb hts (fun _ h => List.mem_cons_of_mem _ (List.mem_append_right _ h)) hown hK hP 0 rfl rfl 0 (by decide) (List.mem_of_getElem? (i := 1) rfl) rfl (.ref (b 1)) rfl dX6_day_137 ?_
        refine lv_iconst (v := nI 4) hx hb dX6_day_140 rfl ?_
        refine n_iald hx hb hK hP 1 (v := (nI (((eatenN σ (σ 5)).1) 4))) rfl (by omega) (by omega) (congrArg nI (un_n (by decide))) dX6_day_141 ?_
        refine lv_iload_n hx hb dX6_day_142 rfl (lv_at hl 1 rfl) ?_
        refine n_if_eq hx hb (by omega) (tgt := 150) dX6_day_143 (by decide) (fun c_5 => ?_) (fun c_5 => ?_)
        · refine lv_iconst (v := nI 0) hx hb dX6_day_150 rfl ?_
          refine n_iadd hx hb dX6_day_151 ?_
          refine callSI (rest := [.int (nI 4), .ref (b 1)]) (wn := fun u => [mO b ζ vv, (b 1, .inl (G.2.1, 46, .inl (nF (un ((eatenN σ (σ 5)).1) 2 (min 99 ((((eatenN σ (σ 5)).1) 2) + 1))))))]) ⟨hx, hb, hml, hown, hts⟩ (c_X6_less l G H.size 9999 ((((eatenN σ (σ 5)).1) 4) + 0) (by omega) (by omega)) (va_cwS 2 hts gX6_day_X6_less rfl rfl rfl (by decide +kernel) ⟨Nat.le_of_ble_eq_true rfl, Nat.le_of_ble_eq_true rfl⟩) noXB (fun _ _ _ => trivial) hK hP hD hS hAq rfl hl.1 rfl (Nat.le_of_ble_eq_true rfl) dX6_day_152 ⟨Nat.le_of_ble_eq_true rfl, Nat.le_of_ble_eq_true rfl⟩ [] rfl rfl [] rfl (fun _ => rfl) (fun _ => rfl) (fun u H locs hok hP hD hS => ?_)
          refine n_iast hx hb hK hP hD hS 1 (wn := [mO b ζ vv, (b 1, .inl (G.2.1, 46, .inl (nF (un (un ((eatenN σ (σ 5)).1) 2 (min 99 ((((eatenN σ (σ 5)).1) 2) + 1))) 4 (min 9999 ((((eatenN σ (σ 5)).1) 4) + 0))))))]) rfl (by omega) (by omega) (by rw [nF_un]; rfl) dX6_day_155 (fun H locs hP hD hS => ?_)
          refine lv_aload_n hx hb dX6_day_156 rfl (lv_at hl 3 rfl) ?_
          refine n_get (C := RX6) (T := TX6) (N := 18) hx hb hts (fun _ h => List.mem_cons_of_mem _ (List.mem_append_right _ h)) hown hK hP 0 rfl rfl 0 (by decide) (List.mem_of_getElem? (i := 1) rfl) rfl (.ref (b 1)) rfl dX6_day_157 ?_
          refine lv_iconst (v := nI 0) hx hb dX6_day_160 rfl ?_
          refine lv_dup2_11 hx hb dX6_day_161 rfl rfl ?_
          refine n_iald hx hb hK hP 1 (v := (nI (((eatenN σ (σ 5)).1) 0))) rfl (by omega) (by omega) (congrArg nI (Eq.trans (un_n (by decide)) (un_n (by decide)))) dX6_day_162 ?_
          refine lv_iconst (v := nI 1) hx hb dX6_day_163 rfl ?_
          refine n_iadd hx hb dX6_day_164 ?_
          refine n_iast hx hb hK hP hD hS 1 (wn := [mO b ζ vv, (b 1, .inl (G.2.1, 46, .inl (nF (un (un (un ((eatenN σ (σ 5)).1) 2 (min 99 ((((eatenN σ (σ 5)).1) 2) + 1))) 4 (min 9999 ((((eatenN σ (σ 5)).1) 4) + 0))) 0 ((((eatenN σ (σ 5)).1) 0) + 1)))))]) rfl (by omega) (by omega) (by rw [nF_un]; rfl) dX6_day_165 (fun H locs hP hD hS => ?_)
          have eh : (eatenN σ (σ 5)).2 = 0 := by omega
          have el : laidN ((eatenN σ (σ 5)).1 2) (mornN σ 1) (mornN σ 1 - (eatenN σ (σ 5)).1 1) = min 99 ((((eatenN σ (σ 5)).1) 2) + 1) := by unfold laidN; (repeat' split) <;> omega
          exact fin_v hx hb hr hlk hS hP hD () trivial (by rw [show dayN σ = un (un (un ((eatenN σ (σ 5)).1) 2 (min 99 ((((eatenN σ (σ 5)).1) 2) + 1))) 4 (min 9999 ((((eatenN σ (σ 5)).1) 4) + 0))) 0 ((((eatenN σ (σ 5)).1) 0) + 1) from by exact day_mk eh el]; exact eqW.rf _) dX6_day_166
        · refine lv_iconst (v := nI 1) hx hb dX6_day_146 rfl ?_
          refine lv_goto (tgt := 151) hx hb dX6_day_147 (by decide) ?_
          refine n_iadd hx hb dX6_day_151 ?_
          refine callSI (rest := [.int (nI 4), .ref (b 1)]) (wn := fun u => [mO b ζ vv, (b 1, .inl (G.2.1, 46, .inl (nF (un ((eatenN σ (σ 5)).1) 2 (min 99 ((((eatenN σ (σ 5)).1) 2) + 1))))))]) ⟨hx, hb, hml, hown, hts⟩ (c_X6_less l G H.size 9999 ((((eatenN σ (σ 5)).1) 4) + 1) (by omega) (by omega)) (va_cwS 2 hts gX6_day_X6_less rfl rfl rfl (by decide +kernel) ⟨Nat.le_of_ble_eq_true rfl, Nat.le_of_ble_eq_true rfl⟩) noXB (fun _ _ _ => trivial) hK hP hD hS hAq rfl hl.1 rfl (Nat.le_of_ble_eq_true rfl) dX6_day_152 ⟨Nat.le_of_ble_eq_true rfl, Nat.le_of_ble_eq_true rfl⟩ [] rfl rfl [] rfl (fun _ => rfl) (fun _ => rfl) (fun u H locs hok hP hD hS => ?_)
          refine n_iast hx hb hK hP hD hS 1 (wn := [mO b ζ vv, (b 1, .inl (G.2.1, 46, .inl (nF (un (un ((eatenN σ (σ 5)).1) 2 (min 99 ((((eatenN σ (σ 5)).1) 2) + 1))) 4 (min 9999 ((((eatenN σ (σ 5)).1) 4) + 1))))))]) rfl (by omega) (by omega) (by rw [nF_un]; rfl) dX6_day_155 (fun H locs hP hD hS => ?_)
          refine lv_aload_n hx hb dX6_day_156 rfl (lv_at hl 3 rfl) ?_
          refine n_get (C := RX6) (T := TX6) (N := 18) hx hb hts (fun _ h => List.mem_cons_of_mem _ (List.mem_append_right _ h)) hown hK hP 0 rfl rfl 0 (by decide) (List.mem_of_getElem? (i := 1) rfl) rfl (.ref (b 1)) rfl dX6_day_157 ?_
          refine lv_iconst (v := nI 0) hx hb dX6_day_160 rfl ?_
          refine lv_dup2_11 hx hb dX6_day_161 rfl rfl ?_
          refine n_iald hx hb hK hP 1 (v := (nI (((eatenN σ (σ 5)).1) 0))) rfl (by omega) (by omega) (congrArg nI (Eq.trans (un_n (by decide)) (un_n (by decide)))) dX6_day_162 ?_
          refine lv_iconst (v := nI 1) hx hb dX6_day_163 rfl ?_
          refine n_iadd hx hb dX6_day_164 ?_
          refine n_iast hx hb hK hP hD hS 1 (wn := [mO b ζ vv, (b 1, .inl (G.2.1, 46, .inl (nF (un (un (un ((eatenN σ (σ 5)).1) 2 (min 99 ((((eatenN σ (σ 5)).1) 2) + 1))) 4 (min 9999 ((((eatenN σ (σ 5)).1) 4) + 1))) 0 ((((eatenN σ (σ 5)).1) 0) + 1)))))]) rfl (by omega) (by omega) (by rw [nF_un]; rfl) dX6_day_165 (fun H locs hP hD hS => ?_)
          have eh : (eatenN σ (σ 5)).2 = 1 := by omega
          have el : laidN ((eatenN σ (σ 5)).1 2) (mornN σ 1) (mornN σ 1 - (eatenN σ (σ 5)).1 1) = min 99 ((((eatenN σ (σ 5)).1) 2) + 1) := by unfold laidN; (repeat' split) <;> omega
          exact fin_v hx hb hr hlk hS hP hD () trivial (by rw [show dayN σ = un (un (un ((eatenN σ (σ 5)).1) 2 (min 99 ((((eatenN σ (σ 5)).1) 2) + 1))) 4 (min 9999 ((((eatenN σ (σ 5)).1) 4) + 1))) 0 ((((eatenN σ (σ 5)).1) 0) + 1) from by exact day_mk eh el]; exact eqW.rf _) dX6_day_166
    · refine lv_aload_n hx hb dX6_day_76 rfl (lv_at hl 3 rfl) ?_
      refine n_get (C := RX6) (T := TX6) (N := 18) hx hb hts (fun _ h => List.mem_cons_of_mem _ (List.mem_append_right _ h)) hown hK hP 0 rfl rfl 0 (by decide) (List.mem_of_getElem? (i := 1) rfl) rfl (.ref (b 1)) rfl dX6_day_77 ?_
      refine lv_iconst (v := nI 2) hx hb dX6_day_80 rfl ?_
      refine lv_dup2_11 hx hb dX6_day_81 rfl rfl ?_
      refine n_iald hx hb hK hP 1 (v := (nI (((eatenN σ (σ 5)).1) 2))) rfl (by omega) (by omega) rfl dX6_day_82 ?_
      refine lv_aload_n hx hb dX6_day_83 rfl (lv_at hl 3 rfl) ?_
      refine n_get (C := RX6) (T := TX6) (N := 18) hx hb hts (fun _ h => List.mem_cons_of_mem _ (List.mem_append_right _ h)) hown hK hP 0 rfl rfl 0 (by decide) (List.mem_of_getElem? (i := 1) rfl) rfl (.ref (b 1)) rfl dX6_day_84 ?_
      refine lv_iconst (v := nI 2) hx hb dX6_day_87 rfl ?_
      refine n_iald hx hb hK hP 1 (v := (nI (((eatenN σ (σ 5)).1) 2))) rfl (by omega) (by omega) rfl dX6_day_88 ?_
      refine n_if_le hx hb (by omega) (tgt := 96) dX6_day_89 (by decide) (fun c_6 => ?_) (fun c_6 => ?_)
      · refine lv_iconst (v := nI 0) hx hb dX6_day_96 rfl ?_
        refine n_isub hx hb (by omega) dX6_day_97 ?_
        refine n_iast hx hb hK hP hD hS 1 (wn := [mO b ζ vv, (b 1, .inl (G.2.1, 46, .inl (nF (un ((eatenN σ (σ 5)).1) 2 ((((eatenN σ (σ 5)).1) 2) - 0)))))]) rfl (by omega) (by omega) (by rw [nF_un]; rfl) dX6_day_98 (fun H locs hP hD hS => ?_)
        refine lv_goto (tgt := 128) hx hb dX6_day_99 (by decide) ?_
        refine lv_aload_n hx hb dX6_day_128 rfl (lv_at hl 3 rfl) ?_
        refine n_get (C := RX6) (T := TX6) (N := 18) hx hb hts (fun _ h => List.mem_cons_of_mem _ (List.mem_append_right _ h)) hown hK hP 0 rfl rfl 0 (by decide) (List.mem_of_getElem? (i := 1) rfl) rfl (.ref (b 1)) rfl dX6_day_129 ?_
        refine lv_iconst (v := nI 4) hx hb dX6_day_132 rfl ?_
        refine lv_sipush (v := nI 9999) hx hb dX6_day_133 rfl ?_
        refine lv_aload_n hx hb dX6_day_136 rfl (lv_at hl 3 rfl) ?_
        refine n_get (C := RX6) (T := TX6) (N := 18) hx hb hts (fun _ h => List.mem_cons_of_mem _ (List.mem_append_right _ h)) hown hK hP 0 rfl rfl 0 (by decide) (List.mem_of_getElem? (i := 1) rfl) rfl (.ref (b 1)) rfl dX6_day_137 ?_
        refine lv_iconst (v := nI 4) hx hb dX6_day_140 rfl ?_
        refine n_iald hx hb hK hP 1 (v := (nI (((eatenN σ (σ 5)).1) 4))) rfl (by omega) (by omega) (congrArg nI (un_n (by decide))) dX6_day_141 ?_
        refine lv_iload_n hx hb dX6_day_142 rfl (lv_at hl 1 rfl) ?_
        refine n_if_eq hx hb (by omega) (tgt := 150) dX6_day_143 (by decide) (fun c_7 => ?_) (fun c_7 => ?_)
        · refine lv_iconst (v := nI 0) hx hb dX6_day_150 rfl ?_
          refine n_iadd hx hb dX6_day_151 ?_
          refine callSI (rest := [.int (nI 4), .ref (b 1)]) (wn := fun u => [mO b ζ vv, (b 1, .inl (G.2.1, 46, .inl (nF (un ((eatenN σ (σ 5)).1) 2 ((((eatenN σ (σ 5)).1) 2) - 0)))))]) ⟨hx, hb, hml, hown, hts⟩ (c_X6_less l G H.size 9999 ((((eatenN σ (σ 5)).1) 4) + 0) (by omega) (by omega)) (va_cwS 2 hts gX6_day_X6_less rfl rfl rfl (by decide +kernel) ⟨Nat.le_of_ble_eq_true rfl, Nat.le_of_ble_eq_true rfl⟩) noXB (fun _ _ _ => trivial) hK hP hD hS hAq rfl hl.1 rfl (Nat.le_of_ble_eq_true rfl) dX6_day_152 ⟨Nat.le_of_ble_eq_true rfl, Nat.le_of_ble_eq_true rfl⟩ [] rfl rfl [] rfl (fun _ => rfl) (fun _ => rfl) (fun u H locs hok hP hD hS => ?_)
          refine n_iast hx hb hK hP hD hS 1 (wn := [mO b ζ vv, (b 1, .inl (G.2.1, 46, .inl (nF (un (un ((eatenN σ (σ 5)).1) 2 ((((eatenN σ (σ 5)).1) 2) - 0)) 4 (min 9999 ((((eatenN σ (σ 5)).1) 4) + 0))))))]) rfl (by omega) (by omega) (by rw [nF_un]; rfl) dX6_day_155 (fun H locs hP hD hS => ?_)
          refine lv_aload_n hx hb dX6_day_156 rfl (lv_at hl 3 rfl) ?_
          refine n_get (C := RX6) (T := TX6) (N := 18) hx hb hts (fun _ h => List.mem_cons_of_mem _ (List.mem_append_right _ h)) hown hK hP 0 rfl rfl 0 (by decide) (List.mem_of_getElem? (i := 1) rfl) rfl (.ref (b 1)) rfl dX6_day_157 ?_
          refine lv_iconst (v := nI 0) hx hb dX6_day_160 rfl ?_
          refine lv_dup2_11 hx hb dX6_day_161 rfl rfl ?_
          refine n_iald hx hb hK hP 1 (v := (nI (((eatenN σ (σ 5)).1) 0))) rfl (by omega) (by omega) (congrArg nI (Eq.trans (un_n (by decide)) (un_n (by decide)))) dX6_day_162 ?_
          refine lv_iconst (v := nI 1) hx hb dX6_day_163 rfl ?_
          refine n_iadd hx hb dX6_day_164 ?_
          refine n_iast hx hb hK hP hD hS 1 (wn := [mO b ζ vv, (b 1, .inl (G.2.1, 46, .inl (nF (un (un (un ((eatenN σ (σ 5)).1) 2 ((((eatenN σ (σ 5)).1) 2) - 0)) 4 (min 9999 ((((eatenN σ (σ 5)).1) 4) + 0))) 0 ((((eatenN σ (σ 5)).1) 0) + 1)))))]) rfl (by omega) (by omega) (by rw [nF_un]; rfl) dX6_day_165 (fun H locs hP hD hS => ?_)
          have eh : (eatenN σ (σ 5)).2 = 0 := by omega
          have el : laidN ((eatenN σ (σ 5)).1 2) (mornN σ 1) (mornN σ 1 - (eatenN σ (σ 5)).1 1) = (((eatenN σ (σ 5)).1) 2) - 0 := by unfold laidN; (repeat' split) <;> omega
          exact fin_v hx hb hr hlk hS hP hD () trivial (by rw [show dayN σ = un (un (un ((eatenN σ (σ 5)).1) 2 ((((eatenN σ (σ 5)).1) 2) - 0)) 4 (min 9999 ((((eatenN σ (σ 5)).1) 4) + 0))) 0 ((((eatenN σ (σ 5)).1) 0) + 1) from by exact day_mk eh el]; exact eqW.rf _) dX6_day_166
        · refine lv_iconst (v := nI 1) hx hb dX6_day_146 rfl ?_
          refine lv_goto (tgt := 151) hx hb dX6_day_147 (by decide) ?_
          refine n_iadd hx hb dX6_day_151 ?_
          refine callSI (rest := [.int (nI 4), .ref (b 1)]) (wn := fun u => [mO b ζ vv, (b 1, .inl (G.2.1, 46, .inl (nF (un ((eatenN σ (σ 5)).1) 2 ((((eatenN σ (σ 5)).1) 2) - 0)))))]) ⟨hx, hb, hml, hown, hts⟩ (c_X6_less l G H.size 9999 ((((eatenN σ (σ 5)).1) 4) + 1) (by omega) (by omega)) (va_cwS 2 hts gX6_day_X6_less rfl rfl rfl (by decide +kernel) ⟨Nat.le_of_ble_eq_true rfl, Nat.le_of_ble_eq_true rfl⟩) noXB (fun _ _ _ => trivial) hK hP hD hS hAq rfl hl.1 rfl (Nat.le_of_ble_eq_true rfl) dX6_day_152 ⟨Nat.le_of_ble_eq_true rfl, Nat.le_of_ble_eq_true rfl⟩ [] rfl rfl [] rfl (fun _ => rfl) (fun _ => rfl) (fun u H locs hok hP hD hS => ?_)
          refine n_iast hx hb hK hP hD hS 1 (wn := [mO b ζ vv, (b 1, .inl (G.2.1, 46, .inl (nF (un (un ((eatenN σ (σ 5)).1) 2 ((((eatenN σ (σ 5)).1) 2) - 0)) 4 (min 9999 ((((eatenN σ (σ 5)).1) 4) + 1))))))]) rfl (by omega) (by omega) (by rw [nF_un]; rfl) dX6_day_155 (fun H locs hP hD hS => ?_)
          refine lv_aload_n hx hb dX6_day_156 rfl (lv_at hl 3 rfl) ?_
          refine n_get (C := RX6) (T := TX6) (N := 18) hx hb hts (fun _ h => List.mem_cons_of_mem _ (List.mem_append_right _ h)) hown hK hP 0 rfl rfl 0 (by decide) (List.mem_of_getElem? (i := 1) rfl) rfl (.ref (b 1)) rfl dX6_day_157 ?_
          refine lv_iconst (v := nI 0) hx hb dX6_day_160 rfl ?_
          refine lv_dup2_11 hx hb dX6_day_161 rfl rfl ?_
          refine n_iald hx hb hK hP 1 (v := (nI (((eatenN σ (σ 5)).1) 0))) rfl (by omega) (by omega) (congrArg nI (Eq.trans (un_n (by decide)) (un_n (by decide)))) dX6_day_162 ?_
          refine lv_iconst (v := nI 1) hx hb dX6_day_163 rfl ?_
          refine n_iadd hx hb dX6_day_164 ?_
          refine n_iast hx hb hK hP hD hS 1 (wn := [mO b ζ vv, (b 1, .inl (G.2.1, 46, .inl (nF (un (un (un ((eatenN σ (σ 5)).1) 2 ((((eatenN σ (σ 5)).1) 2) - 0)) 4 (min 9999 ((((eatenN σ (σ 5)).1) 4) + 1))) 0 ((((eatenN σ (σ 5)).1) 0) + 1)))))]) rfl (by omega) (by omega) (by rw [nF_un]; rfl) dX6_day_165 (fun H locs hP hD hS => ?_)
          have eh : (eatenN σ (σ 5)).2 = 1 := by omega
          have el : laidN ((eatenN σ (σ 5)).1 2) (mornN σ 1) (mornN σ 1 - (eatenN σ (σ 5)).1 1) = (((eatenN σ (σ 5)).1) 2) - 0 := by unfold laidN; (repeat' split) <;> omega
          exact fin_v hx hb hr hlk hS hP hD () trivial (by rw [show dayN σ = un (un (un ((eatenN σ (σ 5)).1) 2 ((((eatenN σ (σ 5)).1) 2) - 0)) 4 (min 9999 ((((eatenN σ (σ 5)).1) 4) + 1))) 0 ((((eatenN σ (σ 5)).1) 0) + 1) from by exact day_mk eh el]; exact eqW.rf _) dX6_day_166
      · refine lv_iconst (v := nI 1) hx hb dX6_day_92 rfl ?_
        refine lv_goto (tgt := 97) hx hb dX6_day_93 (by decide) ?_
        refine n_isub hx hb (by omega) dX6_day_97 ?_
        refine n_iast hx hb hK hP hD hS 1 (wn := [mO b ζ vv, (b 1, .inl (G.2.1, 46, .inl (nF (un ((eatenN σ (σ 5)).1) 2 ((((eatenN σ (σ 5)).1) 2) - 1)))))]) rfl (by omega) (by omega) (by rw [nF_un]; rfl) dX6_day_98 (fun H locs hP hD hS => ?_)
        refine lv_goto (tgt := 128) hx hb dX6_day_99 (by decide) ?_
        refine lv_aload_n hx hb dX6_day_128 rfl (lv_at hl 3 rfl) ?_
        refine n_get (C := RX6) (T := TX6) (N := 18) hx hb hts (fun _ h => List.mem_cons_of_mem _ (List.mem_append_right _ h)) hown hK hP 0 rfl rfl 0 (by decide) (List.mem_of_getElem? (i := 1) rfl) rfl (.ref (b 1)) rfl dX6_day_129 ?_
        refine lv_iconst (v := nI 4) hx hb dX6_day_132 rfl ?_
        refine lv_sipush (v := nI 9999) hx hb dX6_day_133 rfl ?_
        refine lv_aload_n hx hb dX6_day_136 rfl (lv_at hl 3 rfl) ?_
        refine n_get (C := RX6) (T := TX6) (N := 18) hx hb hts (fun _ h => List.mem_cons_of_mem _ (List.mem_append_right _ h)) hown hK hP 0 rfl rfl 0 (by decide) (List.mem_of_getElem? (i := 1) rfl) rfl (.ref (b 1)) rfl dX6_day_137 ?_
        refine lv_iconst (v := nI 4) hx hb dX6_day_140 rfl ?_
        refine n_iald hx hb hK hP 1 (v := (nI (((eatenN σ (σ 5)).1) 4))) rfl (by omega) (by omega) (congrArg nI (un_n (by decide))) dX6_day_141 ?_
        refine lv_iload_n hx hb dX6_day_142 rfl (lv_at hl 1 rfl) ?_
        refine n_if_eq hx hb (by omega) (tgt := 150) dX6_day_143 (by decide) (fun c_8 => ?_) (fun c_8 => ?_)
        · refine lv_iconst (v := nI 0) hx hb dX6_day_150 rfl ?_
          refine n_iadd hx hb dX6_day_151 ?_
          refine callSI (rest := [.int (nI 4), .ref (b 1)]) (wn := fun u => [mO b ζ vv, (b 1, .inl (G.2.1, 46, .inl (nF (un ((eatenN σ (σ 5)).1) 2 ((((eatenN σ (σ 5)).1) 2) - 1)))))]) ⟨hx, hb, hml, hown, hts⟩ (c_X6_less l G H.size 9999 ((((eatenN σ (σ 5)).1) 4) + 0) (by omega) (by omega)) (va_cwS 2 hts gX6_day_X6_less rfl rfl rfl (by decide +kernel) ⟨Nat.le_of_ble_eq_true rfl, Nat.le_of_ble_eq_true rfl⟩) noXB (fun _ _ _ => trivial) hK hP hD hS hAq rfl hl.1 rfl (Nat.le_of_ble_eq_true rfl) dX6_day_152 ⟨Nat.le_of_ble_eq_true rfl, Nat.le_of_ble_eq_true rfl⟩ [] rfl rfl [] rfl (fun _ => rfl) (fun _ => rfl) (fun u H locs hok hP hD hS => ?_)
          refine n_iast hx hb hK hP hD hS 1 (wn := [mO b ζ vv, (b 1, .inl (G.2.1, 46, .inl (nF (un (un ((eatenN σ (σ 5)).1) 2 ((((eatenN σ (σ 5)).1) 2) - 1)) 4 (min 9999 ((((eatenN σ (σ 5)).1) 4) + 0))))))]) rfl (by omega) (by omega) (by rw [nF_un]; rfl) dX6_day_155 (fun H locs hP hD hS => ?_)
          refine lv_aload_n hx hb dX6_day_156 rfl (lv_at hl 3 rfl) ?_
          refine n_get (C := RX6) (T := TX6) (N := 18) hx hb hts (fun _ h => List.mem_cons_of_mem _ (List.mem_append_right _ h)) hown hK hP 0 rfl rfl 0 (by decide) (List.mem_of_getElem? (i := 1) rfl) rfl (.ref (b 1)) rfl dX6_day_157 ?_
          refine lv_iconst (v := nI 0) hx hb dX6_day_160 rfl ?_
          refine lv_dup2_11 hx hb dX6_day_161 rfl rfl ?_
          refine n_iald hx hb hK hP 1 (v := (nI (((eatenN σ (σ 5)).1) 0))) rfl (by omega) (by omega) (congrArg nI (Eq.trans (un_n (by decide)) (un_n (by decide)))) dX6_day_162 ?_
          refine lv_iconst (v := nI 1) hx hb dX6_day_163 rfl ?_
          refine n_iadd hx hb dX6_day_164 ?_
          refine n_iast hx hb hK hP hD hS 1 (wn := [mO b ζ vv, (b 1, .inl (G.2.1, 46, .inl (nF (un (un (un ((eatenN σ (σ 5)).1) 2 ((((eatenN σ (σ 5)).1) 2) - 1)) 4 (min 9999 ((((eatenN σ (σ 5)).1) 4) + 0))) 0 ((((eatenN σ (σ 5)).1) 0) + 1)))))]) rfl (by omega) (by omega) (by rw [nF_un]; rfl) dX6_day_165 (fun H locs hP hD hS => ?_)
          have eh : (eatenN σ (σ 5)).2 = 0 := by omega
          have el : laidN ((eatenN σ (σ 5)).1 2) (mornN σ 1) (mornN σ 1 - (eatenN σ (σ 5)).1 1) = (((eatenN σ (σ 5)).1) 2) - 1 := by unfold laidN; (repeat' split) <;> omega
          exact fin_v hx hb hr hlk hS hP hD () trivial (by rw [show dayN σ = un (un (un ((eatenN σ (σ 5)).1) 2 ((((eatenN σ (σ 5)).1) 2) - 1)) 4 (min 9999 ((((eatenN σ (σ 5)).1) 4) + 0))) 0 ((((eatenN σ (σ 5)).1) 0) + 1) from by exact day_mk eh el]; exact eqW.rf _) dX6_day_166
        · refine lv_iconst (v := nI 1) hx hb dX6_day_146 rfl ?_
          refine lv_goto (tgt := 151) hx hb dX6_day_147 (by decide) ?_
          refine n_iadd hx hb dX6_day_151 ?_
          refine callSI (rest := [.int (nI 4), .ref (b 1)]) (wn := fun u => [mO b ζ vv, (b 1, .inl (G.2.1, 46, .inl (nF (un ((eatenN σ (σ 5)).1) 2 ((((eatenN σ (σ 5)).1) 2) - 1)))))]) ⟨hx, hb, hml, hown, hts⟩ (c_X6_less l G H.size 9999 ((((eatenN σ (σ 5)).1) 4) + 1) (by omega) (by omega)) (va_cwS 2 hts gX6_day_X6_less rfl rfl rfl (by decide +kernel) ⟨Nat.le_of_ble_eq_true rfl, Nat.le_of_ble_eq_true rfl⟩) noXB (fun _ _ _ => trivial) hK hP hD hS hAq rfl hl.1 rfl (Nat.le_of_ble_eq_true rfl) dX6_day_152 ⟨Nat.le_of_ble_eq_true rfl, Nat.le_of_ble_eq_true rfl⟩ [] rfl rfl [] rfl (fun _ => rfl) (fun _ => rfl) (fun u H locs hok hP hD hS => ?_)
          refine n_iast hx hb hK hP hD hS 1 (wn := [mO b ζ vv, (b 1, .inl (G.2.1, 46, .inl (nF (un (un ((eatenN σ (σ 5)).1) 2 ((((eatenN σ (σ 5)).1) 2) - 1)) 4 (min 9999 ((((eatenN σ (σ 5)).1) 4) + 1))))))]) rfl (by omega) (by omega) (by rw [nF_un]; rfl) dX6_day_155 (fun H locs hP hD hS => ?_)
          refine lv_aload_n hx hb dX6_day_156 rfl (lv_at hl 3 rfl) ?_
          refine n_get (C := RX6) (T := TX6) (N := 18) hx hb hts (fun _ h => List.mem_cons_of_mem _ (List.mem_append_right _ h)) hown hK hP 0 rfl rfl 0 (by decide) (List.mem_of_getElem? (i := 1) rfl) rfl (.ref (b 1)) rfl dX6_day_157 ?_
          refine lv_iconst (v := nI 0) hx hb dX6_day_160 rfl ?_
          refine lv_dup2_11 hx hb dX6_day_161 rfl rfl ?_
          refine n_iald hx hb hK hP 1 (v := (nI (((eatenN σ (σ 5)).1) 0))) rfl (by omega) (by omega) (congrArg nI (Eq.trans (un_n (by decide)) (un_n (by decide)))) dX6_day_162 ?_
          refine lv_iconst (v := nI 1) hx hb dX6_day_163 rfl ?_
          refine n_iadd hx hb dX6_day_164 ?_
          refine n_iast hx hb hK hP hD hS 1 (wn := [mO b ζ vv, (b 1, .inl (G.2.1, 46, .inl (nF (un (un (un ((eatenN σ (σ 5)).1) 2 ((((eatenN σ (σ 5)).1) 2) - 1)) 4 (min 9999 ((((eatenN σ (σ 5)).1) 4) + 1))) 0 ((((eatenN σ (σ 5)).1) 0) + 1)))))]) rfl (by omega) (by omega) (by rw [nF_un]; rfl) dX6_day_165 (fun H locs hP hD hS => ?_)
          have eh : (eatenN σ (σ 5)).2 = 1 := by omega
          have el : laidN ((eatenN σ (σ 5)).1 2) (mornN σ 1) (mornN σ 1 - (eatenN σ (σ 5)).1 1) = (((eatenN σ (σ 5)).1) 2) - 1 := by unfold laidN; (repeat' split) <;> omega
          exact fin_v hx hb hr hlk hS hP hD () trivial (by rw [show dayN σ = un (un (un ((eatenN σ (σ 5)).1) 2 ((((eatenN σ (σ 5)).1) 2) - 1)) 4 (min 9999 ((((eatenN σ (σ 5)).1) 4) + 1))) 0 ((((eatenN σ (σ 5)).1) 0) + 1) from by exact day_mk eh el]; exact eqW.rf _) dX6_day_166
  · refine lv_iload_n hx hb dX6_day_46 rfl (lv_at hl 1 rfl) ?_
    refine lv_aload_n hx hb dX6_day_47 rfl (lv_at hl 3 rfl) ?_
    refine lv_iload_n hx hb dX6_day_48 rfl (lv_at hl 0 rfl) ?_
    refine callVI (rest := [.int (nI ((eatenN σ k).2))]) (wn := fun u => [mO b ζ vv, (b 1, .inl (G.2.1, 46, .inl (nF (eatN ((eatenN σ k).1) k))))]) ⟨hx, hb, hml, hown, hts⟩ (c_X6_comesIn l G H.size b ζ vv ((eatenN σ k).1) k hE (by omega) (by omega)) (cwV 1 hts gX6_day_X6_comesIn rfl rfl rfl (by decide +kernel) ⟨Nat.le_of_ble_eq_true rfl, Nat.le_of_ble_eq_true rfl⟩) noXB (fun _ _ _ => trivial) hK hP hD hS hAq 5 0 (T := TX6) (N := 18) rfl rfl rfl hl.1 rfl (Nat.le_of_ble_eq_true rfl) dX6_day_49 ⟨Nat.le_of_ble_eq_true rfl, Nat.le_of_ble_eq_true rfl⟩ [0, 1] rfl rfl [b 0, b 1] rfl (fun _ => rfl) (fun _ => rfl) (fun u H locs hok hP hD hS => ?_)
    refine lv_ior hx hb dX6_day_52 ?_
    refine n_top (hun_or f6) ?_
    refine lv_istore_n (lv' := [(2, .int (nI (hunI (eatenN σ k).1 k (eatenN σ k).2))), (3, .int (nI k)), (1, .int (nI (mornN σ 1))), (0, .ref (b 0))]) hx hb dX6_day_53 rfl hl (by decide) rfl (fun ls hl => ?_)
    refine n_iinc (lv' := [(3, .int (nI (k + 1))), (2, .int (nI (hunI (eatenN σ k).1 k (eatenN σ k).2))), (1, .int (nI (mornN σ 1))), (0, .ref (b 0))]) hx hb dX6_day_54 hl (k := 1) rfl (by decide) rfl (fun ls hl => ?_)
    refine lv_goto (tgt := 36) hx hb dX6_day_57 (by decide) ?_
    exact ih (k + 1) _ _ _ (by omega) (by omega) hP hD hS (lv_sub hl [0, 1, 2, 3] rfl)
set_option maxHeartbeats 400000 in
set_option maxRecDepth 100000 in
theorem c_X6_goes (l : Launch) (G : GT) (sz : Nat) (b : Nat → Nat) (ζ : Nat → Nat) (vv : Int64) (σ : Sg) (n : Nat) (hI : Inv σ) (hd0 : σ 0 + n < 1000000) : MV (S := Unit) l G noX yX6_goes wsX6_goes ({ frames := 6, cells := 0, slots := 0, locals := 136 } : Room) [.ref (b 0), .int (nI n)] ([mO b ζ vv, (b 1, .inl (G.2.1, 46, .inl (nF σ)))]) sz (fun _ => True) (fun _ => [mO b ζ vv, (b 1, .inl (G.2.1, 46, .inl (nF (daysN n σ))))]) := by
  refine MV_enter (cc := cX6_goes) (maxL := 3) (ret := none) (by decide) rfl (Nat.le_of_ble_eq_true rfl) ?_
  intro p e s m below meth c A ls H hx hb hr hlk hml hown hts hAq hS hP hK hD hX hl hnm
  have hown : s.vm.findClass RX6 = some m.cls := hown
  have hl : lv_has ls 3 [(0, .ref (b 0)), (1, .int (nI n))] := hl
  obtain ⟨⟨i1, i2, i3, i4, i5⟩, ip⟩ := id hI
  refine lv_iconst (v := nI 0) hx hb dX6_goes_0 rfl ?_
  refine lv_istore_n (lv' := [(2, .int (nI 0)), (0, .ref (b 0)), (1, .int (nI n))]) hx hb dX6_goes_1 rfl hl (by decide) rfl (fun ls hl => ?_)
  refine W_loop1 (I := fun (k : Nat) => k ≤ n) (wd := fun (k : Nat) => [mO b ζ vv, (b 1, .inl (G.2.1, 46, .inl (nF (daysN k σ))))]) (lv := fun (k : Nat) => [(2, .int (nI k)), (0, .ref (b 0)), (1, .int (nI n))]) (μ := fun (k : Nat) => n - k) ?_ 0 (by omega) hP hD hS (lv_sub hl [0, 1, 2] rfl)
  intro k H locs ls hI0 hP hD hS hl ih
  have hk : k ≤ n := hI0
  have hE := days_Inv hI k
  have hE0 := (days_0 σ k).1
  refine lv_iload_n hx hb dX6_goes_2 rfl (lv_at hl 0 rfl) ?_
  refine lv_iload_n hx hb dX6_goes_3 rfl (lv_at hl 2 rfl) ?_
  refine n_icmp_ge hx hb (by omega) (by omega) (tgt := 17) dX6_goes_4 (by decide) (fun c_1 => ?_) (fun c_1 => ?_)
  · have hk5 : k = n := by omega
    subst hk5
    exact fin_v hx hb hr hlk hS hP hD () trivial (eqW.rf _) dX6_goes_17
  · refine lv_aload_n hx hb dX6_goes_7 rfl (lv_at hl 1 rfl) ?_
    refine callVV (rest := []) (wn := fun u => [mO b ζ vv, (b 1, .inl (G.2.1, 46, .inl (nF (dayN (daysN k σ)))))]) ⟨hx, hb, hml, hown, hts⟩ (c_X6_day l G H.size b ζ vv (daysN k σ) hE (by omega)) (cwV 0 hts gX6_goes_X6_day rfl rfl rfl (by decide +kernel) ⟨Nat.le_of_ble_eq_true rfl, Nat.le_of_ble_eq_true rfl⟩) noXB (fun _ _ _ => trivial) hK hP hD hS hAq 5 0 (T := TX6) (N := 18) rfl rfl rfl hl.1 rfl (Nat.le_of_ble_eq_true rfl) dX6_goes_8 ⟨Nat.le_of_ble_eq_true rfl, Nat.le_of_ble_eq_true rfl⟩ [0, 1] rfl rfl [b 0, b 1] rfl (fun _ => rfl) (fun _ => rfl) (fun u H locs hok hP hD hS => ?_)
    refine n_iinc (lv' := [(2, .int (nI (k + 1))), (0, .ref (b 0)), (1, .int (nI n))]) hx hb dX6_goes_11 hl (k := 0) rfl (by decide) rfl (fun ls hl => ?_)
    refine lv_goto (tgt := 2) hx hb dX6_goes_14 (by decide) ?_
    exact ih (k + 1) _ _ _ (by omega) (by omega) hP hD hS (lv_sub hl [0, 1, 2] rfl)
set_option maxHeartbeats 400000 in
set_option maxRecDepth 100000 in
theorem c_X6_setsAside (l : Launch) (G : GT) (sz : Nat) (b : Nat → Nat) (ζ : Nat → Nat) (vv : Int64) (σ : Sg) (F : Nat → Int32) : MV (S := Unit) l G noX yX6_setsAside wsX6_setsAside ({ frames := 0, cells := 0, slots := 0, locals := 0 } : Room) [.ref (b 0)] ([mO b ζ vv, (b 1, .inl (G.2.1, 46, .inl (nF σ))), (b 3, .inl (G.2.1, 46, .inl F))]) sz (fun _ => True) (fun _ => [mO b ζ vv, (b 1, .inl (G.2.1, 46, .inl (nF σ))), (b 3, .inl (G.2.1, 46, .inl (nF σ)))]) := by
  refine MV_enter (cc := cX6_setsAside) (maxL := 2) (ret := none) (by decide) rfl (Nat.le_of_ble_eq_true rfl) ?_
  intro p e s m below meth c A ls H hx hb hr hlk hml hown hts hAq hS hP hK hD hX hl hnm
  have hown : s.vm.findClass RX6 = some m.cls := hown
  have hl : lv_has ls 2 [(0, .ref (b 0))] := hl
  refine lv_iconst (v := nI 0) hx hb dX6_setsAside_0 rfl ?_
  refine lv_istore_n (lv' := [(1, .int (nI 0)), (0, .ref (b 0))]) hx hb dX6_setsAside_1 rfl hl (by decide) rfl (fun ls hl => ?_)
  refine W_loop1 (I := fun (k : Nat) => k ≤ 46) (wd := fun (k : Nat) => [mO b ζ vv, (b 1, .inl (G.2.1, 46, .inl (nF σ))), (b 3, .inl (G.2.1, 46, .inl (cpF F (nF σ) k)))]) (lv := fun (k : Nat) => [(1, .int (nI k)), (0, .ref (b 0))]) (μ := fun (k : Nat) => 46 - k) ?_ 0 (by omega) (by rw [cpF_0]; exact hP) (by rw [cpF_0]; exact hD) hS (lv_sub hl [0, 1] rfl)
  intro k H locs ls hI0 hP hD hS hl ih
  have hk : k ≤ 46 := hI0
  refine lv_iload_n hx hb dX6_setsAside_2 rfl (lv_at hl 0 rfl) ?_
  refine lv_bipush (v := nI 46) hx hb dX6_setsAside_3 rfl ?_
  refine n_icmp_ge hx hb (by omega) (by omega) (tgt := 26) dX6_setsAside_5 (by decide) (fun c_1 => ?_) (fun c_1 => ?_)
  · have hk5 : k = 46 := by omega
    subst hk5
    exact fin_v hx hb hr hlk hS hP hD () trivial ⟨rfl, eqE.rf _, rfl, ⟨rfl, rfl, fun _ _ => rfl⟩, rfl, ⟨rfl, rfl, fun j hj => cpF_in hj⟩, trivial⟩ dX6_setsAside_26
  · refine lv_aload_n hx hb dX6_setsAside_8 rfl (lv_at hl 1 rfl) ?_
    refine n_get (C := RX6) (T := TX6) (N := 18) hx hb hts (fun _ h => List.mem_cons_of_mem _ (List.mem_append_right _ h)) hown hK hP 0 rfl rfl 2 (by decide) (List.mem_of_getElem? (i := 1) rfl) rfl (.ref (b 3)) rfl dX6_setsAside_9 ?_
    refine lv_iload_n hx hb dX6_setsAside_12 rfl (lv_at hl 0 rfl) ?_
    refine lv_aload_n hx hb dX6_setsAside_13 rfl (lv_at hl 1 rfl) ?_
    refine n_get (C := RX6) (T := TX6) (N := 18) hx hb hts (fun _ h => List.mem_cons_of_mem _ (List.mem_append_right _ h)) hown hK hP 0 rfl rfl 0 (by decide) (List.mem_of_getElem? (i := 2) rfl) rfl (.ref (b 1)) rfl dX6_setsAside_14 ?_
    refine lv_iload_n hx hb dX6_setsAside_17 rfl (lv_at hl 0 rfl) ?_
    refine n_iald hx hb hK hP 1 (v := (nI (σ k))) rfl (by omega) (by omega) rfl dX6_setsAside_18 ?_
    refine n_iast hx hb hK hP hD hS 2 (wn := [mO b ζ vv, (b 1, .inl (G.2.1, 46, .inl (nF σ))), (b 3, .inl (G.2.1, 46, .inl (upd (cpF F (nF σ) k) k (nI (σ k)))))]) rfl (by omega) (by omega) rfl dX6_setsAside_19 (fun H locs hP hD hS => ?_)
    refine n_iinc (lv' := [(1, .int (nI (k + 1))), (0, .ref (b 0))]) hx hb dX6_setsAside_20 hl (k := 0) rfl (by decide) rfl (fun ls hl => ?_)
    refine lv_goto (tgt := 2) hx hb dX6_setsAside_23 (by decide) ?_
    exact ih (k + 1) _ _ _ (by omega) (by omega) (by rw [← cpF_S]; exact hP) (by rw [← cpF_S]; exact hD) hS (lv_sub hl [0, 1] rfl)
set_option maxHeartbeats 400000 in
set_option maxRecDepth 100000 in
theorem c_X6_laysBack (l : Launch) (G : GT) (sz : Nat) (b : Nat → Nat) (ζ : Nat → Nat) (vv : Int64) (σ : Sg) (F : Nat → Int32) : MV (S := Unit) l G noX yX6_laysBack wsX6_laysBack ({ frames := 0, cells := 0, slots := 0, locals := 0 } : Room) [.ref (b 0)] ([mO b ζ vv, (b 1, .inl (G.2.1, 46, .inl F)), (b 3, .inl (G.2.1, 46, .inl (nF σ)))]) sz (fun _ => True) (fun _ => [mO b ζ vv, (b 1, .inl (G.2.1, 46, .inl (nF σ))), (b 3, .inl (G.2.1, 46, .inl (nF σ)))]) := by
  refine MV_enter (cc := cX6_laysBack) (maxL := 2) (ret := none) (by decide) rfl (Nat.le_of_ble_eq_true rfl) ?_
  intro p e s m below meth c A ls H hx hb hr hlk hml hown hts hAq hS hP hK hD hX hl hnm
  have hown : s.vm.findClass RX6 = some m.cls := hown
  have hl : lv_has ls 2 [(0, .ref (b 0))] := hl
  refine lv_iconst (v := nI 0) hx hb dX6_laysBack_0 rfl ?_
  refine lv_istore_n (lv' := [(1, .int (nI 0)), (0, .ref (b 0))]) hx hb dX6_laysBack_1 rfl hl (by decide) rfl (fun ls hl => ?_)
  refine W_loop1 (I := fun (k : Nat) => k ≤ 46) (wd := fun (k : Nat) => [mO b ζ vv, (b 1, .inl (G.2.1, 46, .inl (cpF F (nF σ) k))), (b 3, .inl (G.2.1, 46, .inl (nF σ)))]) (lv := fun (k : Nat) => [(1, .int (nI k)), (0, .ref (b 0))]) (μ := fun (k : Nat) => 46 - k) ?_ 0 (by omega) (by rw [cpF_0]; exact hP) (by rw [cpF_0]; exact hD) hS (lv_sub hl [0, 1] rfl)
  intro k H locs ls hI0 hP hD hS hl ih
  have hk : k ≤ 46 := hI0
  refine lv_iload_n hx hb dX6_laysBack_2 rfl (lv_at hl 0 rfl) ?_
  refine lv_bipush (v := nI 46) hx hb dX6_laysBack_3 rfl ?_
  refine n_icmp_ge hx hb (by omega) (by omega) (tgt := 26) dX6_laysBack_5 (by decide) (fun c_1 => ?_) (fun c_1 => ?_)
  · have hk5 : k = 46 := by omega
    subst hk5
    exact fin_v hx hb hr hlk hS hP hD () trivial ⟨rfl, eqE.rf _, rfl, ⟨rfl, rfl, fun j hj => cpF_in hj⟩, rfl, ⟨rfl, rfl, fun _ _ => rfl⟩, trivial⟩ dX6_laysBack_26
  · refine lv_aload_n hx hb dX6_laysBack_8 rfl (lv_at hl 1 rfl) ?_
    refine n_get (C := RX6) (T := TX6) (N := 18) hx hb hts (fun _ h => List.mem_cons_of_mem _ (List.mem_append_right _ h)) hown hK hP 0 rfl rfl 0 (by decide) (List.mem_of_getElem? (i := 1) rfl) rfl (.ref (b 1)) rfl dX6_laysBack_9 ?_
    refine lv_iload_n hx hb dX6_laysBack_12 rfl (lv_at hl 0 rfl) ?_
    refine lv_aload_n hx hb dX6_laysBack_13 rfl (lv_at hl 1 rfl) ?_
    refine n_get (C := RX6) (T := TX6) (N := 18) hx hb hts (fun _ h => List.mem_cons_of_mem _ (List.mem_append_right _ h)) hown hK hP 0 rfl rfl 2 (by decide) (List.mem_of_getElem? (i := 2) rfl) rfl (.ref (b 3)) rfl dX6_laysBack_14 ?_
    refine lv_iload_n hx hb dX6_laysBack_17 rfl (lv_at hl 0 rfl) ?_
    refine n_iald hx hb hK hP 2 (v := (nI (σ k))) rfl (by omega) (by omega) rfl dX6_laysBack_18 ?_
    refine n_iast hx hb hK hP hD hS 1 (wn := [mO b ζ vv, (b 1, .inl (G.2.1, 46, .inl (upd (cpF F (nF σ) k) k (nI (σ k))))), (b 3, .inl (G.2.1, 46, .inl (nF σ)))]) rfl (by omega) (by omega) rfl dX6_laysBack_19 (fun H locs hP hD hS => ?_)
    refine n_iinc (lv' := [(1, .int (nI (k + 1))), (0, .ref (b 0))]) hx hb dX6_laysBack_20 hl (k := 0) rfl (by decide) rfl (fun ls hl => ?_)
    refine lv_goto (tgt := 2) hx hb dX6_laysBack_23 (by decide) ?_
    exact ih (k + 1) _ _ _ (by omega) (by omega) (by rw [← cpF_S]; exact hP) (by rw [← cpF_S]; exact hD) hS (lv_sub hl [0, 1] rfl)
set_option maxHeartbeats 400000 in
set_option maxRecDepth 100000 in
theorem c_X6_addsPerson (l : Launch) (G : GT) (sz : Nat) (b : Nat → Nat) (ζ : Nat → Nat) (vv : Int64) (σ : Sg) (kd : Nat) (h5 : σ 5 < 8) : MV (S := Unit) l G noX yX6_addsPerson wsX6_addsPerson ({ frames := 1, cells := 0, slots := 0, locals := 23 } : Room) [.ref (b 0), .int (nI kd)] ([mO b ζ vv, (b 1, .inl (G.2.1, 46, .inl (nF σ)))]) sz (fun _ => True) (fun _ => [mO b ζ vv, (b 1, .inl (G.2.1, 46, .inl (nF (addN σ kd))))]) := by
  refine MV_enter (cc := cX6_addsPerson) (maxL := 3) (ret := none) (by decide) rfl (Nat.le_of_ble_eq_true rfl) ?_
  intro p e s m below meth c A ls H hx hb hr hlk hml hown hts hAq hS hP hK hD hX hl hnm
  have hown : s.vm.findClass RX6 = some m.cls := hown
  have hl : lv_has ls 3 [(0, .ref (b 0)), (1, .int (nI kd))] := hl
  refine lv_aload_n hx hb dX6_addsPerson_0 rfl (lv_at hl 0 rfl) ?_
  refine n_get (C := RX6) (T := TX6) (N := 18) hx hb hts (fun _ h => List.mem_cons_of_mem _ (List.mem_append_right _ h)) hown hK hP 0 rfl rfl 0 (by decide) (List.mem_of_getElem? (i := 1) rfl) rfl (.ref (b 1)) rfl dX6_addsPerson_1 ?_
  refine lv_iconst (v := nI 5) hx hb dX6_addsPerson_4 rfl ?_
  refine n_iald hx hb hK hP 1 (v := (nI (σ 5))) rfl (by omega) (by omega) rfl dX6_addsPerson_5 ?_
  refine lv_istore_n (lv' := [(2, .int (nI (σ 5))), (0, .ref (b 0)), (1, .int (nI kd))]) hx hb dX6_addsPerson_6 rfl hl (by decide) rfl (fun ls hl => ?_)
  refine lv_aload_n hx hb dX6_addsPerson_7 rfl (lv_at hl 1 rfl) ?_
  refine lv_iload_n hx hb dX6_addsPerson_8 rfl (lv_at hl 0 rfl) ?_
  refine lv_iconst (v := nI 0) hx hb dX6_addsPerson_9 rfl ?_
  refine lv_iload_n hx hb dX6_addsPerson_10 rfl (lv_at hl 2 rfl) ?_
  refine callVV (rest := []) (wn := fun u => [mO b ζ vv, (b 1, .inl (G.2.1, 46, .inl (nF (un σ (pl (σ 5) 0) kd))))]) ⟨hx, hb, hml, hown, hts⟩ (c_X6_puts l G H.size b ζ vv σ (σ 5) 0 kd (by omega) (by omega)) (cwV 3 hts gX6_addsPerson_X6_puts rfl rfl rfl (by decide +kernel) ⟨Nat.le_of_ble_eq_true rfl, Nat.le_of_ble_eq_true rfl⟩) noXB (fun _ _ _ => trivial) hK hP hD hS hAq 5 0 (T := TX6) (N := 18) rfl rfl rfl hl.1 rfl (Nat.le_of_ble_eq_true rfl) dX6_addsPerson_11 ⟨Nat.le_of_ble_eq_true rfl, Nat.le_of_ble_eq_true rfl⟩ [0, 1] rfl rfl [b 0, b 1] rfl (fun _ => rfl) (fun _ => rfl) (fun u H locs hok hP hD hS => ?_)
  refine lv_aload_n hx hb dX6_addsPerson_14 rfl (lv_at hl 1 rfl) ?_
  refine lv_iload_n hx hb dX6_addsPerson_15 rfl (lv_at hl 0 rfl) ?_
  refine lv_iconst (v := nI 1) hx hb dX6_addsPerson_16 rfl ?_
  refine lv_iconst (v := nI 3) hx hb dX6_addsPerson_17 rfl ?_
  refine callVV (rest := []) (wn := fun u => [mO b ζ vv, (b 1, .inl (G.2.1, 46, .inl (nF (un (un σ (pl (σ 5) 0) kd) (pl (σ 5) 1) 3))))]) ⟨hx, hb, hml, hown, hts⟩ (c_X6_puts l G H.size b ζ vv (un σ (pl (σ 5) 0) kd) (σ 5) 1 3 (by omega) (by omega)) (cwV 3 hts gX6_addsPerson_X6_puts rfl rfl rfl (by decide +kernel) ⟨Nat.le_of_ble_eq_true rfl, Nat.le_of_ble_eq_true rfl⟩) noXB (fun _ _ _ => trivial) hK hP hD hS hAq 5 0 (T := TX6) (N := 18) rfl rfl rfl hl.1 rfl (Nat.le_of_ble_eq_true rfl) dX6_addsPerson_18 ⟨Nat.le_of_ble_eq_true rfl, Nat.le_of_ble_eq_true rfl⟩ [0, 1] rfl rfl [b 0, b 1] rfl (fun _ => rfl) (fun _ => rfl) (fun u H locs hok hP hD hS => ?_)
  refine lv_aload_n hx hb dX6_addsPerson_21 rfl (lv_at hl 1 rfl) ?_
  refine lv_iload_n hx hb dX6_addsPerson_22 rfl (lv_at hl 0 rfl) ?_
  refine lv_iconst (v := nI 2) hx hb dX6_addsPerson_23 rfl ?_
  refine lv_iconst (v := nI 5) hx hb dX6_addsPerson_24 rfl ?_
  refine callVV (rest := []) (wn := fun u => [mO b ζ vv, (b 1, .inl (G.2.1, 46, .inl (nF (un (un (un σ (pl (σ 5) 0) kd) (pl (σ 5) 1) 3) (pl (σ 5) 2) 5))))]) ⟨hx, hb, hml, hown, hts⟩ (c_X6_puts l G H.size b ζ vv (un (un σ (pl (σ 5) 0) kd) (pl (σ 5) 1) 3) (σ 5) 2 5 (by omega) (by omega)) (cwV 3 hts gX6_addsPerson_X6_puts rfl rfl rfl (by decide +kernel) ⟨Nat.le_of_ble_eq_true rfl, Nat.le_of_ble_eq_true rfl⟩) noXB (fun _ _ _ => trivial) hK hP hD hS hAq 5 0 (T := TX6) (N := 18) rfl rfl rfl hl.1 rfl (Nat.le_of_ble_eq_true rfl) dX6_addsPerson_25 ⟨Nat.le_of_ble_eq_true rfl, Nat.le_of_ble_eq_true rfl⟩ [0, 1] rfl rfl [b 0, b 1] rfl (fun _ => rfl) (fun _ => rfl) (fun u H locs hok hP hD hS => ?_)
  refine lv_aload_n hx hb dX6_addsPerson_28 rfl (lv_at hl 1 rfl) ?_
  refine lv_iload_n hx hb dX6_addsPerson_29 rfl (lv_at hl 0 rfl) ?_
  refine lv_iconst (v := nI 3) hx hb dX6_addsPerson_30 rfl ?_
  refine lv_iconst (v := nI 0) hx hb dX6_addsPerson_31 rfl ?_
  refine callVV (rest := []) (wn := fun u => [mO b ζ vv, (b 1, .inl (G.2.1, 46, .inl (nF (un (un (un (un σ (pl (σ 5) 0) kd) (pl (σ 5) 1) 3) (pl (σ 5) 2) 5) (pl (σ 5) 3) 0))))]) ⟨hx, hb, hml, hown, hts⟩ (c_X6_puts l G H.size b ζ vv (un (un (un σ (pl (σ 5) 0) kd) (pl (σ 5) 1) 3) (pl (σ 5) 2) 5) (σ 5) 3 0 (by omega) (by omega)) (cwV 3 hts gX6_addsPerson_X6_puts rfl rfl rfl (by decide +kernel) ⟨Nat.le_of_ble_eq_true rfl, Nat.le_of_ble_eq_true rfl⟩) noXB (fun _ _ _ => trivial) hK hP hD hS hAq 5 0 (T := TX6) (N := 18) rfl rfl rfl hl.1 rfl (Nat.le_of_ble_eq_true rfl) dX6_addsPerson_32 ⟨Nat.le_of_ble_eq_true rfl, Nat.le_of_ble_eq_true rfl⟩ [0, 1] rfl rfl [b 0, b 1] rfl (fun _ => rfl) (fun _ => rfl) (fun u H locs hok hP hD hS => ?_)
  refine lv_aload_n hx hb dX6_addsPerson_35 rfl (lv_at hl 1 rfl) ?_
  refine lv_iload_n hx hb dX6_addsPerson_36 rfl (lv_at hl 0 rfl) ?_
  refine lv_iconst (v := nI 4) hx hb dX6_addsPerson_37 rfl ?_
  refine lv_iconst (v := nI 0) hx hb dX6_addsPerson_38 rfl ?_
  refine callVV (rest := []) (wn := fun u => [mO b ζ vv, (b 1, .inl (G.2.1, 46, .inl (nF (un (un (un (un (un σ (pl (σ 5) 0) kd) (pl (σ 5) 1) 3) (pl (σ 5) 2) 5) (pl (σ 5) 3) 0) (pl (σ 5) 4) 0))))]) ⟨hx, hb, hml, hown, hts⟩ (c_X6_puts l G H.size b ζ vv (un (un (un (un σ (pl (σ 5) 0) kd) (pl (σ 5) 1) 3) (pl (σ 5) 2) 5) (pl (σ 5) 3) 0) (σ 5) 4 0 (by omega) (by omega)) (cwV 3 hts gX6_addsPerson_X6_puts rfl rfl rfl (by decide +kernel) ⟨Nat.le_of_ble_eq_true rfl, Nat.le_of_ble_eq_true rfl⟩) noXB (fun _ _ _ => trivial) hK hP hD hS hAq 5 0 (T := TX6) (N := 18) rfl rfl rfl hl.1 rfl (Nat.le_of_ble_eq_true rfl) dX6_addsPerson_39 ⟨Nat.le_of_ble_eq_true rfl, Nat.le_of_ble_eq_true rfl⟩ [0, 1] rfl rfl [b 0, b 1] rfl (fun _ => rfl) (fun _ => rfl) (fun u H locs hok hP hD hS => ?_)
  refine lv_aload_n hx hb dX6_addsPerson_42 rfl (lv_at hl 1 rfl) ?_
  refine n_get (C := RX6) (T := TX6) (N := 18) hx hb hts (fun _ h => List.mem_cons_of_mem _ (List.mem_append_right _ h)) hown hK hP 0 rfl rfl 0 (by decide) (List.mem_of_getElem? (i := 1) rfl) rfl (.ref (b 1)) rfl dX6_addsPerson_43 ?_
  refine lv_iconst (v := nI 5) hx hb dX6_addsPerson_46 rfl ?_
  refine lv_dup2_11 hx hb dX6_addsPerson_47 rfl rfl ?_
  refine n_iald hx hb hK hP 1 (v := (nI (σ 5))) rfl (by omega) (by omega) (congrArg nI (Eq.trans (un_ps (by decide)) (Eq.trans (un_ps (by decide)) (Eq.trans (un_ps (by decide)) (Eq.trans (un_ps (by decide)) (un_ps (by decide))))))) dX6_addsPerson_48 ?_
  refine lv_iconst (v := nI 1) hx hb dX6_addsPerson_49 rfl ?_
  refine n_iadd hx hb dX6_addsPerson_50 ?_
  refine n_iast hx hb hK hP hD hS 1 (wn := [mO b ζ vv, (b 1, .inl (G.2.1, 46, .inl (nF (un (un (un (un (un (un σ (pl (σ 5) 0) kd) (pl (σ 5) 1) 3) (pl (σ 5) 2) 5) (pl (σ 5) 3) 0) (pl (σ 5) 4) 0) 5 ((σ 5) + 1)))))]) rfl (by omega) (by omega) (by rw [nF_un]; rfl) dX6_addsPerson_51 (fun H locs hP hD hS => ?_)
  exact fin_v hx hb hr hlk hS hP hD () trivial (eqW.rf _) dX6_addsPerson_52
set_option maxHeartbeats 400000 in
set_option maxRecDepth 100000 in
theorem c_X6_changes (l : Launch) (G : GT) (sz : Nat) (b : Nat → Nat) (ζ : Nat → Nat) (vv : Int64) (σ : Sg) (i j : Nat) (hi : i < 8) (hj : j < 8) : MV (S := Unit) l G noX yX6_changes wsX6_changes ({ frames := 1, cells := 0, slots := 0, locals := 23 } : Room) [.ref (b 0), .int (nI i), .int (nI j)] ([mO b ζ vv, (b 1, .inl (G.2.1, 46, .inl (nF σ)))]) sz (fun _ => True) (fun _ => [mO b ζ vv, (b 1, .inl (G.2.1, 46, .inl (nF (swapN σ i j))))]) := by
  refine MV_enter (cc := cX6_changes) (maxL := 5) (ret := none) (by decide) rfl (Nat.le_of_ble_eq_true rfl) ?_
  intro p e s m below meth c A ls H hx hb hr hlk hml hown hts hAq hS hP hK hD hX hl hnm
  have hown : s.vm.findClass RX6 = some m.cls := hown
  have hl : lv_has ls 5 [(0, .ref (b 0)), (1, .int (nI i)), (2, .int (nI j))] := hl
  refine lv_iconst (v := nI 0) hx hb dX6_changes_0 rfl ?_
  refine lv_istore_n (lv' := [(3, .int (nI 0)), (0, .ref (b 0)), (1, .int (nI i)), (2, .int (nI j))]) hx hb dX6_changes_1 rfl hl (by decide) rfl (fun ls hl => ?_)
  refine W_loop1 (I := fun (k : Nat) => k ≤ 5) (wd := fun (k : Nat) => [mO b ζ vv, (b 1, .inl (G.2.1, 46, .inl (nF (exsN σ i j k))))]) (lv := fun (k : Nat) => [(3, .int (nI k)), (0, .ref (b 0)), (1, .int (nI i)), (2, .int (nI j))]) (μ := fun (k : Nat) => 5 - k) ?_ 0 (by omega) hP hD hS (lv_sub hl [0, 1, 2, 3] rfl)
  intro k H locs ls hI0 hP hD hS hl ih
  have hk : k ≤ 5 := hI0
  refine lv_iload_n hx hb dX6_changes_2 rfl (lv_at hl 0 rfl) ?_
  refine lv_iconst (v := nI 5) hx hb dX6_changes_3 rfl ?_
  refine n_icmp_ge hx hb (by omega) (by omega) (tgt := 41) dX6_changes_4 (by decide) (fun c_1 => ?_) (fun c_1 => ?_)
  · have hk5 : k = 5 := by omega
    subst hk5
    exact fin_v hx hb hr hlk hS hP hD () trivial (eqW.rf _) dX6_changes_41
  · refine lv_aload_n hx hb dX6_changes_7 rfl (lv_at hl 1 rfl) ?_
    refine lv_iload_n hx hb dX6_changes_8 rfl (lv_at hl 2 rfl) ?_
    refine lv_iload_n hx hb dX6_changes_9 rfl (lv_at hl 0 rfl) ?_
    refine callVI (rest := []) (wn := fun u => [mO b ζ vv, (b 1, .inl (G.2.1, 46, .inl (nF (exsN σ i j k))))]) ⟨hx, hb, hml, hown, hts⟩ (c_X6_get l G H.size b ζ vv (exsN σ i j k) i k (by omega) (by omega)) (cwV 2 hts gX6_changes_X6_get rfl rfl rfl (by decide +kernel) ⟨Nat.le_of_ble_eq_true rfl, Nat.le_of_ble_eq_true rfl⟩) noXB (fun _ _ _ => trivial) hK hP hD hS hAq 5 0 (T := TX6) (N := 18) rfl rfl rfl hl.1 rfl (Nat.le_of_ble_eq_true rfl) dX6_changes_10 ⟨Nat.le_of_ble_eq_true rfl, Nat.le_of_ble_eq_true rfl⟩ [0, 1] rfl rfl [b 0, b 1] rfl (fun _ => rfl) (fun _ => rfl) (fun u H locs hok hP hD hS => ?_)
    refine lv_istore (lv' := [(4, .int (nI ((exsN σ i j k) (pl i k)))), (3, .int (nI k)), (0, .ref (b 0)), (1, .int (nI i)), (2, .int (nI j))]) hx hb dX6_changes_13 hl (by decide) rfl (fun ls hl => ?_)
    refine lv_aload_n hx hb dX6_changes_15 rfl (lv_at hl 2 rfl) ?_
    refine lv_iload_n hx hb dX6_changes_16 rfl (lv_at hl 3 rfl) ?_
    refine lv_iload_n hx hb dX6_changes_17 rfl (lv_at hl 1 rfl) ?_
    refine lv_aload_n hx hb dX6_changes_18 rfl (lv_at hl 2 rfl) ?_
    refine lv_iload_n hx hb dX6_changes_19 rfl (lv_at hl 4 rfl) ?_
    refine lv_iload_n hx hb dX6_changes_20 rfl (lv_at hl 1 rfl) ?_
    refine callVI (rest := [.int (nI k), .int (nI i), .ref (b 0)]) (wn := fun u => [mO b ζ vv, (b 1, .inl (G.2.1, 46, .inl (nF (exsN σ i j k))))]) ⟨hx, hb, hml, hown, hts⟩ (c_X6_get l G H.size b ζ vv (exsN σ i j k) j k (by omega) (by omega)) (cwV 2 hts gX6_changes_X6_get rfl rfl rfl (by decide +kernel) ⟨Nat.le_of_ble_eq_true rfl, Nat.le_of_ble_eq_true rfl⟩) noXB (fun _ _ _ => trivial) hK hP hD hS hAq 5 0 (T := TX6) (N := 18) rfl rfl rfl hl.1 rfl (Nat.le_of_ble_eq_true rfl) dX6_changes_21 ⟨Nat.le_of_ble_eq_true rfl, Nat.le_of_ble_eq_true rfl⟩ [0, 1] rfl rfl [b 0, b 1] rfl (fun _ => rfl) (fun _ => rfl) (fun u H locs hok hP hD hS => ?_)
    refine callVV (rest := []) (wn := fun u => [mO b ζ vv, (b 1, .inl (G.2.1, 46, .inl (nF (un (exsN σ i j k) (pl i k) ((exsN σ i j k) (pl j k))))))]) ⟨hx, hb, hml, hown, hts⟩ (c_X6_puts l G H.size b ζ vv (exsN σ i j k) i k ((exsN σ i j k) (pl j k)) (by omega) (by omega)) (cwV 3 hts gX6_changes_X6_puts rfl rfl rfl (by decide +kernel) ⟨Nat.le_of_ble_eq_true rfl, Nat.le_of_ble_eq_true rfl⟩) noXB (fun _ _ _ => trivial) hK hP hD hS hAq 5 0 (T := TX6) (N := 18) rfl rfl rfl hl.1 rfl (Nat.le_of_ble_eq_true rfl) dX6_changes_24 ⟨Nat.le_of_ble_eq_true rfl, Nat.le_of_ble_eq_true rfl⟩ [0, 1] rfl rfl [b 0, b 1] rfl (fun _ => rfl) (fun _ => rfl) (fun u H locs hok hP hD hS => ?_)
    refine lv_aload_n hx hb dX6_changes_27 rfl (lv_at hl 2 rfl) ?_
    refine lv_iload_n hx hb dX6_changes_28 rfl (lv_at hl 4 rfl) ?_
    refine lv_iload_n hx hb dX6_changes_29 rfl (lv_at hl 1 rfl) ?_
    refine lv_iload hx hb dX6_changes_30 (lv_at hl 0 rfl) ?_
    refine callVV (rest := []) (wn := fun u => [mO b ζ vv, (b 1, .inl (G.2.1, 46, .inl (nF (un (un (exsN σ i j k) (pl i k) ((exsN σ i j k) (pl j k))) (pl j k) ((exsN σ i j k) (pl i k))))))]) ⟨hx, hb, hml, hown, hts⟩ (c_X6_puts l G H.size b ζ vv (un (exsN σ i j k) (pl i k) ((exsN σ i j k) (pl j k))) j k ((exsN σ i j k) (pl i k)) (by omega) (by omega)) (cwV 3 hts gX6_changes_X6_puts rfl rfl rfl (by decide +kernel) ⟨Nat.le_of_ble_eq_true rfl, Nat.le_of_ble_eq_true rfl⟩) noXB (fun _ _ _ => trivial) hK hP hD hS hAq 5 0 (T := TX6) (N := 18) rfl rfl rfl hl.1 rfl (Nat.le_of_ble_eq_true rfl) dX6_changes_32 ⟨Nat.le_of_ble_eq_true rfl, Nat.le_of_ble_eq_true rfl⟩ [0, 1] rfl rfl [b 0, b 1] rfl (fun _ => rfl) (fun _ => rfl) (fun u H locs hok hP hD hS => ?_)
    refine n_iinc (lv' := [(3, .int (nI (k + 1))), (4, .int (nI ((exsN σ i j k) (pl i k)))), (0, .ref (b 0)), (1, .int (nI i)), (2, .int (nI j))]) hx hb dX6_changes_35 hl (k := 1) rfl (by decide) rfl (fun ls hl => ?_)
    refine lv_goto (tgt := 2) hx hb dX6_changes_38 (by decide) ?_
    exact ih (k + 1) _ _ _ (by omega) (by omega) hP hD hS (lv_sub hl [0, 2, 3, 4] rfl)
set_option maxHeartbeats 400000 in
set_option maxRecDepth 100000 in
theorem c_X6_watchedOnes (l : Launch) (G : GT) (sz : Nat) (b : Nat → Nat) (ζ : Nat → Nat) (vv : Int64) (σ : Sg) (hI : Inv σ) : MI (S := Unit) l G noX yX6_watchedOnes wsX6_watchedOnes ({ frames := 1, cells := 0, slots := 0, locals := 22 } : Room) [.ref (b 0)] ([mO b ζ vv, (b 1, .inl (G.2.1, 46, .inl (nF σ)))]) sz (fun _ => True) (fun _ => nI (setN σ (σ 5))) (fun _ => [mO b ζ vv, (b 1, .inl (G.2.1, 46, .inl (nF σ)))]) := by
  refine MI_enter (cc := cX6_watchedOnes) (maxL := 3) (ret := (some .int)) (by decide) rfl (Nat.le_of_ble_eq_true rfl) ?_
  intro p e s m below meth c A ls H hx hb hr hlk hml hown hts hAq hS hP hK hD hX hl hnm
  have hown : s.vm.findClass RX6 = some m.cls := hown
  have hl : lv_has ls 3 [(0, .ref (b 0))] := hl
  obtain ⟨⟨i1, i2, i3, i4, i5⟩, ip⟩ := id hI
  refine lv_iconst (v := nI 0) hx hb dX6_watchedOnes_0 rfl ?_
  refine lv_istore_n (lv' := [(1, .int (nI 0)), (0, .ref (b 0))]) hx hb dX6_watchedOnes_1 rfl hl (by decide) rfl (fun ls hl => ?_)
  refine lv_iconst (v := nI 0) hx hb dX6_watchedOnes_2 rfl ?_
  refine lv_istore_n (lv' := [(2, .int (nI 0)), (1, .int (nI 0)), (0, .ref (b 0))]) hx hb dX6_watchedOnes_3 rfl hl (by decide) rfl (fun ls hl => ?_)
  refine W_loop1 (I := fun (k : Nat) => k ≤ σ 5) (wd := fun (k : Nat) => [mO b ζ vv, (b 1, .inl (G.2.1, 46, .inl (nF σ)))]) (lv := fun (k : Nat) => [(2, .int (nI k)), (1, .int (nI (setN σ k))), (0, .ref (b 0))]) (μ := fun (k : Nat) => σ 5 - k) ?_ 0 (by omega) hP hD hS (lv_sub hl [0, 1, 2] rfl)
  intro k H locs ls hI0 hP hD hS hl ih
  have hk : k ≤ σ 5 := hI0
  have hlt := set_lt σ k (by omega)
  refine lv_iload_n hx hb dX6_watchedOnes_4 rfl (lv_at hl 0 rfl) ?_
  refine lv_aload_n hx hb dX6_watchedOnes_5 rfl (lv_at hl 2 rfl) ?_
  refine n_get (C := RX6) (T := TX6) (N := 18) hx hb hts (fun _ h => List.mem_cons_of_mem _ (List.mem_append_right _ h)) hown hK hP 0 rfl rfl 0 (by decide) (List.mem_of_getElem? (i := 1) rfl) rfl (.ref (b 1)) rfl dX6_watchedOnes_6 ?_
  refine lv_iconst (v := nI 5) hx hb dX6_watchedOnes_9 rfl ?_
  refine n_iald hx hb hK hP 1 (v := (nI (σ 5))) rfl (by omega) (by omega) rfl dX6_watchedOnes_10 ?_
  refine n_icmp_ge hx hb (by omega) (by omega) (tgt := 39) dX6_watchedOnes_11 (by decide) (fun c_1 => ?_) (fun c_1 => ?_)
  · have hk5 : k = σ 5 := by omega
    subst hk5
    refine lv_iload_n hx hb dX6_watchedOnes_39 rfl (lv_at hl 1 rfl) ?_
    exact fin_i hx hb hr hlk hS hP hD () trivial rfl (eqW.rf _) dX6_watchedOnes_40
  · obtain ⟨p0, p1, p2, p3, p4⟩ := ip k (by omega)
    refine lv_iload_n hx hb dX6_watchedOnes_14 rfl (lv_at hl 1 rfl) ?_
    refine lv_aload_n hx hb dX6_watchedOnes_15 rfl (lv_at hl 2 rfl) ?_
    refine lv_iload_n hx hb dX6_watchedOnes_16 rfl (lv_at hl 0 rfl) ?_
    refine lv_iconst (v := nI 3) hx hb dX6_watchedOnes_17 rfl ?_
    refine callVI (rest := [.int (nI (setN σ k))]) (wn := fun u => [mO b ζ vv, (b 1, .inl (G.2.1, 46, .inl (nF σ)))]) ⟨hx, hb, hml, hown, hts⟩ (c_X6_get l G H.size b ζ vv σ k 3 (by omega) (by omega)) (cwV 2 hts gX6_watchedOnes_X6_get rfl rfl rfl (by decide +kernel) ⟨Nat.le_of_ble_eq_true rfl, Nat.le_of_ble_eq_true rfl⟩) noXB (fun _ _ _ => trivial) hK hP hD hS hAq 5 0 (T := TX6) (N := 18) rfl rfl rfl hl.1 rfl (Nat.le_of_ble_eq_true rfl) dX6_watchedOnes_18 ⟨Nat.le_of_ble_eq_true rfl, Nat.le_of_ble_eq_true rfl⟩ [0, 1] rfl rfl [b 0, b 1] rfl (fun _ => rfl) (fun _ => rfl) (fun u H locs hok hP hD hS => ?_)
    refine n_if_le hx hb (by omega) (tgt := 30) dX6_watchedOnes_21 (by decide) (fun c_2 => ?_) (fun c_2 => ?_)
    · refine lv_iconst (v := nI 0) hx hb dX6_watchedOnes_30 rfl ?_
      refine lv_ior hx hb dX6_watchedOnes_31 ?_
      refine n_top (or_0 _) ?_
      refine lv_istore_n (lv' := [(1, .int (nI (setN σ k))), (2, .int (nI k)), (0, .ref (b 0))]) hx hb dX6_watchedOnes_32 rfl hl (by decide) rfl (fun ls hl => ?_)
      refine n_iinc (lv' := [(2, .int (nI (k + 1))), (1, .int (nI (setN σ k))), (0, .ref (b 0))]) hx hb dX6_watchedOnes_33 hl (k := 1) rfl (by decide) rfl (fun ls hl => ?_)
      refine lv_goto (tgt := 4) hx hb dX6_watchedOnes_36 (by decide) ?_
      have e2 : setN σ (k + 1) = setN σ k := by rw [set_S]; first | rw [if_pos (by omega)] | rw [if_neg (by omega)]
      exact ih (k + 1) _ _ _ (by omega) (by omega) hP hD hS (by rw [e2]; exact (lv_sub hl [0, 1, 2] rfl))
    · refine lv_iconst (v := nI 1) hx hb dX6_watchedOnes_24 rfl ?_
      refine lv_iload_n hx hb dX6_watchedOnes_25 rfl (lv_at hl 0 rfl) ?_
      refine lv_ishl hx hb dX6_watchedOnes_26 ?_
      refine lv_goto (tgt := 31) hx hb dX6_watchedOnes_27 (by decide) ?_
      refine lv_ior hx hb dX6_watchedOnes_31 ?_
      refine n_top (or_at hlt (by omega)) ?_
      refine lv_istore_n (lv' := [(1, .int (nI (setN σ k ||| 2 ^ k))), (2, .int (nI k)), (0, .ref (b 0))]) hx hb dX6_watchedOnes_32 rfl hl (by decide) rfl (fun ls hl => ?_)
      refine n_iinc (lv' := [(2, .int (nI (k + 1))), (1, .int (nI (setN σ k ||| 2 ^ k))), (0, .ref (b 0))]) hx hb dX6_watchedOnes_33 hl (k := 1) rfl (by decide) rfl (fun ls hl => ?_)
      refine lv_goto (tgt := 4) hx hb dX6_watchedOnes_36 (by decide) ?_
      have e2 : setN σ (k + 1) = setN σ k ||| 2 ^ k := by rw [set_S]; first | rw [if_pos (by omega)] | rw [if_neg (by omega)]
      exact ih (k + 1) _ _ _ (by omega) (by omega) hP hD hS (by rw [e2]; exact (lv_sub hl [0, 1, 2] rfl))
set_option maxHeartbeats 400000 in
set_option maxRecDepth 100000 in
theorem c_X6_sumOf (l : Launch) (G : GT) (sz : Nat) (b : Nat → Nat) (ζ : Nat → Nat) (vv : Int64) (σ : Sg) (f : Nat) (hI : Inv σ) (hf : f < 5) : MI (S := Unit) l G noX yX6_sumOf wsX6_sumOf ({ frames := 1, cells := 0, slots := 0, locals := 22 } : Room) [.ref (b 0), .int (nI f)] ([mO b ζ vv, (b 1, .inl (G.2.1, 46, .inl (nF σ)))]) sz (fun _ => True) (fun _ => nI (sumN σ f (σ 5))) (fun _ => [mO b ζ vv, (b 1, .inl (G.2.1, 46, .inl (nF σ)))]) := by
  refine MI_enter (cc := cX6_sumOf) (maxL := 4) (ret := (some .int)) (by decide) rfl (Nat.le_of_ble_eq_true rfl) ?_
  intro p e s m below meth c A ls H hx hb hr hlk hml hown hts hAq hS hP hK hD hX hl hnm
  have hown : s.vm.findClass RX6 = some m.cls := hown
  have hl : lv_has ls 4 [(0, .ref (b 0)), (1, .int (nI f))] := hl
  obtain ⟨⟨i1, i2, i3, i4, i5⟩, ip⟩ := id hI
  refine lv_iconst (v := nI 0) hx hb dX6_sumOf_0 rfl ?_
  refine lv_istore_n (lv' := [(2, .int (nI 0)), (0, .ref (b 0)), (1, .int (nI f))]) hx hb dX6_sumOf_1 rfl hl (by decide) rfl (fun ls hl => ?_)
  refine lv_iconst (v := nI 0) hx hb dX6_sumOf_2 rfl ?_
  refine lv_istore_n (lv' := [(3, .int (nI 0)), (2, .int (nI 0)), (0, .ref (b 0)), (1, .int (nI f))]) hx hb dX6_sumOf_3 rfl hl (by decide) rfl (fun ls hl => ?_)
  refine W_loop1 (I := fun (k : Nat) => k ≤ σ 5) (wd := fun (k : Nat) => [mO b ζ vv, (b 1, .inl (G.2.1, 46, .inl (nF σ)))]) (lv := fun (k : Nat) => [(3, .int (nI k)), (2, .int (nI (sumN σ f k))), (0, .ref (b 0)), (1, .int (nI f))]) (μ := fun (k : Nat) => σ 5 - k) ?_ 0 (by omega) hP hD hS (lv_sub hl [0, 1, 2, 3] rfl)
  intro k H locs ls hI0 hP hD hS hl ih
  have hk : k ≤ σ 5 := hI0
  refine lv_iload_n hx hb dX6_sumOf_4 rfl (lv_at hl 0 rfl) ?_
  refine lv_aload_n hx hb dX6_sumOf_5 rfl (lv_at hl 2 rfl) ?_
  refine n_get (C := RX6) (T := TX6) (N := 18) hx hb hts (fun _ h => List.mem_cons_of_mem _ (List.mem_append_right _ h)) hown hK hP 0 rfl rfl 0 (by decide) (List.mem_of_getElem? (i := 1) rfl) rfl (.ref (b 1)) rfl dX6_sumOf_6 ?_
  refine lv_iconst (v := nI 5) hx hb dX6_sumOf_9 rfl ?_
  refine n_iald hx hb hK hP 1 (v := (nI (σ 5))) rfl (by omega) (by omega) rfl dX6_sumOf_10 ?_
  refine n_icmp_ge hx hb (by omega) (by omega) (tgt := 29) dX6_sumOf_11 (by decide) (fun c_1 => ?_) (fun c_1 => ?_)
  · have hk5 : k = σ 5 := by omega
    subst hk5
    refine lv_iload_n hx hb dX6_sumOf_29 rfl (lv_at hl 1 rfl) ?_
    exact fin_i hx hb hr hlk hS hP hD () trivial rfl (eqW.rf _) dX6_sumOf_30
  · refine lv_iload_n hx hb dX6_sumOf_14 rfl (lv_at hl 1 rfl) ?_
    refine lv_aload_n hx hb dX6_sumOf_15 rfl (lv_at hl 2 rfl) ?_
    refine lv_iload_n hx hb dX6_sumOf_16 rfl (lv_at hl 0 rfl) ?_
    refine lv_iload_n hx hb dX6_sumOf_17 rfl (lv_at hl 3 rfl) ?_
    refine callVI (rest := [.int (nI (sumN σ f k))]) (wn := fun u => [mO b ζ vv, (b 1, .inl (G.2.1, 46, .inl (nF σ)))]) ⟨hx, hb, hml, hown, hts⟩ (c_X6_get l G H.size b ζ vv σ k f (by omega) (by omega)) (cwV 2 hts gX6_sumOf_X6_get rfl rfl rfl (by decide +kernel) ⟨Nat.le_of_ble_eq_true rfl, Nat.le_of_ble_eq_true rfl⟩) noXB (fun _ _ _ => trivial) hK hP hD hS hAq 5 0 (T := TX6) (N := 18) rfl rfl rfl hl.1 rfl (Nat.le_of_ble_eq_true rfl) dX6_sumOf_18 ⟨Nat.le_of_ble_eq_true rfl, Nat.le_of_ble_eq_true rfl⟩ [0, 1] rfl rfl [b 0, b 1] rfl (fun _ => rfl) (fun _ => rfl) (fun u H locs hok hP hD hS => ?_)
    refine n_iadd hx hb dX6_sumOf_21 ?_
    refine lv_istore_n (lv' := [(2, .int (nI ((sumN σ f k) + (σ (pl k f))))), (3, .int (nI k)), (0, .ref (b 0)), (1, .int (nI f))]) hx hb dX6_sumOf_22 rfl hl (by decide) rfl (fun ls hl => ?_)
    refine n_iinc (lv' := [(3, .int (nI (k + 1))), (2, .int (nI ((sumN σ f k) + (σ (pl k f))))), (0, .ref (b 0)), (1, .int (nI f))]) hx hb dX6_sumOf_23 hl (k := 1) rfl (by decide) rfl (fun ls hl => ?_)
    refine lv_goto (tgt := 4) hx hb dX6_sumOf_26 (by decide) ?_
    exact ih (k + 1) _ _ _ (by omega) (by omega) hP hD hS (lv_sub hl [0, 1, 2, 3] rfl)
