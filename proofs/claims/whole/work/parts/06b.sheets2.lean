set_option maxHeartbeats 400000 in
set_option maxRecDepth 100000 in
theorem c_X3_isOne (l : Launch) (G : GT) (sz : Nat) (a0 : Int32) : MI (S := Unit) l G noX yX3_isOne wsX3_isOne ({ frames := 0, cells := 0, slots := 0, locals := 0 } : Room) [.int a0] (([] : va_W)) sz (fun _ => True) (fun _ => zI (0 ≤ a0.toInt ∧ a0.toInt ≤ 3)) (fun _ => ([] : va_W)) := by
  refine MI_enter (cc := cX3_isOne) (maxL := 1) (ret := (some .boolean)) (by decide) rfl (Nat.le_of_ble_eq_true rfl) ?_
  intro p e s m below meth c A ls H hx hb hr hlk hml hown hts hAq hS hP hK hD hX hl hnm
  have hown : s.vm.findClass RX3 = some m.cls := hown
  have hl : lv_has ls 1 [(0, .int a0)] := hl
  refine lv_iload_n hx hb dX3_isOne_0 rfl (lv_at hl 0 rfl) ?_
  refine r_if_lt hx hb (tgt := 13) dX3_isOne_1 (by decide) (fun c_1 => ?_) (fun c_1 => ?_)
  · refine lv_iconst (v := nI 0) hx hb dX3_isOne_13 rfl ?_
    exact fin_z (ty := .boolean) (by decide) hx hb hr hlk hS hP hD () trivial (zI_f (by omega)).symm (eqW.rf _) dX3_isOne_14
  · refine lv_iload_n hx hb dX3_isOne_4 rfl (lv_at hl 0 rfl) ?_
    refine lv_iconst (v := nI 4) hx hb dX3_isOne_5 rfl ?_
    refine r_icmp_ge hx hb (tgt := 13) dX3_isOne_6 (by decide) (fun c_2 => ?_) (fun c_2 => ?_)
    · rw [nI_T (by omega)] at c_2
      refine lv_iconst (v := nI 0) hx hb dX3_isOne_13 rfl ?_
      exact fin_z (ty := .boolean) (by decide) hx hb hr hlk hS hP hD () trivial (zI_f (by omega)).symm (eqW.rf _) dX3_isOne_14
    · rw [nI_T (by omega)] at c_2
      refine lv_iconst (v := nI 1) hx hb dX3_isOne_9 rfl ?_
      refine lv_goto (tgt := 14) hx hb dX3_isOne_10 (by decide) ?_
      exact fin_z (ty := .boolean) (by decide) hx hb hr hlk hS hP hD () trivial (zI_t (by omega)).symm (eqW.rf _) dX3_isOne_14
set_option maxHeartbeats 400000 in
set_option maxRecDepth 100000 in
theorem c_X3_mayHave (l : Launch) (G : GT) (sz : Nat) (a0 : Int32) : MI (S := Unit) l G noX yX3_mayHave wsX3_mayHave ({ frames := 0, cells := 0, slots := 0, locals := 0 } : Room) [.int a0] (([] : va_W)) sz (fun _ => True) (fun _ => zI (a0.toInt = 0 ∨ a0.toInt = 8 ∨ a0.toInt = 16 ∨ a0.toInt = 64)) (fun _ => ([] : va_W)) := by
  refine MI_enter (cc := cX3_mayHave) (maxL := 1) (ret := (some .boolean)) (by decide) rfl (Nat.le_of_ble_eq_true rfl) ?_
  intro p e s m below meth c A ls H hx hb hr hlk hml hown hts hAq hS hP hK hD hX hl hnm
  have hown : s.vm.findClass RX3 = some m.cls := hown
  have hl : lv_has ls 1 [(0, .int a0)] := hl
  refine lv_iload_n hx hb dX3_mayHave_0 rfl (lv_at hl 0 rfl) ?_
  refine r_if_eq hx hb (tgt := 22) dX3_mayHave_1 (by decide) (fun c_1 => ?_) (fun c_1 => ?_)
  · refine lv_iconst (v := nI 1) hx hb dX3_mayHave_22 rfl ?_
    refine lv_goto (tgt := 27) hx hb dX3_mayHave_23 (by decide) ?_
    exact fin_z (ty := .boolean) (by decide) hx hb hr hlk hS hP hD () trivial (zI_t (by omega)).symm (eqW.rf _) dX3_mayHave_27
  · refine lv_iload_n hx hb dX3_mayHave_4 rfl (lv_at hl 0 rfl) ?_
    refine lv_bipush (v := nI 8) hx hb dX3_mayHave_5 rfl ?_
    refine r_icmp_eq hx hb (tgt := 22) dX3_mayHave_7 (by decide) (fun c_2 => ?_) (fun c_2 => ?_)
    · rw [nI_T (by omega)] at c_2
      refine lv_iconst (v := nI 1) hx hb dX3_mayHave_22 rfl ?_
      refine lv_goto (tgt := 27) hx hb dX3_mayHave_23 (by decide) ?_
      exact fin_z (ty := .boolean) (by decide) hx hb hr hlk hS hP hD () trivial (zI_t (by omega)).symm (eqW.rf _) dX3_mayHave_27
    · rw [nI_T (by omega)] at c_2
      refine lv_iload_n hx hb dX3_mayHave_10 rfl (lv_at hl 0 rfl) ?_
      refine lv_bipush (v := nI 16) hx hb dX3_mayHave_11 rfl ?_
      refine r_icmp_eq hx hb (tgt := 22) dX3_mayHave_13 (by decide) (fun c_3 => ?_) (fun c_3 => ?_)
      · rw [nI_T (by omega)] at c_3
        refine lv_iconst (v := nI 1) hx hb dX3_mayHave_22 rfl ?_
        refine lv_goto (tgt := 27) hx hb dX3_mayHave_23 (by decide) ?_
        exact fin_z (ty := .boolean) (by decide) hx hb hr hlk hS hP hD () trivial (zI_t (by omega)).symm (eqW.rf _) dX3_mayHave_27
      · rw [nI_T (by omega)] at c_3
        refine lv_iload_n hx hb dX3_mayHave_16 rfl (lv_at hl 0 rfl) ?_
        refine lv_bipush (v := nI 64) hx hb dX3_mayHave_17 rfl ?_
        refine r_icmp_ne hx hb (tgt := 26) dX3_mayHave_19 (by decide) (fun c_4 => ?_) (fun c_4 => ?_)
        · rw [nI_T (by omega)] at c_4
          refine lv_iconst (v := nI 0) hx hb dX3_mayHave_26 rfl ?_
          exact fin_z (ty := .boolean) (by decide) hx hb hr hlk hS hP hD () trivial (zI_f (by omega)).symm (eqW.rf _) dX3_mayHave_27
        · rw [nI_T (by omega)] at c_4
          refine lv_iconst (v := nI 1) hx hb dX3_mayHave_22 rfl ?_
          refine lv_goto (tgt := 27) hx hb dX3_mayHave_23 (by decide) ?_
          exact fin_z (ty := .boolean) (by decide) hx hb hr hlk hS hP hD () trivial (zI_t (by omega)).symm (eqW.rf _) dX3_mayHave_27
set_option maxHeartbeats 400000 in
set_option maxRecDepth 100000 in
theorem c_X3_isMissing (l : Launch) (G : GT) (sz : Nat) (x : Nat → Nat) (wd : Nat → Nat) (k : Nat) (hk : k < 4) (hw : wd k ≤ 64) : MI (S := Unit) l G noX yX3_isMissing wsX3_isMissing ({ frames := 1, cells := 0, slots := 0, locals := 20 } : Room) [.ref (x 3), .int (nI k)] ([(x 3, .inr (2, [.ref (x 4), .ref (x 5), .ref (x 6)])), (x 4, .inl (G.2.1, 4, .inl (nF wd)))]) sz (fun _ => True) (fun _ => zI (wd k = 0)) (fun _ => [(x 3, .inr (2, [.ref (x 4), .ref (x 5), .ref (x 6)])), (x 4, .inl (G.2.1, 4, .inl (nF wd)))]) := by
  refine MI_enter (cc := cX3_isMissing) (maxL := 2) (ret := (some .boolean)) (by decide) rfl (Nat.le_of_ble_eq_true rfl) ?_
  intro p e s m below meth c A ls H hx hb hr hlk hml hown hts hAq hS hP hK hD hX hl hnm
  have hown : s.vm.findClass RX3 = some m.cls := hown
  have hl : lv_has ls 2 [(0, .ref (x 3)), (1, .int (nI k))] := hl
  refine lv_iload_n hx hb dX3_isMissing_0 rfl (lv_at hl 1 rfl) ?_
  refine callSI (rest := []) (wn := fun u => [(x 3, .inr (2, [.ref (x 4), .ref (x 5), .ref (x 6)])), (x 4, .inl (G.2.1, 4, .inl (nF wd)))]) ⟨hx, hb, hml, hown, hts⟩ (c_X3_isOne l G H.size (nI k)) (va_cwS 1 hts gX3_isMissing_X3_isOne rfl rfl rfl (by decide +kernel) ⟨Nat.le_of_ble_eq_true rfl, Nat.le_of_ble_eq_true rfl⟩) noXB (fun _ _ _ => trivial) hK hP hD hS hAq rfl hl.1 rfl (Nat.le_of_ble_eq_true rfl) dX3_isMissing_1 ⟨Nat.le_of_ble_eq_true rfl, Nat.le_of_ble_eq_true rfl⟩ [] rfl rfl [] rfl (fun _ => rfl) (fun _ => rfl) (fun u H locs hok hP hD hS => ?_)
  refine z_if_eq hx hb (tgt := 16) dX3_isMissing_4 (by decide) (fun c_1 => ?_) (fun c_1 => ?_)
  · rw [nI_T (by omega)] at c_1
    omega
  · refine lv_aload_n hx hb dX3_isMissing_7 rfl (lv_at hl 0 rfl) ?_
    refine n_get (C := RX3) (T := TX3) (N := 3) hx hb hts (fun _ h => List.mem_cons_of_mem _ (List.mem_append_right _ h)) hown hK hP 0 rfl rfl 0 (by decide) (List.mem_of_getElem? (i := 1) rfl) rfl (.ref (x 4)) rfl dX3_isMissing_8 ?_
    refine lv_iload_n hx hb dX3_isMissing_11 rfl (lv_at hl 1 rfl) ?_
    refine n_iald hx hb hK hP 1 (v := (nI (wd k))) rfl (by omega) (by omega) rfl dX3_isMissing_12 ?_
    refine n_if_ne hx hb (by omega) (tgt := 20) dX3_isMissing_13 (by decide) (fun c_2 => ?_) (fun c_2 => ?_)
    · refine lv_iconst (v := nI 0) hx hb dX3_isMissing_20 rfl ?_
      exact fin_z (ty := .boolean) (by decide) hx hb hr hlk hS hP hD () trivial (zI_f (by omega)).symm (eqW.rf _) dX3_isMissing_21
    · refine lv_iconst (v := nI 1) hx hb dX3_isMissing_16 rfl ?_
      refine lv_goto (tgt := 21) hx hb dX3_isMissing_17 (by decide) ?_
      exact fin_z (ty := .boolean) (by decide) hx hb hr hlk hS hP hD () trivial (zI_t (by omega)).symm (eqW.rf _) dX3_isMissing_21
set_option maxHeartbeats 400000 in
set_option maxRecDepth 100000 in
theorem c_X3_layOut (l : Launch) (G : GT) (sz : Nat) (x : Nat → Nat) (wd zs : Nat → Nat) (nb : Nat → Int64) (k w n : Nat) (hk : k < 4) (hw : w ≤ 64) (hn : n ≤ 40) : MV (S := Unit) l G noX yX3_layOut wsX3_layOut ({ frames := 1, cells := 0, slots := 0, locals := 20 } : Room) [.ref (x 3), .int (nI k), .int (nI w), .int (nI n)] ([(x 3, .inr (2, [.ref (x 4), .ref (x 5), .ref (x 6)])), (x 4, .inl (G.2.1, 4, .inl (nF wd))), (x 5, .inl (G.2.1, 4, .inl (nF zs))), (x 6, .inl (G.2.2.1, 160, .inr (.inl nb)))]) sz (fun _ => True) (fun _ => [(x 3, .inr (2, [.ref (x 4), .ref (x 5), .ref (x 6)])), (x 4, .inl (G.2.1, 4, .inl (nF (un wd k w)))), (x 5, .inl (G.2.1, 4, .inl (nF (un zs k (if w = 0 then 0 else n))))), (x 6, .inl (G.2.2.1, 160, .inr (.inl (clrN nb k 40))))]) := by
  refine MV_enter (cc := cX3_layOut) (maxL := 5) (ret := none) (by decide) rfl (Nat.le_of_ble_eq_true rfl) ?_
  intro p e s m below meth c A ls H hx hb hr hlk hml hown hts hAq hS hP hK hD hX hl hnm
  have hown : s.vm.findClass RX3 = some m.cls := hown
  have hl : lv_has ls 5 [(0, .ref (x 3)), (1, .int (nI k)), (2, .int (nI w)), (3, .int (nI n))] := hl
  refine lv_iload_n hx hb dX3_layOut_0 rfl (lv_at hl 1 rfl) ?_
  refine callSI (rest := []) (wn := fun u => [(x 3, .inr (2, [.ref (x 4), .ref (x 5), .ref (x 6)])), (x 4, .inl (G.2.1, 4, .inl (nF wd))), (x 5, .inl (G.2.1, 4, .inl (nF zs))), (x 6, .inl (G.2.2.1, 160, .inr (.inl nb)))]) ⟨hx, hb, hml, hown, hts⟩ (c_X3_isOne l G H.size (nI k)) (va_cwS 1 hts gX3_layOut_X3_isOne rfl rfl rfl (by decide +kernel) ⟨Nat.le_of_ble_eq_true rfl, Nat.le_of_ble_eq_true rfl⟩) noXB (fun _ _ _ => trivial) hK hP hD hS hAq rfl hl.1 rfl (Nat.le_of_ble_eq_true rfl) dX3_layOut_1 ⟨Nat.le_of_ble_eq_true rfl, Nat.le_of_ble_eq_true rfl⟩ [] rfl rfl [] rfl (fun _ => rfl) (fun _ => rfl) (fun u H locs hok hP hD hS => ?_)
  refine z_if_ne hx hb (tgt := 8) dX3_layOut_4 (by decide) (fun c_1 => ?_) (fun c_1 => ?_)
  · refine lv_aload_n hx hb dX3_layOut_8 rfl (lv_at hl 0 rfl) ?_
    refine n_get (C := RX3) (T := TX3) (N := 3) hx hb hts (fun _ h => List.mem_cons_of_mem _ (List.mem_append_right _ h)) hown hK hP 0 rfl rfl 0 (by decide) (List.mem_of_getElem? (i := 1) rfl) rfl (.ref (x 4)) rfl dX3_layOut_9 ?_
    refine lv_iload_n hx hb dX3_layOut_12 rfl (lv_at hl 1 rfl) ?_
    refine lv_iload_n hx hb dX3_layOut_13 rfl (lv_at hl 2 rfl) ?_
    refine n_iast hx hb hK hP hD hS 1 (wn := [(x 3, .inr (2, [.ref (x 4), .ref (x 5), .ref (x 6)])), (x 4, .inl (G.2.1, 4, .inl (nF (un wd k w)))), (x 5, .inl (G.2.1, 4, .inl (nF zs))), (x 6, .inl (G.2.2.1, 160, .inr (.inl nb)))]) rfl (by omega) (by omega) (by rw [nF_un]; rfl) dX3_layOut_14 (fun H locs hP hD hS => ?_)
    refine lv_aload_n hx hb dX3_layOut_15 rfl (lv_at hl 0 rfl) ?_
    refine n_get (C := RX3) (T := TX3) (N := 3) hx hb hts (fun _ h => List.mem_cons_of_mem _ (List.mem_append_right _ h)) hown hK hP 0 rfl rfl 1 (by decide) (List.mem_of_getElem? (i := 2) rfl) rfl (.ref (x 5)) rfl dX3_layOut_16 ?_
    refine lv_iload_n hx hb dX3_layOut_19 rfl (lv_at hl 1 rfl) ?_
    refine lv_iload_n hx hb dX3_layOut_20 rfl (lv_at hl 2 rfl) ?_
    refine n_if_ne hx hb (by omega) (tgt := 28) dX3_layOut_21 (by decide) (fun c_2 => ?_) (fun c_2 => ?_)
    · refine lv_iload_n hx hb dX3_layOut_28 rfl (lv_at hl 3 rfl) ?_
      refine n_top (y := nI (if w = 0 then 0 else n)) (congrArg nI (by split <;> omega)) ?_
      refine n_iast hx hb hK hP hD hS 2 (wn := [(x 3, .inr (2, [.ref (x 4), .ref (x 5), .ref (x 6)])), (x 4, .inl (G.2.1, 4, .inl (nF (un wd k w)))), (x 5, .inl (G.2.1, 4, .inl (nF (un zs k (if w = 0 then 0 else n))))), (x 6, .inl (G.2.2.1, 160, .inr (.inl nb)))]) rfl (by omega) (by omega) (by rw [nF_un]; rfl) dX3_layOut_29 (fun H locs hP hD hS => ?_)
      refine lv_iconst (v := nI 0) hx hb dX3_layOut_30 rfl ?_
      refine lv_istore (lv' := [(4, .int (nI 0)), (0, .ref (x 3)), (1, .int (nI k)), (2, .int (nI w)), (3, .int (nI n))]) hx hb dX3_layOut_31 hl (by decide) rfl (fun ls hl => ?_)
      refine W_loop1 (I := fun (i : Nat) => i ≤ 40) (wd := fun (i : Nat) => [(x 3, .inr (2, [.ref (x 4), .ref (x 5), .ref (x 6)])), (x 4, .inl (G.2.1, 4, .inl (nF (un wd k w)))), (x 5, .inl (G.2.1, 4, .inl (nF (un zs k (if w = 0 then 0 else n))))), (x 6, .inl (G.2.2.1, 160, .inr (.inl (clrN nb k i))))]) (lv := fun (i : Nat) => [(4, .int (nI i)), (0, .ref (x 3)), (1, .int (nI k)), (2, .int (nI w)), (3, .int (nI n))]) (μ := fun (i : Nat) => 40 - i) ?_ 0 (by omega) hP hD hS (lv_sub hl [0, 1, 2, 3, 4] rfl)
      intro i H locs ls hI0 hP hD hS hl ih
      have hi0 : i ≤ 40 := hI0
      refine lv_iload hx hb dX3_layOut_33 (lv_at hl 0 rfl) ?_
      refine lv_bipush (v := nI 40) hx hb dX3_layOut_35 rfl ?_
      refine n_icmp_ge hx hb (by omega) (by omega) (tgt := 59) dX3_layOut_37 (by decide) (fun c_3 => ?_) (fun c_3 => ?_)
      · have hk5 : i = 40 := by omega
        subst hk5
        exact fin_v hx hb hr hlk hS hP hD () trivial (eqW.rf _) dX3_layOut_59
      · refine lv_aload_n hx hb dX3_layOut_40 rfl (lv_at hl 1 rfl) ?_
        refine n_get (C := RX3) (T := TX3) (N := 3) hx hb hts (fun _ h => List.mem_cons_of_mem _ (List.mem_append_right _ h)) hown hK hP 0 rfl rfl 2 (by decide) (List.mem_of_getElem? (i := 3) rfl) rfl (.ref (x 6)) rfl dX3_layOut_41 ?_
        refine lv_bipush (v := nI 40) hx hb dX3_layOut_44 rfl ?_
        refine lv_iload_n hx hb dX3_layOut_46 rfl (lv_at hl 2 rfl) ?_
        refine n_imul hx hb dX3_layOut_47 ?_
        refine lv_iload hx hb dX3_layOut_48 (lv_at hl 0 rfl) ?_
        refine n_iadd hx hb dX3_layOut_50 ?_
        refine lv_lconst (v := lN 0) hx hb dX3_layOut_51 rfl ?_
        refine n_last hx hb hK hP hD hS 3 (wn := [(x 3, .inr (2, [.ref (x 4), .ref (x 5), .ref (x 6)])), (x 4, .inl (G.2.1, 4, .inl (nF (un wd k w)))), (x 5, .inl (G.2.1, 4, .inl (nF (un zs k (if w = 0 then 0 else n))))), (x 6, .inl (G.2.2.1, 160, .inr (.inl (vp_updL (clrN nb k i) ((40 * k) + i) (lN 0)))))]) rfl (by omega) (by omega) rfl dX3_layOut_52 (fun H locs hP hD hS => ?_)
        refine n_iinc (lv' := [(4, .int (nI (i + 1))), (0, .ref (x 3)), (1, .int (nI k)), (2, .int (nI w)), (3, .int (nI n))]) hx hb dX3_layOut_53 hl (k := 0) rfl (by decide) rfl (fun ls hl => ?_)
        refine lv_goto (tgt := 33) hx hb dX3_layOut_56 (by decide) ?_
        exact ih (i + 1) _ _ _ (by omega) (by omega) hP hD hS (lv_sub hl [0, 1, 2, 3, 4] rfl)
    · refine lv_iconst (v := nI 0) hx hb dX3_layOut_24 rfl ?_
      refine lv_goto (tgt := 29) hx hb dX3_layOut_25 (by decide) ?_
      refine n_top (y := nI (if w = 0 then 0 else n)) (congrArg nI (by split <;> omega)) ?_
      refine n_iast hx hb hK hP hD hS 2 (wn := [(x 3, .inr (2, [.ref (x 4), .ref (x 5), .ref (x 6)])), (x 4, .inl (G.2.1, 4, .inl (nF (un wd k w)))), (x 5, .inl (G.2.1, 4, .inl (nF (un zs k (if w = 0 then 0 else n))))), (x 6, .inl (G.2.2.1, 160, .inr (.inl nb)))]) rfl (by omega) (by omega) (by rw [nF_un]; rfl) dX3_layOut_29 (fun H locs hP hD hS => ?_)
      refine lv_iconst (v := nI 0) hx hb dX3_layOut_30 rfl ?_
      refine lv_istore (lv' := [(4, .int (nI 0)), (0, .ref (x 3)), (1, .int (nI k)), (2, .int (nI w)), (3, .int (nI n))]) hx hb dX3_layOut_31 hl (by decide) rfl (fun ls hl => ?_)
      refine W_loop1 (I := fun (i : Nat) => i ≤ 40) (wd := fun (i : Nat) => [(x 3, .inr (2, [.ref (x 4), .ref (x 5), .ref (x 6)])), (x 4, .inl (G.2.1, 4, .inl (nF (un wd k w)))), (x 5, .inl (G.2.1, 4, .inl (nF (un zs k (if w = 0 then 0 else n))))), (x 6, .inl (G.2.2.1, 160, .inr (.inl (clrN nb k i))))]) (lv := fun (i : Nat) => [(4, .int (nI i)), (0, .ref (x 3)), (1, .int (nI k)), (2, .int (nI w)), (3, .int (nI n))]) (μ := fun (i : Nat) => 40 - i) ?_ 0 (by omega) hP hD hS (lv_sub hl [0, 1, 2, 3, 4] rfl)
      intro i H locs ls hI0 hP hD hS hl ih
      have hi0 : i ≤ 40 := hI0
      refine lv_iload hx hb dX3_layOut_33 (lv_at hl 0 rfl) ?_
      refine lv_bipush (v := nI 40) hx hb dX3_layOut_35 rfl ?_
      refine n_icmp_ge hx hb (by omega) (by omega) (tgt := 59) dX3_layOut_37 (by decide) (fun c_4 => ?_) (fun c_4 => ?_)
      · have hk5 : i = 40 := by omega
        subst hk5
        exact fin_v hx hb hr hlk hS hP hD () trivial (eqW.rf _) dX3_layOut_59
      · refine lv_aload_n hx hb dX3_layOut_40 rfl (lv_at hl 1 rfl) ?_
        refine n_get (C := RX3) (T := TX3) (N := 3) hx hb hts (fun _ h => List.mem_cons_of_mem _ (List.mem_append_right _ h)) hown hK hP 0 rfl rfl 2 (by decide) (List.mem_of_getElem? (i := 3) rfl) rfl (.ref (x 6)) rfl dX3_layOut_41 ?_
        refine lv_bipush (v := nI 40) hx hb dX3_layOut_44 rfl ?_
        refine lv_iload_n hx hb dX3_layOut_46 rfl (lv_at hl 2 rfl) ?_
        refine n_imul hx hb dX3_layOut_47 ?_
        refine lv_iload hx hb dX3_layOut_48 (lv_at hl 0 rfl) ?_
        refine n_iadd hx hb dX3_layOut_50 ?_
        refine lv_lconst (v := lN 0) hx hb dX3_layOut_51 rfl ?_
        refine n_last hx hb hK hP hD hS 3 (wn := [(x 3, .inr (2, [.ref (x 4), .ref (x 5), .ref (x 6)])), (x 4, .inl (G.2.1, 4, .inl (nF (un wd k w)))), (x 5, .inl (G.2.1, 4, .inl (nF (un zs k (if w = 0 then 0 else n))))), (x 6, .inl (G.2.2.1, 160, .inr (.inl (vp_updL (clrN nb k i) ((40 * k) + i) (lN 0)))))]) rfl (by omega) (by omega) rfl dX3_layOut_52 (fun H locs hP hD hS => ?_)
        refine n_iinc (lv' := [(4, .int (nI (i + 1))), (0, .ref (x 3)), (1, .int (nI k)), (2, .int (nI w)), (3, .int (nI n))]) hx hb dX3_layOut_53 hl (k := 0) rfl (by decide) rfl (fun ls hl => ?_)
        refine lv_goto (tgt := 33) hx hb dX3_layOut_56 (by decide) ?_
        exact ih (i + 1) _ _ _ (by omega) (by omega) hP hD hS (lv_sub hl [0, 1, 2, 3, 4] rfl)
  · rw [nI_T (by omega)] at c_1
    omega
set_option maxHeartbeats 400000 in
set_option maxRecDepth 100000 in
theorem c_X3_hasRun (l : Launch) (G : GT) (sz : Nat) (x : Nat → Nat) (zs : Nat → Nat) (k : Nat) (a1 a2 : Int32) (hk : k < 4) (hs : zs k ≤ 40) : MI (S := Unit) l G noX yX3_hasRun wsX3_hasRun ({ frames := 1, cells := 0, slots := 0, locals := 20 } : Room) [.ref (x 3), .int (nI k), .int a1, .int a2] ([(x 3, .inr (2, [.ref (x 4), .ref (x 5), .ref (x 6)])), (x 5, .inl (G.2.1, 4, .inl (nF zs)))]) sz (fun _ => True) (fun _ => zI (0 ≤ a1.toInt ∧ 0 ≤ a2.toInt ∧ a2.toInt ≤ ((zs k : Nat) : Int) ∧ a1.toInt ≤ ((zs k : Nat) : Int) - a2.toInt)) (fun _ => [(x 3, .inr (2, [.ref (x 4), .ref (x 5), .ref (x 6)])), (x 5, .inl (G.2.1, 4, .inl (nF zs)))]) := by
  refine MI_enter (cc := cX3_hasRun) (maxL := 4) (ret := (some .boolean)) (by decide) rfl (Nat.le_of_ble_eq_true rfl) ?_
  intro p e s m below meth c A ls H hx hb hr hlk hml hown hts hAq hS hP hK hD hX hl hnm
  have hown : s.vm.findClass RX3 = some m.cls := hown
  have hl : lv_has ls 4 [(0, .ref (x 3)), (1, .int (nI k)), (2, .int a1), (3, .int a2)] := hl
  refine lv_iload_n hx hb dX3_hasRun_0 rfl (lv_at hl 1 rfl) ?_
  refine callSI (rest := []) (wn := fun u => [(x 3, .inr (2, [.ref (x 4), .ref (x 5), .ref (x 6)])), (x 5, .inl (G.2.1, 4, .inl (nF zs)))]) ⟨hx, hb, hml, hown, hts⟩ (c_X3_isOne l G H.size (nI k)) (va_cwS 1 hts gX3_hasRun_X3_isOne rfl rfl rfl (by decide +kernel) ⟨Nat.le_of_ble_eq_true rfl, Nat.le_of_ble_eq_true rfl⟩) noXB (fun _ _ _ => trivial) hK hP hD hS hAq rfl hl.1 rfl (Nat.le_of_ble_eq_true rfl) dX3_hasRun_1 ⟨Nat.le_of_ble_eq_true rfl, Nat.le_of_ble_eq_true rfl⟩ [] rfl rfl [] rfl (fun _ => rfl) (fun _ => rfl) (fun u H locs hok hP hD hS => ?_)
  refine z_if_eq hx hb (tgt := 15) dX3_hasRun_4 (by decide) (fun c_1 => ?_) (fun c_1 => ?_)
  · rw [nI_T (by omega)] at c_1
    omega
  · refine lv_iload_n hx hb dX3_hasRun_7 rfl (lv_at hl 2 rfl) ?_
    refine r_if_lt hx hb (tgt := 15) dX3_hasRun_8 (by decide) (fun c_2 => ?_) (fun c_2 => ?_)
    · refine lv_iconst (v := nI 0) hx hb dX3_hasRun_15 rfl ?_
      exact fin_z (ty := .boolean) (by decide) hx hb hr hlk hS hP hD () trivial (zI_f (by omega)).symm (eqW.rf _) dX3_hasRun_16
    · refine lv_iload_n hx hb dX3_hasRun_11 rfl (lv_at hl 3 rfl) ?_
      refine r_if_ge hx hb (tgt := 17) dX3_hasRun_12 (by decide) (fun c_3 => ?_) (fun c_3 => ?_)
      · refine lv_iload_n hx hb dX3_hasRun_17 rfl (lv_at hl 3 rfl) ?_
        refine lv_aload_n hx hb dX3_hasRun_18 rfl (lv_at hl 0 rfl) ?_
        refine n_get (C := RX3) (T := TX3) (N := 3) hx hb hts (fun _ h => List.mem_cons_of_mem _ (List.mem_append_right _ h)) hown hK hP 0 rfl rfl 1 (by decide) (List.mem_of_getElem? (i := 1) rfl) rfl (.ref (x 5)) rfl dX3_hasRun_19 ?_
        refine lv_iload_n hx hb dX3_hasRun_22 rfl (lv_at hl 1 rfl) ?_
        refine n_iald hx hb hK hP 1 (v := (nI (zs k))) rfl (by omega) (by omega) rfl dX3_hasRun_23 ?_
        refine r_icmp_gt hx hb (tgt := 43) dX3_hasRun_24 (by decide) (fun c_4 => ?_) (fun c_4 => ?_)
        · rw [nI_T (by omega)] at c_4
          refine lv_iconst (v := nI 0) hx hb dX3_hasRun_43 rfl ?_
          exact fin_z (ty := .boolean) (by decide) hx hb hr hlk hS hP hD () trivial (zI_f (by omega)).symm (eqW.rf _) dX3_hasRun_44
        · rw [nI_T (by omega)] at c_4
          obtain ⟨n2, hn2, rfl⟩ := nI_of_rg (n := 40) (x := a2) ⟨by omega, by omega⟩
          have hT2 := nI_T (a := n2) (by omega)
          refine lv_iload_n hx hb dX3_hasRun_27 rfl (lv_at hl 2 rfl) ?_
          refine lv_aload_n hx hb dX3_hasRun_28 rfl (lv_at hl 0 rfl) ?_
          refine n_get (C := RX3) (T := TX3) (N := 3) hx hb hts (fun _ h => List.mem_cons_of_mem _ (List.mem_append_right _ h)) hown hK hP 0 rfl rfl 1 (by decide) (List.mem_of_getElem? (i := 1) rfl) rfl (.ref (x 5)) rfl dX3_hasRun_29 ?_
          refine lv_iload_n hx hb dX3_hasRun_32 rfl (lv_at hl 1 rfl) ?_
          refine n_iald hx hb hK hP 1 (v := (nI (zs k))) rfl (by omega) (by omega) rfl dX3_hasRun_33 ?_
          refine lv_iload_n hx hb dX3_hasRun_34 rfl (lv_at hl 3 rfl) ?_
          refine n_isub hx hb (by omega) dX3_hasRun_35 ?_
          refine r_icmp_gt hx hb (tgt := 43) dX3_hasRun_36 (by decide) (fun c_5 => ?_) (fun c_5 => ?_)
          · rw [nI_T (by omega)] at c_5
            refine lv_iconst (v := nI 0) hx hb dX3_hasRun_43 rfl ?_
            exact fin_z (ty := .boolean) (by decide) hx hb hr hlk hS hP hD () trivial (zI_f (by omega)).symm (eqW.rf _) dX3_hasRun_44
          · rw [nI_T (by omega)] at c_5
            refine lv_iconst (v := nI 1) hx hb dX3_hasRun_39 rfl ?_
            refine lv_goto (tgt := 44) hx hb dX3_hasRun_40 (by decide) ?_
            exact fin_z (ty := .boolean) (by decide) hx hb hr hlk hS hP hD () trivial (zI_t (by omega)).symm (eqW.rf _) dX3_hasRun_44
      · refine lv_iconst (v := nI 0) hx hb dX3_hasRun_15 rfl ?_
        exact fin_z (ty := .boolean) (by decide) hx hb hr hlk hS hP hD () trivial (zI_f (by omega)).symm (eqW.rf _) dX3_hasRun_16
set_option maxHeartbeats 400000 in
set_option maxRecDepth 100000 in
theorem c_X3_numberAt (l : Launch) (G : GT) (sz : Nat) (x : Nat → Nat) (zs : Nat → Nat) (nb : Nat → Int64) (k i : Nat) (hk : k < 4) (hs : zs k ≤ 40) (hi0 : i < zs k) : ML (S := Unit) l G noX yX3_numberAt wsX3_numberAt ({ frames := 2, cells := 0, slots := 0, locals := 43 } : Room) [.ref (x 3), .int (nI k), .int (nI i)] ([(x 3, .inr (2, [.ref (x 4), .ref (x 5), .ref (x 6)])), (x 5, .inl (G.2.1, 4, .inl (nF zs))), (x 6, .inl (G.2.2.1, 160, .inr (.inl nb)))]) sz (fun _ => True) (fun _ => nb (40 * k + i)) (fun _ => [(x 3, .inr (2, [.ref (x 4), .ref (x 5), .ref (x 6)])), (x 5, .inl (G.2.1, 4, .inl (nF zs))), (x 6, .inl (G.2.2.1, 160, .inr (.inl nb)))]) := by
  refine ML_enter (cc := cX3_numberAt) (maxL := 3) (ret := (some .long)) (by decide) rfl (Nat.le_of_ble_eq_true rfl) ?_
  intro p e s m below meth c A ls H hx hb hr hlk hml hown hts hAq hS hP hK hD hX hl hnm
  have hown : s.vm.findClass RX3 = some m.cls := hown
  have hl : lv_has ls 3 [(0, .ref (x 3)), (1, .int (nI k)), (2, .int (nI i))] := hl
  have t1 := nI_T (a := 1) (by decide)
  have ti := nI_T (a := i) (by omega)
  refine lv_aload_n hx hb dX3_numberAt_0 rfl (lv_at hl 0 rfl) ?_
  refine lv_iload_n hx hb dX3_numberAt_1 rfl (lv_at hl 1 rfl) ?_
  refine lv_iload_n hx hb dX3_numberAt_2 rfl (lv_at hl 2 rfl) ?_
  refine lv_iconst (v := nI 1) hx hb dX3_numberAt_3 rfl ?_
  refine callVI (rest := []) (wn := fun u => [(x 3, .inr (2, [.ref (x 4), .ref (x 5), .ref (x 6)])), (x 5, .inl (G.2.1, 4, .inl (nF zs))), (x 6, .inl (G.2.2.1, 160, .inr (.inl nb)))]) ⟨hx, hb, hml, hown, hts⟩ (c_X3_hasRun l G H.size x zs k (nI i) (nI 1) (by omega) (by omega)) (cwV 3 hts gX3_numberAt_X3_hasRun rfl rfl rfl (by decide +kernel) ⟨Nat.le_of_ble_eq_true rfl, Nat.le_of_ble_eq_true rfl⟩) noXB (fun _ _ _ => trivial) hK hP hD hS hAq 2 0 (T := TX3) (N := 3) rfl rfl rfl hl.1 rfl (Nat.le_of_ble_eq_true rfl) dX3_numberAt_4 ⟨Nat.le_of_ble_eq_true rfl, Nat.le_of_ble_eq_true rfl⟩ [0, 1] rfl rfl [x 3, x 5] rfl (fun _ => rfl) (fun _ => rfl) (fun u H locs hok hP hD hS => ?_)
  refine z_if_eq hx hb (tgt := 24) dX3_numberAt_7 (by decide) (fun c_1 => ?_) (fun c_1 => ?_)
  · exact absurd (by omega) c_1
  · refine lv_aload_n hx hb dX3_numberAt_10 rfl (lv_at hl 0 rfl) ?_
    refine n_get (C := RX3) (T := TX3) (N := 3) hx hb hts (fun _ h => List.mem_cons_of_mem _ (List.mem_append_right _ h)) hown hK hP 0 rfl rfl 2 (by decide) (List.mem_of_getElem? (i := 1) rfl) rfl (.ref (x 6)) rfl dX3_numberAt_11 ?_
    refine lv_bipush (v := nI 40) hx hb dX3_numberAt_14 rfl ?_
    refine lv_iload_n hx hb dX3_numberAt_16 rfl (lv_at hl 1 rfl) ?_
    refine n_imul hx hb dX3_numberAt_17 ?_
    refine lv_iload_n hx hb dX3_numberAt_18 rfl (lv_at hl 2 rfl) ?_
    refine n_iadd hx hb dX3_numberAt_19 ?_
    refine n_lald hx hb hK hP 2 (v := (nb ((40 * k) + i))) rfl (by omega) (by omega) rfl dX3_numberAt_20 ?_
    refine lv_goto (tgt := 25) hx hb dX3_numberAt_21 (by decide) ?_
    exact fin_l hx hb hr hlk hS hP hD () trivial rfl (eqW.rf _) dX3_numberAt_25
set_option maxHeartbeats 400000 in
set_option maxRecDepth 100000 in
theorem c_X3_lowest (l : Launch) (G : GT) (sz : Nat) (w : Nat) (v : Int64) (hw : w ≤ 64) : ML (S := Unit) l G noX yX3_lowest wsX3_lowest ({ frames := 0, cells := 0, slots := 0, locals := 0 } : Room) [.int (nI w), .long v] (([] : va_W)) sz (fun _ => True) (fun _ => lowN w v) (fun _ => ([] : va_W)) := by
  refine ML_enter (cc := cX3_lowest) (maxL := 3) (ret := (some .long)) (by decide) rfl (Nat.le_of_ble_eq_true rfl) ?_
  intro p e s m below meth c A ls H hx hb hr hlk hml hown hts hAq hS hP hK hD hX hl hnm
  have hown : s.vm.findClass RX3 = some m.cls := hown
  have hl : lv_has ls 3 [(0, .int (nI w)), (1, .long v)] := hl
  refine lv_iload_n hx hb dX3_lowest_0 rfl (lv_at hl 0 rfl) ?_
  rcases (show w = 8 ∨ w = 16 ∨ (¬ w = 8 ∧ ¬ w = 16) by omega) with hsw | hsw | ⟨hs8, hs16⟩
  · refine n_lookup hsw (off := 27) (tgt := 28) hx hb dX3_lowest_1 (by decide) (by decide) (by decide) ?_
    refine lv_lload_n hx hb dX3_lowest_28 rfl (lv_at hl 1 rfl) ?_
    refine lv_l2i (v := v.toInt32) hx hb dX3_lowest_29 rfl ?_
    refine lv_i2b (v := v.toInt32.toInt8.toInt32) hx hb dX3_lowest_30 rfl ?_
    refine lv_i2l (v := v.toInt32.toInt8.toInt32.toInt64) hx hb dX3_lowest_31 rfl ?_
    exact fin_l hx hb hr hlk hS hP hD () trivial (by unfold lowN; first | rw [if_pos (by omega)] | rw [if_neg (by omega), if_pos (by omega)] | rw [if_neg (by omega), if_neg (by omega)]) (eqW.rf _) dX3_lowest_32
  · refine n_lookup hsw (off := 32) (tgt := 33) hx hb dX3_lowest_1 (by decide) (by decide) (by decide) ?_
    refine lv_lload_n hx hb dX3_lowest_33 rfl (lv_at hl 1 rfl) ?_
    refine lv_l2i (v := v.toInt32) hx hb dX3_lowest_34 rfl ?_
    refine lv_i2s (v := v.toInt32.toInt16.toInt32) hx hb dX3_lowest_35 rfl ?_
    refine lv_i2l (v := v.toInt32.toInt16.toInt32.toInt64) hx hb dX3_lowest_36 rfl ?_
    exact fin_l hx hb hr hlk hS hP hD () trivial (by unfold lowN; first | rw [if_pos (by omega)] | rw [if_neg (by omega), if_pos (by omega)] | rw [if_neg (by omega), if_neg (by omega)]) (eqW.rf _) dX3_lowest_37
  · refine lv_lookup (off := 37) (tgt := 38) hx hb dX3_lowest_1 (by decide) (low_out (by omega) hs8 hs16) (by decide) ?_
    refine lv_lload_n hx hb dX3_lowest_38 rfl (lv_at hl 1 rfl) ?_
    exact fin_l hx hb hr hlk hS hP hD () trivial (by unfold lowN; first | rw [if_pos (by omega)] | rw [if_neg (by omega), if_pos (by omega)] | rw [if_neg (by omega), if_neg (by omega)]) (eqW.rf _) dX3_lowest_39
set_option maxHeartbeats 400000 in
set_option maxRecDepth 100000 in
theorem c_X3_putNumber (l : Launch) (G : GT) (sz : Nat) (x : Nat → Nat) (wd zs : Nat → Nat) (nb : Nat → Int64) (k i : Nat) (v : Int64) (hk : k < 4) (hw : wd k ≤ 64) (hs : zs k ≤ 40) (hi0 : i < zs k) : MV (S := Unit) l G noX yX3_putNumber wsX3_putNumber ({ frames := 2, cells := 0, slots := 0, locals := 43 } : Room) [.ref (x 3), .int (nI k), .int (nI i), .long v] ([(x 3, .inr (2, [.ref (x 4), .ref (x 5), .ref (x 6)])), (x 4, .inl (G.2.1, 4, .inl (nF wd))), (x 5, .inl (G.2.1, 4, .inl (nF zs))), (x 6, .inl (G.2.2.1, 160, .inr (.inl nb)))]) sz (fun _ => True) (fun _ => [(x 3, .inr (2, [.ref (x 4), .ref (x 5), .ref (x 6)])), (x 4, .inl (G.2.1, 4, .inl (nF wd))), (x 5, .inl (G.2.1, 4, .inl (nF zs))), (x 6, .inl (G.2.2.1, 160, .inr (.inl (vp_updL nb (40 * k + i) (lowN (wd k) v)))))]) := by
  refine MV_enter (cc := cX3_putNumber) (maxL := 5) (ret := none) (by decide) rfl (Nat.le_of_ble_eq_true rfl) ?_
  intro p e s m below meth c A ls H hx hb hr hlk hml hown hts hAq hS hP hK hD hX hl hnm
  have hown : s.vm.findClass RX3 = some m.cls := hown
  have hl : lv_has ls 5 [(0, .ref (x 3)), (1, .int (nI k)), (2, .int (nI i)), (3, .long v)] := hl
  have t1 := nI_T (a := 1) (by decide)
  have ti := nI_T (a := i) (by omega)
  refine lv_aload_n hx hb dX3_putNumber_0 rfl (lv_at hl 0 rfl) ?_
  refine lv_iload_n hx hb dX3_putNumber_1 rfl (lv_at hl 1 rfl) ?_
  refine lv_iload_n hx hb dX3_putNumber_2 rfl (lv_at hl 2 rfl) ?_
  refine lv_iconst (v := nI 1) hx hb dX3_putNumber_3 rfl ?_
  refine callVI (rest := []) (wn := fun u => [(x 3, .inr (2, [.ref (x 4), .ref (x 5), .ref (x 6)])), (x 4, .inl (G.2.1, 4, .inl (nF wd))), (x 5, .inl (G.2.1, 4, .inl (nF zs))), (x 6, .inl (G.2.2.1, 160, .inr (.inl nb)))]) ⟨hx, hb, hml, hown, hts⟩ (c_X3_hasRun l G H.size x zs k (nI i) (nI 1) (by omega) (by omega)) (cwV 3 hts gX3_putNumber_X3_hasRun rfl rfl rfl (by decide +kernel) ⟨Nat.le_of_ble_eq_true rfl, Nat.le_of_ble_eq_true rfl⟩) noXB (fun _ _ _ => trivial) hK hP hD hS hAq 2 0 (T := TX3) (N := 3) rfl rfl rfl hl.1 rfl (Nat.le_of_ble_eq_true rfl) dX3_putNumber_4 ⟨Nat.le_of_ble_eq_true rfl, Nat.le_of_ble_eq_true rfl⟩ [0, 2] rfl rfl [x 3, x 5] rfl (fun _ => rfl) (fun _ => rfl) (fun u H locs hok hP hD hS => ?_)
  refine z_if_ne hx hb (tgt := 11) dX3_putNumber_7 (by decide) (fun c_1 => ?_) (fun c_1 => ?_)
  · refine lv_aload_n hx hb dX3_putNumber_11 rfl (lv_at hl 0 rfl) ?_
    refine n_get (C := RX3) (T := TX3) (N := 3) hx hb hts (fun _ h => List.mem_cons_of_mem _ (List.mem_append_right _ h)) hown hK hP 0 rfl rfl 2 (by decide) (List.mem_of_getElem? (i := 1) rfl) rfl (.ref (x 6)) rfl dX3_putNumber_12 ?_
    refine lv_bipush (v := nI 40) hx hb dX3_putNumber_15 rfl ?_
    refine lv_iload_n hx hb dX3_putNumber_17 rfl (lv_at hl 1 rfl) ?_
    refine n_imul hx hb dX3_putNumber_18 ?_
    refine lv_iload_n hx hb dX3_putNumber_19 rfl (lv_at hl 2 rfl) ?_
    refine n_iadd hx hb dX3_putNumber_20 ?_
    refine lv_aload_n hx hb dX3_putNumber_21 rfl (lv_at hl 0 rfl) ?_
    refine n_get (C := RX3) (T := TX3) (N := 3) hx hb hts (fun _ h => List.mem_cons_of_mem _ (List.mem_append_right _ h)) hown hK hP 0 rfl rfl 0 (by decide) (List.mem_of_getElem? (i := 2) rfl) rfl (.ref (x 4)) rfl dX3_putNumber_22 ?_
    refine lv_iload_n hx hb dX3_putNumber_25 rfl (lv_at hl 1 rfl) ?_
    refine n_iald hx hb hK hP 1 (v := (nI (wd k))) rfl (by omega) (by omega) rfl dX3_putNumber_26 ?_
    refine lv_lload_n hx hb dX3_putNumber_27 rfl (lv_at hl 3 rfl) ?_
    refine callSL (rest := [.int (nI ((40 * k) + i)), .ref (x 6)]) (wn := fun u => [(x 3, .inr (2, [.ref (x 4), .ref (x 5), .ref (x 6)])), (x 4, .inl (G.2.1, 4, .inl (nF wd))), (x 5, .inl (G.2.1, 4, .inl (nF zs))), (x 6, .inl (G.2.2.1, 160, .inr (.inl nb)))]) ⟨hx, hb, hml, hown, hts⟩ (c_X3_lowest l G H.size (wd k) v (by omega)) (va_cwS 2 hts gX3_putNumber_X3_lowest rfl rfl rfl (by decide +kernel) ⟨Nat.le_of_ble_eq_true rfl, Nat.le_of_ble_eq_true rfl⟩) noXB (fun _ _ _ => trivial) hK hP hD hS hAq rfl hl.1 rfl (Nat.le_of_ble_eq_true rfl) dX3_putNumber_28 ⟨Nat.le_of_ble_eq_true rfl, Nat.le_of_ble_eq_true rfl⟩ [] rfl rfl [] rfl (fun _ => rfl) (fun _ => rfl) (fun u H locs hok hP hD hS => ?_)
    refine n_last hx hb hK hP hD hS 3 (wn := [(x 3, .inr (2, [.ref (x 4), .ref (x 5), .ref (x 6)])), (x 4, .inl (G.2.1, 4, .inl (nF wd))), (x 5, .inl (G.2.1, 4, .inl (nF zs))), (x 6, .inl (G.2.2.1, 160, .inr (.inl (vp_updL nb ((40 * k) + i) (lowN (wd k) v)))))]) rfl (by omega) (by omega) rfl dX3_putNumber_31 (fun H locs hP hD hS => ?_)
    exact fin_v hx hb hr hlk hS hP hD () trivial (eqW.rf _) dX3_putNumber_32
  · exact absurd (by omega) c_1
set_option maxHeartbeats 400000 in
set_option maxRecDepth 100000 in
theorem c_X6_isSheet (l : Launch) (G : GT) (sz : Nat) (a0 : Int32) : MI (S := Unit) l G noX yX6_isSheet wsX6_isSheet ({ frames := 1, cells := 0, slots := 0, locals := 22 } : Room) [.int a0] (([] : va_W)) sz (fun _ => True) (fun _ => zI ((0 : Int) ≤ a0.toInt ∧ a0.toInt ≤ 3)) (fun _ => ([] : va_W)) := by
  refine MI_enter (cc := cX6_isSheet) (maxL := 1) (ret := (some .boolean)) (by decide) rfl (Nat.le_of_ble_eq_true rfl) ?_
  intro p e s m below meth c A ls H hx hb hr hlk hml hown hts hAq hS hP hK hD hX hl hnm
  have hown : s.vm.findClass RX6 = some m.cls := hown
  have hl : lv_has ls 1 [(0, .int a0)] := hl
  refine lv_iload_n hx hb dX6_isSheet_0 rfl (lv_at hl 0 rfl) ?_
  refine lv_iconst (v := nI 0) hx hb dX6_isSheet_1 rfl ?_
  refine lv_iconst (v := nI 3) hx hb dX6_isSheet_2 rfl ?_
  refine callSI (rest := []) (wn := fun u => ([] : va_W)) ⟨hx, hb, hml, hown, hts⟩ (c_X6_in1 l G H.size a0 (nI 0) (nI 3)) (va_cwS 3 hts gX6_isSheet_X6_in1 rfl rfl rfl (by decide +kernel) ⟨Nat.le_of_ble_eq_true rfl, Nat.le_of_ble_eq_true rfl⟩) noXB (fun _ _ _ => trivial) hK hP hD hS hAq rfl hl.1 rfl (Nat.le_of_ble_eq_true rfl) dX6_isSheet_3 ⟨Nat.le_of_ble_eq_true rfl, Nat.le_of_ble_eq_true rfl⟩ [] rfl rfl [] rfl (fun _ => rfl) (fun _ => rfl) (fun u H locs hok hP hD hS => ?_)
  refine n_top (y := zI ((0 : Int) ≤ a0.toInt ∧ a0.toInt ≤ 3)) (zI_c (by rw [nI_T (show 0 < 2147483648 by decide), nI_T (show 3 < 2147483648 by decide)]; exact Iff.rfl)) ?_
  exact fin_z (ty := .boolean) zI_n hx hb hr hlk hS hP hD () trivial rfl (eqW.rf _) dX6_isSheet_6
set_option maxHeartbeats 400000 in
set_option maxRecDepth 100000 in
theorem c_X6_wrongSheet (l : Launch) (G : GT) (sz : Nat) (b : Nat → Nat) (ζ : Nat → Nat) (vv : Int64) (wd zs : Nat → Nat) (a0 : Int32) (hSI : SInv wd zs) : MI (S := Unit) l G noX yX6_wrongSheet wsX6_wrongSheet ({ frames := 2, cells := 0, slots := 0, locals := 42 } : Room) [.ref (b 0), .int a0] ([mO b ζ vv, (b 9, .inl (G.2.1, 4, .inl (nF wd)))]) sz (fun _ => True) (fun _ => wshV wd a0) (fun _ => [mO b ζ vv, (b 9, .inl (G.2.1, 4, .inl (nF wd)))]) := by
  refine MI_enter (cc := cX6_wrongSheet) (maxL := 2) (ret := (some .int)) (by decide) rfl (Nat.le_of_ble_eq_true rfl) ?_
  intro p e s m below meth c A ls H hx hb hr hlk hml hown hts hAq hS hP hK hD hX hl hnm
  have hown : s.vm.findClass RX6 = some m.cls := hown
  have hl : lv_has ls 2 [(0, .ref (b 0)), (1, .int a0)] := hl
  refine lv_iload_n hx hb dX6_wrongSheet_0 rfl (lv_at hl 1 rfl) ?_
  refine callSI (rest := []) (wn := fun u => [mO b ζ vv, (b 9, .inl (G.2.1, 4, .inl (nF wd)))]) ⟨hx, hb, hml, hown, hts⟩ (c_X6_isSheet l G H.size a0) (va_cwS 1 hts gX6_wrongSheet_X6_isSheet rfl rfl rfl (by decide +kernel) ⟨Nat.le_of_ble_eq_true rfl, Nat.le_of_ble_eq_true rfl⟩) noXB (fun _ _ _ => trivial) hK hP hD hS hAq rfl hl.1 rfl (Nat.le_of_ble_eq_true rfl) dX6_wrongSheet_1 ⟨Nat.le_of_ble_eq_true rfl, Nat.le_of_ble_eq_true rfl⟩ [] rfl rfl [] rfl (fun _ => rfl) (fun _ => rfl) (fun u H locs hok hP hD hS => ?_)
  refine z_if_ne hx hb (tgt := 11) dX6_wrongSheet_4 (by decide) (fun c_1 => ?_) (fun c_1 => ?_)
  · obtain ⟨k0, hk0, rfl⟩ := nI_of_rg (n := 3) (x := a0) ⟨by omega, by omega⟩
    have hT0 := nI_T (a := k0) (by omega)
    obtain ⟨s0, s1⟩ := hSI k0 (by omega)
    refine lv_aload_n hx hb dX6_wrongSheet_11 rfl (lv_at hl 0 rfl) ?_
    refine n_get (C := RX6) (T := TX6) (N := 18) hx hb hts (fun _ h => List.mem_cons_of_mem _ (List.mem_append_right _ h)) hown hK hP 0 rfl rfl 14 (by decide) (List.mem_of_getElem? (i := 1) rfl) rfl (.ref (b 9)) rfl dX6_wrongSheet_12 ?_
    refine lv_iload_n hx hb dX6_wrongSheet_15 rfl (lv_at hl 1 rfl) ?_
    refine n_iald hx hb hK hP 1 (v := (nI (wd k0))) rfl (by omega) (by omega) rfl dX6_wrongSheet_16 ?_
    refine n_if_ne hx hb (by omega) (tgt := 24) dX6_wrongSheet_17 (by decide) (fun c_2 => ?_) (fun c_2 => ?_)
    · refine lv_iconst (v := (-1)) hx hb dX6_wrongSheet_24 rfl ?_
      exact fin_i hx hb hr hlk hS hP hD () trivial (by unfold wshV; (try rw [hT0]); first | rw [if_neg (by omega)] | (rw [if_pos (by omega), Int.toNat_natCast]; first | rw [if_pos (by omega)] | rw [if_neg (by omega)])) (eqW.rf _) dX6_wrongSheet_25
    · refine lv_iconst (v := nI 5) hx hb dX6_wrongSheet_20 rfl ?_
      refine lv_goto (tgt := 25) hx hb dX6_wrongSheet_21 (by decide) ?_
      exact fin_i hx hb hr hlk hS hP hD () trivial (by unfold wshV; (try rw [hT0]); first | rw [if_neg (by omega)] | (rw [if_pos (by omega), Int.toNat_natCast]; first | rw [if_pos (by omega)] | rw [if_neg (by omega)])) (eqW.rf _) dX6_wrongSheet_25
  · refine lv_iconst (v := nI 0) hx hb dX6_wrongSheet_7 rfl ?_
    refine lv_goto (tgt := 25) hx hb dX6_wrongSheet_8 (by decide) ?_
    exact fin_i hx hb hr hlk hS hP hD () trivial (by unfold wshV; (try rw [hT0]); first | rw [if_neg (by omega)] | (rw [if_pos (by omega), Int.toNat_natCast]; first | rw [if_pos (by omega)] | rw [if_neg (by omega)])) (eqW.rf _) dX6_wrongSheet_25
set_option maxHeartbeats 400000 in
set_option maxRecDepth 100000 in
theorem c_X6_told (l : Launch) (G : GT) (sz : Nat) (b : Nat → Nat) (ζ : Nat → Nat) (vv : Int64) (nb : Nat → Int64) (k i : Nat) (hk : k < 4) (hi0 : i < 40) : ML (S := Unit) l G noX yX6_told wsX6_told ({ frames := 0, cells := 0, slots := 0, locals := 0 } : Room) [.ref (b 0), .int (nI k), .int (nI i)] ([mO b ζ vv, (b 11, .inl (G.2.2.1, 160, .inr (.inl nb)))]) sz (fun _ => True) (fun _ => nb (40 * k + i)) (fun _ => [mO b ζ vv, (b 11, .inl (G.2.2.1, 160, .inr (.inl nb)))]) := by
  refine ML_enter (cc := cX6_told) (maxL := 3) (ret := (some .long)) (by decide) rfl (Nat.le_of_ble_eq_true rfl) ?_
  intro p e s m below meth c A ls H hx hb hr hlk hml hown hts hAq hS hP hK hD hX hl hnm
  have hown : s.vm.findClass RX6 = some m.cls := hown
  have hl : lv_has ls 3 [(0, .ref (b 0)), (1, .int (nI k)), (2, .int (nI i))] := hl
  refine lv_aload_n hx hb dX6_told_0 rfl (lv_at hl 0 rfl) ?_
  refine n_get (C := RX6) (T := TX6) (N := 18) hx hb hts (fun _ h => List.mem_cons_of_mem _ (List.mem_append_right _ h)) hown hK hP 0 rfl rfl 16 (by decide) (List.mem_of_getElem? (i := 1) rfl) rfl (.ref (b 11)) rfl dX6_told_1 ?_
  refine lv_bipush (v := nI 40) hx hb dX6_told_4 rfl ?_
  refine lv_iload_n hx hb dX6_told_6 rfl (lv_at hl 1 rfl) ?_
  refine n_imul hx hb dX6_told_7 ?_
  refine lv_iload_n hx hb dX6_told_8 rfl (lv_at hl 2 rfl) ?_
  refine n_iadd hx hb dX6_told_9 ?_
  refine n_lald hx hb hK hP 1 (v := (nb ((40 * k) + i))) rfl (by omega) (by omega) rfl dX6_told_10 ?_
  exact fin_l hx hb hr hlk hS hP hD () trivial rfl (eqW.rf _) dX6_told_11
set_option maxHeartbeats 400000 in
set_option maxRecDepth 100000 in
theorem c_X6_tells (l : Launch) (G : GT) (sz : Nat) (b : Nat → Nat) (ζ : Nat → Nat) (vv : Int64) (wd : Nat → Nat) (nb : Nat → Int64) (k i : Nat) (v : Int64) (hk : k < 4) (hi0 : i < 40) (hw : wd k ≤ 64) : MV (S := Unit) l G noX yX6_tells wsX6_tells ({ frames := 0, cells := 0, slots := 0, locals := 0 } : Room) [.ref (b 0), .int (nI k), .int (nI i), .long v] ([mO b ζ vv, (b 9, .inl (G.2.1, 4, .inl (nF wd))), (b 11, .inl (G.2.2.1, 160, .inr (.inl nb)))]) sz (fun _ => True) (fun _ => [mO b ζ vv, (b 9, .inl (G.2.1, 4, .inl (nF wd))), (b 11, .inl (G.2.2.1, 160, .inr (.inl (vp_updL nb (40 * k + i) (lowN (wd k) v)))))]) := by
  refine MV_enter (cc := cX6_tells) (maxL := 5) (ret := none) (by decide) rfl (Nat.le_of_ble_eq_true rfl) ?_
  intro p e s m below meth c A ls H hx hb hr hlk hml hown hts hAq hS hP hK hD hX hl hnm
  have hown : s.vm.findClass RX6 = some m.cls := hown
  have hl : lv_has ls 5 [(0, .ref (b 0)), (1, .int (nI k)), (2, .int (nI i)), (3, .long v)] := hl
  refine lv_aload_n hx hb dX6_tells_0 rfl (lv_at hl 0 rfl) ?_
  refine n_get (C := RX6) (T := TX6) (N := 18) hx hb hts (fun _ h => List.mem_cons_of_mem _ (List.mem_append_right _ h)) hown hK hP 0 rfl rfl 16 (by decide) (List.mem_of_getElem? (i := 1) rfl) rfl (.ref (b 11)) rfl dX6_tells_1 ?_
  refine lv_bipush (v := nI 40) hx hb dX6_tells_4 rfl ?_
  refine lv_iload_n hx hb dX6_tells_6 rfl (lv_at hl 1 rfl) ?_
  refine n_imul hx hb dX6_tells_7 ?_
  refine lv_iload_n hx hb dX6_tells_8 rfl (lv_at hl 2 rfl) ?_
  refine n_iadd hx hb dX6_tells_9 ?_
  refine lv_aload_n hx hb dX6_tells_10 rfl (lv_at hl 0 rfl) ?_
  refine n_get (C := RX6) (T := TX6) (N := 18) hx hb hts (fun _ h => List.mem_cons_of_mem _ (List.mem_append_right _ h)) hown hK hP 0 rfl rfl 14 (by decide) (List.mem_of_getElem? (i := 2) rfl) rfl (.ref (b 9)) rfl dX6_tells_11 ?_
  refine lv_iload_n hx hb dX6_tells_14 rfl (lv_at hl 1 rfl) ?_
  refine n_iald hx hb hK hP 1 (v := (nI (wd k))) rfl (by omega) (by omega) rfl dX6_tells_15 ?_
  refine lv_bipush (v := nI 8) hx hb dX6_tells_16 rfl ?_
  refine n_icmp_ne hx hb (by omega) (by omega) (tgt := 28) dX6_tells_18 (by decide) (fun c_1 => ?_) (fun c_1 => ?_)
  · refine lv_aload_n hx hb dX6_tells_28 rfl (lv_at hl 0 rfl) ?_
    refine n_get (C := RX6) (T := TX6) (N := 18) hx hb hts (fun _ h => List.mem_cons_of_mem _ (List.mem_append_right _ h)) hown hK hP 0 rfl rfl 14 (by decide) (List.mem_of_getElem? (i := 2) rfl) rfl (.ref (b 9)) rfl dX6_tells_29 ?_
    refine lv_iload_n hx hb dX6_tells_32 rfl (lv_at hl 1 rfl) ?_
    refine n_iald hx hb hK hP 1 (v := (nI (wd k))) rfl (by omega) (by omega) rfl dX6_tells_33 ?_
    refine lv_bipush (v := nI 16) hx hb dX6_tells_34 rfl ?_
    refine n_icmp_ne hx hb (by omega) (by omega) (tgt := 46) dX6_tells_36 (by decide) (fun c_2 => ?_) (fun c_2 => ?_)
    · refine lv_lload_n hx hb dX6_tells_46 rfl (lv_at hl 3 rfl) ?_
      refine n_last hx hb hK hP hD hS 2 (wn := [mO b ζ vv, (b 9, .inl (G.2.1, 4, .inl (nF wd))), (b 11, .inl (G.2.2.1, 160, .inr (.inl (vp_updL nb ((40 * k) + i) v))))]) rfl (by omega) (by omega) rfl dX6_tells_47 (fun H locs hP hD hS => ?_)
      exact fin_v hx hb hr hlk hS hP hD () trivial (by unfold lowN; first | (rw [if_pos (by omega)]; exact eqW.rf _) | (rw [if_neg (by omega), if_pos (by omega)]; exact eqW.rf _) | (rw [if_neg (by omega), if_neg (by omega)]; exact eqW.rf _)) dX6_tells_48
    · refine lv_lload_n hx hb dX6_tells_39 rfl (lv_at hl 3 rfl) ?_
      refine lv_l2i (v := v.toInt32) hx hb dX6_tells_40 rfl ?_
      refine lv_i2s (v := v.toInt32.toInt16.toInt32) hx hb dX6_tells_41 rfl ?_
      refine lv_i2l (v := v.toInt32.toInt16.toInt32.toInt64) hx hb dX6_tells_42 rfl ?_
      refine lv_goto (tgt := 47) hx hb dX6_tells_43 (by decide) ?_
      refine n_last hx hb hK hP hD hS 2 (wn := [mO b ζ vv, (b 9, .inl (G.2.1, 4, .inl (nF wd))), (b 11, .inl (G.2.2.1, 160, .inr (.inl (vp_updL nb ((40 * k) + i) v.toInt32.toInt16.toInt32.toInt64))))]) rfl (by omega) (by omega) rfl dX6_tells_47 (fun H locs hP hD hS => ?_)
      exact fin_v hx hb hr hlk hS hP hD () trivial (by unfold lowN; first | (rw [if_pos (by omega)]; exact eqW.rf _) | (rw [if_neg (by omega), if_pos (by omega)]; exact eqW.rf _) | (rw [if_neg (by omega), if_neg (by omega)]; exact eqW.rf _)) dX6_tells_48
  · refine lv_lload_n hx hb dX6_tells_21 rfl (lv_at hl 3 rfl) ?_
    refine lv_l2i (v := v.toInt32) hx hb dX6_tells_22 rfl ?_
    refine lv_i2b (v := v.toInt32.toInt8.toInt32) hx hb dX6_tells_23 rfl ?_
    refine lv_i2l (v := v.toInt32.toInt8.toInt32.toInt64) hx hb dX6_tells_24 rfl ?_
    refine lv_goto (tgt := 47) hx hb dX6_tells_25 (by decide) ?_
    refine n_last hx hb hK hP hD hS 2 (wn := [mO b ζ vv, (b 9, .inl (G.2.1, 4, .inl (nF wd))), (b 11, .inl (G.2.2.1, 160, .inr (.inl (vp_updL nb ((40 * k) + i) v.toInt32.toInt8.toInt32.toInt64))))]) rfl (by omega) (by omega) rfl dX6_tells_47 (fun H locs hP hD hS => ?_)
    exact fin_v hx hb hr hlk hS hP hD () trivial (by unfold lowN; first | (rw [if_pos (by omega)]; exact eqW.rf _) | (rw [if_neg (by omega), if_pos (by omega)]; exact eqW.rf _) | (rw [if_neg (by omega), if_neg (by omega)]; exact eqW.rf _)) dX6_tells_48
