set_option maxHeartbeats 400000 in
set_option maxRecDepth 100000 in
theorem c_X2_isOne (l : Launch) (G : GT) (sz : Nat) (p0 : Int32) : MI (S := Unit) l G noX yX2_isOne wsX2_isOne ({ frames := 0, cells := 0, slots := 0, locals := 0 } : Room) [.int p0] (([] : va_W)) sz (fun _ => True) (fun _ => zI (0 ≤ p0.toInt ∧ p0.toInt < 6)) (fun _ => ([] : va_W)) := by
  refine MI_enter (cc := cX2_isOne) (maxL := 1) (ret := (some .boolean)) (by decide) rfl (Nat.le_of_ble_eq_true rfl) ?_
  intro p e s m below meth c A ls H hx hb hr hlk hml hown hts hAq hS hP hK hD hX hl hnm
  have hown : s.vm.findClass RX2 = some m.cls := hown
  have hl : lv_has ls 1 [(0, .int p0)] := hl
  refine lv_iload_n hx hb dX2_isOne_0 rfl (lv_at hl 0 rfl) ?_
  refine r_if_lt hx hb (tgt := 14) dX2_isOne_1 (by decide) (fun c_1 => ?_) (fun c_1 => ?_)
  · refine lv_iconst (v := nI 0) hx hb dX2_isOne_14 rfl ?_
    exact fin_z (ty := .boolean) (by decide) hx hb hr hlk hS hP hD () trivial (zI_f (by omega)).symm (eqW.rf _) dX2_isOne_15
  · refine lv_iload_n hx hb dX2_isOne_4 rfl (lv_at hl 0 rfl) ?_
    refine lv_bipush (v := nI 6) hx hb dX2_isOne_5 rfl ?_
    refine r_icmp_ge hx hb (tgt := 14) dX2_isOne_7 (by decide) (fun c_2 => ?_) (fun c_2 => ?_)
    · rw [nI_T (by omega)] at c_2
      refine lv_iconst (v := nI 0) hx hb dX2_isOne_14 rfl ?_
      exact fin_z (ty := .boolean) (by decide) hx hb hr hlk hS hP hD () trivial (zI_f (by omega)).symm (eqW.rf _) dX2_isOne_15
    · rw [nI_T (by omega)] at c_2
      refine lv_iconst (v := nI 1) hx hb dX2_isOne_10 rfl ?_
      refine lv_goto (tgt := 15) hx hb dX2_isOne_11 (by decide) ?_
      exact fin_z (ty := .boolean) (by decide) hx hb hr hlk hS hP hD () trivial (zI_t (by omega)).symm (eqW.rf _) dX2_isOne_15
set_option maxHeartbeats 400000 in
set_option maxRecDepth 100000 in
theorem c_X2_boyWants (l : Launch) (G : GT) (sz : Nat) (need day : Nat) (hd : day < 2147483648) : MI (S := Unit) l G noX yX2_boyWants wsX2_boyWants ({ frames := 0, cells := 0, slots := 0, locals := 0 } : Room) [.int (nI need), .int (nI day)] (([] : va_W)) sz (fun _ => True) (fun _ => nI (if day % 2 = 0 then need else 1)) (fun _ => ([] : va_W)) := by
  refine MI_enter (cc := cX2_boyWants) (maxL := 2) (ret := (some .int)) (by decide) rfl (Nat.le_of_ble_eq_true rfl) ?_
  intro p e s m below meth c A ls H hx hb hr hlk hml hown hts hAq hS hP hK hD hX hl hnm
  have hown : s.vm.findClass RX2 = some m.cls := hown
  have hl : lv_has ls 2 [(0, .int (nI need)), (1, .int (nI day))] := hl
  refine lv_iload_n hx hb dX2_boyWants_0 rfl (lv_at hl 1 rfl) ?_
  refine lv_iconst (v := nI 2) hx hb dX2_boyWants_1 rfl ?_
  refine n_irem hx hb (by omega) (by decide) (by decide) dX2_boyWants_2 ?_
  refine n_if_ne hx hb (by omega) (tgt := 10) dX2_boyWants_3 (by decide) (fun c_1 => ?_) (fun c_1 => ?_)
  · refine lv_iconst (v := nI 1) hx hb dX2_boyWants_10 rfl ?_
    exact fin_i hx hb hr hlk hS hP hD () trivial (congrArg nI (by (repeat' split) <;> first | rfl | omega)) (eqW.rf _) dX2_boyWants_11
  · refine lv_iload_n hx hb dX2_boyWants_6 rfl (lv_at hl 0 rfl) ?_
    refine lv_goto (tgt := 11) hx hb dX2_boyWants_7 (by decide) ?_
    exact fin_i hx hb hr hlk hS hP hD () trivial (congrArg nI (by (repeat' split) <;> first | rfl | omega)) (eqW.rf _) dX2_boyWants_11
set_option maxHeartbeats 400000 in
set_option maxRecDepth 100000 in
theorem c_X2_rebelWants (l : Launch) (G : GT) (sz : Nat) (need column : Nat) (hc : column < 2147483648) : MI (S := Unit) l G noX yX2_rebelWants wsX2_rebelWants ({ frames := 0, cells := 0, slots := 0, locals := 0 } : Room) [.int (nI need), .int (nI column)] (([] : va_W)) sz (fun _ => True) (fun _ => nI (if 500 < column then 4 * need else need)) (fun _ => ([] : va_W)) := by
  refine MI_enter (cc := cX2_rebelWants) (maxL := 2) (ret := (some .int)) (by decide) rfl (Nat.le_of_ble_eq_true rfl) ?_
  intro p e s m below meth c A ls H hx hb hr hlk hml hown hts hAq hS hP hK hD hX hl hnm
  have hown : s.vm.findClass RX2 = some m.cls := hown
  have hl : lv_has ls 2 [(0, .int (nI need)), (1, .int (nI column))] := hl
  refine lv_iload_n hx hb dX2_rebelWants_0 rfl (lv_at hl 1 rfl) ?_
  refine lv_sipush (v := nI 500) hx hb dX2_rebelWants_1 rfl ?_
  refine n_icmp_le hx hb (by omega) (by omega) (tgt := 13) dX2_rebelWants_4 (by decide) (fun c_1 => ?_) (fun c_1 => ?_)
  · refine lv_iload_n hx hb dX2_rebelWants_13 rfl (lv_at hl 0 rfl) ?_
    exact fin_i hx hb hr hlk hS hP hD () trivial (congrArg nI (by (repeat' split) <;> first | rfl | omega)) (eqW.rf _) dX2_rebelWants_14
  · refine lv_iconst (v := nI 4) hx hb dX2_rebelWants_7 rfl ?_
    refine lv_iload_n hx hb dX2_rebelWants_8 rfl (lv_at hl 0 rfl) ?_
    refine n_imul hx hb dX2_rebelWants_9 ?_
    refine lv_goto (tgt := 14) hx hb dX2_rebelWants_10 (by decide) ?_
    exact fin_i hx hb hr hlk hS hP hD () trivial (congrArg nI (by (repeat' split) <;> first | rfl | omega)) (eqW.rf _) dX2_rebelWants_14
set_option maxHeartbeats 400000 in
set_option maxRecDepth 100000 in
theorem c_X2_wants (l : Launch) (G : GT) (sz : Nat) (kind need day column : Nat) (hk : kind < 6) (hd : day < 2147483648) (hc : column < 2147483648) : MI (S := Unit) l G noX yX2_wants wsX2_wants ({ frames := 1, cells := 0, slots := 0, locals := 21 } : Room) [.int (nI kind), .int (nI need), .int (nI day), .int (nI column)] (([] : va_W)) sz (fun _ => True) (fun _ => nI (wantsK kind need day column)) (fun _ => ([] : va_W)) := by
  refine MI_enter (cc := cX2_wants) (maxL := 4) (ret := (some .int)) (by decide) rfl (Nat.le_of_ble_eq_true rfl) ?_
  intro p e s m below meth c A ls H hx hb hr hlk hml hown hts hAq hS hP hK hD hX hl hnm
  have hown : s.vm.findClass RX2 = some m.cls := hown
  have hl : lv_has ls 4 [(0, .int (nI kind)), (1, .int (nI need)), (2, .int (nI day)), (3, .int (nI column))] := hl
  refine lv_iload_n hx hb dX2_wants_0 rfl (lv_at hl 0 rfl) ?_
  rcases (show kind = 0 ∨ kind = 1 ∨ kind = 2 ∨ kind = 3 ∨ kind = 4 ∨ kind = 5 by omega) with hsw | hsw | hsw | hsw | hsw | hsw
  · refine n_tableOut hsw (tgt := 90) hx hb dX2_wants_1 (by decide) (by decide) ?_
    refine lv_iload_n hx hb dX2_wants_90 rfl (lv_at hl 1 rfl) ?_
    exact fin_i hx hb hr hlk hS hP hD () trivial (congrArg nI (by simp [wantsK, hsw, *])) (eqW.rf _) dX2_wants_91
  · refine n_tableIn hsw (off := 35) (tgt := 36) hx hb dX2_wants_1 (by decide) (by decide) (by decide) (by decide) ?_
    refine lv_iload_n hx hb dX2_wants_36 rfl (lv_at hl 1 rfl) ?_
    refine lv_iload_n hx hb dX2_wants_37 rfl (lv_at hl 2 rfl) ?_
    refine callSI (rest := []) (wn := fun u => ([] : va_W)) ⟨hx, hb, hml, hown, hts⟩ (c_X2_boyWants l G H.size need day (by omega)) (va_cwS 2 hts gX2_wants_X2_boyWants rfl rfl rfl (by decide +kernel) ⟨Nat.le_of_ble_eq_true rfl, Nat.le_of_ble_eq_true rfl⟩) noXB (fun _ _ _ => trivial) hK hP hD hS hAq rfl hl.1 rfl (Nat.le_of_ble_eq_true rfl) dX2_wants_38 ⟨Nat.le_of_ble_eq_true rfl, Nat.le_of_ble_eq_true rfl⟩ [] rfl rfl [] rfl (fun _ => rfl) (fun _ => rfl) (fun u H locs hok hP hD hS => ?_)
    exact fin_i hx hb hr hlk hS hP hD () trivial (congrArg nI (by simp [wantsK, hsw, *])) (eqW.rf _) dX2_wants_41
  · refine n_tableIn hsw (off := 41) (tgt := 42) hx hb dX2_wants_1 (by decide) (by decide) (by decide) (by decide) ?_
    refine lv_iload_n hx hb dX2_wants_42 rfl (lv_at hl 1 rfl) ?_
    refine lv_iload_n hx hb dX2_wants_43 rfl (lv_at hl 3 rfl) ?_
    refine callSI (rest := []) (wn := fun u => ([] : va_W)) ⟨hx, hb, hml, hown, hts⟩ (c_X2_rebelWants l G H.size need column (by omega)) (va_cwS 2 hts gX2_wants_X2_rebelWants rfl rfl rfl (by decide +kernel) ⟨Nat.le_of_ble_eq_true rfl, Nat.le_of_ble_eq_true rfl⟩) noXB (fun _ _ _ => trivial) hK hP hD hS hAq rfl hl.1 rfl (Nat.le_of_ble_eq_true rfl) dX2_wants_44 ⟨Nat.le_of_ble_eq_true rfl, Nat.le_of_ble_eq_true rfl⟩ [] rfl rfl [] rfl (fun _ => rfl) (fun _ => rfl) (fun u H locs hok hP hD hS => ?_)
    exact fin_i hx hb hr hlk hS hP hD () trivial (congrArg nI (by simp [wantsK, hsw, *])) (eqW.rf _) dX2_wants_47
  · refine n_tableIn hsw (off := 47) (tgt := 48) hx hb dX2_wants_1 (by decide) (by decide) (by decide) (by decide) ?_
    refine lv_iload_n hx hb dX2_wants_48 rfl (lv_at hl 2 rfl) ?_
    refine lv_iconst (v := nI 2) hx hb dX2_wants_49 rfl ?_
    refine n_irem hx hb (by omega) (by decide) (by decide) dX2_wants_50 ?_
    refine n_if_ne hx hb (by omega) (tgt := 60) dX2_wants_51 (by decide) (fun c_1 => ?_) (fun c_1 => ?_)
    · refine lv_iload_n hx hb dX2_wants_60 rfl (lv_at hl 1 rfl) ?_
      exact fin_i hx hb hr hlk hS hP hD () trivial (congrArg nI (by simp [wantsK, hsw, *])) (eqW.rf _) dX2_wants_61
    · refine lv_iload_n hx hb dX2_wants_54 rfl (lv_at hl 1 rfl) ?_
      refine lv_iconst (v := nI 1) hx hb dX2_wants_55 rfl ?_
      refine n_iadd hx hb dX2_wants_56 ?_
      refine lv_goto (tgt := 61) hx hb dX2_wants_57 (by decide) ?_
      exact fin_i hx hb hr hlk hS hP hD () trivial (congrArg nI (by simp [wantsK, hsw, *])) (eqW.rf _) dX2_wants_61
  · refine n_tableIn hsw (off := 61) (tgt := 62) hx hb dX2_wants_1 (by decide) (by decide) (by decide) (by decide) ?_
    refine lv_iload_n hx hb dX2_wants_62 rfl (lv_at hl 1 rfl) ?_
    refine lv_iload_n hx hb dX2_wants_63 rfl (lv_at hl 2 rfl) ?_
    refine callSI (rest := []) (wn := fun u => ([] : va_W)) ⟨hx, hb, hml, hown, hts⟩ (c_X2_boyWants l G H.size need day (by omega)) (va_cwS 2 hts gX2_wants_X2_boyWants rfl rfl rfl (by decide +kernel) ⟨Nat.le_of_ble_eq_true rfl, Nat.le_of_ble_eq_true rfl⟩) noXB (fun _ _ _ => trivial) hK hP hD hS hAq rfl hl.1 rfl (Nat.le_of_ble_eq_true rfl) dX2_wants_64 ⟨Nat.le_of_ble_eq_true rfl, Nat.le_of_ble_eq_true rfl⟩ [] rfl rfl [] rfl (fun _ => rfl) (fun _ => rfl) (fun u H locs hok hP hD hS => ?_)
    refine lv_iconst (v := nI 1) hx hb dX2_wants_67 rfl ?_
    refine n_iadd hx hb dX2_wants_68 ?_
    exact fin_i hx hb hr hlk hS hP hD () trivial (congrArg nI (by simp [wantsK, hsw, *])) (eqW.rf _) dX2_wants_69
  · refine n_tableIn hsw (off := 69) (tgt := 70) hx hb dX2_wants_1 (by decide) (by decide) (by decide) (by decide) ?_
    refine lv_iload_n hx hb dX2_wants_70 rfl (lv_at hl 1 rfl) ?_
    refine lv_iload_n hx hb dX2_wants_71 rfl (lv_at hl 3 rfl) ?_
    refine callSI (rest := []) (wn := fun u => ([] : va_W)) ⟨hx, hb, hml, hown, hts⟩ (c_X2_rebelWants l G H.size need column (by omega)) (va_cwS 2 hts gX2_wants_X2_rebelWants rfl rfl rfl (by decide +kernel) ⟨Nat.le_of_ble_eq_true rfl, Nat.le_of_ble_eq_true rfl⟩) noXB (fun _ _ _ => trivial) hK hP hD hS hAq rfl hl.1 rfl (Nat.le_of_ble_eq_true rfl) dX2_wants_72 ⟨Nat.le_of_ble_eq_true rfl, Nat.le_of_ble_eq_true rfl⟩ [] rfl rfl [] rfl (fun _ => rfl) (fun _ => rfl) (fun u H locs hok hP hD hS => ?_)
    refine lv_iload_n hx hb dX2_wants_75 rfl (lv_at hl 2 rfl) ?_
    refine lv_bipush (v := nI 10) hx hb dX2_wants_76 rfl ?_
    refine n_irem hx hb (by omega) (by decide) (by decide) dX2_wants_78 ?_
    refine n_if_ne hx hb (by omega) (tgt := 87) dX2_wants_79 (by decide) (fun c_2 => ?_) (fun c_2 => ?_)
    · refine lv_iconst (v := nI 0) hx hb dX2_wants_87 rfl ?_
      refine n_iadd hx hb dX2_wants_88 ?_
      exact fin_i hx hb hr hlk hS hP hD () trivial (congrArg nI (by simp [wantsK, hsw, *])) (eqW.rf _) dX2_wants_89
    · refine lv_bipush (v := nI 12) hx hb dX2_wants_82 rfl ?_
      refine lv_goto (tgt := 88) hx hb dX2_wants_84 (by decide) ?_
      refine n_iadd hx hb dX2_wants_88 ?_
      exact fin_i hx hb hr hlk hS hP hD () trivial (congrArg nI (by simp [wantsK, hsw, *])) (eqW.rf _) dX2_wants_89
set_option maxHeartbeats 400000 in
set_option maxRecDepth 100000 in
theorem c_X2_rebelEnters (l : Launch) (G : GT) (sz : Nat) (reason n : Nat) : MI (S := Unit) l G noX yX2_rebelEnters wsX2_rebelEnters ({ frames := 0, cells := 0, slots := 0, locals := 0 } : Room) [.int (nI reason), .int (nI n)] (([] : va_W)) sz (fun _ => True) (fun _ => nI (n * reason + n)) (fun _ => ([] : va_W)) := by
  refine MI_enter (cc := cX2_rebelEnters) (maxL := 2) (ret := (some .int)) (by decide) rfl (Nat.le_of_ble_eq_true rfl) ?_
  intro p e s m below meth c A ls H hx hb hr hlk hml hown hts hAq hS hP hK hD hX hl hnm
  have hown : s.vm.findClass RX2 = some m.cls := hown
  have hl : lv_has ls 2 [(0, .int (nI reason)), (1, .int (nI n))] := hl
  refine lv_iload_n hx hb dX2_rebelEnters_0 rfl (lv_at hl 1 rfl) ?_
  refine lv_iload_n hx hb dX2_rebelEnters_1 rfl (lv_at hl 0 rfl) ?_
  refine n_imul hx hb dX2_rebelEnters_2 ?_
  refine lv_iload_n hx hb dX2_rebelEnters_3 rfl (lv_at hl 1 rfl) ?_
  refine n_iadd hx hb dX2_rebelEnters_4 ?_
  exact fin_i hx hb hr hlk hS hP hD () trivial rfl (eqW.rf _) dX2_rebelEnters_5
set_option maxHeartbeats 400000 in
set_option maxRecDepth 100000 in
theorem c_X2_enters (l : Launch) (G : GT) (sz : Nat) (kind reason n : Nat) (hk : kind < 6) (hn : n < 2147483648) : MI (S := Unit) l G noX yX2_enters wsX2_enters ({ frames := 1, cells := 0, slots := 0, locals := 21 } : Room) [.int (nI kind), .int (nI reason), .int (nI n)] (([] : va_W)) sz (fun _ => True) (fun _ => nI (entersK kind reason n)) (fun _ => ([] : va_W)) := by
  refine MI_enter (cc := cX2_enters) (maxL := 3) (ret := (some .int)) (by decide) rfl (Nat.le_of_ble_eq_true rfl) ?_
  intro p e s m below meth c A ls H hx hb hr hlk hml hown hts hAq hS hP hK hD hX hl hnm
  have hown : s.vm.findClass RX2 = some m.cls := hown
  have hl : lv_has ls 3 [(0, .int (nI kind)), (1, .int (nI reason)), (2, .int (nI n))] := hl
  refine lv_iload_n hx hb dX2_enters_0 rfl (lv_at hl 2 rfl) ?_
  refine lv_iconst (v := nI 1) hx hb dX2_enters_1 rfl ?_
  refine n_icmp_ge hx hb (by omega) (by omega) (tgt := 7) dX2_enters_2 (by decide) (fun c_1 => ?_) (fun c_1 => ?_)
  · refine lv_iload_n hx hb dX2_enters_7 rfl (lv_at hl 0 rfl) ?_
    rcases (show kind = 0 ∨ kind = 1 ∨ kind = 2 ∨ kind = 3 ∨ kind = 4 ∨ kind = 5 by omega) with hsw | hsw | hsw | hsw | hsw | hsw
    · refine n_tableOut hsw (tgt := 70) hx hb dX2_enters_8 (by decide) (by decide) ?_
      refine lv_iload_n hx hb dX2_enters_70 rfl (lv_at hl 2 rfl) ?_
      refine lv_iload_n hx hb dX2_enters_71 rfl (lv_at hl 1 rfl) ?_
      refine n_imul hx hb dX2_enters_72 ?_
      exact fin_i hx hb hr hlk hS hP hD () trivial (congrArg nI (by unfold entersK; rw [if_neg (by omega)]; simp [hsw])) (eqW.rf _) dX2_enters_73
    · refine n_tableIn hsw (off := 36) (tgt := 44) hx hb dX2_enters_8 (by decide) (by decide) (by decide) (by decide) ?_
      refine lv_iconst (v := nI 2) hx hb dX2_enters_44 rfl ?_
      refine lv_iload_n hx hb dX2_enters_45 rfl (lv_at hl 2 rfl) ?_
      refine n_imul hx hb dX2_enters_46 ?_
      exact fin_i hx hb hr hlk hS hP hD () trivial (congrArg nI (by unfold entersK; rw [if_neg (by omega)]; simp [hsw])) (eqW.rf _) dX2_enters_47
    · refine n_tableIn hsw (off := 40) (tgt := 48) hx hb dX2_enters_8 (by decide) (by decide) (by decide) (by decide) ?_
      refine lv_iload_n hx hb dX2_enters_48 rfl (lv_at hl 1 rfl) ?_
      refine lv_iload_n hx hb dX2_enters_49 rfl (lv_at hl 2 rfl) ?_
      refine callSI (rest := []) (wn := fun u => ([] : va_W)) ⟨hx, hb, hml, hown, hts⟩ (c_X2_rebelEnters l G H.size reason n) (va_cwS 2 hts gX2_enters_X2_rebelEnters rfl rfl rfl (by decide +kernel) ⟨Nat.le_of_ble_eq_true rfl, Nat.le_of_ble_eq_true rfl⟩) noXB (fun _ _ _ => trivial) hK hP hD hS hAq rfl hl.1 rfl (Nat.le_of_ble_eq_true rfl) dX2_enters_50 ⟨Nat.le_of_ble_eq_true rfl, Nat.le_of_ble_eq_true rfl⟩ [] rfl rfl [] rfl (fun _ => rfl) (fun _ => rfl) (fun u H locs hok hP hD hS => ?_)
      exact fin_i hx hb hr hlk hS hP hD () trivial (congrArg nI (by unfold entersK; rw [if_neg (by omega)]; simp [hsw])) (eqW.rf _) dX2_enters_53
    · refine n_tableIn hsw (off := 46) (tgt := 54) hx hb dX2_enters_8 (by decide) (by decide) (by decide) (by decide) ?_
      refine lv_iconst (v := nI 0) hx hb dX2_enters_54 rfl ?_
      exact fin_i hx hb hr hlk hS hP hD () trivial (congrArg nI (by unfold entersK; rw [if_neg (by omega)]; simp [hsw])) (eqW.rf _) dX2_enters_55
    · refine n_tableIn hsw (off := 48) (tgt := 56) hx hb dX2_enters_8 (by decide) (by decide) (by decide) (by decide) ?_
      refine lv_iconst (v := nI 2) hx hb dX2_enters_56 rfl ?_
      refine lv_iload_n hx hb dX2_enters_57 rfl (lv_at hl 2 rfl) ?_
      refine n_imul hx hb dX2_enters_58 ?_
      refine lv_iload_n hx hb dX2_enters_59 rfl (lv_at hl 1 rfl) ?_
      refine n_iadd hx hb dX2_enters_60 ?_
      exact fin_i hx hb hr hlk hS hP hD () trivial (congrArg nI (by unfold entersK; rw [if_neg (by omega)]; simp [hsw])) (eqW.rf _) dX2_enters_61
    · refine n_tableIn hsw (off := 54) (tgt := 62) hx hb dX2_enters_8 (by decide) (by decide) (by decide) (by decide) ?_
      refine lv_iconst (v := nI 2) hx hb dX2_enters_62 rfl ?_
      refine lv_iload_n hx hb dX2_enters_63 rfl (lv_at hl 1 rfl) ?_
      refine lv_iload_n hx hb dX2_enters_64 rfl (lv_at hl 2 rfl) ?_
      refine callSI (rest := [.int (nI 2)]) (wn := fun u => ([] : va_W)) ⟨hx, hb, hml, hown, hts⟩ (c_X2_rebelEnters l G H.size reason n) (va_cwS 2 hts gX2_enters_X2_rebelEnters rfl rfl rfl (by decide +kernel) ⟨Nat.le_of_ble_eq_true rfl, Nat.le_of_ble_eq_true rfl⟩) noXB (fun _ _ _ => trivial) hK hP hD hS hAq rfl hl.1 rfl (Nat.le_of_ble_eq_true rfl) dX2_enters_65 ⟨Nat.le_of_ble_eq_true rfl, Nat.le_of_ble_eq_true rfl⟩ [] rfl rfl [] rfl (fun _ => rfl) (fun _ => rfl) (fun u H locs hok hP hD hS => ?_)
      refine n_imul hx hb dX2_enters_68 ?_
      exact fin_i hx hb hr hlk hS hP hD () trivial (congrArg nI (by unfold entersK; rw [if_neg (by omega)]; simp [hsw])) (eqW.rf _) dX2_enters_69
  · refine lv_iconst (v := nI 0) hx hb dX2_enters_5 rfl ?_
    exact fin_i hx hb hr hlk hS hP hD () trivial (congrArg nI (by unfold entersK; rw [if_pos (by omega)])) (eqW.rf _) dX2_enters_6
set_option maxHeartbeats 400000 in
set_option maxRecDepth 100000 in
theorem c_X2_cookWatchDays (l : Launch) (G : GT) (sz : Nat) (n v : Nat) (hn : n < 2147483648) (hv : v < 2147483648) : MI (S := Unit) l G noX yX2_cookWatchDays wsX2_cookWatchDays ({ frames := 0, cells := 0, slots := 0, locals := 0 } : Room) [.int (nI n), .int (nI v)] (([] : va_W)) sz (fun _ => True) (fun _ => nI (if v < n then 2 else 0)) (fun _ => ([] : va_W)) := by
  refine MI_enter (cc := cX2_cookWatchDays) (maxL := 2) (ret := (some .int)) (by decide) rfl (Nat.le_of_ble_eq_true rfl) ?_
  intro p e s m below meth c A ls H hx hb hr hlk hml hown hts hAq hS hP hK hD hX hl hnm
  have hown : s.vm.findClass RX2 = some m.cls := hown
  have hl : lv_has ls 2 [(0, .int (nI n)), (1, .int (nI v))] := hl
  refine lv_iload_n hx hb dX2_cookWatchDays_0 rfl (lv_at hl 1 rfl) ?_
  refine lv_iload_n hx hb dX2_cookWatchDays_1 rfl (lv_at hl 0 rfl) ?_
  refine n_icmp_ge hx hb (by omega) (by omega) (tgt := 9) dX2_cookWatchDays_2 (by decide) (fun c_1 => ?_) (fun c_1 => ?_)
  · refine lv_iconst (v := nI 0) hx hb dX2_cookWatchDays_9 rfl ?_
    exact fin_i hx hb hr hlk hS hP hD () trivial (congrArg nI (by (repeat' split) <;> first | rfl | omega)) (eqW.rf _) dX2_cookWatchDays_10
  · refine lv_iconst (v := nI 2) hx hb dX2_cookWatchDays_5 rfl ?_
    refine lv_goto (tgt := 10) hx hb dX2_cookWatchDays_6 (by decide) ?_
    exact fin_i hx hb hr hlk hS hP hD () trivial (congrArg nI (by (repeat' split) <;> first | rfl | omega)) (eqW.rf _) dX2_cookWatchDays_10
set_option maxHeartbeats 400000 in
set_option maxRecDepth 100000 in
theorem c_X2_watchDays (l : Launch) (G : GT) (sz : Nat) (kind n v : Nat) (hk : kind < 6) (hn : n < 2147483648) (hv : v < 2147483648) : MI (S := Unit) l G noX yX2_watchDays wsX2_watchDays ({ frames := 1, cells := 0, slots := 0, locals := 21 } : Room) [.int (nI kind), .int (nI n), .int (nI v)] (([] : va_W)) sz (fun _ => True) (fun _ => nI (watchK kind n v)) (fun _ => ([] : va_W)) := by
  refine MI_enter (cc := cX2_watchDays) (maxL := 3) (ret := (some .int)) (by decide) rfl (Nat.le_of_ble_eq_true rfl) ?_
  intro p e s m below meth c A ls H hx hb hr hlk hml hown hts hAq hS hP hK hD hX hl hnm
  have hown : s.vm.findClass RX2 = some m.cls := hown
  have hl : lv_has ls 3 [(0, .int (nI kind)), (1, .int (nI n)), (2, .int (nI v))] := hl
  refine lv_iload_n hx hb dX2_watchDays_0 rfl (lv_at hl 1 rfl) ?_
  refine lv_iconst (v := nI 1) hx hb dX2_watchDays_1 rfl ?_
  refine n_icmp_ge hx hb (by omega) (by omega) (tgt := 7) dX2_watchDays_2 (by decide) (fun c_1 => ?_) (fun c_1 => ?_)
  · refine lv_iload_n hx hb dX2_watchDays_7 rfl (lv_at hl 0 rfl) ?_
    rcases (show kind = 0 ∨ kind = 1 ∨ kind = 2 ∨ kind = 3 ∨ kind = 4 ∨ kind = 5 by omega) with hsw | hsw | hsw | hsw | hsw | hsw
    · refine n_tableOut hsw (tgt := 77) hx hb dX2_watchDays_8 (by decide) (by decide) ?_
      refine lv_iload_n hx hb dX2_watchDays_77 rfl (lv_at hl 1 rfl) ?_
      refine lv_iload_n hx hb dX2_watchDays_78 rfl (lv_at hl 2 rfl) ?_
      refine callSI (rest := []) (wn := fun u => ([] : va_W)) ⟨hx, hb, hml, hown, hts⟩ (c_X2_cookWatchDays l G H.size n v (by omega) (by omega)) (va_cwS 2 hts gX2_watchDays_X2_cookWatchDays rfl rfl rfl (by decide +kernel) ⟨Nat.le_of_ble_eq_true rfl, Nat.le_of_ble_eq_true rfl⟩) noXB (fun _ _ _ => trivial) hK hP hD hS hAq rfl hl.1 rfl (Nat.le_of_ble_eq_true rfl) dX2_watchDays_79 ⟨Nat.le_of_ble_eq_true rfl, Nat.le_of_ble_eq_true rfl⟩ [] rfl rfl [] rfl (fun _ => rfl) (fun _ => rfl) (fun u H locs hok hP hD hS => ?_)
      exact fin_i hx hb hr hlk hS hP hD () trivial (congrArg nI (by unfold watchK; (repeat' split) <;> omega)) (eqW.rf _) dX2_watchDays_82
    · refine n_tableIn hsw (off := 36) (tgt := 44) hx hb dX2_watchDays_8 (by decide) (by decide) (by decide) (by decide) ?_
      refine lv_iconst (v := nI 0) hx hb dX2_watchDays_44 rfl ?_
      exact fin_i hx hb hr hlk hS hP hD () trivial (congrArg nI (by unfold watchK; (repeat' split) <;> omega)) (eqW.rf _) dX2_watchDays_45
    · refine n_tableIn hsw (off := 69) (tgt := 77) hx hb dX2_watchDays_8 (by decide) (by decide) (by decide) (by decide) ?_
      refine lv_iload_n hx hb dX2_watchDays_77 rfl (lv_at hl 1 rfl) ?_
      refine lv_iload_n hx hb dX2_watchDays_78 rfl (lv_at hl 2 rfl) ?_
      refine callSI (rest := []) (wn := fun u => ([] : va_W)) ⟨hx, hb, hml, hown, hts⟩ (c_X2_cookWatchDays l G H.size n v (by omega) (by omega)) (va_cwS 2 hts gX2_watchDays_X2_cookWatchDays rfl rfl rfl (by decide +kernel) ⟨Nat.le_of_ble_eq_true rfl, Nat.le_of_ble_eq_true rfl⟩) noXB (fun _ _ _ => trivial) hK hP hD hS hAq rfl hl.1 rfl (Nat.le_of_ble_eq_true rfl) dX2_watchDays_79 ⟨Nat.le_of_ble_eq_true rfl, Nat.le_of_ble_eq_true rfl⟩ [] rfl rfl [] rfl (fun _ => rfl) (fun _ => rfl) (fun u H locs hok hP hD hS => ?_)
      exact fin_i hx hb hr hlk hS hP hD () trivial (congrArg nI (by unfold watchK; (repeat' split) <;> omega)) (eqW.rf _) dX2_watchDays_82
    · refine n_tableIn hsw (off := 38) (tgt := 46) hx hb dX2_watchDays_8 (by decide) (by decide) (by decide) (by decide) ?_
      refine lv_iconst (v := nI 0) hx hb dX2_watchDays_46 rfl ?_
      exact fin_i hx hb hr hlk hS hP hD () trivial (congrArg nI (by unfold watchK; (repeat' split) <;> omega)) (eqW.rf _) dX2_watchDays_47
    · refine n_tableIn hsw (off := 40) (tgt := 48) hx hb dX2_watchDays_8 (by decide) (by decide) (by decide) (by decide) ?_
      refine lv_iload_n hx hb dX2_watchDays_48 rfl (lv_at hl 1 rfl) ?_
      refine lv_iconst (v := nI 5) hx hb dX2_watchDays_49 rfl ?_
      refine n_icmp_le hx hb (by omega) (by omega) (tgt := 57) dX2_watchDays_50 (by decide) (fun c_2 => ?_) (fun c_2 => ?_)
      · refine lv_iconst (v := nI 0) hx hb dX2_watchDays_57 rfl ?_
        exact fin_i hx hb hr hlk hS hP hD () trivial (congrArg nI (by unfold watchK; (repeat' split) <;> omega)) (eqW.rf _) dX2_watchDays_58
      · refine lv_iconst (v := nI 1) hx hb dX2_watchDays_53 rfl ?_
        refine lv_goto (tgt := 58) hx hb dX2_watchDays_54 (by decide) ?_
        exact fin_i hx hb hr hlk hS hP hD () trivial (congrArg nI (by unfold watchK; (repeat' split) <;> omega)) (eqW.rf _) dX2_watchDays_58
    · refine n_tableIn hsw (off := 51) (tgt := 59) hx hb dX2_watchDays_8 (by decide) (by decide) (by decide) (by decide) ?_
      refine lv_iload_n hx hb dX2_watchDays_59 rfl (lv_at hl 1 rfl) ?_
      refine lv_iload_n hx hb dX2_watchDays_60 rfl (lv_at hl 2 rfl) ?_
      refine callSI (rest := []) (wn := fun u => ([] : va_W)) ⟨hx, hb, hml, hown, hts⟩ (c_X2_cookWatchDays l G H.size n v (by omega) (by omega)) (va_cwS 2 hts gX2_watchDays_X2_cookWatchDays rfl rfl rfl (by decide +kernel) ⟨Nat.le_of_ble_eq_true rfl, Nat.le_of_ble_eq_true rfl⟩) noXB (fun _ _ _ => trivial) hK hP hD hS hAq rfl hl.1 rfl (Nat.le_of_ble_eq_true rfl) dX2_watchDays_61 ⟨Nat.le_of_ble_eq_true rfl, Nat.le_of_ble_eq_true rfl⟩ [] rfl rfl [] rfl (fun _ => rfl) (fun _ => rfl) (fun u H locs hok hP hD hS => ?_)
      refine lv_iload_n hx hb dX2_watchDays_64 rfl (lv_at hl 1 rfl) ?_
      refine lv_bipush (v := nI 30) hx hb dX2_watchDays_65 rfl ?_
      refine n_icmp_le hx hb (by omega) (by omega) (tgt := 74) dX2_watchDays_67 (by decide) (fun c_3 => ?_) (fun c_3 => ?_)
      · refine lv_iconst (v := nI 0) hx hb dX2_watchDays_74 rfl ?_
        refine n_iadd hx hb dX2_watchDays_75 ?_
        exact fin_i hx hb hr hlk hS hP hD () trivial (congrArg nI (by unfold watchK; (repeat' split) <;> omega)) (eqW.rf _) dX2_watchDays_76
      · refine lv_iconst (v := nI 1) hx hb dX2_watchDays_70 rfl ?_
        refine lv_goto (tgt := 75) hx hb dX2_watchDays_71 (by decide) ?_
        refine n_iadd hx hb dX2_watchDays_75 ?_
        exact fin_i hx hb hr hlk hS hP hD () trivial (congrArg nI (by unfold watchK; (repeat' split) <;> omega)) (eqW.rf _) dX2_watchDays_76
  · refine lv_iconst (v := nI 0) hx hb dX2_watchDays_5 rfl ?_
    exact fin_i hx hb hr hlk hS hP hD () trivial (congrArg nI (by unfold watchK; rw [if_pos (by omega)])) (eqW.rf _) dX2_watchDays_6
