set_option maxHeartbeats 400000 in
set_option maxRecDepth 100000 in
theorem c_J0_coder_7d493 (l : Launch) (G : GT) (sz : Nat) (adK adV : Nat → Nat) (i : Nat) (hi11 : i < 11) : MI (S := Unit) l G (XS adK adV) yJ0_coder_7d493 wsJ0_coder_7d493 ({ frames := 0, cells := 0, slots := 0, locals := 0 } : Room) [.ref (adK i)] (([] : va_W)) sz (fun _ => True) (fun _ => nI 0) (fun _ => ([] : va_W)) := by
  refine MI_enter (cc := cJ0_coder_7d493) (maxL := 1) (ret := (some .byte)) (by decide) rfl (Nat.le_of_ble_eq_true rfl) ?_
  intro p e s m below meth c A ls H hx hb hr hlk hml hown hts hAq hS hP hK hD hX hl hnm
  have hown : s.vm.findClass RJ0 = some m.cls := hown
  have hl : lv_has ls 1 [(0, .ref (adK i))] := hl
  refine va_gets hx hb hX.2.1 hS hown (hts _ (List.mem_of_getElem? (i := 1) rfl)) (fun _ h => h) dJ0_coder_7d493_0 ?_
  refine n_top (y := nI 1) rfl ?_
  refine n_if_eq hx hb (by omega) (tgt := 13) dJ0_coder_7d493_3 (by decide) (fun c_1 => ?_) (fun c_1 => ?_)
  · omega
  · refine lv_aload_n hx hb dJ0_coder_7d493_6 rfl (lv_at hl 0 rfl) ?_
    refine vk_getf hx hb (hX.1.1 i hi11).2.1 hS hown (hts _ (List.mem_of_getElem? (i := 2) rfl)) (fun _ h => h) dJ0_coder_7d493_7 ?_
    refine n_top (y := nI 0) rfl ?_
    refine lv_goto (tgt := 14) hx hb dJ0_coder_7d493_10 (by decide) ?_
    exact fin_z (ty := .byte) (by decide) hx hb hr hlk hS hP hD () trivial rfl (eqW.rf _) dJ0_coder_7d493_14
set_option maxHeartbeats 400000 in
set_option maxRecDepth 100000 in
theorem c_J0_isLatin1_aae02 (l : Launch) (G : GT) (sz : Nat) (adK adV : Nat → Nat) (i : Nat) (hi11 : i < 11) : MI (S := Unit) l G (XS adK adV) yJ0_isLatin1_aae02 wsJ0_isLatin1_aae02 ({ frames := 0, cells := 0, slots := 0, locals := 0 } : Room) [.ref (adK i)] (([] : va_W)) sz (fun _ => True) (fun _ => nI 1) (fun _ => ([] : va_W)) := by
  refine MI_enter (cc := cJ0_isLatin1_aae02) (maxL := 1) (ret := (some .boolean)) (by decide) rfl (Nat.le_of_ble_eq_true rfl) ?_
  intro p e s m below meth c A ls H hx hb hr hlk hml hown hts hAq hS hP hK hD hX hl hnm
  have hown : s.vm.findClass RJ0 = some m.cls := hown
  have hl : lv_has ls 1 [(0, .ref (adK i))] := hl
  refine va_gets hx hb hX.2.1 hS hown (hts _ (List.mem_of_getElem? (i := 1) rfl)) (fun _ h => h) dJ0_isLatin1_aae02_0 ?_
  refine n_top (y := nI 1) rfl ?_
  refine n_if_eq hx hb (by omega) (tgt := 17) dJ0_isLatin1_aae02_3 (by decide) (fun c_1 => ?_) (fun c_1 => ?_)
  · omega
  · refine lv_aload_n hx hb dJ0_isLatin1_aae02_6 rfl (lv_at hl 0 rfl) ?_
    refine vk_getf hx hb (hX.1.1 i hi11).2.1 hS hown (hts _ (List.mem_of_getElem? (i := 2) rfl)) (fun _ h => h) dJ0_isLatin1_aae02_7 ?_
    refine n_top (y := nI 0) rfl ?_
    refine n_if_ne hx hb (by omega) (tgt := 17) dJ0_isLatin1_aae02_10 (by decide) (fun c_2 => ?_) (fun c_2 => ?_)
    · omega
    · refine lv_iconst (v := nI 1) hx hb dJ0_isLatin1_aae02_13 rfl ?_
      refine lv_goto (tgt := 18) hx hb dJ0_isLatin1_aae02_14 (by decide) ?_
      exact fin_z (ty := .boolean) (by decide) hx hb hr hlk hS hP hD () trivial rfl (eqW.rf _) dJ0_isLatin1_aae02_18
set_option maxHeartbeats 400000 in
set_option maxRecDepth 100000 in
theorem c_J0_length_8abf5 (l : Launch) (G : GT) (sz : Nat) (adK adV : Nat → Nat) (i : Nat) (hi11 : i < 11) : MI (S := Unit) l G (XS adK adV) yJ0_length_8abf5 wsJ0_length_8abf5 ({ frames := 1, cells := 0, slots := 0, locals := 20 } : Room) [.ref (adK i)] (([] : va_W)) sz (fun _ => True) (fun _ => nI (lnW i)) (fun _ => ([] : va_W)) := by
  refine MI_enter (cc := cJ0_length_8abf5) (maxL := 1) (ret := (some .int)) (by decide) rfl (Nat.le_of_ble_eq_true rfl) ?_
  intro p e s m below meth c A ls H hx hb hr hlk hml hown hts hAq hS hP hK hD hX hl hnm
  have hown : s.vm.findClass RJ0 = some m.cls := hown
  have hl : lv_has ls 1 [(0, .ref (adK i))] := hl
  obtain ⟨hl3, hl7⟩ := ln_le i hi11
  refine lv_aload_n hx hb dJ0_length_8abf5_0 rfl (lv_at hl 0 rfl) ?_
  refine vk_getf hx hb (hX.1.1 i hi11).2.2.1 hS hown (hts _ (List.mem_of_getElem? (i := 1) rfl)) (fun _ h => h) dJ0_length_8abf5_1 ?_
  refine va_tlen hx hb (hX.1.1 i hi11).2.2.2 hS (v := nI (lnW i)) rfl dJ0_length_8abf5_4 ?_
  refine lv_aload_n hx hb dJ0_length_8abf5_5 rfl (lv_at hl 0 rfl) ?_
  refine callQI (rest := [.int (nI (lnW i))]) (wn := fun u => ([] : va_W)) ⟨hx, hb, hml, hown, hts⟩ (c_J0_coder_7d493 l G H.size adK adV i (by omega) ) (cwV 0 hts gJ0_length_8abf5_J0_coder_7d493 rfl rfl rfl (by decide +kernel) ⟨Nat.le_of_ble_eq_true rfl, Nat.le_of_ble_eq_true rfl⟩) XSB (XS_at hX hS hD hAq [] rfl) hK hP hD hS hAq (vk_recv hX.1 (by omega) hS) rfl hl.1 rfl (Nat.le_of_ble_eq_true rfl) dJ0_length_8abf5_6 ⟨Nat.le_of_ble_eq_true rfl, Nat.le_of_ble_eq_true rfl⟩ [] rfl rfl [] rfl (fun _ => rfl) (fun _ => rfl) (fun u H locs hok hP hD hS => ?_)
  refine lv_ishr hx hb dJ0_length_8abf5_9 ?_
  refine n_top (ln_shr i hi11) ?_
  exact fin_i hx hb hr hlk hS hP hD () trivial rfl (eqW.rf _) dJ0_length_8abf5_10
set_option maxHeartbeats 400000 in
set_option maxRecDepth 100000 in
theorem c_J3_null (l : Launch) (G : GT) (sz : Nat) (k0 n0 : Nat) (hk0 : k0 < n0) (hn0 : n0 < 2147483648) : MI (S := Unit) l G noX yJ3_checkIndex_8e157 wsJ3_checkIndex_8e157 ({ frames := 0, cells := 0, slots := 0, locals := 0 } : Room) [.int (nI k0), .int (nI n0), .null] (([] : va_W)) sz (fun _ => True) (fun _ => nI k0) (fun _ => ([] : va_W)) := by
  refine MI_enter (cc := cJ3_checkIndex_8e157) (maxL := 3) (ret := (some .int)) (by decide) rfl (Nat.le_of_ble_eq_true rfl) ?_
  intro p e s m below meth c A ls H hx hb hr hlk hml hown hts hAq hS hP hK hD hX hl hnm
  have hown : s.vm.findClass RJ3 = some m.cls := hown
  have hl : lv_has ls 3 [(0, .int (nI k0)), (1, .int (nI n0)), (2, .null)] := hl
  refine lv_iload_n hx hb dJ3_checkIndex_8e157_0 rfl (lv_at hl 0 rfl) ?_
  refine n_if_lt hx hb (by omega) (tgt := 9) dJ3_checkIndex_8e157_1 (by decide) (fun c_1 => ?_) (fun c_1 => ?_)
  · exact absurd c_1 (by omega)
  · refine lv_iload_n hx hb dJ3_checkIndex_8e157_4 rfl (lv_at hl 0 rfl) ?_
    refine lv_iload_n hx hb dJ3_checkIndex_8e157_5 rfl (lv_at hl 1 rfl) ?_
    refine n_icmp_lt hx hb (by omega) (by omega) (tgt := 16) dJ3_checkIndex_8e157_6 (by decide) (fun c_2 => ?_) (fun c_2 => ?_)
    · refine lv_iload_n hx hb dJ3_checkIndex_8e157_16 rfl (lv_at hl 0 rfl) ?_
      exact fin_i hx hb hr hlk hS hP hD () trivial rfl (eqW.rf _) dJ3_checkIndex_8e157_17
    · omega
set_option maxHeartbeats 400000 in
set_option maxRecDepth 100000 in
theorem c_J3_ref (l : Launch) (G : GT) (sz : Nat) (t : Nat) (k0 n0 : Nat) (hk0 : k0 < n0) (hn0 : n0 < 2147483648) : MI (S := Unit) l G noX yJ3_checkIndex_8e157 wsJ3_checkIndex_8e157 ({ frames := 0, cells := 0, slots := 0, locals := 0 } : Room) [.int (nI k0), .int (nI n0), .ref t] (([] : va_W)) sz (fun _ => True) (fun _ => nI k0) (fun _ => ([] : va_W)) := by
  refine MI_enter (cc := cJ3_checkIndex_8e157) (maxL := 3) (ret := (some .int)) (by decide) rfl (Nat.le_of_ble_eq_true rfl) ?_
  intro p e s m below meth c A ls H hx hb hr hlk hml hown hts hAq hS hP hK hD hX hl hnm
  have hown : s.vm.findClass RJ3 = some m.cls := hown
  have hl : lv_has ls 3 [(0, .int (nI k0)), (1, .int (nI n0)), (2, .ref t)] := hl
  refine lv_iload_n hx hb dJ3_checkIndex_8e157_0 rfl (lv_at hl 0 rfl) ?_
  refine n_if_lt hx hb (by omega) (tgt := 9) dJ3_checkIndex_8e157_1 (by decide) (fun c_1 => ?_) (fun c_1 => ?_)
  · exact absurd c_1 (by omega)
  · refine lv_iload_n hx hb dJ3_checkIndex_8e157_4 rfl (lv_at hl 0 rfl) ?_
    refine lv_iload_n hx hb dJ3_checkIndex_8e157_5 rfl (lv_at hl 1 rfl) ?_
    refine n_icmp_lt hx hb (by omega) (by omega) (tgt := 16) dJ3_checkIndex_8e157_6 (by decide) (fun c_2 => ?_) (fun c_2 => ?_)
    · refine lv_iload_n hx hb dJ3_checkIndex_8e157_16 rfl (lv_at hl 0 rfl) ?_
      exact fin_i hx hb hr hlk hS hP hD () trivial rfl (eqW.rf _) dJ3_checkIndex_8e157_17
    · omega
set_option maxHeartbeats 400000 in
set_option maxRecDepth 100000 in
theorem c_J0_checkIndex_df160 (l : Launch) (G : GT) (sz : Nat) (adK adV : Nat → Nat) (k0 n0 : Nat) (hk0 : k0 < n0) (hn0 : n0 < 2147483648) : MV (S := Unit) l G (XS adK adV) yJ0_checkIndex_df160 wsJ0_checkIndex_df160 ({ frames := 1, cells := 0, slots := 0, locals := 22 } : Room) [.int (nI k0), .int (nI n0)] (([] : va_W)) sz (fun _ => True) (fun _ => ([] : va_W)) := by
  refine MV_enter (cc := cJ0_checkIndex_df160) (maxL := 2) (ret := none) (by decide) rfl (Nat.le_of_ble_eq_true rfl) ?_
  intro p e s m below meth c A ls H hx hb hr hlk hml hown hts hAq hS hP hK hD hX hl hnm
  have hown : s.vm.findClass RJ0 = some m.cls := hown
  have hl : lv_has ls 2 [(0, .int (nI k0)), (1, .int (nI n0))] := hl
  refine lv_iload_n hx hb dJ0_checkIndex_df160_0 rfl (lv_at hl 0 rfl) ?_
  refine lv_iload_n hx hb dJ0_checkIndex_df160_1 rfl (lv_at hl 1 rfl) ?_
  rcases hX.2.2.1 with hZ | ⟨t, hZ⟩
  · refine va_gets hx hb hZ hS hown (hts _ (List.mem_of_getElem? (i := 1) rfl)) (fun _ h => h) dJ0_checkIndex_df160_2 ?_
    refine callSI (rest := []) (wn := fun u => ([] : va_W)) ⟨hx, hb, hml, hown, hts⟩ (c_J3_null l G H.size k0 n0 (by omega) (by omega)) (va_cwS 3 hts gJ0_checkIndex_df160_J3_checkIndex_8e157 rfl rfl rfl (by decide +kernel) ⟨Nat.le_of_ble_eq_true rfl, Nat.le_of_ble_eq_true rfl⟩) noXB (fun _ _ _ => trivial) hK hP hD hS hAq rfl hl.1 rfl (Nat.le_of_ble_eq_true rfl) dJ0_checkIndex_df160_5 ⟨Nat.le_of_ble_eq_true rfl, Nat.le_of_ble_eq_true rfl⟩ [] rfl rfl [] rfl (fun _ => rfl) (fun _ => rfl) (fun u H locs hok hP hD hS => ?_)
    refine lv_pop hx hb dJ0_checkIndex_df160_8 rfl ?_
    exact fin_v hx hb hr hlk hS hP hD () trivial (eqW.rf _) dJ0_checkIndex_df160_9
  · refine va_gets hx hb hZ hS hown (hts _ (List.mem_of_getElem? (i := 1) rfl)) (fun _ h => h) dJ0_checkIndex_df160_2 ?_
    refine callSI (rest := []) (wn := fun u => ([] : va_W)) ⟨hx, hb, hml, hown, hts⟩ (c_J3_ref l G H.size t k0 n0 (by omega) (by omega)) (va_cwS 3 hts gJ0_checkIndex_df160_J3_checkIndex_8e157 rfl rfl rfl (by decide +kernel) ⟨Nat.le_of_ble_eq_true rfl, Nat.le_of_ble_eq_true rfl⟩) noXB (fun _ _ _ => trivial) hK hP hD hS hAq rfl hl.1 rfl (Nat.le_of_ble_eq_true rfl) dJ0_checkIndex_df160_5 ⟨Nat.le_of_ble_eq_true rfl, Nat.le_of_ble_eq_true rfl⟩ [] rfl rfl [] rfl (fun _ => rfl) (fun _ => rfl) (fun u H locs hok hP hD hS => ?_)
    refine lv_pop hx hb dJ0_checkIndex_df160_8 rfl ?_
    exact fin_v hx hb hr hlk hS hP hD () trivial (eqW.rf _) dJ0_checkIndex_df160_9
set_option maxHeartbeats 400000 in
set_option maxRecDepth 100000 in
theorem c_J1_charAt_3b067 (l : Launch) (G : GT) (sz : Nat) (adK adV : Nat → Nat) (i : Nat) (hi11 : i < 11) (k0 : Nat) (hk0 : k0 < lnW i) : MI (S := Unit) l G (XS adK adV) yJ1_charAt_3b067 wsJ1_charAt_3b067 ({ frames := 2, cells := 0, slots := 0, locals := 43 } : Room) [.ref (adV i), .int (nI k0)] (([] : va_W)) sz (fun _ => True) (fun _ => nI (wdN i k0)) (fun _ => ([] : va_W)) := by
  refine MI_enter (cc := cJ1_charAt_3b067) (maxL := 2) (ret := (some .char)) (by decide) rfl (Nat.le_of_ble_eq_true rfl) ?_
  intro p e s m below meth c A ls H hx hb hr hlk hml hown hts hAq hS hP hK hD hX hl hnm
  have hown : s.vm.findClass RJ1 = some m.cls := hown
  have hl : lv_has ls 2 [(0, .ref (adV i)), (1, .int (nI k0))] := hl
  obtain ⟨hl3, hl7⟩ := ln_le i hi11
  refine lv_iload_n hx hb dJ1_charAt_3b067_0 rfl (lv_at hl 1 rfl) ?_
  refine lv_aload_n hx hb dJ1_charAt_3b067_1 rfl (lv_at hl 0 rfl) ?_
  refine va_tlen hx hb (hX.1.1 i hi11).2.2.2 hS (v := nI (lnW i)) rfl dJ1_charAt_3b067_2 ?_
  refine callSV (rest := []) (wn := fun u => ([] : va_W)) ⟨hx, hb, hml, hown, hts⟩ (c_J0_checkIndex_df160 l G H.size adK adV k0 (lnW i) (by omega) (by omega) ) (va_cwS 2 hts gJ1_charAt_3b067_J0_checkIndex_df160 rfl rfl rfl (by decide +kernel) ⟨Nat.le_of_ble_eq_true rfl, Nat.le_of_ble_eq_true rfl⟩) XSB (XS_at hX hS hD hAq [] rfl) hK hP hD hS hAq rfl hl.1 rfl (Nat.le_of_ble_eq_true rfl) dJ1_charAt_3b067_3 ⟨Nat.le_of_ble_eq_true rfl, Nat.le_of_ble_eq_true rfl⟩ [] rfl rfl [] rfl (fun _ => rfl) (fun _ => rfl) (fun u H locs hok hP hD hS => ?_)
  refine lv_aload_n hx hb dJ1_charAt_3b067_6 rfl (lv_at hl 0 rfl) ?_
  refine lv_iload_n hx hb dJ1_charAt_3b067_7 rfl (lv_at hl 1 rfl) ?_
  refine va_tb hx hb (hX.1.1 i hi11).2.2.2 hS (N := lnW i) (vp_in_iff.mpr (by rw [nI_T (show k0 < 2147483648 by omega)]; omega)) (v := .int ((bytW.getD i []).getD k0 0)) (by rw [nI_C (show k0 < 2147483648 by omega)]) dJ1_charAt_3b067_8 ?_
  refine lv_sipush (v := nI 255) hx hb dJ1_charAt_3b067_9 rfl ?_
  refine lv_iand hx hb dJ1_charAt_3b067_12 ?_
  refine lv_i2c (v := nI (wdN i k0)) hx hb dJ1_charAt_3b067_13 (ch_and i hi11 k0 (by omega)) ?_
  exact fin_z (ty := .char) (nI_char _ (wd_lt i hi11 k0 (by omega))) hx hb hr hlk hS hP hD () trivial rfl (eqW.rf _) dJ1_charAt_3b067_14
set_option maxHeartbeats 400000 in
set_option maxRecDepth 100000 in
theorem c_J0_charAt_5068e (l : Launch) (G : GT) (sz : Nat) (adK adV : Nat → Nat) (i : Nat) (hi11 : i < 11) (k0 : Nat) (hk0 : k0 < lnW i) : MI (S := Unit) l G (XS adK adV) yJ0_charAt_5068e wsJ0_charAt_5068e ({ frames := 3, cells := 0, slots := 0, locals := 64 } : Room) [.ref (adK i), .int (nI k0)] (([] : va_W)) sz (fun _ => True) (fun _ => nI (wdN i k0)) (fun _ => ([] : va_W)) := by
  refine MI_enter (cc := cJ0_charAt_5068e) (maxL := 2) (ret := (some .char)) (by decide) rfl (Nat.le_of_ble_eq_true rfl) ?_
  intro p e s m below meth c A ls H hx hb hr hlk hml hown hts hAq hS hP hK hD hX hl hnm
  have hown : s.vm.findClass RJ0 = some m.cls := hown
  have hl : lv_has ls 2 [(0, .ref (adK i)), (1, .int (nI k0))] := hl
  obtain ⟨hl3, hl7⟩ := ln_le i hi11
  refine lv_aload_n hx hb dJ0_charAt_5068e_0 rfl (lv_at hl 0 rfl) ?_
  refine callQI (rest := []) (wn := fun u => ([] : va_W)) ⟨hx, hb, hml, hown, hts⟩ (c_J0_isLatin1_aae02 l G H.size adK adV i (by omega) ) (cwV 0 hts gJ0_charAt_5068e_J0_isLatin1_aae02 rfl rfl rfl (by decide +kernel) ⟨Nat.le_of_ble_eq_true rfl, Nat.le_of_ble_eq_true rfl⟩) XSB (XS_at hX hS hD hAq [] rfl) hK hP hD hS hAq (vk_recv hX.1 (by omega) hS) rfl hl.1 rfl (Nat.le_of_ble_eq_true rfl) dJ0_charAt_5068e_1 ⟨Nat.le_of_ble_eq_true rfl, Nat.le_of_ble_eq_true rfl⟩ [] rfl rfl [] rfl (fun _ => rfl) (fun _ => rfl) (fun u H locs hok hP hD hS => ?_)
  refine n_if_eq hx hb (by omega) (tgt := 16) dJ0_charAt_5068e_4 (by decide) (fun c_1 => ?_) (fun c_1 => ?_)
  · omega
  · refine lv_aload_n hx hb dJ0_charAt_5068e_7 rfl (lv_at hl 0 rfl) ?_
    refine vk_getf hx hb (hX.1.1 i hi11).2.2.1 hS hown (hts _ (List.mem_of_getElem? (i := 1) rfl)) (fun _ h => h) dJ0_charAt_5068e_8 ?_
    refine lv_iload_n hx hb dJ0_charAt_5068e_11 rfl (lv_at hl 1 rfl) ?_
    refine callSI (rest := []) (wn := fun u => ([] : va_W)) ⟨hx, hb, hml, hown, hts⟩ (c_J1_charAt_3b067 l G H.size adK adV i (by omega) k0 (by omega) ) (va_cwS 2 hts gJ0_charAt_5068e_J1_charAt_3b067 rfl rfl rfl (by decide +kernel) ⟨Nat.le_of_ble_eq_true rfl, Nat.le_of_ble_eq_true rfl⟩) XSB (XS_at hX hS hD hAq [] rfl) hK hP hD hS hAq rfl hl.1 rfl (Nat.le_of_ble_eq_true rfl) dJ0_charAt_5068e_12 ⟨Nat.le_of_ble_eq_true rfl, Nat.le_of_ble_eq_true rfl⟩ [] rfl rfl [] rfl (fun _ => rfl) (fun _ => rfl) (fun u H locs hok hP hD hS => ?_)
    exact fin_z (ty := .char) (nI_char _ (wd_lt i hi11 k0 (by omega))) hx hb hr hlk hS hP hD () trivial rfl (eqW.rf _) dJ0_charAt_5068e_15
set_option maxHeartbeats 400000 in
set_option maxRecDepth 100000 in
theorem c_X1_isWord (l : Launch) (G : GT) (sz : Nat) (r x tr : Nat → Nat) (tb : Nat → Nat) (ln s0 v0 : Nat) (hln : ln ≤ 120) (hs0 : s0 ≤ ln) (htb : ∀ j, tb j < 256) (adK adV : Nat → Nat) (i : Nat) (hi11 : i < 11) : MI (S := Unit) l G (XS adK adV) yX1_isWord wsX1_isWord ({ frames := 4, cells := 0, slots := 0, locals := 85 } : Room) [.ref (r 0), .ref (adK i)] ([(r 0, .inr (1, [.ref (x 1), .ref (tr 0), .int (nI (tyN tb ln s0)), .int (nI s0), .int (nI (enN tb ln s0)), .int (nI v0)])), (x 1, .inr (3, [.ref (x 2), .int (nI ln)])), (x 2, .inl (G.2.1, 120, .inl (nF tb)))]) sz (fun _ => True) (fun _ => zI (isW tb ln i s0)) (fun _ => [(r 0, .inr (1, [.ref (x 1), .ref (tr 0), .int (nI (tyN tb ln s0)), .int (nI s0), .int (nI (enN tb ln s0)), .int (nI v0)])), (x 1, .inr (3, [.ref (x 2), .int (nI ln)])), (x 2, .inl (G.2.1, 120, .inl (nF tb)))]) := by
  refine MI_enter (cc := cX1_isWord) (maxL := 3) (ret := (some .boolean)) (by decide) rfl (Nat.le_of_ble_eq_true rfl) ?_
  intro p e s m below meth c A ls H hx hb hr hlk hml hown hts hAq hS hP hK hD hX hl hnm
  have hown : s.vm.findClass RX1 = some m.cls := hown
  have hl : lv_has ls 3 [(0, .ref (r 0)), (1, .ref (adK i))] := hl
  obtain ⟨hl3, hl7⟩ := ln_le i hi11
  obtain ⟨hen1, hen2⟩ := en_le (tb := tb) hs0
  have htyl := ty_le tb ln s0
  refine lv_aload_n hx hb dX1_isWord_0 rfl (lv_at hl 0 rfl) ?_
  refine n_get (C := RX1) (T := TX1) (N := 6) hx hb hts (fun _ h => List.mem_cons_of_mem _ (List.mem_append_left _ (List.mem_append_right _ h))) hown hK hP 0 rfl rfl 2 (by decide) (List.mem_of_getElem? (i := 1) rfl) rfl (.int (nI (tyN tb ln s0))) rfl dX1_isWord_1 ?_
  refine lv_iconst (v := nI 1) hx hb dX1_isWord_4 rfl ?_
  refine n_icmp_ne hx hb (by omega) (by omega) (tgt := 24) dX1_isWord_5 (by decide) (fun c_1 => ?_) (fun c_1 => ?_)
  · refine lv_iconst (v := nI 0) hx hb dX1_isWord_24 rfl ?_
    exact fin_z (ty := .boolean) (by decide) hx hb hr hlk hS hP hD () trivial (zI_f (fun h => by obtain ⟨z1, z2, z3⟩ := h; omega)).symm (eqW.rf _) dX1_isWord_25
  · refine lv_aload_n hx hb dX1_isWord_8 rfl (lv_at hl 0 rfl) ?_
    refine n_get (C := RX1) (T := TX1) (N := 6) hx hb hts (fun _ h => List.mem_cons_of_mem _ (List.mem_append_left _ (List.mem_append_right _ h))) hown hK hP 0 rfl rfl 4 (by decide) (List.mem_of_getElem? (i := 2) rfl) rfl (.int (nI (enN tb ln s0))) rfl dX1_isWord_9 ?_
    refine lv_aload_n hx hb dX1_isWord_12 rfl (lv_at hl 0 rfl) ?_
    refine n_get (C := RX1) (T := TX1) (N := 6) hx hb hts (fun _ h => List.mem_cons_of_mem _ (List.mem_append_left _ (List.mem_append_right _ h))) hown hK hP 0 rfl rfl 3 (by decide) (List.mem_of_getElem? (i := 3) rfl) rfl (.int (nI s0)) rfl dX1_isWord_13 ?_
    refine n_isub hx hb (by omega) dX1_isWord_16 ?_
    refine lv_aload_n hx hb dX1_isWord_17 rfl (lv_at hl 1 rfl) ?_
    refine callQI (rest := [.int (nI ((enN tb ln s0) - s0))]) (wn := fun u => [(r 0, .inr (1, [.ref (x 1), .ref (tr 0), .int (nI (tyN tb ln s0)), .int (nI s0), .int (nI (enN tb ln s0)), .int (nI v0)])), (x 1, .inr (3, [.ref (x 2), .int (nI ln)])), (x 2, .inl (G.2.1, 120, .inl (nF tb)))]) ⟨hx, hb, hml, hown, hts⟩ (c_J0_length_8abf5 l G H.size adK adV i (by omega) ) (cwV 0 hts gX1_isWord_J0_length_8abf5 rfl rfl rfl (by decide +kernel) ⟨Nat.le_of_ble_eq_true rfl, Nat.le_of_ble_eq_true rfl⟩) XSB (XS_at hX hS hD hAq [] rfl) hK hP hD hS hAq (vk_recv hX.1 (by omega) hS) rfl hl.1 rfl (Nat.le_of_ble_eq_true rfl) dX1_isWord_18 ⟨Nat.le_of_ble_eq_true rfl, Nat.le_of_ble_eq_true rfl⟩ [] rfl rfl [] rfl (fun _ => rfl) (fun _ => rfl) (fun u H locs hok hP hD hS => ?_)
    refine n_icmp_eq hx hb (by omega) (by omega) (tgt := 26) dX1_isWord_21 (by decide) (fun c_2 => ?_) (fun c_2 => ?_)
    · refine lv_iconst (v := nI 0) hx hb dX1_isWord_26 rfl ?_
      refine lv_istore_n (lv' := [(2, .int (nI 0)), (0, .ref (r 0)), (1, .ref (adK i))]) hx hb dX1_isWord_27 rfl hl (by decide) rfl (fun ls hl => ?_)
      refine W_loop1 (I := fun (k : Nat) => k ≤ lnW i ∧ NoQ (wdQ tb s0 i) k) (wd := fun (k : Nat) => [(r 0, .inr (1, [.ref (x 1), .ref (tr 0), .int (nI (tyN tb ln s0)), .int (nI s0), .int (nI (enN tb ln s0)), .int (nI v0)])), (x 1, .inr (3, [.ref (x 2), .int (nI ln)])), (x 2, .inl (G.2.1, 120, .inl (nF tb)))]) (lv := fun (k : Nat) => [(2, .int (nI k)), (0, .ref (r 0)), (1, .ref (adK i))]) (μ := fun (k : Nat) => lnW i - k) ?_ 0 ⟨by omega, NoQ_0⟩ hP hD hS (lv_sub hl [0, 1, 2] rfl)
      intro k H locs ls hI0 hP hD hS hl ih
      obtain ⟨hk, hno⟩ := hI0
      refine lv_iload_n hx hb dX1_isWord_28 rfl (lv_at hl 0 rfl) ?_
      refine lv_aload_n hx hb dX1_isWord_29 rfl (lv_at hl 2 rfl) ?_
      refine callQI (rest := [.int (nI k)]) (wn := fun u => [(r 0, .inr (1, [.ref (x 1), .ref (tr 0), .int (nI (tyN tb ln s0)), .int (nI s0), .int (nI (enN tb ln s0)), .int (nI v0)])), (x 1, .inr (3, [.ref (x 2), .int (nI ln)])), (x 2, .inl (G.2.1, 120, .inl (nF tb)))]) ⟨hx, hb, hml, hown, hts⟩ (c_J0_length_8abf5 l G H.size adK adV i (by omega) ) (cwV 0 hts gX1_isWord_J0_length_8abf5 rfl rfl rfl (by decide +kernel) ⟨Nat.le_of_ble_eq_true rfl, Nat.le_of_ble_eq_true rfl⟩) XSB (XS_at hX hS hD hAq [] rfl) hK hP hD hS hAq (vk_recv hX.1 (by omega) hS) rfl hl.1 rfl (Nat.le_of_ble_eq_true rfl) dX1_isWord_30 ⟨Nat.le_of_ble_eq_true rfl, Nat.le_of_ble_eq_true rfl⟩ [] rfl rfl [] rfl (fun _ => rfl) (fun _ => rfl) (fun u H locs hok hP hD hS => ?_)
      refine n_icmp_ge hx hb (by omega) (by omega) (tgt := 65) dX1_isWord_33 (by decide) (fun c_3 => ?_) (fun c_3 => ?_)
      · have hk5 : k = lnW i := by omega
        subst hk5
        refine lv_iconst (v := nI 1) hx hb dX1_isWord_65 rfl ?_
        exact fin_z (ty := .boolean) (by decide) hx hb hr hlk hS hP hD () trivial (zI_t ⟨by omega, by omega, fst_none hno⟩).symm (eqW.rf _) dX1_isWord_66
      · have hwl := wd_lt i hi11 k (by omega)
        refine lv_aload_n hx hb dX1_isWord_36 rfl (lv_at hl 1 rfl) ?_
        refine n_get (C := RX1) (T := TX1) (N := 6) hx hb hts (fun _ h => List.mem_cons_of_mem _ (List.mem_append_left _ (List.mem_append_right _ h))) hown hK hP 0 rfl rfl 0 (by decide) (List.mem_of_getElem? (i := 4) rfl) rfl (.ref (x 1)) rfl dX1_isWord_37 ?_
        refine lv_aload_n hx hb dX1_isWord_40 rfl (lv_at hl 1 rfl) ?_
        refine n_get (C := RX1) (T := TX1) (N := 6) hx hb hts (fun _ h => List.mem_cons_of_mem _ (List.mem_append_left _ (List.mem_append_right _ h))) hown hK hP 0 rfl rfl 3 (by decide) (List.mem_of_getElem? (i := 3) rfl) rfl (.int (nI s0)) rfl dX1_isWord_41 ?_
        refine lv_iload_n hx hb dX1_isWord_44 rfl (lv_at hl 0 rfl) ?_
        refine n_iadd hx hb dX1_isWord_45 ?_
        refine callVI (rest := []) (wn := fun u => [(r 0, .inr (1, [.ref (x 1), .ref (tr 0), .int (nI (tyN tb ln s0)), .int (nI s0), .int (nI (enN tb ln s0)), .int (nI v0)])), (x 1, .inr (3, [.ref (x 2), .int (nI ln)])), (x 2, .inl (G.2.1, 120, .inl (nF tb)))]) ⟨hx, hb, hml, hown, hts⟩ (c_X4_byteAt l G H.size x tb ln (s0 + k) (by omega) (by omega)) (cwV 1 hts gX1_isWord_X4_byteAt rfl rfl rfl (by decide +kernel) ⟨Nat.le_of_ble_eq_true rfl, Nat.le_of_ble_eq_true rfl⟩) noXB (fun _ _ _ => trivial) hK hP hD hS hAq 3 0 (T := TX4) (N := 2) rfl rfl rfl hl.1 rfl (Nat.le_of_ble_eq_true rfl) dX1_isWord_46 ⟨Nat.le_of_ble_eq_true rfl, Nat.le_of_ble_eq_true rfl⟩ [1, 2] rfl rfl [x 1, x 2] rfl (fun _ => rfl) (fun _ => rfl) (fun u H locs hok hP hD hS => ?_)
        refine n_top (y := nI (tb (s0 + k))) (if_pos (by omega)) ?_
        have hB_4 := htb (s0 + k)
        refine lv_aload_n hx hb dX1_isWord_49 rfl (lv_at hl 2 rfl) ?_
        refine lv_iload_n hx hb dX1_isWord_50 rfl (lv_at hl 0 rfl) ?_
        refine callQI (rest := [.int (nI (tb (s0 + k)))]) (wn := fun u => [(r 0, .inr (1, [.ref (x 1), .ref (tr 0), .int (nI (tyN tb ln s0)), .int (nI s0), .int (nI (enN tb ln s0)), .int (nI v0)])), (x 1, .inr (3, [.ref (x 2), .int (nI ln)])), (x 2, .inl (G.2.1, 120, .inl (nF tb)))]) ⟨hx, hb, hml, hown, hts⟩ (c_J0_charAt_5068e l G H.size adK adV i (by omega) k (by omega) ) (cwV 1 hts gX1_isWord_J0_charAt_5068e rfl rfl rfl (by decide +kernel) ⟨Nat.le_of_ble_eq_true rfl, Nat.le_of_ble_eq_true rfl⟩) XSB (XS_at hX hS hD hAq [] rfl) hK hP hD hS hAq (vk_recv hX.1 (by omega) hS) rfl hl.1 rfl (Nat.le_of_ble_eq_true rfl) dX1_isWord_51 ⟨Nat.le_of_ble_eq_true rfl, Nat.le_of_ble_eq_true rfl⟩ [] rfl rfl [] rfl (fun _ => rfl) (fun _ => rfl) (fun u H locs hok hP hD hS => ?_)
        refine n_icmp_eq hx hb (by omega) (by omega) (tgt := 59) dX1_isWord_54 (by decide) (fun c_5 => ?_) (fun c_5 => ?_)
        · refine n_iinc (lv' := [(2, .int (nI (k + 1))), (0, .ref (r 0)), (1, .ref (adK i))]) hx hb dX1_isWord_59 hl (k := 0) rfl (by decide) rfl (fun ls hl => ?_)
          refine lv_goto (tgt := 28) hx hb dX1_isWord_62 (by decide) ?_
          exact ih (k + 1) _ _ _ (by omega) ⟨by omega, NoQ_S hno (decide_eq_false (by omega))⟩ hP hD hS (lv_sub hl [0, 1, 2] rfl)
        · refine lv_iconst (v := nI 0) hx hb dX1_isWord_57 rfl ?_
          have hf := fst_of hno (show wdQ tb s0 i k = true from decide_eq_true (by omega)) (show k < lnW i by omega)
          exact fin_z (ty := .boolean) (by decide) hx hb hr hlk hS hP hD () trivial (zI_f (fun h => by obtain ⟨z1, z2, z3⟩ := h; omega)).symm (eqW.rf _) dX1_isWord_58
    · refine lv_iconst (v := nI 0) hx hb dX1_isWord_24 rfl ?_
      exact fin_z (ty := .boolean) (by decide) hx hb hr hlk hS hP hD () trivial (zI_f (fun h => by obtain ⟨z1, z2, z3⟩ := h; omega)).symm (eqW.rf _) dX1_isWord_25
set_option maxHeartbeats 400000 in
set_option maxRecDepth 100000 in
theorem c_X1_kindNamed (l : Launch) (G : GT) (sz : Nat) (r x tr : Nat → Nat) (tb : Nat → Nat) (ln s0 v0 : Nat) (hln : ln ≤ 120) (hs0 : s0 ≤ ln) (htb : ∀ j, tb j < 256) (adK adV : Nat → Nat) : MI (S := Unit) l G (XS adK adV) yX1_kindNamed wsX1_kindNamed ({ frames := 5, cells := 0, slots := 0, locals := 107 } : Room) [.ref (r 0)] ([(r 0, .inr (1, [.ref (x 1), .ref (tr 0), .int (nI (tyN tb ln s0)), .int (nI s0), .int (nI (enN tb ln s0)), .int (nI v0)])), (x 1, .inr (3, [.ref (x 2), .int (nI ln)])), (x 2, .inl (G.2.1, 120, .inl (nF tb)))]) sz (fun _ => True) (fun _ => kiV tb ln s0) (fun _ => [(r 0, .inr (1, [.ref (x 1), .ref (tr 0), .int (nI (tyN tb ln s0)), .int (nI s0), .int (nI (enN tb ln s0)), .int (nI v0)])), (x 1, .inr (3, [.ref (x 2), .int (nI ln)])), (x 2, .inl (G.2.1, 120, .inl (nF tb)))]) := by
  refine MI_enter (cc := cX1_kindNamed) (maxL := 1) (ret := (some .int)) (by decide) rfl (Nat.le_of_ble_eq_true rfl) ?_
  intro p e s m below meth c A ls H hx hb hr hlk hml hown hts hAq hS hP hK hD hX hl hnm
  have hown : s.vm.findClass RX1 = some m.cls := hown
  have hl : lv_has ls 1 [(0, .ref (r 0))] := hl
  refine lv_aload_n hx hb dX1_kindNamed_0 rfl (lv_at hl 0 rfl) ?_
  refine va_ldcS hx hb hown (show vk_R RX1 88 "cook" (adK 0) s from hX.2.2.2 0 (by decide)) dX1_kindNamed_1 ?_
  refine callVI (rest := []) (wn := fun u => [(r 0, .inr (1, [.ref (x 1), .ref (tr 0), .int (nI (tyN tb ln s0)), .int (nI s0), .int (nI (enN tb ln s0)), .int (nI v0)])), (x 1, .inr (3, [.ref (x 2), .int (nI ln)])), (x 2, .inl (G.2.1, 120, .inl (nF tb)))]) ⟨hx, hb, hml, hown, hts⟩ (c_X1_isWord l G H.size r x tr tb ln s0 v0 (by omega) (by omega) (by omega) adK adV 0 (by omega)) (cwV 1 hts gX1_kindNamed_X1_isWord rfl rfl rfl (by decide +kernel) ⟨Nat.le_of_ble_eq_true rfl, Nat.le_of_ble_eq_true rfl⟩) XSB (XS_at hX hS hD hAq [0, 1, 2] rfl) hK hP hD hS hAq 1 0 (T := TX1) (N := 6) rfl rfl rfl hl.1 rfl (Nat.le_of_ble_eq_true rfl) dX1_kindNamed_3 ⟨Nat.le_of_ble_eq_true rfl, Nat.le_of_ble_eq_true rfl⟩ [0, 1, 2] rfl rfl [r 0, x 1, x 2] rfl (fun _ => rfl) (fun _ => rfl) (fun u H locs hok hP hD hS => ?_)
  refine z_if_eq hx hb (tgt := 11) dX1_kindNamed_6 (by decide) (fun c_1 => ?_) (fun c_1 => ?_)
  · refine lv_aload_n hx hb dX1_kindNamed_11 rfl (lv_at hl 0 rfl) ?_
    refine va_ldcS hx hb hown (show vk_R RX1 92 "boy" (adK 1) s from hX.2.2.2 1 (by decide)) dX1_kindNamed_12 ?_
    refine callVI (rest := []) (wn := fun u => [(r 0, .inr (1, [.ref (x 1), .ref (tr 0), .int (nI (tyN tb ln s0)), .int (nI s0), .int (nI (enN tb ln s0)), .int (nI v0)])), (x 1, .inr (3, [.ref (x 2), .int (nI ln)])), (x 2, .inl (G.2.1, 120, .inl (nF tb)))]) ⟨hx, hb, hml, hown, hts⟩ (c_X1_isWord l G H.size r x tr tb ln s0 v0 (by omega) (by omega) (by omega) adK adV 1 (by omega)) (cwV 1 hts gX1_kindNamed_X1_isWord rfl rfl rfl (by decide +kernel) ⟨Nat.le_of_ble_eq_true rfl, Nat.le_of_ble_eq_true rfl⟩) XSB (XS_at hX hS hD hAq [0, 1, 2] rfl) hK hP hD hS hAq 1 0 (T := TX1) (N := 6) rfl rfl rfl hl.1 rfl (Nat.le_of_ble_eq_true rfl) dX1_kindNamed_14 ⟨Nat.le_of_ble_eq_true rfl, Nat.le_of_ble_eq_true rfl⟩ [0, 1, 2] rfl rfl [r 0, x 1, x 2] rfl (fun _ => rfl) (fun _ => rfl) (fun u H locs hok hP hD hS => ?_)
    refine z_if_eq hx hb (tgt := 22) dX1_kindNamed_17 (by decide) (fun c_2 => ?_) (fun c_2 => ?_)
    · refine lv_aload_n hx hb dX1_kindNamed_22 rfl (lv_at hl 0 rfl) ?_
      refine va_ldcS hx hb hown (show vk_R RX1 94 "rebel" (adK 2) s from hX.2.2.2 2 (by decide)) dX1_kindNamed_23 ?_
      refine callVI (rest := []) (wn := fun u => [(r 0, .inr (1, [.ref (x 1), .ref (tr 0), .int (nI (tyN tb ln s0)), .int (nI s0), .int (nI (enN tb ln s0)), .int (nI v0)])), (x 1, .inr (3, [.ref (x 2), .int (nI ln)])), (x 2, .inl (G.2.1, 120, .inl (nF tb)))]) ⟨hx, hb, hml, hown, hts⟩ (c_X1_isWord l G H.size r x tr tb ln s0 v0 (by omega) (by omega) (by omega) adK adV 2 (by omega)) (cwV 1 hts gX1_kindNamed_X1_isWord rfl rfl rfl (by decide +kernel) ⟨Nat.le_of_ble_eq_true rfl, Nat.le_of_ble_eq_true rfl⟩) XSB (XS_at hX hS hD hAq [0, 1, 2] rfl) hK hP hD hS hAq 1 0 (T := TX1) (N := 6) rfl rfl rfl hl.1 rfl (Nat.le_of_ble_eq_true rfl) dX1_kindNamed_25 ⟨Nat.le_of_ble_eq_true rfl, Nat.le_of_ble_eq_true rfl⟩ [0, 1, 2] rfl rfl [r 0, x 1, x 2] rfl (fun _ => rfl) (fun _ => rfl) (fun u H locs hok hP hD hS => ?_)
      refine z_if_eq hx hb (tgt := 33) dX1_kindNamed_28 (by decide) (fun c_3 => ?_) (fun c_3 => ?_)
      · refine lv_aload_n hx hb dX1_kindNamed_33 rfl (lv_at hl 0 rfl) ?_
        refine va_ldcS hx hb hown (show vk_R RX1 96 "poacher" (adK 3) s from hX.2.2.2 3 (by decide)) dX1_kindNamed_34 ?_
        refine callVI (rest := []) (wn := fun u => [(r 0, .inr (1, [.ref (x 1), .ref (tr 0), .int (nI (tyN tb ln s0)), .int (nI s0), .int (nI (enN tb ln s0)), .int (nI v0)])), (x 1, .inr (3, [.ref (x 2), .int (nI ln)])), (x 2, .inl (G.2.1, 120, .inl (nF tb)))]) ⟨hx, hb, hml, hown, hts⟩ (c_X1_isWord l G H.size r x tr tb ln s0 v0 (by omega) (by omega) (by omega) adK adV 3 (by omega)) (cwV 1 hts gX1_kindNamed_X1_isWord rfl rfl rfl (by decide +kernel) ⟨Nat.le_of_ble_eq_true rfl, Nat.le_of_ble_eq_true rfl⟩) XSB (XS_at hX hS hD hAq [0, 1, 2] rfl) hK hP hD hS hAq 1 0 (T := TX1) (N := 6) rfl rfl rfl hl.1 rfl (Nat.le_of_ble_eq_true rfl) dX1_kindNamed_36 ⟨Nat.le_of_ble_eq_true rfl, Nat.le_of_ble_eq_true rfl⟩ [0, 1, 2] rfl rfl [r 0, x 1, x 2] rfl (fun _ => rfl) (fun _ => rfl) (fun u H locs hok hP hD hS => ?_)
        refine z_if_eq hx hb (tgt := 44) dX1_kindNamed_39 (by decide) (fun c_4 => ?_) (fun c_4 => ?_)
        · refine lv_aload_n hx hb dX1_kindNamed_44 rfl (lv_at hl 0 rfl) ?_
          refine va_ldcS hx hb hown (show vk_R RX1 98 "pupil" (adK 4) s from hX.2.2.2 4 (by decide)) dX1_kindNamed_45 ?_
          refine callVI (rest := []) (wn := fun u => [(r 0, .inr (1, [.ref (x 1), .ref (tr 0), .int (nI (tyN tb ln s0)), .int (nI s0), .int (nI (enN tb ln s0)), .int (nI v0)])), (x 1, .inr (3, [.ref (x 2), .int (nI ln)])), (x 2, .inl (G.2.1, 120, .inl (nF tb)))]) ⟨hx, hb, hml, hown, hts⟩ (c_X1_isWord l G H.size r x tr tb ln s0 v0 (by omega) (by omega) (by omega) adK adV 4 (by omega)) (cwV 1 hts gX1_kindNamed_X1_isWord rfl rfl rfl (by decide +kernel) ⟨Nat.le_of_ble_eq_true rfl, Nat.le_of_ble_eq_true rfl⟩) XSB (XS_at hX hS hD hAq [0, 1, 2] rfl) hK hP hD hS hAq 1 0 (T := TX1) (N := 6) rfl rfl rfl hl.1 rfl (Nat.le_of_ble_eq_true rfl) dX1_kindNamed_47 ⟨Nat.le_of_ble_eq_true rfl, Nat.le_of_ble_eq_true rfl⟩ [0, 1, 2] rfl rfl [r 0, x 1, x 2] rfl (fun _ => rfl) (fun _ => rfl) (fun u H locs hok hP hD hS => ?_)
          refine z_if_eq hx hb (tgt := 55) dX1_kindNamed_50 (by decide) (fun c_5 => ?_) (fun c_5 => ?_)
          · refine lv_aload_n hx hb dX1_kindNamed_55 rfl (lv_at hl 0 rfl) ?_
            refine va_ldcS hx hb hown (show vk_R RX1 100 "leader" (adK 5) s from hX.2.2.2 5 (by decide)) dX1_kindNamed_56 ?_
            refine callVI (rest := []) (wn := fun u => [(r 0, .inr (1, [.ref (x 1), .ref (tr 0), .int (nI (tyN tb ln s0)), .int (nI s0), .int (nI (enN tb ln s0)), .int (nI v0)])), (x 1, .inr (3, [.ref (x 2), .int (nI ln)])), (x 2, .inl (G.2.1, 120, .inl (nF tb)))]) ⟨hx, hb, hml, hown, hts⟩ (c_X1_isWord l G H.size r x tr tb ln s0 v0 (by omega) (by omega) (by omega) adK adV 5 (by omega)) (cwV 1 hts gX1_kindNamed_X1_isWord rfl rfl rfl (by decide +kernel) ⟨Nat.le_of_ble_eq_true rfl, Nat.le_of_ble_eq_true rfl⟩) XSB (XS_at hX hS hD hAq [0, 1, 2] rfl) hK hP hD hS hAq 1 0 (T := TX1) (N := 6) rfl rfl rfl hl.1 rfl (Nat.le_of_ble_eq_true rfl) dX1_kindNamed_58 ⟨Nat.le_of_ble_eq_true rfl, Nat.le_of_ble_eq_true rfl⟩ [0, 1, 2] rfl rfl [r 0, x 1, x 2] rfl (fun _ => rfl) (fun _ => rfl) (fun u H locs hok hP hD hS => ?_)
            refine z_if_eq hx hb (tgt := 66) dX1_kindNamed_61 (by decide) (fun c_6 => ?_) (fun c_6 => ?_)
            · refine lv_iconst (v := (-1)) hx hb dX1_kindNamed_66 rfl ?_
              exact fin_i hx hb hr hlk hS hP hD () trivial (by unfold kiV; rw [show kiN tb ln s0 = 6 from fst_none (NoQ_S (NoQ_S (NoQ_S (NoQ_S (NoQ_S (NoQ_S NoQ_0 (decide_eq_false c_1)) (decide_eq_false c_2)) (decide_eq_false c_3)) (decide_eq_false c_4)) (decide_eq_false c_5)) (decide_eq_false c_6))]; rfl) (eqW.rf _) dX1_kindNamed_67
            · refine lv_iconst (v := nI 5) hx hb dX1_kindNamed_64 rfl ?_
              exact fin_i hx hb hr hlk hS hP hD () trivial (by unfold kiV; rw [show kiN tb ln s0 = 5 from fst_of (NoQ_S (NoQ_S (NoQ_S (NoQ_S (NoQ_S NoQ_0 (decide_eq_false c_1)) (decide_eq_false c_2)) (decide_eq_false c_3)) (decide_eq_false c_4)) (decide_eq_false c_5)) (decide_eq_true c_6) (by decide)]; rfl) (eqW.rf _) dX1_kindNamed_65
          · refine lv_iconst (v := nI 4) hx hb dX1_kindNamed_53 rfl ?_
            exact fin_i hx hb hr hlk hS hP hD () trivial (by unfold kiV; rw [show kiN tb ln s0 = 4 from fst_of (NoQ_S (NoQ_S (NoQ_S (NoQ_S NoQ_0 (decide_eq_false c_1)) (decide_eq_false c_2)) (decide_eq_false c_3)) (decide_eq_false c_4)) (decide_eq_true c_5) (by decide)]; rfl) (eqW.rf _) dX1_kindNamed_54
        · refine lv_iconst (v := nI 3) hx hb dX1_kindNamed_42 rfl ?_
          exact fin_i hx hb hr hlk hS hP hD () trivial (by unfold kiV; rw [show kiN tb ln s0 = 3 from fst_of (NoQ_S (NoQ_S (NoQ_S NoQ_0 (decide_eq_false c_1)) (decide_eq_false c_2)) (decide_eq_false c_3)) (decide_eq_true c_4) (by decide)]; rfl) (eqW.rf _) dX1_kindNamed_43
      · refine lv_iconst (v := nI 2) hx hb dX1_kindNamed_31 rfl ?_
        exact fin_i hx hb hr hlk hS hP hD () trivial (by unfold kiV; rw [show kiN tb ln s0 = 2 from fst_of (NoQ_S (NoQ_S NoQ_0 (decide_eq_false c_1)) (decide_eq_false c_2)) (decide_eq_true c_3) (by decide)]; rfl) (eqW.rf _) dX1_kindNamed_32
    · refine lv_iconst (v := nI 1) hx hb dX1_kindNamed_20 rfl ?_
      exact fin_i hx hb hr hlk hS hP hD () trivial (by unfold kiV; rw [show kiN tb ln s0 = 1 from fst_of (NoQ_S NoQ_0 (decide_eq_false c_1)) (decide_eq_true c_2) (by decide)]; rfl) (eqW.rf _) dX1_kindNamed_21
  · refine lv_iconst (v := nI 0) hx hb dX1_kindNamed_9 rfl ?_
    exact fin_i hx hb hr hlk hS hP hD () trivial (by unfold kiV; rw [show kiN tb ln s0 = 0 from fst_of NoQ_0 (decide_eq_true c_1) (by decide)]; rfl) (eqW.rf _) dX1_kindNamed_10
set_option maxHeartbeats 400000 in
set_option maxRecDepth 100000 in
theorem c_X1_isNumber (l : Launch) (G : GT) (sz : Nat) (r x tr : Nat → Nat) (tb : Nat → Nat) (ln s0 v0 : Nat) (hln : ln ≤ 120) (hs0 : s0 ≤ ln) (htb : ∀ j, tb j < 256) (g0 : Nat) (hv1 : v0 ≤ 1000) (hg0 : g0 ≤ 999) : MI (S := Unit) l G noX yX1_isNumber wsX1_isNumber ({ frames := 0, cells := 0, slots := 0, locals := 0 } : Room) [.ref (r 0), .int (nI g0)] ([(r 0, .inr (1, [.ref (x 1), .ref (tr 0), .int (nI (tyN tb ln s0)), .int (nI s0), .int (nI (enN tb ln s0)), .int (nI v0)])), (x 1, .inr (3, [.ref (x 2), .int (nI ln)])), (x 2, .inl (G.2.1, 120, .inl (nF tb)))]) sz (fun _ => True) (fun _ => zI (tyN tb ln s0 = 2 ∧ v0 ≤ g0)) (fun _ => [(r 0, .inr (1, [.ref (x 1), .ref (tr 0), .int (nI (tyN tb ln s0)), .int (nI s0), .int (nI (enN tb ln s0)), .int (nI v0)])), (x 1, .inr (3, [.ref (x 2), .int (nI ln)])), (x 2, .inl (G.2.1, 120, .inl (nF tb)))]) := by
  refine MI_enter (cc := cX1_isNumber) (maxL := 2) (ret := (some .boolean)) (by decide) rfl (Nat.le_of_ble_eq_true rfl) ?_
  intro p e s m below meth c A ls H hx hb hr hlk hml hown hts hAq hS hP hK hD hX hl hnm
  have hown : s.vm.findClass RX1 = some m.cls := hown
  have hl : lv_has ls 2 [(0, .ref (r 0)), (1, .int (nI g0))] := hl
  obtain ⟨hen1, hen2⟩ := en_le (tb := tb) hs0
  have htyl := ty_le tb ln s0
  refine lv_aload_n hx hb dX1_isNumber_0 rfl (lv_at hl 0 rfl) ?_
  refine n_get (C := RX1) (T := TX1) (N := 6) hx hb hts (fun _ h => List.mem_cons_of_mem _ (List.mem_append_right _ h)) hown hK hP 0 rfl rfl 2 (by decide) (List.mem_of_getElem? (i := 1) rfl) rfl (.int (nI (tyN tb ln s0))) rfl dX1_isNumber_1 ?_
  refine lv_iconst (v := nI 2) hx hb dX1_isNumber_4 rfl ?_
  refine n_icmp_ne hx hb (by omega) (by omega) (tgt := 20) dX1_isNumber_5 (by decide) (fun c_1 => ?_) (fun c_1 => ?_)
  · refine lv_iconst (v := nI 0) hx hb dX1_isNumber_20 rfl ?_
    exact fin_z (ty := .boolean) (by decide) hx hb hr hlk hS hP hD () trivial (zI_f (by omega)).symm (eqW.rf _) dX1_isNumber_21
  · refine lv_aload_n hx hb dX1_isNumber_8 rfl (lv_at hl 0 rfl) ?_
    refine n_get (C := RX1) (T := TX1) (N := 6) hx hb hts (fun _ h => List.mem_cons_of_mem _ (List.mem_append_right _ h)) hown hK hP 0 rfl rfl 5 (by decide) (List.mem_of_getElem? (i := 2) rfl) rfl (.int (nI v0)) rfl dX1_isNumber_9 ?_
    refine lv_iload_n hx hb dX1_isNumber_12 rfl (lv_at hl 1 rfl) ?_
    refine n_icmp_gt hx hb (by omega) (by omega) (tgt := 20) dX1_isNumber_13 (by decide) (fun c_2 => ?_) (fun c_2 => ?_)
    · refine lv_iconst (v := nI 0) hx hb dX1_isNumber_20 rfl ?_
      exact fin_z (ty := .boolean) (by decide) hx hb hr hlk hS hP hD () trivial (zI_f (by omega)).symm (eqW.rf _) dX1_isNumber_21
    · refine lv_iconst (v := nI 1) hx hb dX1_isNumber_16 rfl ?_
      refine lv_goto (tgt := 21) hx hb dX1_isNumber_17 (by decide) ?_
      exact fin_z (ty := .boolean) (by decide) hx hb hr hlk hS hP hD () trivial (zI_t (by omega)).symm (eqW.rf _) dX1_isNumber_21
