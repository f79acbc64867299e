set_option maxHeartbeats 400000 in
set_option maxRecDepth 100000 in
theorem c_X1_isLetter (l : Launch) (G : GT) (sz : Nat) (c0 : Nat) (hc0 : c0 < 256) : MI (S := Unit) l G noX yX1_isLetter wsX1_isLetter ({ frames := 0, cells := 0, slots := 0, locals := 0 } : Room) [.int (nI c0)] (([] : va_W)) sz (fun _ => True) (fun _ => zI (isL c0)) (fun _ => ([] : va_W)) := by
  refine MI_enter (cc := cX1_isLetter) (maxL := 1) (ret := (some .boolean)) (by decide) rfl (Nat.le_of_ble_eq_true rfl) ?_
  intro p e s m below meth c A ls H hx hb hr hlk hml hown hts hAq hS hP hK hD hX hl hnm
  have hown : s.vm.findClass RX1 = some m.cls := hown
  have hl : lv_has ls 1 [(0, .int (nI c0))] := hl
  refine lv_iload_n hx hb dX1_isLetter_0 rfl (lv_at hl 0 rfl) ?_
  refine lv_bipush (v := nI 97) hx hb dX1_isLetter_1 rfl ?_
  refine n_icmp_lt hx hb (by omega) (by omega) (tgt := 16) dX1_isLetter_3 (by decide) (fun c_1 => ?_) (fun c_1 => ?_)
  · refine lv_iconst (v := nI 0) hx hb dX1_isLetter_16 rfl ?_
    exact fin_z (ty := .boolean) (by decide) hx hb hr hlk hS hP hD () trivial (zI_f (by omega)).symm (eqW.rf _) dX1_isLetter_17
  · refine lv_iload_n hx hb dX1_isLetter_6 rfl (lv_at hl 0 rfl) ?_
    refine lv_bipush (v := nI 122) hx hb dX1_isLetter_7 rfl ?_
    refine n_icmp_gt hx hb (by omega) (by omega) (tgt := 16) dX1_isLetter_9 (by decide) (fun c_2 => ?_) (fun c_2 => ?_)
    · refine lv_iconst (v := nI 0) hx hb dX1_isLetter_16 rfl ?_
      exact fin_z (ty := .boolean) (by decide) hx hb hr hlk hS hP hD () trivial (zI_f (by omega)).symm (eqW.rf _) dX1_isLetter_17
    · refine lv_iconst (v := nI 1) hx hb dX1_isLetter_12 rfl ?_
      refine lv_goto (tgt := 17) hx hb dX1_isLetter_13 (by decide) ?_
      exact fin_z (ty := .boolean) (by decide) hx hb hr hlk hS hP hD () trivial (zI_t (by omega)).symm (eqW.rf _) dX1_isLetter_17
set_option maxHeartbeats 400000 in
set_option maxRecDepth 100000 in
theorem c_X6_isLetter (l : Launch) (G : GT) (sz : Nat) (c0 : Nat) (hc0 : c0 < 256) : MI (S := Unit) l G noX yX6_isLetter wsX6_isLetter ({ frames := 1, cells := 0, slots := 0, locals := 22 } : Room) [.int (nI c0)] (([] : va_W)) sz (fun _ => True) (fun _ => zI (isL c0)) (fun _ => ([] : va_W)) := by
  refine MI_enter (cc := cX6_isLetter) (maxL := 1) (ret := (some .boolean)) (by decide) rfl (Nat.le_of_ble_eq_true rfl) ?_
  intro p e s m below meth c A ls H hx hb hr hlk hml hown hts hAq hS hP hK hD hX hl hnm
  have hown : s.vm.findClass RX6 = some m.cls := hown
  have hl : lv_has ls 1 [(0, .int (nI c0))] := hl
  refine lv_iload_n hx hb dX6_isLetter_0 rfl (lv_at hl 0 rfl) ?_
  refine lv_bipush (v := nI 97) hx hb dX6_isLetter_1 rfl ?_
  refine lv_bipush (v := nI 122) hx hb dX6_isLetter_3 rfl ?_
  refine callSI (rest := []) (wn := fun u => ([] : va_W)) ⟨hx, hb, hml, hown, hts⟩ (c_X6_in1 l G H.size (nI c0) (nI 97) (nI 122)) (va_cwS 3 hts gX6_isLetter_X6_in1 rfl rfl rfl (by decide +kernel) ⟨Nat.le_of_ble_eq_true rfl, Nat.le_of_ble_eq_true rfl⟩) noXB (fun _ _ _ => trivial) hK hP hD hS hAq rfl hl.1 rfl (Nat.le_of_ble_eq_true rfl) dX6_isLetter_5 ⟨Nat.le_of_ble_eq_true rfl, Nat.le_of_ble_eq_true rfl⟩ [] rfl rfl [] rfl (fun _ => rfl) (fun _ => rfl) (fun u H locs hok hP hD hS => ?_)
  refine n_top (y := zI ((97 : Int) ≤ (nI c0).toInt ∧ (nI c0).toInt ≤ 122)) (zI_c (by rw [nI_T (show 97 < 2147483648 by decide), nI_T (show 122 < 2147483648 by decide)]; exact Iff.rfl)) ?_
  exact fin_z (ty := .boolean) zI_n hx hb hr hlk hS hP hD () trivial (zI_c (by rw [nI_T (show c0 < 2147483648 by omega)]; show _ ↔ (_ ∧ _); omega)) (eqW.rf _) dX6_isLetter_8
set_option maxHeartbeats 400000 in
set_option maxRecDepth 100000 in
theorem c_X1_isDigit (l : Launch) (G : GT) (sz : Nat) (c0 : Nat) (hc0 : c0 < 256) : MI (S := Unit) l G noX yX1_isDigit wsX1_isDigit ({ frames := 0, cells := 0, slots := 0, locals := 0 } : Room) [.int (nI c0)] (([] : va_W)) sz (fun _ => True) (fun _ => zI (isD c0)) (fun _ => ([] : va_W)) := by
  refine MI_enter (cc := cX1_isDigit) (maxL := 1) (ret := (some .boolean)) (by decide) rfl (Nat.le_of_ble_eq_true rfl) ?_
  intro p e s m below meth c A ls H hx hb hr hlk hml hown hts hAq hS hP hK hD hX hl hnm
  have hown : s.vm.findClass RX1 = some m.cls := hown
  have hl : lv_has ls 1 [(0, .int (nI c0))] := hl
  refine lv_iload_n hx hb dX1_isDigit_0 rfl (lv_at hl 0 rfl) ?_
  refine lv_bipush (v := nI 48) hx hb dX1_isDigit_1 rfl ?_
  refine n_icmp_lt hx hb (by omega) (by omega) (tgt := 16) dX1_isDigit_3 (by decide) (fun c_1 => ?_) (fun c_1 => ?_)
  · refine lv_iconst (v := nI 0) hx hb dX1_isDigit_16 rfl ?_
    exact fin_z (ty := .boolean) (by decide) hx hb hr hlk hS hP hD () trivial (zI_f (by omega)).symm (eqW.rf _) dX1_isDigit_17
  · refine lv_iload_n hx hb dX1_isDigit_6 rfl (lv_at hl 0 rfl) ?_
    refine lv_bipush (v := nI 57) hx hb dX1_isDigit_7 rfl ?_
    refine n_icmp_gt hx hb (by omega) (by omega) (tgt := 16) dX1_isDigit_9 (by decide) (fun c_2 => ?_) (fun c_2 => ?_)
    · refine lv_iconst (v := nI 0) hx hb dX1_isDigit_16 rfl ?_
      exact fin_z (ty := .boolean) (by decide) hx hb hr hlk hS hP hD () trivial (zI_f (by omega)).symm (eqW.rf _) dX1_isDigit_17
    · refine lv_iconst (v := nI 1) hx hb dX1_isDigit_12 rfl ?_
      refine lv_goto (tgt := 17) hx hb dX1_isDigit_13 (by decide) ?_
      exact fin_z (ty := .boolean) (by decide) hx hb hr hlk hS hP hD () trivial (zI_t (by omega)).symm (eqW.rf _) dX1_isDigit_17
set_option maxHeartbeats 400000 in
set_option maxRecDepth 100000 in
theorem c_X6_isDigit (l : Launch) (G : GT) (sz : Nat) (c0 : Nat) (hc0 : c0 < 256) : MI (S := Unit) l G noX yX6_isDigit wsX6_isDigit ({ frames := 1, cells := 0, slots := 0, locals := 22 } : Room) [.int (nI c0)] (([] : va_W)) sz (fun _ => True) (fun _ => zI (isD c0)) (fun _ => ([] : va_W)) := by
  refine MI_enter (cc := cX6_isDigit) (maxL := 1) (ret := (some .boolean)) (by decide) rfl (Nat.le_of_ble_eq_true rfl) ?_
  intro p e s m below meth c A ls H hx hb hr hlk hml hown hts hAq hS hP hK hD hX hl hnm
  have hown : s.vm.findClass RX6 = some m.cls := hown
  have hl : lv_has ls 1 [(0, .int (nI c0))] := hl
  refine lv_iload_n hx hb dX6_isDigit_0 rfl (lv_at hl 0 rfl) ?_
  refine lv_bipush (v := nI 48) hx hb dX6_isDigit_1 rfl ?_
  refine lv_bipush (v := nI 57) hx hb dX6_isDigit_3 rfl ?_
  refine callSI (rest := []) (wn := fun u => ([] : va_W)) ⟨hx, hb, hml, hown, hts⟩ (c_X6_in1 l G H.size (nI c0) (nI 48) (nI 57)) (va_cwS 3 hts gX6_isDigit_X6_in1 rfl rfl rfl (by decide +kernel) ⟨Nat.le_of_ble_eq_true rfl, Nat.le_of_ble_eq_true rfl⟩) noXB (fun _ _ _ => trivial) hK hP hD hS hAq rfl hl.1 rfl (Nat.le_of_ble_eq_true rfl) dX6_isDigit_5 ⟨Nat.le_of_ble_eq_true rfl, Nat.le_of_ble_eq_true rfl⟩ [] rfl rfl [] rfl (fun _ => rfl) (fun _ => rfl) (fun u H locs hok hP hD hS => ?_)
  refine n_top (y := zI ((48 : Int) ≤ (nI c0).toInt ∧ (nI c0).toInt ≤ 57)) (zI_c (by rw [nI_T (show 48 < 2147483648 by decide), nI_T (show 57 < 2147483648 by decide)]; exact Iff.rfl)) ?_
  exact fin_z (ty := .boolean) zI_n hx hb hr hlk hS hP hD () trivial (zI_c (by rw [nI_T (show c0 < 2147483648 by omega)]; show _ ↔ (_ ∧ _); omega)) (eqW.rf _) dX6_isDigit_8
set_option maxHeartbeats 400000 in
set_option maxRecDepth 100000 in
theorem c_X4_byteAt (l : Launch) (G : GT) (sz : Nat) (x : Nat → Nat) (tb : Nat → Nat) (ln p0 : Nat) (hln : ln ≤ 120) (hp0 : p0 ≤ 200) : MI (S := Unit) l G noX yX4_byteAt wsX4_byteAt ({ frames := 0, cells := 0, slots := 0, locals := 0 } : Room) [.ref (x 1), .int (nI p0)] ([(x 1, .inr (3, [.ref (x 2), .int (nI ln)])), (x 2, .inl (G.2.1, 120, .inl (nF tb)))]) sz (fun _ => True) (fun _ => btV tb ln p0) (fun _ => [(x 1, .inr (3, [.ref (x 2), .int (nI ln)])), (x 2, .inl (G.2.1, 120, .inl (nF tb)))]) := by
  refine MI_enter (cc := cX4_byteAt) (maxL := 2) (ret := (some .int)) (by decide) rfl (Nat.le_of_ble_eq_true rfl) ?_
  intro p e s m below meth c A ls H hx hb hr hlk hml hown hts hAq hS hP hK hD hX hl hnm
  have hown : s.vm.findClass RX4 = some m.cls := hown
  have hl : lv_has ls 2 [(0, .ref (x 1)), (1, .int (nI p0))] := hl
  refine lv_iload_n hx hb dX4_byteAt_0 rfl (lv_at hl 1 rfl) ?_
  refine n_if_lt hx hb (by omega) (tgt := 27) dX4_byteAt_1 (by decide) (fun c_1 => ?_) (fun c_1 => ?_)
  · exact absurd c_1 (by omega)
  · refine lv_iload_n hx hb dX4_byteAt_4 rfl (lv_at hl 1 rfl) ?_
    refine lv_aload_n hx hb dX4_byteAt_5 rfl (lv_at hl 0 rfl) ?_
    refine n_get (C := RX4) (T := TX4) (N := 2) hx hb hts (fun _ h => List.mem_cons_of_mem _ (List.mem_append_right _ h)) hown hK hP 0 rfl rfl 1 (by decide) (List.mem_of_getElem? (i := 1) rfl) rfl (.int (nI ln)) rfl dX4_byteAt_6 ?_
    refine n_icmp_ge hx hb (by omega) (by omega) (tgt := 27) dX4_byteAt_9 (by decide) (fun c_2 => ?_) (fun c_2 => ?_)
    · refine lv_iconst (v := (-1)) hx hb dX4_byteAt_27 rfl ?_
      exact fin_i hx hb hr hlk hS hP hD () trivial (by unfold btV; rw [if_neg (by omega)]) (eqW.rf _) dX4_byteAt_28
    · refine lv_iload_n hx hb dX4_byteAt_12 rfl (lv_at hl 1 rfl) ?_
      refine lv_bipush (v := nI 120) hx hb dX4_byteAt_13 rfl ?_
      refine n_icmp_ge hx hb (by omega) (by omega) (tgt := 27) dX4_byteAt_15 (by decide) (fun c_3 => ?_) (fun c_3 => ?_)
      · refine lv_iconst (v := (-1)) hx hb dX4_byteAt_27 rfl ?_
        exact fin_i hx hb hr hlk hS hP hD () trivial (by unfold btV; rw [if_neg (by omega)]) (eqW.rf _) dX4_byteAt_28
      · refine lv_aload_n hx hb dX4_byteAt_18 rfl (lv_at hl 0 rfl) ?_
        refine n_get (C := RX4) (T := TX4) (N := 2) hx hb hts (fun _ h => List.mem_cons_of_mem _ (List.mem_append_right _ h)) hown hK hP 0 rfl rfl 0 (by decide) (List.mem_of_getElem? (i := 2) rfl) rfl (.ref (x 2)) rfl dX4_byteAt_19 ?_
        refine lv_iload_n hx hb dX4_byteAt_22 rfl (lv_at hl 1 rfl) ?_
        refine n_iald hx hb hK hP 1 (v := (nI (tb p0))) rfl (by omega) (by omega) rfl dX4_byteAt_23 ?_
        refine lv_goto (tgt := 28) hx hb dX4_byteAt_24 (by decide) ?_
        exact fin_i hx hb hr hlk hS hP hD () trivial (by unfold btV; rw [if_pos (by omega)]) (eqW.rf _) dX4_byteAt_28
set_option maxHeartbeats 400000 in
set_option maxRecDepth 100000 in
theorem c_X1_advance (l : Launch) (G : GT) (sz : Nat) (r x tr : Nat → Nat) (tb : Nat → Nat) (ln ty0 b0 e0 v0 : Nat) (hln : ln ≤ 120) (he : e0 ≤ ln) (htb : ∀ j, tb j < 256) (hv0 : v0 ≤ 1000) : MV (S := Nat) l G noX yX1_advance wsX1_advance ({ frames := 1, cells := 0, slots := 0, locals := 21 } : Room) [.ref (r 0)] ([(r 0, .inr (1, [.ref (x 1), .ref (tr 0), .int (nI ty0), .int (nI b0), .int (nI e0), .int (nI v0)])), (x 1, .inr (3, [.ref (x 2), .int (nI ln)])), (x 2, .inl (G.2.1, 120, .inl (nF tb)))]) sz (fun u => u ≤ 1000 ∧ (tyN tb ln (stN tb ln e0) = 2 → u = nmN tb ln (stN tb ln e0))) (fun u => [(r 0, .inr (1, [.ref (x 1), .ref (tr 0), .int (nI (tyN tb ln (stN tb ln e0))), .int (nI (stN tb ln e0)), .int (nI (enN tb ln (stN tb ln e0))), .int (nI u)])), (x 1, .inr (3, [.ref (x 2), .int (nI ln)])), (x 2, .inl (G.2.1, 120, .inl (nF tb)))]) := by
  refine MV_enter (cc := cX1_advance) (maxL := 2) (ret := none) (by decide) rfl (Nat.le_of_ble_eq_true rfl) ?_
  intro p e s m below meth c A ls H hx hb hr hlk hml hown hts hAq hS hP hK hD hX hl hnm
  have hown : s.vm.findClass RX1 = some m.cls := hown
  have hl : lv_has ls 2 [(0, .ref (r 0))] := hl
  refine lv_aload_n hx hb dX1_advance_0 rfl (lv_at hl 0 rfl) ?_
  refine lv_aload_n hx hb dX1_advance_1 rfl (lv_at hl 0 rfl) ?_
  refine n_get (C := RX1) (T := TX1) (N := 6) hx hb hts (fun _ h => List.mem_cons_of_mem _ (List.mem_append_left _ (List.mem_append_right _ h))) hown hK hP 0 rfl rfl 4 (by decide) (List.mem_of_getElem? (i := 1) rfl) rfl (.int (nI e0)) rfl dX1_advance_2 ?_
  refine n_put (C := RX1) (T := TX1) (N := 6) hx hb hts (fun _ h => List.mem_cons_of_mem _ (List.mem_append_left _ (List.mem_append_right _ h))) tyX1 tyX1_ok nmX1 hown hK hP hD hS 0 rfl rfl 3 (by decide) (List.mem_of_getElem? (i := 2) rfl) rfl rfl (ty := .int) (v := .int (nI e0)) rfl rfl rfl (Nat.le_of_ble_eq_true rfl) (wn := [(r 0, .inr (1, [.ref (x 1), .ref (tr 0), .int (nI ty0), .int (nI e0), .int (nI e0), .int (nI v0)])), (x 1, .inr (3, [.ref (x 2), .int (nI ln)])), (x 2, .inl (G.2.1, 120, .inl (nF tb)))]) rfl dX1_advance_5 (fun H locs hP hD hS => ?_)
  refine W_loop1 (I := fun (k : Nat) => e0 + k ≤ ln ∧ NoQ (runQ (qS tb) e0) k) (wd := fun (k : Nat) => [(r 0, .inr (1, [.ref (x 1), .ref (tr 0), .int (nI ty0), .int (nI (e0 + k)), .int (nI e0), .int (nI v0)])), (x 1, .inr (3, [.ref (x 2), .int (nI ln)])), (x 2, .inl (G.2.1, 120, .inl (nF tb)))]) (lv := fun (k : Nat) => [(0, .ref (r 0))]) (μ := fun (k : Nat) => ln - (e0 + k)) ?_ 0 ⟨by omega, NoQ_0⟩ hP hD hS (lv_sub hl [0] rfl)
  intro k H locs ls hI0 hP hD hS hl ih
  obtain ⟨hk, hno⟩ := hI0
  refine lv_aload_n hx hb dX1_advance_8 rfl (lv_at hl 0 rfl) ?_
  refine n_get (C := RX1) (T := TX1) (N := 6) hx hb hts (fun _ h => List.mem_cons_of_mem _ (List.mem_append_left _ (List.mem_append_right _ h))) hown hK hP 0 rfl rfl 3 (by decide) (List.mem_of_getElem? (i := 2) rfl) rfl (.int (nI (e0 + k))) rfl dX1_advance_9 ?_
  refine lv_aload_n hx hb dX1_advance_12 rfl (lv_at hl 0 rfl) ?_
  refine n_get (C := RX1) (T := TX1) (N := 6) hx hb hts (fun _ h => List.mem_cons_of_mem _ (List.mem_append_left _ (List.mem_append_right _ h))) hown hK hP 0 rfl rfl 0 (by decide) (List.mem_of_getElem? (i := 3) rfl) rfl (.ref (x 1)) rfl dX1_advance_13 ?_
  refine n_get (C := RX4) (T := TX4) (N := 2) hx hb hts (fun _ h => List.mem_cons_of_mem _ (List.mem_append_right _ h)) hown hK hP 1 rfl rfl 1 (by decide) (List.mem_of_getElem? (i := 4) rfl) rfl (.int (nI ln)) rfl dX1_advance_16 ?_
  refine n_icmp_ge hx hb (by omega) (by omega) (tgt := 51) dX1_advance_19 (by decide) (fun c_1 => ?_) (fun c_1 => ?_)
  · have hs : stN tb ln e0 = e0 + k := run_end (q := qS tb) hno (by omega)
    refine lv_aload_n hx hb dX1_advance_51 rfl (lv_at hl 0 rfl) ?_
    refine lv_aload_n hx hb dX1_advance_52 rfl (lv_at hl 0 rfl) ?_
    refine n_get (C := RX1) (T := TX1) (N := 6) hx hb hts (fun _ h => List.mem_cons_of_mem _ (List.mem_append_left _ (List.mem_append_right _ h))) hown hK hP 0 rfl rfl 3 (by decide) (List.mem_of_getElem? (i := 2) rfl) rfl (.int (nI (e0 + k))) rfl dX1_advance_53 ?_
    refine n_put (C := RX1) (T := TX1) (N := 6) hx hb hts (fun _ h => List.mem_cons_of_mem _ (List.mem_append_left _ (List.mem_append_right _ h))) tyX1 tyX1_ok nmX1 hown hK hP hD hS 0 rfl rfl 4 (by decide) (List.mem_of_getElem? (i := 1) rfl) rfl rfl (ty := .int) (v := .int (nI (e0 + k))) rfl rfl rfl (Nat.le_of_ble_eq_true rfl) (wn := [(r 0, .inr (1, [.ref (x 1), .ref (tr 0), .int (nI ty0), .int (nI (e0 + k)), .int (nI (e0 + k)), .int (nI v0)])), (x 1, .inr (3, [.ref (x 2), .int (nI ln)])), (x 2, .inl (G.2.1, 120, .inl (nF tb)))]) rfl dX1_advance_56 (fun H locs hP hD hS => ?_)
    refine lv_aload_n hx hb dX1_advance_59 rfl (lv_at hl 0 rfl) ?_
    refine n_get (C := RX1) (T := TX1) (N := 6) hx hb hts (fun _ h => List.mem_cons_of_mem _ (List.mem_append_left _ (List.mem_append_right _ h))) hown hK hP 0 rfl rfl 0 (by decide) (List.mem_of_getElem? (i := 3) rfl) rfl (.ref (x 1)) rfl dX1_advance_60 ?_
    refine lv_aload_n hx hb dX1_advance_63 rfl (lv_at hl 0 rfl) ?_
    refine n_get (C := RX1) (T := TX1) (N := 6) hx hb hts (fun _ h => List.mem_cons_of_mem _ (List.mem_append_left _ (List.mem_append_right _ h))) hown hK hP 0 rfl rfl 3 (by decide) (List.mem_of_getElem? (i := 2) rfl) rfl (.int (nI (e0 + k))) rfl dX1_advance_64 ?_
    refine callVI (rest := []) (wn := fun u => [(r 0, .inr (1, [.ref (x 1), .ref (tr 0), .int (nI ty0), .int (nI (e0 + k)), .int (nI (e0 + k)), .int (nI v0)])), (x 1, .inr (3, [.ref (x 2), .int (nI ln)])), (x 2, .inl (G.2.1, 120, .inl (nF tb)))]) ⟨hx, hb, hml, hown, hts⟩ (c_X4_byteAt l G H.size x tb ln (e0 + k) (by omega) (by omega)) (cwV 1 hts gX1_advance_X4_byteAt rfl rfl rfl (by decide +kernel) ⟨Nat.le_of_ble_eq_true rfl, Nat.le_of_ble_eq_true rfl⟩) noXB (fun _ _ _ => trivial) hK hP hD hS hAq 3 0 (T := TX4) (N := 2) rfl rfl rfl hl.1 rfl (Nat.le_of_ble_eq_true rfl) dX1_advance_67 ⟨Nat.le_of_ble_eq_true rfl, Nat.le_of_ble_eq_true rfl⟩ [1, 2] rfl rfl [x 1, x 2] rfl (fun _ => rfl) (fun _ => rfl) (fun u H locs hok hP hD hS => ?_)
    by_cases hq : e0 + k < ln
    · refine n_top (y := nI (tb (e0 + k))) (if_pos (by omega)) ?_
      have hB_2 := htb (e0 + k)
      refine lv_istore_n (lv' := [(1, .int (nI (tb (e0 + k)))), (0, .ref (r 0))]) hx hb dX1_advance_70 rfl hl (by decide) rfl (fun ls hl => ?_)
      refine lv_iload_n hx hb dX1_advance_71 rfl (lv_at hl 0 rfl) ?_
      refine n_if_ge hx hb (by omega) (tgt := 83) dX1_advance_72 (by decide) (fun c_3 => ?_) (fun c_3 => ?_)
      · refine lv_iload_n hx hb dX1_advance_83 rfl (lv_at hl 0 rfl) ?_
        refine callSI (rest := []) (wn := fun u => [(r 0, .inr (1, [.ref (x 1), .ref (tr 0), .int (nI ty0), .int (nI (e0 + k)), .int (nI (e0 + k)), .int (nI v0)])), (x 1, .inr (3, [.ref (x 2), .int (nI ln)])), (x 2, .inl (G.2.1, 120, .inl (nF tb)))]) ⟨hx, hb, hml, hown, hts⟩ (c_X1_isLetter l G H.size (tb (e0 + k)) (by omega)) (va_cwS 1 hts gX1_advance_X1_isLetter rfl rfl rfl (by decide +kernel) ⟨Nat.le_of_ble_eq_true rfl, Nat.le_of_ble_eq_true rfl⟩) noXB (fun _ _ _ => trivial) hK hP hD hS hAq rfl hl.1 rfl (Nat.le_of_ble_eq_true rfl) dX1_advance_84 ⟨Nat.le_of_ble_eq_true rfl, Nat.le_of_ble_eq_true rfl⟩ [] rfl rfl [] rfl (fun _ => rfl) (fun _ => rfl) (fun u H locs hok hP hD hS => ?_)
        refine z_if_eq hx hb (tgt := 139) dX1_advance_87 (by decide) (fun c_4 => ?_) (fun c_4 => ?_)
        · have hLt := c_4
          refine lv_iload_n hx hb dX1_advance_139 rfl (lv_at hl 0 rfl) ?_
          refine callSI (rest := []) (wn := fun u => [(r 0, .inr (1, [.ref (x 1), .ref (tr 0), .int (nI ty0), .int (nI (e0 + k)), .int (nI (e0 + k)), .int (nI v0)])), (x 1, .inr (3, [.ref (x 2), .int (nI ln)])), (x 2, .inl (G.2.1, 120, .inl (nF tb)))]) ⟨hx, hb, hml, hown, hts⟩ (c_X1_isDigit l G H.size (tb (e0 + k)) (by omega)) (va_cwS 1 hts gX1_advance_X1_isDigit rfl rfl rfl (by decide +kernel) ⟨Nat.le_of_ble_eq_true rfl, Nat.le_of_ble_eq_true rfl⟩) noXB (fun _ _ _ => trivial) hK hP hD hS hAq rfl hl.1 rfl (Nat.le_of_ble_eq_true rfl) dX1_advance_140 ⟨Nat.le_of_ble_eq_true rfl, Nat.le_of_ble_eq_true rfl⟩ [] rfl rfl [] rfl (fun _ => rfl) (fun _ => rfl) (fun u H locs hok hP hD hS => ?_)
          refine z_if_eq hx hb (tgt := 232) dX1_advance_143 (by decide) (fun c_5 => ?_) (fun c_5 => ?_)
          · have hDg := c_5
            refine lv_aload_n hx hb dX1_advance_232 rfl (lv_at hl 1 rfl) ?_
            refine lv_iload_n hx hb dX1_advance_233 rfl (lv_at hl 0 rfl) ?_
            refine lv_bipush (v := nI 59) hx hb dX1_advance_234 rfl ?_
            refine n_icmp_ne hx hb (by omega) (by omega) (tgt := 243) dX1_advance_236 (by decide) (fun c_6 => ?_) (fun c_6 => ?_)
            · refine lv_iconst (v := nI 4) hx hb dX1_advance_243 rfl ?_
              refine n_put (C := RX1) (T := TX1) (N := 6) hx hb hts (fun _ h => List.mem_cons_of_mem _ (List.mem_append_left _ (List.mem_append_right _ h))) tyX1 tyX1_ok nmX1 hown hK hP hD hS 0 rfl rfl 2 (by decide) (List.mem_of_getElem? (i := 5) rfl) rfl rfl (ty := .int) (v := .int (nI 4)) rfl rfl rfl (Nat.le_of_ble_eq_true rfl) (wn := [(r 0, .inr (1, [.ref (x 1), .ref (tr 0), .int (nI 4), .int (nI (e0 + k)), .int (nI (e0 + k)), .int (nI v0)])), (x 1, .inr (3, [.ref (x 2), .int (nI ln)])), (x 2, .inl (G.2.1, 120, .inl (nF tb)))]) rfl dX1_advance_244 (fun H locs hP hD hS => ?_)
              refine lv_aload_n hx hb dX1_advance_247 rfl (lv_at hl 1 rfl) ?_
              refine lv_dup hx hb dX1_advance_248 rfl ?_
              refine n_get (C := RX1) (T := TX1) (N := 6) hx hb hts (fun _ h => List.mem_cons_of_mem _ (List.mem_append_left _ (List.mem_append_right _ h))) hown hK hP 0 rfl rfl 4 (by decide) (List.mem_of_getElem? (i := 1) rfl) rfl (.int (nI (e0 + k))) rfl dX1_advance_249 ?_
              refine lv_iconst (v := nI 1) hx hb dX1_advance_252 rfl ?_
              refine n_iadd hx hb dX1_advance_253 ?_
              refine n_put (C := RX1) (T := TX1) (N := 6) hx hb hts (fun _ h => List.mem_cons_of_mem _ (List.mem_append_left _ (List.mem_append_right _ h))) tyX1 tyX1_ok nmX1 hown hK hP hD hS 0 rfl rfl 4 (by decide) (List.mem_of_getElem? (i := 1) rfl) rfl rfl (ty := .int) (v := .int (nI ((e0 + k) + 1))) rfl rfl rfl (Nat.le_of_ble_eq_true rfl) (wn := [(r 0, .inr (1, [.ref (x 1), .ref (tr 0), .int (nI 4), .int (nI (e0 + k)), .int (nI ((e0 + k) + 1)), .int (nI v0)])), (x 1, .inr (3, [.ref (x 2), .int (nI ln)])), (x 2, .inl (G.2.1, 120, .inl (nF tb)))]) rfl dX1_advance_254 (fun H locs hP hD hS => ?_)
              have hty : tyN tb ln (e0 + k) = 4 := by unfold tyN; rw [if_neg (by omega), if_neg hLt, if_neg hDg, if_neg (by omega)]
              have hen : enN tb ln (e0 + k) = (e0 + k) + 1 := by unfold enN; rw [if_neg (by omega), if_neg hLt, if_neg hDg]
              exact fin_v hx hb hr hlk hS hP hD v0 ⟨by omega, fun h => by rw [hs, hty] at h; exact absurd h (by decide)⟩ (by rw [hs, hty, hen]; exact eqW.rf _) dX1_advance_257
            · refine lv_iconst (v := nI 3) hx hb dX1_advance_239 rfl ?_
              refine lv_goto (tgt := 244) hx hb dX1_advance_240 (by decide) ?_
              refine n_put (C := RX1) (T := TX1) (N := 6) hx hb hts (fun _ h => List.mem_cons_of_mem _ (List.mem_append_left _ (List.mem_append_right _ h))) tyX1 tyX1_ok nmX1 hown hK hP hD hS 0 rfl rfl 2 (by decide) (List.mem_of_getElem? (i := 5) rfl) rfl rfl (ty := .int) (v := .int (nI 3)) rfl rfl rfl (Nat.le_of_ble_eq_true rfl) (wn := [(r 0, .inr (1, [.ref (x 1), .ref (tr 0), .int (nI 3), .int (nI (e0 + k)), .int (nI (e0 + k)), .int (nI v0)])), (x 1, .inr (3, [.ref (x 2), .int (nI ln)])), (x 2, .inl (G.2.1, 120, .inl (nF tb)))]) rfl dX1_advance_244 (fun H locs hP hD hS => ?_)
              refine lv_aload_n hx hb dX1_advance_247 rfl (lv_at hl 1 rfl) ?_
              refine lv_dup hx hb dX1_advance_248 rfl ?_
              refine n_get (C := RX1) (T := TX1) (N := 6) hx hb hts (fun _ h => List.mem_cons_of_mem _ (List.mem_append_left _ (List.mem_append_right _ h))) hown hK hP 0 rfl rfl 4 (by decide) (List.mem_of_getElem? (i := 1) rfl) rfl (.int (nI (e0 + k))) rfl dX1_advance_249 ?_
              refine lv_iconst (v := nI 1) hx hb dX1_advance_252 rfl ?_
              refine n_iadd hx hb dX1_advance_253 ?_
              refine n_put (C := RX1) (T := TX1) (N := 6) hx hb hts (fun _ h => List.mem_cons_of_mem _ (List.mem_append_left _ (List.mem_append_right _ h))) tyX1 tyX1_ok nmX1 hown hK hP hD hS 0 rfl rfl 4 (by decide) (List.mem_of_getElem? (i := 1) rfl) rfl rfl (ty := .int) (v := .int (nI ((e0 + k) + 1))) rfl rfl rfl (Nat.le_of_ble_eq_true rfl) (wn := [(r 0, .inr (1, [.ref (x 1), .ref (tr 0), .int (nI 3), .int (nI (e0 + k)), .int (nI ((e0 + k) + 1)), .int (nI v0)])), (x 1, .inr (3, [.ref (x 2), .int (nI ln)])), (x 2, .inl (G.2.1, 120, .inl (nF tb)))]) rfl dX1_advance_254 (fun H locs hP hD hS => ?_)
              have hty : tyN tb ln (e0 + k) = 3 := by unfold tyN; rw [if_neg (by omega), if_neg hLt, if_neg hDg, if_pos (by omega)]
              have hen : enN tb ln (e0 + k) = (e0 + k) + 1 := by unfold enN; rw [if_neg (by omega), if_neg hLt, if_neg hDg]
              exact fin_v hx hb hr hlk hS hP hD v0 ⟨by omega, fun h => by rw [hs, hty] at h; exact absurd h (by decide)⟩ (by rw [hs, hty, hen]; exact eqW.rf _) dX1_advance_257
          · have hDg := c_5
            refine lv_aload_n hx hb dX1_advance_146 rfl (lv_at hl 1 rfl) ?_
            refine lv_iconst (v := nI 2) hx hb dX1_advance_147 rfl ?_
            refine n_put (C := RX1) (T := TX1) (N := 6) hx hb hts (fun _ h => List.mem_cons_of_mem _ (List.mem_append_left _ (List.mem_append_right _ h))) tyX1 tyX1_ok nmX1 hown hK hP hD hS 0 rfl rfl 2 (by decide) (List.mem_of_getElem? (i := 5) rfl) rfl rfl (ty := .int) (v := .int (nI 2)) rfl rfl rfl (Nat.le_of_ble_eq_true rfl) (wn := [(r 0, .inr (1, [.ref (x 1), .ref (tr 0), .int (nI 2), .int (nI (e0 + k)), .int (nI (e0 + k)), .int (nI v0)])), (x 1, .inr (3, [.ref (x 2), .int (nI ln)])), (x 2, .inl (G.2.1, 120, .inl (nF tb)))]) rfl dX1_advance_148 (fun H locs hP hD hS => ?_)
            refine lv_aload_n hx hb dX1_advance_151 rfl (lv_at hl 1 rfl) ?_
            refine lv_iconst (v := nI 0) hx hb dX1_advance_152 rfl ?_
            refine n_put (C := RX1) (T := TX1) (N := 6) hx hb hts (fun _ h => List.mem_cons_of_mem _ (List.mem_append_left _ (List.mem_append_right _ h))) tyX1 tyX1_ok nmX1 hown hK hP hD hS 0 rfl rfl 5 (by decide) (List.mem_of_getElem? (i := 6) rfl) rfl rfl (ty := .int) (v := .int (nI 0)) rfl rfl rfl (Nat.le_of_ble_eq_true rfl) (wn := [(r 0, .inr (1, [.ref (x 1), .ref (tr 0), .int (nI 2), .int (nI (e0 + k)), .int (nI (e0 + k)), .int (nI 0)])), (x 1, .inr (3, [.ref (x 2), .int (nI ln)])), (x 2, .inl (G.2.1, 120, .inl (nF tb)))]) rfl dX1_advance_153 (fun H locs hP hD hS => ?_)
            refine W_loop1 (I := fun (j : Nat) => e0 + k + j ≤ ln ∧ NoQ (runQ (qD tb) (e0 + k)) j) (wd := fun (j : Nat) => [(r 0, .inr (1, [.ref (x 1), .ref (tr 0), .int (nI 2), .int (nI (e0 + k)), .int (nI (e0 + k + j)), .int (nI (nuN tb (e0 + k) j))])), (x 1, .inr (3, [.ref (x 2), .int (nI ln)])), (x 2, .inl (G.2.1, 120, .inl (nF tb)))]) (lv := fun (j : Nat) => [(0, .ref (r 0))]) (μ := fun (j : Nat) => ln - (e0 + k + j)) ?_ 0 ⟨by omega, NoQ_0⟩ hP hD hS (lv_sub hl [1] rfl)
            intro j H locs ls hI0 hP hD hS hl ih1
            obtain ⟨hj, hnj⟩ := hI0
            have hnu := @nu_le tb (e0 + k) j
            refine lv_aload_n hx hb dX1_advance_156 rfl (lv_at hl 0 rfl) ?_
            refine n_get (C := RX1) (T := TX1) (N := 6) hx hb hts (fun _ h => List.mem_cons_of_mem _ (List.mem_append_left _ (List.mem_append_right _ h))) hown hK hP 0 rfl rfl 4 (by decide) (List.mem_of_getElem? (i := 1) rfl) rfl (.int (nI (e0 + k + j))) rfl dX1_advance_157 ?_
            refine lv_aload_n hx hb dX1_advance_160 rfl (lv_at hl 0 rfl) ?_
            refine n_get (C := RX1) (T := TX1) (N := 6) hx hb hts (fun _ h => List.mem_cons_of_mem _ (List.mem_append_left _ (List.mem_append_right _ h))) hown hK hP 0 rfl rfl 0 (by decide) (List.mem_of_getElem? (i := 3) rfl) rfl (.ref (x 1)) rfl dX1_advance_161 ?_
            refine n_get (C := RX4) (T := TX4) (N := 2) hx hb hts (fun _ h => List.mem_cons_of_mem _ (List.mem_append_right _ h)) hown hK hP 1 rfl rfl 1 (by decide) (List.mem_of_getElem? (i := 4) rfl) rfl (.int (nI ln)) rfl dX1_advance_164 ?_
            refine n_icmp_ge hx hb (by omega) (by omega) (tgt := 257) dX1_advance_167 (by decide) (fun c_7 => ?_) (fun c_7 => ?_)
            · have hru : runN (qD tb) (e0 + k) ln = e0 + k + j := run_end hnj (by omega)
              have hty : tyN tb ln (e0 + k) = 2 := by unfold tyN; rw [if_neg (by omega), if_neg hLt, if_pos hDg]
              have hen : enN tb ln (e0 + k) = e0 + k + j := by unfold enN; rw [if_neg (by omega), if_neg hLt, if_pos hDg, hru]
              exact fin_v hx hb hr hlk hS hP hD (nuN tb (e0 + k) j) ⟨by omega, fun _ => by rw [hs]; unfold nmN; rw [hen, show e0 + k + j - (e0 + k) = j by omega]⟩ (by rw [hs, hty, hen]; exact eqW.rf _) dX1_advance_257
            · refine lv_aload_n hx hb dX1_advance_170 rfl (lv_at hl 0 rfl) ?_
              refine n_get (C := RX1) (T := TX1) (N := 6) hx hb hts (fun _ h => List.mem_cons_of_mem _ (List.mem_append_left _ (List.mem_append_right _ h))) hown hK hP 0 rfl rfl 0 (by decide) (List.mem_of_getElem? (i := 3) rfl) rfl (.ref (x 1)) rfl dX1_advance_171 ?_
              refine lv_aload_n hx hb dX1_advance_174 rfl (lv_at hl 0 rfl) ?_
              refine n_get (C := RX1) (T := TX1) (N := 6) hx hb hts (fun _ h => List.mem_cons_of_mem _ (List.mem_append_left _ (List.mem_append_right _ h))) hown hK hP 0 rfl rfl 4 (by decide) (List.mem_of_getElem? (i := 1) rfl) rfl (.int (nI (e0 + k + j))) rfl dX1_advance_175 ?_
              refine callVI (rest := []) (wn := fun u => [(r 0, .inr (1, [.ref (x 1), .ref (tr 0), .int (nI 2), .int (nI (e0 + k)), .int (nI (e0 + k + j)), .int (nI (nuN tb (e0 + k) j))])), (x 1, .inr (3, [.ref (x 2), .int (nI ln)])), (x 2, .inl (G.2.1, 120, .inl (nF tb)))]) ⟨hx, hb, hml, hown, hts⟩ (c_X4_byteAt l G H.size x tb ln (e0 + k + j) (by omega) (by omega)) (cwV 1 hts gX1_advance_X4_byteAt rfl rfl rfl (by decide +kernel) ⟨Nat.le_of_ble_eq_true rfl, Nat.le_of_ble_eq_true rfl⟩) noXB (fun _ _ _ => trivial) hK hP hD hS hAq 3 0 (T := TX4) (N := 2) rfl rfl rfl hl.1 rfl (Nat.le_of_ble_eq_true rfl) dX1_advance_178 ⟨Nat.le_of_ble_eq_true rfl, Nat.le_of_ble_eq_true rfl⟩ [1, 2] rfl rfl [x 1, x 2] rfl (fun _ => rfl) (fun _ => rfl) (fun u H locs hok hP hD hS => ?_)
              refine n_top (y := nI (tb (e0 + k + j))) (if_pos (by omega)) ?_
              have hB_8 := htb (e0 + k + j)
              refine callSI (rest := []) (wn := fun u => [(r 0, .inr (1, [.ref (x 1), .ref (tr 0), .int (nI 2), .int (nI (e0 + k)), .int (nI (e0 + k + j)), .int (nI (nuN tb (e0 + k) j))])), (x 1, .inr (3, [.ref (x 2), .int (nI ln)])), (x 2, .inl (G.2.1, 120, .inl (nF tb)))]) ⟨hx, hb, hml, hown, hts⟩ (c_X1_isDigit l G H.size (tb (e0 + k + j)) (by omega)) (va_cwS 1 hts gX1_advance_X1_isDigit rfl rfl rfl (by decide +kernel) ⟨Nat.le_of_ble_eq_true rfl, Nat.le_of_ble_eq_true rfl⟩) noXB (fun _ _ _ => trivial) hK hP hD hS hAq rfl hl.1 rfl (Nat.le_of_ble_eq_true rfl) dX1_advance_181 ⟨Nat.le_of_ble_eq_true rfl, Nat.le_of_ble_eq_true rfl⟩ [] rfl rfl [] rfl (fun _ => rfl) (fun _ => rfl) (fun u H locs hok hP hD hS => ?_)
              refine z_if_eq hx hb (tgt := 257) dX1_advance_184 (by decide) (fun c_9 => ?_) (fun c_9 => ?_)
              · have hru : runN (qD tb) (e0 + k) ln = e0 + k + j := run_at hnj (by omega) (decide_eq_false c_9)
                have hty : tyN tb ln (e0 + k) = 2 := by unfold tyN; rw [if_neg (by omega), if_neg hLt, if_pos hDg]
                have hen : enN tb ln (e0 + k) = e0 + k + j := by unfold enN; rw [if_neg (by omega), if_neg hLt, if_pos hDg, hru]
                exact fin_v hx hb hr hlk hS hP hD (nuN tb (e0 + k) j) ⟨by omega, fun _ => by rw [hs]; unfold nmN; rw [hen, show e0 + k + j - (e0 + k) = j by omega]⟩ (by rw [hs, hty, hen]; exact eqW.rf _) dX1_advance_257
              · have hcj := c_9
                have hcd : 48 ≤ tb (e0 + k + j) ∧ tb (e0 + k + j) ≤ 57 := c_9
                refine lv_aload_n hx hb dX1_advance_187 rfl (lv_at hl 0 rfl) ?_
                refine lv_sipush (v := nI 1000) hx hb dX1_advance_188 rfl ?_
                refine lv_bipush (v := nI 10) hx hb dX1_advance_191 rfl ?_
                refine lv_aload_n hx hb dX1_advance_193 rfl (lv_at hl 0 rfl) ?_
                refine n_get (C := RX1) (T := TX1) (N := 6) hx hb hts (fun _ h => List.mem_cons_of_mem _ (List.mem_append_left _ (List.mem_append_right _ h))) hown hK hP 0 rfl rfl 5 (by decide) (List.mem_of_getElem? (i := 6) rfl) rfl (.int (nI (nuN tb (e0 + k) j))) rfl dX1_advance_194 ?_
                refine n_imul hx hb dX1_advance_197 ?_
                refine lv_aload_n hx hb dX1_advance_198 rfl (lv_at hl 0 rfl) ?_
                refine n_get (C := RX1) (T := TX1) (N := 6) hx hb hts (fun _ h => List.mem_cons_of_mem _ (List.mem_append_left _ (List.mem_append_right _ h))) hown hK hP 0 rfl rfl 0 (by decide) (List.mem_of_getElem? (i := 3) rfl) rfl (.ref (x 1)) rfl dX1_advance_199 ?_
                refine lv_aload_n hx hb dX1_advance_202 rfl (lv_at hl 0 rfl) ?_
                refine n_get (C := RX1) (T := TX1) (N := 6) hx hb hts (fun _ h => List.mem_cons_of_mem _ (List.mem_append_left _ (List.mem_append_right _ h))) hown hK hP 0 rfl rfl 4 (by decide) (List.mem_of_getElem? (i := 1) rfl) rfl (.int (nI (e0 + k + j))) rfl dX1_advance_203 ?_
                refine callVI (rest := [.int (nI (10 * (nuN tb (e0 + k) j))), .int (nI 1000), .ref (r 0)]) (wn := fun u => [(r 0, .inr (1, [.ref (x 1), .ref (tr 0), .int (nI 2), .int (nI (e0 + k)), .int (nI (e0 + k + j)), .int (nI (nuN tb (e0 + k) j))])), (x 1, .inr (3, [.ref (x 2), .int (nI ln)])), (x 2, .inl (G.2.1, 120, .inl (nF tb)))]) ⟨hx, hb, hml, hown, hts⟩ (c_X4_byteAt l G H.size x tb ln (e0 + k + j) (by omega) (by omega)) (cwV 1 hts gX1_advance_X4_byteAt rfl rfl rfl (by decide +kernel) ⟨Nat.le_of_ble_eq_true rfl, Nat.le_of_ble_eq_true rfl⟩) noXB (fun _ _ _ => trivial) hK hP hD hS hAq 3 0 (T := TX4) (N := 2) rfl rfl rfl hl.1 rfl (Nat.le_of_ble_eq_true rfl) dX1_advance_206 ⟨Nat.le_of_ble_eq_true rfl, Nat.le_of_ble_eq_true rfl⟩ [1, 2] rfl rfl [x 1, x 2] rfl (fun _ => rfl) (fun _ => rfl) (fun u H locs hok hP hD hS => ?_)
                refine n_top (y := nI (tb (e0 + k + j))) (if_pos (by omega)) ?_
                have hB_10 := htb (e0 + k + j)
                refine n_iadd hx hb dX1_advance_209 ?_
                refine lv_bipush (v := nI 48) hx hb dX1_advance_210 rfl ?_
                refine n_isub hx hb (by omega) dX1_advance_212 ?_
                refine n_min hx hb (hml.trans hl.1.symm) hown hts (List.mem_of_getElem? (i := 7) rfl) (List.mem_of_getElem? (i := 8) rfl) (List.mem_of_getElem? (i := 9) rfl) (List.mem_of_getElem? (i := 10) rfl) (Nat.le_of_ble_eq_true rfl) (Nat.le_of_ble_eq_true rfl) (Nat.le_of_ble_eq_true rfl) (Nat.le_of_ble_eq_true rfl) (by omega) (by omega) dX1_advance_213 ?_
                refine n_put (C := RX1) (T := TX1) (N := 6) hx hb hts (fun _ h => List.mem_cons_of_mem _ (List.mem_append_left _ (List.mem_append_right _ h))) tyX1 tyX1_ok nmX1 hown hK hP hD hS 0 rfl rfl 5 (by decide) (List.mem_of_getElem? (i := 6) rfl) rfl rfl (ty := .int) (v := .int (nI (min 1000 (((10 * (nuN tb (e0 + k) j)) + (tb (e0 + k + j))) - 48)))) rfl rfl rfl (Nat.le_of_ble_eq_true rfl) (wn := [(r 0, .inr (1, [.ref (x 1), .ref (tr 0), .int (nI 2), .int (nI (e0 + k)), .int (nI (e0 + k + j)), .int (nI (min 1000 (((10 * (nuN tb (e0 + k) j)) + (tb (e0 + k + j))) - 48)))])), (x 1, .inr (3, [.ref (x 2), .int (nI ln)])), (x 2, .inl (G.2.1, 120, .inl (nF tb)))]) rfl dX1_advance_216 (fun H locs hP hD hS => ?_)
                refine lv_aload_n hx hb dX1_advance_219 rfl (lv_at hl 0 rfl) ?_
                refine lv_dup hx hb dX1_advance_220 rfl ?_
                refine n_get (C := RX1) (T := TX1) (N := 6) hx hb hts (fun _ h => List.mem_cons_of_mem _ (List.mem_append_left _ (List.mem_append_right _ h))) hown hK hP 0 rfl rfl 4 (by decide) (List.mem_of_getElem? (i := 1) rfl) rfl (.int (nI (e0 + k + j))) rfl dX1_advance_221 ?_
                refine lv_iconst (v := nI 1) hx hb dX1_advance_224 rfl ?_
                refine n_iadd hx hb dX1_advance_225 ?_
                refine n_put (C := RX1) (T := TX1) (N := 6) hx hb hts (fun _ h => List.mem_cons_of_mem _ (List.mem_append_left _ (List.mem_append_right _ h))) tyX1 tyX1_ok nmX1 hown hK hP hD hS 0 rfl rfl 4 (by decide) (List.mem_of_getElem? (i := 1) rfl) rfl rfl (ty := .int) (v := .int (nI ((e0 + k + j) + 1))) rfl rfl rfl (Nat.le_of_ble_eq_true rfl) (wn := [(r 0, .inr (1, [.ref (x 1), .ref (tr 0), .int (nI 2), .int (nI (e0 + k)), .int (nI ((e0 + k + j) + 1)), .int (nI (min 1000 (((10 * (nuN tb (e0 + k) j)) + (tb (e0 + k + j))) - 48)))])), (x 1, .inr (3, [.ref (x 2), .int (nI ln)])), (x 2, .inl (G.2.1, 120, .inl (nF tb)))]) rfl dX1_advance_226 (fun H locs hP hD hS => ?_)
                refine lv_goto (tgt := 156) hx hb dX1_advance_229 (by decide) ?_
                have e1 : nuN tb (e0 + k) (j + 1) = min 1000 (((10 * (nuN tb (e0 + k) j)) + (tb (e0 + k + j))) - 48) := by rw [nu_S]; unfold nuS; omega
                exact ih1 (j + 1) _ _ _ (by omega) ⟨by omega, run_S hnj (decide_eq_true hcj)⟩ (by rw [e1]; exact hP) (by rw [e1]; exact hD) hS (lv_sub hl [0] rfl)
        · have hLt := c_4
          refine lv_aload_n hx hb dX1_advance_90 rfl (lv_at hl 1 rfl) ?_
          refine lv_iconst (v := nI 1) hx hb dX1_advance_91 rfl ?_
          refine n_put (C := RX1) (T := TX1) (N := 6) hx hb hts (fun _ h => List.mem_cons_of_mem _ (List.mem_append_left _ (List.mem_append_right _ h))) tyX1 tyX1_ok nmX1 hown hK hP hD hS 0 rfl rfl 2 (by decide) (List.mem_of_getElem? (i := 5) rfl) rfl rfl (ty := .int) (v := .int (nI 1)) rfl rfl rfl (Nat.le_of_ble_eq_true rfl) (wn := [(r 0, .inr (1, [.ref (x 1), .ref (tr 0), .int (nI 1), .int (nI (e0 + k)), .int (nI (e0 + k)), .int (nI v0)])), (x 1, .inr (3, [.ref (x 2), .int (nI ln)])), (x 2, .inl (G.2.1, 120, .inl (nF tb)))]) rfl dX1_advance_92 (fun H locs hP hD hS => ?_)
          refine W_loop1 (I := fun (j : Nat) => e0 + k + j ≤ ln ∧ NoQ (runQ (qL tb) (e0 + k)) j) (wd := fun (j : Nat) => [(r 0, .inr (1, [.ref (x 1), .ref (tr 0), .int (nI 1), .int (nI (e0 + k)), .int (nI (e0 + k + j)), .int (nI v0)])), (x 1, .inr (3, [.ref (x 2), .int (nI ln)])), (x 2, .inl (G.2.1, 120, .inl (nF tb)))]) (lv := fun (j : Nat) => [(0, .ref (r 0))]) (μ := fun (j : Nat) => ln - (e0 + k + j)) ?_ 0 ⟨by omega, NoQ_0⟩ hP hD hS (lv_sub hl [1] rfl)
          intro j H locs ls hI0 hP hD hS hl ih1
          obtain ⟨hj, hnj⟩ := hI0
          refine lv_aload_n hx hb dX1_advance_95 rfl (lv_at hl 0 rfl) ?_
          refine n_get (C := RX1) (T := TX1) (N := 6) hx hb hts (fun _ h => List.mem_cons_of_mem _ (List.mem_append_left _ (List.mem_append_right _ h))) hown hK hP 0 rfl rfl 4 (by decide) (List.mem_of_getElem? (i := 1) rfl) rfl (.int (nI (e0 + k + j))) rfl dX1_advance_96 ?_
          refine lv_aload_n hx hb dX1_advance_99 rfl (lv_at hl 0 rfl) ?_
          refine n_get (C := RX1) (T := TX1) (N := 6) hx hb hts (fun _ h => List.mem_cons_of_mem _ (List.mem_append_left _ (List.mem_append_right _ h))) hown hK hP 0 rfl rfl 0 (by decide) (List.mem_of_getElem? (i := 3) rfl) rfl (.ref (x 1)) rfl dX1_advance_100 ?_
          refine n_get (C := RX4) (T := TX4) (N := 2) hx hb hts (fun _ h => List.mem_cons_of_mem _ (List.mem_append_right _ h)) hown hK hP 1 rfl rfl 1 (by decide) (List.mem_of_getElem? (i := 4) rfl) rfl (.int (nI ln)) rfl dX1_advance_103 ?_
          refine n_icmp_ge hx hb (by omega) (by omega) (tgt := 257) dX1_advance_106 (by decide) (fun c_11 => ?_) (fun c_11 => ?_)
          · have hru : runN (qL tb) (e0 + k) ln = e0 + k + j := run_end hnj (by omega)
            have hty : tyN tb ln (e0 + k) = 1 := by unfold tyN; rw [if_neg (by omega), if_pos hLt]
            have hen : enN tb ln (e0 + k) = e0 + k + j := by unfold enN; rw [if_neg (by omega), if_pos hLt, hru]
            exact fin_v hx hb hr hlk hS hP hD v0 ⟨by omega, fun h => by rw [hs, hty] at h; exact absurd h (by decide)⟩ (by rw [hs, hty, hen]; exact eqW.rf _) dX1_advance_257
          · refine lv_aload_n hx hb dX1_advance_109 rfl (lv_at hl 0 rfl) ?_
            refine n_get (C := RX1) (T := TX1) (N := 6) hx hb hts (fun _ h => List.mem_cons_of_mem _ (List.mem_append_left _ (List.mem_append_right _ h))) hown hK hP 0 rfl rfl 0 (by decide) (List.mem_of_getElem? (i := 3) rfl) rfl (.ref (x 1)) rfl dX1_advance_110 ?_
            refine lv_aload_n hx hb dX1_advance_113 rfl (lv_at hl 0 rfl) ?_
            refine n_get (C := RX1) (T := TX1) (N := 6) hx hb hts (fun _ h => List.mem_cons_of_mem _ (List.mem_append_left _ (List.mem_append_right _ h))) hown hK hP 0 rfl rfl 4 (by decide) (List.mem_of_getElem? (i := 1) rfl) rfl (.int (nI (e0 + k + j))) rfl dX1_advance_114 ?_
            refine callVI (rest := []) (wn := fun u => [(r 0, .inr (1, [.ref (x 1), .ref (tr 0), .int (nI 1), .int (nI (e0 + k)), .int (nI (e0 + k + j)), .int (nI v0)])), (x 1, .inr (3, [.ref (x 2), .int (nI ln)])), (x 2, .inl (G.2.1, 120, .inl (nF tb)))]) ⟨hx, hb, hml, hown, hts⟩ (c_X4_byteAt l G H.size x tb ln (e0 + k + j) (by omega) (by omega)) (cwV 1 hts gX1_advance_X4_byteAt rfl rfl rfl (by decide +kernel) ⟨Nat.le_of_ble_eq_true rfl, Nat.le_of_ble_eq_true rfl⟩) noXB (fun _ _ _ => trivial) hK hP hD hS hAq 3 0 (T := TX4) (N := 2) rfl rfl rfl hl.1 rfl (Nat.le_of_ble_eq_true rfl) dX1_advance_117 ⟨Nat.le_of_ble_eq_true rfl, Nat.le_of_ble_eq_true rfl⟩ [1, 2] rfl rfl [x 1, x 2] rfl (fun _ => rfl) (fun _ => rfl) (fun u H locs hok hP hD hS => ?_)
            refine n_top (y := nI (tb (e0 + k + j))) (if_pos (by omega)) ?_
            have hB_12 := htb (e0 + k + j)
            refine callSI (rest := []) (wn := fun u => [(r 0, .inr (1, [.ref (x 1), .ref (tr 0), .int (nI 1), .int (nI (e0 + k)), .int (nI (e0 + k + j)), .int (nI v0)])), (x 1, .inr (3, [.ref (x 2), .int (nI ln)])), (x 2, .inl (G.2.1, 120, .inl (nF tb)))]) ⟨hx, hb, hml, hown, hts⟩ (c_X1_isLetter l G H.size (tb (e0 + k + j)) (by omega)) (va_cwS 1 hts gX1_advance_X1_isLetter rfl rfl rfl (by decide +kernel) ⟨Nat.le_of_ble_eq_true rfl, Nat.le_of_ble_eq_true rfl⟩) noXB (fun _ _ _ => trivial) hK hP hD hS hAq rfl hl.1 rfl (Nat.le_of_ble_eq_true rfl) dX1_advance_120 ⟨Nat.le_of_ble_eq_true rfl, Nat.le_of_ble_eq_true rfl⟩ [] rfl rfl [] rfl (fun _ => rfl) (fun _ => rfl) (fun u H locs hok hP hD hS => ?_)
            refine z_if_eq hx hb (tgt := 257) dX1_advance_123 (by decide) (fun c_13 => ?_) (fun c_13 => ?_)
            · have hru : runN (qL tb) (e0 + k) ln = e0 + k + j := run_at hnj (by omega) (decide_eq_false c_13)
              have hty : tyN tb ln (e0 + k) = 1 := by unfold tyN; rw [if_neg (by omega), if_pos hLt]
              have hen : enN tb ln (e0 + k) = e0 + k + j := by unfold enN; rw [if_neg (by omega), if_pos hLt, hru]
              exact fin_v hx hb hr hlk hS hP hD v0 ⟨by omega, fun h => by rw [hs, hty] at h; exact absurd h (by decide)⟩ (by rw [hs, hty, hen]; exact eqW.rf _) dX1_advance_257
            · have hcj := c_13
              refine lv_aload_n hx hb dX1_advance_126 rfl (lv_at hl 0 rfl) ?_
              refine lv_dup hx hb dX1_advance_127 rfl ?_
              refine n_get (C := RX1) (T := TX1) (N := 6) hx hb hts (fun _ h => List.mem_cons_of_mem _ (List.mem_append_left _ (List.mem_append_right _ h))) hown hK hP 0 rfl rfl 4 (by decide) (List.mem_of_getElem? (i := 1) rfl) rfl (.int (nI (e0 + k + j))) rfl dX1_advance_128 ?_
              refine lv_iconst (v := nI 1) hx hb dX1_advance_131 rfl ?_
              refine n_iadd hx hb dX1_advance_132 ?_
              refine n_put (C := RX1) (T := TX1) (N := 6) hx hb hts (fun _ h => List.mem_cons_of_mem _ (List.mem_append_left _ (List.mem_append_right _ h))) tyX1 tyX1_ok nmX1 hown hK hP hD hS 0 rfl rfl 4 (by decide) (List.mem_of_getElem? (i := 1) rfl) rfl rfl (ty := .int) (v := .int (nI ((e0 + k + j) + 1))) rfl rfl rfl (Nat.le_of_ble_eq_true rfl) (wn := [(r 0, .inr (1, [.ref (x 1), .ref (tr 0), .int (nI 1), .int (nI (e0 + k)), .int (nI ((e0 + k + j) + 1)), .int (nI v0)])), (x 1, .inr (3, [.ref (x 2), .int (nI ln)])), (x 2, .inl (G.2.1, 120, .inl (nF tb)))]) rfl dX1_advance_133 (fun H locs hP hD hS => ?_)
              refine lv_goto (tgt := 95) hx hb dX1_advance_136 (by decide) ?_
              exact ih1 (j + 1) _ _ _ (by omega) ⟨by omega, run_S hnj (decide_eq_true hcj)⟩ hP hD hS (lv_sub hl [0] rfl)
      · omega
    · refine n_top (y := (-1)) (if_neg hq) ?_
      have hm1 : ((-1) : Int32).toInt = -1 := by decide
      refine lv_istore_n (lv' := [(1, .int (-1)), (0, .ref (r 0))]) hx hb dX1_advance_70 rfl hl (by decide) rfl (fun ls hl => ?_)
      refine lv_iload_n hx hb dX1_advance_71 rfl (lv_at hl 0 rfl) ?_
      refine r_if_ge hx hb (tgt := 83) dX1_advance_72 (by decide) (fun c_14 => ?_) (fun c_14 => ?_)
      · omega
      · refine lv_aload_n hx hb dX1_advance_75 rfl (lv_at hl 1 rfl) ?_
        refine lv_iconst (v := nI 0) hx hb dX1_advance_76 rfl ?_
        refine n_put (C := RX1) (T := TX1) (N := 6) hx hb hts (fun _ h => List.mem_cons_of_mem _ (List.mem_append_left _ (List.mem_append_right _ h))) tyX1 tyX1_ok nmX1 hown hK hP hD hS 0 rfl rfl 2 (by decide) (List.mem_of_getElem? (i := 5) rfl) rfl rfl (ty := .int) (v := .int (nI 0)) rfl rfl rfl (Nat.le_of_ble_eq_true rfl) (wn := [(r 0, .inr (1, [.ref (x 1), .ref (tr 0), .int (nI 0), .int (nI (e0 + k)), .int (nI (e0 + k)), .int (nI v0)])), (x 1, .inr (3, [.ref (x 2), .int (nI ln)])), (x 2, .inl (G.2.1, 120, .inl (nF tb)))]) rfl dX1_advance_77 (fun H locs hP hD hS => ?_)
        refine lv_goto (tgt := 257) hx hb dX1_advance_80 (by decide) ?_
        have hty : tyN tb ln (e0 + k) = 0 := by unfold tyN; rw [if_pos (by omega)]
        have hen : enN tb ln (e0 + k) = e0 + k := by unfold enN; rw [if_pos (by omega)]
        exact fin_v hx hb hr hlk hS hP hD v0 ⟨by omega, fun h => by rw [hs, hty] at h; exact absurd h (by decide)⟩ (by rw [hs, hty, hen]; exact eqW.rf _) dX1_advance_257
  · refine lv_aload_n hx hb dX1_advance_22 rfl (lv_at hl 0 rfl) ?_
    refine n_get (C := RX1) (T := TX1) (N := 6) hx hb hts (fun _ h => List.mem_cons_of_mem _ (List.mem_append_left _ (List.mem_append_right _ h))) hown hK hP 0 rfl rfl 0 (by decide) (List.mem_of_getElem? (i := 3) rfl) rfl (.ref (x 1)) rfl dX1_advance_23 ?_
    refine lv_aload_n hx hb dX1_advance_26 rfl (lv_at hl 0 rfl) ?_
    refine n_get (C := RX1) (T := TX1) (N := 6) hx hb hts (fun _ h => List.mem_cons_of_mem _ (List.mem_append_left _ (List.mem_append_right _ h))) hown hK hP 0 rfl rfl 3 (by decide) (List.mem_of_getElem? (i := 2) rfl) rfl (.int (nI (e0 + k))) rfl dX1_advance_27 ?_
    refine callVI (rest := []) (wn := fun u => [(r 0, .inr (1, [.ref (x 1), .ref (tr 0), .int (nI ty0), .int (nI (e0 + k)), .int (nI e0), .int (nI v0)])), (x 1, .inr (3, [.ref (x 2), .int (nI ln)])), (x 2, .inl (G.2.1, 120, .inl (nF tb)))]) ⟨hx, hb, hml, hown, hts⟩ (c_X4_byteAt l G H.size x tb ln (e0 + k) (by omega) (by omega)) (cwV 1 hts gX1_advance_X4_byteAt rfl rfl rfl (by decide +kernel) ⟨Nat.le_of_ble_eq_true rfl, Nat.le_of_ble_eq_true rfl⟩) noXB (fun _ _ _ => trivial) hK hP hD hS hAq 3 0 (T := TX4) (N := 2) rfl rfl rfl hl.1 rfl (Nat.le_of_ble_eq_true rfl) dX1_advance_30 ⟨Nat.le_of_ble_eq_true rfl, Nat.le_of_ble_eq_true rfl⟩ [1, 2] rfl rfl [x 1, x 2] rfl (fun _ => rfl) (fun _ => rfl) (fun u H locs hok hP hD hS => ?_)
    refine n_top (y := nI (tb (e0 + k))) (if_pos (by omega)) ?_
    have hB_15 := htb (e0 + k)
    refine lv_bipush (v := nI 32) hx hb dX1_advance_33 rfl ?_
    refine n_icmp_ne hx hb (by omega) (by omega) (tgt := 51) dX1_advance_35 (by decide) (fun c_16 => ?_) (fun c_16 => ?_)
    · have hs : stN tb ln e0 = e0 + k := run_at (q := qS tb) hno (by omega) (decide_eq_false (by omega))
      refine lv_aload_n hx hb dX1_advance_51 rfl (lv_at hl 0 rfl) ?_
      refine lv_aload_n hx hb dX1_advance_52 rfl (lv_at hl 0 rfl) ?_
      refine n_get (C := RX1) (T := TX1) (N := 6) hx hb hts (fun _ h => List.mem_cons_of_mem _ (List.mem_append_left _ (List.mem_append_right _ h))) hown hK hP 0 rfl rfl 3 (by decide) (List.mem_of_getElem? (i := 2) rfl) rfl (.int (nI (e0 + k))) rfl dX1_advance_53 ?_
      refine n_put (C := RX1) (T := TX1) (N := 6) hx hb hts (fun _ h => List.mem_cons_of_mem _ (List.mem_append_left _ (List.mem_append_right _ h))) tyX1 tyX1_ok nmX1 hown hK hP hD hS 0 rfl rfl 4 (by decide) (List.mem_of_getElem? (i := 1) rfl) rfl rfl (ty := .int) (v := .int (nI (e0 + k))) rfl rfl rfl (Nat.le_of_ble_eq_true rfl) (wn := [(r 0, .inr (1, [.ref (x 1), .ref (tr 0), .int (nI ty0), .int (nI (e0 + k)), .int (nI (e0 + k)), .int (nI v0)])), (x 1, .inr (3, [.ref (x 2), .int (nI ln)])), (x 2, .inl (G.2.1, 120, .inl (nF tb)))]) rfl dX1_advance_56 (fun H locs hP hD hS => ?_)
      refine lv_aload_n hx hb dX1_advance_59 rfl (lv_at hl 0 rfl) ?_
      refine n_get (C := RX1) (T := TX1) (N := 6) hx hb hts (fun _ h => List.mem_cons_of_mem _ (List.mem_append_left _ (List.mem_append_right _ h))) hown hK hP 0 rfl rfl 0 (by decide) (List.mem_of_getElem? (i := 3) rfl) rfl (.ref (x 1)) rfl dX1_advance_60 ?_
      refine lv_aload_n hx hb dX1_advance_63 rfl (lv_at hl 0 rfl) ?_
      refine n_get (C := RX1) (T := TX1) (N := 6) hx hb hts (fun _ h => List.mem_cons_of_mem _ (List.mem_append_left _ (List.mem_append_right _ h))) hown hK hP 0 rfl rfl 3 (by decide) (List.mem_of_getElem? (i := 2) rfl) rfl (.int (nI (e0 + k))) rfl dX1_advance_64 ?_
      refine callVI (rest := []) (wn := fun u => [(r 0, .inr (1, [.ref (x 1), .ref (tr 0), .int (nI ty0), .int (nI (e0 + k)), .int (nI (e0 + k)), .int (nI v0)])), (x 1, .inr (3, [.ref (x 2), .int (nI ln)])), (x 2, .inl (G.2.1, 120, .inl (nF tb)))]) ⟨hx, hb, hml, hown, hts⟩ (c_X4_byteAt l G H.size x tb ln (e0 + k) (by omega) (by omega)) (cwV 1 hts gX1_advance_X4_byteAt rfl rfl rfl (by decide +kernel) ⟨Nat.le_of_ble_eq_true rfl, Nat.le_of_ble_eq_true rfl⟩) noXB (fun _ _ _ => trivial) hK hP hD hS hAq 3 0 (T := TX4) (N := 2) rfl rfl rfl hl.1 rfl (Nat.le_of_ble_eq_true rfl) dX1_advance_67 ⟨Nat.le_of_ble_eq_true rfl, Nat.le_of_ble_eq_true rfl⟩ [1, 2] rfl rfl [x 1, x 2] rfl (fun _ => rfl) (fun _ => rfl) (fun u H locs hok hP hD hS => ?_)
      by_cases hq : e0 + k < ln
      · refine n_top (y := nI (tb (e0 + k))) (if_pos (by omega)) ?_
        have hB_17 := htb (e0 + k)
        refine lv_istore_n (lv' := [(1, .int (nI (tb (e0 + k)))), (0, .ref (r 0))]) hx hb dX1_advance_70 rfl hl (by decide) rfl (fun ls hl => ?_)
        refine lv_iload_n hx hb dX1_advance_71 rfl (lv_at hl 0 rfl) ?_
        refine n_if_ge hx hb (by omega) (tgt := 83) dX1_advance_72 (by decide) (fun c_18 => ?_) (fun c_18 => ?_)
        · refine lv_iload_n hx hb dX1_advance_83 rfl (lv_at hl 0 rfl) ?_
          refine callSI (rest := []) (wn := fun u => [(r 0, .inr (1, [.ref (x 1), .ref (tr 0), .int (nI ty0), .int (nI (e0 + k)), .int (nI (e0 + k)), .int (nI v0)])), (x 1, .inr (3, [.ref (x 2), .int (nI ln)])), (x 2, .inl (G.2.1, 120, .inl (nF tb)))]) ⟨hx, hb, hml, hown, hts⟩ (c_X1_isLetter l G H.size (tb (e0 + k)) (by omega)) (va_cwS 1 hts gX1_advance_X1_isLetter rfl rfl rfl (by decide +kernel) ⟨Nat.le_of_ble_eq_true rfl, Nat.le_of_ble_eq_true rfl⟩) noXB (fun _ _ _ => trivial) hK hP hD hS hAq rfl hl.1 rfl (Nat.le_of_ble_eq_true rfl) dX1_advance_84 ⟨Nat.le_of_ble_eq_true rfl, Nat.le_of_ble_eq_true rfl⟩ [] rfl rfl [] rfl (fun _ => rfl) (fun _ => rfl) (fun u H locs hok hP hD hS => ?_)
          refine z_if_eq hx hb (tgt := 139) dX1_advance_87 (by decide) (fun c_19 => ?_) (fun c_19 => ?_)
          · have hLt := c_19
            refine lv_iload_n hx hb dX1_advance_139 rfl (lv_at hl 0 rfl) ?_
            refine callSI (rest := []) (wn := fun u => [(r 0, .inr (1, [.ref (x 1), .ref (tr 0), .int (nI ty0), .int (nI (e0 + k)), .int (nI (e0 + k)), .int (nI v0)])), (x 1, .inr (3, [.ref (x 2), .int (nI ln)])), (x 2, .inl (G.2.1, 120, .inl (nF tb)))]) ⟨hx, hb, hml, hown, hts⟩ (c_X1_isDigit l G H.size (tb (e0 + k)) (by omega)) (va_cwS 1 hts gX1_advance_X1_isDigit rfl rfl rfl (by decide +kernel) ⟨Nat.le_of_ble_eq_true rfl, Nat.le_of_ble_eq_true rfl⟩) noXB (fun _ _ _ => trivial) hK hP hD hS hAq rfl hl.1 rfl (Nat.le_of_ble_eq_true rfl) dX1_advance_140 ⟨Nat.le_of_ble_eq_true rfl, Nat.le_of_ble_eq_true rfl⟩ [] rfl rfl [] rfl (fun _ => rfl) (fun _ => rfl) (fun u H locs hok hP hD hS => ?_)
            refine z_if_eq hx hb (tgt := 232) dX1_advance_143 (by decide) (fun c_20 => ?_) (fun c_20 => ?_)
            · have hDg := c_20
              refine lv_aload_n hx hb dX1_advance_232 rfl (lv_at hl 1 rfl) ?_
              refine lv_iload_n hx hb dX1_advance_233 rfl (lv_at hl 0 rfl) ?_
              refine lv_bipush (v := nI 59) hx hb dX1_advance_234 rfl ?_
              refine n_icmp_ne hx hb (by omega) (by omega) (tgt := 243) dX1_advance_236 (by decide) (fun c_21 => ?_) (fun c_21 => ?_)
              · refine lv_iconst (v := nI 4) hx hb dX1_advance_243 rfl ?_
                refine n_put (C := RX1) (T := TX1) (N := 6) hx hb hts (fun _ h => List.mem_cons_of_mem _ (List.mem_append_left _ (List.mem_append_right _ h))) tyX1 tyX1_ok nmX1 hown hK hP hD hS 0 rfl rfl 2 (by decide) (List.mem_of_getElem? (i := 5) rfl) rfl rfl (ty := .int) (v := .int (nI 4)) rfl rfl rfl (Nat.le_of_ble_eq_true rfl) (wn := [(r 0, .inr (1, [.ref (x 1), .ref (tr 0), .int (nI 4), .int (nI (e0 + k)), .int (nI (e0 + k)), .int (nI v0)])), (x 1, .inr (3, [.ref (x 2), .int (nI ln)])), (x 2, .inl (G.2.1, 120, .inl (nF tb)))]) rfl dX1_advance_244 (fun H locs hP hD hS => ?_)
                refine lv_aload_n hx hb dX1_advance_247 rfl (lv_at hl 1 rfl) ?_
                refine lv_dup hx hb dX1_advance_248 rfl ?_
                refine n_get (C := RX1) (T := TX1) (N := 6) hx hb hts (fun _ h => List.mem_cons_of_mem _ (List.mem_append_left _ (List.mem_append_right _ h))) hown hK hP 0 rfl rfl 4 (by decide) (List.mem_of_getElem? (i := 1) rfl) rfl (.int (nI (e0 + k))) rfl dX1_advance_249 ?_
                refine lv_iconst (v := nI 1) hx hb dX1_advance_252 rfl ?_
                refine n_iadd hx hb dX1_advance_253 ?_
                refine n_put (C := RX1) (T := TX1) (N := 6) hx hb hts (fun _ h => List.mem_cons_of_mem _ (List.mem_append_left _ (List.mem_append_right _ h))) tyX1 tyX1_ok nmX1 hown hK hP hD hS 0 rfl rfl 4 (by decide) (List.mem_of_getElem? (i := 1) rfl) rfl rfl (ty := .int) (v := .int (nI ((e0 + k) + 1))) rfl rfl rfl (Nat.le_of_ble_eq_true rfl) (wn := [(r 0, .inr (1, [.ref (x 1), .ref (tr 0), .int (nI 4), .int (nI (e0 + k)), .int (nI ((e0 + k) + 1)), .int (nI v0)])), (x 1, .inr (3, [.ref (x 2), .int (nI ln)])), (x 2, .inl (G.2.1, 120, .inl (nF tb)))]) rfl dX1_advance_254 (fun H locs hP hD hS => ?_)
                have hty : tyN tb ln (e0 + k) = 4 := by unfold tyN; rw [if_neg (by omega), if_neg hLt, if_neg hDg, if_neg (by omega)]
                have hen : enN tb ln (e0 + k) = (e0 + k) + 1 := by unfold enN; rw [if_neg (by omega), if_neg hLt, if_neg hDg]
                exact fin_v hx hb hr hlk hS hP hD v0 ⟨by omega, fun h => by rw [hs, hty] at h; exact absurd h (by decide)⟩ (by rw [hs, hty, hen]; exact eqW.rf _) dX1_advance_257
              · refine lv_iconst (v := nI 3) hx hb dX1_advance_239 rfl ?_
                refine lv_goto (tgt := 244) hx hb dX1_advance_240 (by decide) ?_
                refine n_put (C := RX1) (T := TX1) (N := 6) hx hb hts (fun _ h => List.mem_cons_of_mem _ (List.mem_append_left _ (List.mem_append_right _ h))) tyX1 tyX1_ok nmX1 hown hK hP hD hS 0 rfl rfl 2 (by decide) (List.mem_of_getElem? (i := 5) rfl) rfl rfl (ty := .int) (v := .int (nI 3)) rfl rfl rfl (Nat.le_of_ble_eq_true rfl) (wn := [(r 0, .inr (1, [.ref (x 1), .ref (tr 0), .int (nI 3), .int (nI (e0 + k)), .int (nI (e0 + k)), .int (nI v0)])), (x 1, .inr (3, [.ref (x 2), .int (nI ln)])), (x 2, .inl (G.2.1, 120, .inl (nF tb)))]) rfl dX1_advance_244 (fun H locs hP hD hS => ?_)
                refine lv_aload_n hx hb dX1_advance_247 rfl (lv_at hl 1 rfl) ?_
                refine lv_dup hx hb dX1_advance_248 rfl ?_
                refine n_get (C := RX1) (T := TX1) (N := 6) hx hb hts (fun _ h => List.mem_cons_of_mem _ (List.mem_append_left _ (List.mem_append_right _ h))) hown hK hP 0 rfl rfl 4 (by decide) (List.mem_of_getElem? (i := 1) rfl) rfl (.int (nI (e0 + k))) rfl dX1_advance_249 ?_
                refine lv_iconst (v := nI 1) hx hb dX1_advance_252 rfl ?_
                refine n_iadd hx hb dX1_advance_253 ?_
                refine n_put (C := RX1) (T := TX1) (N := 6) hx hb hts (fun _ h => List.mem_cons_of_mem _ (List.mem_append_left _ (List.mem_append_right _ h))) tyX1 tyX1_ok nmX1 hown hK hP hD hS 0 rfl rfl 4 (by decide) (List.mem_of_getElem? (i := 1) rfl) rfl rfl (ty := .int) (v := .int (nI ((e0 + k) + 1))) rfl rfl rfl (Nat.le_of_ble_eq_true rfl) (wn := [(r 0, .inr (1, [.ref (x 1), .ref (tr 0), .int (nI 3), .int (nI (e0 + k)), .int (nI ((e0 + k) + 1)), .int (nI v0)])), (x 1, .inr (3, [.ref (x 2), .int (nI ln)])), (x 2, .inl (G.2.1, 120, .inl (nF tb)))]) rfl dX1_advance_254 (fun H locs hP hD hS => ?_)
                have hty : tyN tb ln (e0 + k) = 3 := by unfold tyN; rw [if_neg (by omega), if_neg hLt, if_neg hDg, if_pos (by omega)]
                have hen : enN tb ln (e0 + k) = (e0 + k) + 1 := by unfold enN; rw [if_neg (by omega), if_neg hLt, if_neg hDg]
                exact fin_v hx hb hr hlk hS hP hD v0 ⟨by omega, fun h => by rw [hs, hty] at h; exact absurd h (by decide)⟩ (by rw [hs, hty, hen]; exact eqW.rf _) dX1_advance_257
            · have hDg := c_20
              refine lv_aload_n hx hb dX1_advance_146 rfl (lv_at hl 1 rfl) ?_
              refine lv_iconst (v := nI 2) hx hb dX1_advance_147 rfl ?_
              refine n_put (C := RX1) (T := TX1) (N := 6) hx hb hts (fun _ h => List.mem_cons_of_mem _ (List.mem_append_left _ (List.mem_append_right _ h))) tyX1 tyX1_ok nmX1 hown hK hP hD hS 0 rfl rfl 2 (by decide) (List.mem_of_getElem? (i := 5) rfl) rfl rfl (ty := .int) (v := .int (nI 2)) rfl rfl rfl (Nat.le_of_ble_eq_true rfl) (wn := [(r 0, .inr (1, [.ref (x 1), .ref (tr 0), .int (nI 2), .int (nI (e0 + k)), .int (nI (e0 + k)), .int (nI v0)])), (x 1, .inr (3, [.ref (x 2), .int (nI ln)])), (x 2, .inl (G.2.1, 120, .inl (nF tb)))]) rfl dX1_advance_148 (fun H locs hP hD hS => ?_)
              refine lv_aload_n hx hb dX1_advance_151 rfl (lv_at hl 1 rfl) ?_
              refine lv_iconst (v := nI 0) hx hb dX1_advance_152 rfl ?_
              refine n_put (C := RX1) (T := TX1) (N := 6) hx hb hts (fun _ h => List.mem_cons_of_mem _ (List.mem_append_left _ (List.mem_append_right _ h))) tyX1 tyX1_ok nmX1 hown hK hP hD hS 0 rfl rfl 5 (by decide) (List.mem_of_getElem? (i := 6) rfl) rfl rfl (ty := .int) (v := .int (nI 0)) rfl rfl rfl (Nat.le_of_ble_eq_true rfl) (wn := [(r 0, .inr (1, [.ref (x 1), .ref (tr 0), .int (nI 2), .int (nI (e0 + k)), .int (nI (e0 + k)), .int (nI 0)])), (x 1, .inr (3, [.ref (x 2), .int (nI ln)])), (x 2, .inl (G.2.1, 120, .inl (nF tb)))]) rfl dX1_advance_153 (fun H locs hP hD hS => ?_)
              refine W_loop1 (I := fun (j : Nat) => e0 + k + j ≤ ln ∧ NoQ (runQ (qD tb) (e0 + k)) j) (wd := fun (j : Nat) => [(r 0, .inr (1, [.ref (x 1), .ref (tr 0), .int (nI 2), .int (nI (e0 + k)), .int (nI (e0 + k + j)), .int (nI (nuN tb (e0 + k) j))])), (x 1, .inr (3, [.ref (x 2), .int (nI ln)])), (x 2, .inl (G.2.1, 120, .inl (nF tb)))]) (lv := fun (j : Nat) => [(0, .ref (r 0))]) (μ := fun (j : Nat) => ln - (e0 + k + j)) ?_ 0 ⟨by omega, NoQ_0⟩ hP hD hS (lv_sub hl [1] rfl)
              intro j H locs ls hI0 hP hD hS hl ih1
              obtain ⟨hj, hnj⟩ := hI0
              have hnu := @nu_le tb (e0 + k) j
              refine lv_aload_n hx hb dX1_advance_156 rfl (lv_at hl 0 rfl) ?_
              refine n_get (C := RX1) (T := TX1) (N := 6) hx hb hts (fun _ h => List.mem_cons_of_mem _ (List.mem_append_left _ (List.mem_append_right _ h))) hown hK hP 0 rfl rfl 4 (by decide) (List.mem_of_getElem? (i := 1) rfl) rfl (.int (nI (e0 + k + j))) rfl dX1_advance_157 ?_
              refine lv_aload_n hx hb dX1_advance_160 rfl (lv_at hl 0 rfl) ?_
              refine n_get (C := RX1) (T := TX1) (N := 6) hx hb hts (fun _ h => List.mem_cons_of_mem _ (List.mem_append_left _ (List.mem_append_right _ h))) hown hK hP 0 rfl rfl 0 (by decide) (List.mem_of_getElem? (i := 3) rfl) rfl (.ref (x 1)) rfl dX1_advance_161 ?_
              refine n_get (C := RX4) (T := TX4) (N := 2) hx hb hts (fun _ h => List.mem_cons_of_mem _ (List.mem_append_right _ h)) hown hK hP 1 rfl rfl 1 (by decide) (List.mem_of_getElem? (i := 4) rfl) rfl (.int (nI ln)) rfl dX1_advance_164 ?_
              refine n_icmp_ge hx hb (by omega) (by omega) (tgt := 257) dX1_advance_167 (by decide) (fun c_22 => ?_) (fun c_22 => ?_)
              · have hru : runN (qD tb) (e0 + k) ln = e0 + k + j := run_end hnj (by omega)
                have hty : tyN tb ln (e0 + k) = 2 := by unfold tyN; rw [if_neg (by omega), if_neg hLt, if_pos hDg]
                have hen : enN tb ln (e0 + k) = e0 + k + j := by unfold enN; rw [if_neg (by omega), if_neg hLt, if_pos hDg, hru]
                exact fin_v hx hb hr hlk hS hP hD (nuN tb (e0 + k) j) ⟨by omega, fun _ => by rw [hs]; unfold nmN; rw [hen, show e0 + k + j - (e0 + k) = j by omega]⟩ (by rw [hs, hty, hen]; exact eqW.rf _) dX1_advance_257
              · refine lv_aload_n hx hb dX1_advance_170 rfl (lv_at hl 0 rfl) ?_
                refine n_get (C := RX1) (T := TX1) (N := 6) hx hb hts (fun _ h => List.mem_cons_of_mem _ (List.mem_append_left _ (List.mem_append_right _ h))) hown hK hP 0 rfl rfl 0 (by decide) (List.mem_of_getElem? (i := 3) rfl) rfl (.ref (x 1)) rfl dX1_advance_171 ?_
                refine lv_aload_n hx hb dX1_advance_174 rfl (lv_at hl 0 rfl) ?_
                refine n_get (C := RX1) (T := TX1) (N := 6) hx hb hts (fun _ h => List.mem_cons_of_mem _ (List.mem_append_left _ (List.mem_append_right _ h))) hown hK hP 0 rfl rfl 4 (by decide) (List.mem_of_getElem? (i := 1) rfl) rfl (.int (nI (e0 + k + j))) rfl dX1_advance_175 ?_
                refine callVI (rest := []) (wn := fun u => [(r 0, .inr (1, [.ref (x 1), .ref (tr 0), .int (nI 2), .int (nI (e0 + k)), .int (nI (e0 + k + j)), .int (nI (nuN tb (e0 + k) j))])), (x 1, .inr (3, [.ref (x 2), .int (nI ln)])), (x 2, .inl (G.2.1, 120, .inl (nF tb)))]) ⟨hx, hb, hml, hown, hts⟩ (c_X4_byteAt l G H.size x tb ln (e0 + k + j) (by omega) (by omega)) (cwV 1 hts gX1_advance_X4_byteAt rfl rfl rfl (by decide +kernel) ⟨Nat.le_of_ble_eq_true rfl, Nat.le_of_ble_eq_true rfl⟩) noXB (fun _ _ _ => trivial) hK hP hD hS hAq 3 0 (T := TX4) (N := 2) rfl rfl rfl hl.1 rfl (Nat.le_of_ble_eq_true rfl) dX1_advance_178 ⟨Nat.le_of_ble_eq_true rfl, Nat.le_of_ble_eq_true rfl⟩ [1, 2] rfl rfl [x 1, x 2] rfl (fun _ => rfl) (fun _ => rfl) (fun u H locs hok hP hD hS => ?_)
                refine n_top (y := nI (tb (e0 + k + j))) (if_pos (by omega)) ?_
                have hB_23 := htb (e0 + k + j)
                refine callSI (rest := []) (wn := fun u => [(r 0, .inr (1, [.ref (x 1), .ref (tr 0), .int (nI 2), .int (nI (e0 + k)), .int (nI (e0 + k + j)), .int (nI (nuN tb (e0 + k) j))])), (x 1, .inr (3, [.ref (x 2), .int (nI ln)])), (x 2, .inl (G.2.1, 120, .inl (nF tb)))]) ⟨hx, hb, hml, hown, hts⟩ (c_X1_isDigit l G H.size (tb (e0 + k + j)) (by omega)) (va_cwS 1 hts gX1_advance_X1_isDigit rfl rfl rfl (by decide +kernel) ⟨Nat.le_of_ble_eq_true rfl, Nat.le_of_ble_eq_true rfl⟩) noXB (fun _ _ _ => trivial) hK hP hD hS hAq rfl hl.1 rfl (Nat.le_of_ble_eq_true rfl) dX1_advance_181 ⟨Nat.le_of_ble_eq_true rfl, Nat.le_of_ble_eq_true rfl⟩ [] rfl rfl [] rfl (fun _ => rfl) (fun _ => rfl) (fun u H locs hok hP hD hS => ?_)
                refine z_if_eq hx hb (tgt := 257) dX1_advance_184 (by decide) (fun c_24 => ?_) (fun c_24 => ?_)
                · have hru : runN (qD tb) (e0 + k) ln = e0 + k + j := run_at hnj (by omega) (decide_eq_false c_24)
                  have hty : tyN tb ln (e0 + k) = 2 := by unfold tyN; rw [if_neg (by omega), if_neg hLt, if_pos hDg]
                  have hen : enN tb ln (e0 + k) = e0 + k + j := by unfold enN; rw [if_neg (by omega), if_neg hLt, if_pos hDg, hru]
                  exact fin_v hx hb hr hlk hS hP hD (nuN tb (e0 + k) j) ⟨by omega, fun _ => by rw [hs]; unfold nmN; rw [hen, show e0 + k + j - (e0 + k) = j by omega]⟩ (by rw [hs, hty, hen]; exact eqW.rf _) dX1_advance_257
                · have hcj := c_24
                  have hcd : 48 ≤ tb (e0 + k + j) ∧ tb (e0 + k + j) ≤ 57 := c_24
                  refine lv_aload_n hx hb dX1_advance_187 rfl (lv_at hl 0 rfl) ?_
                  refine lv_sipush (v := nI 1000) hx hb dX1_advance_188 rfl ?_
                  refine lv_bipush (v := nI 10) hx hb dX1_advance_191 rfl ?_
                  refine lv_aload_n hx hb dX1_advance_193 rfl (lv_at hl 0 rfl) ?_
                  refine n_get (C := RX1) (T := TX1) (N := 6) hx hb hts (fun _ h => List.mem_cons_of_mem _ (List.mem_append_left _ (List.mem_append_right _ h))) hown hK hP 0 rfl rfl 5 (by decide) (List.mem_of_getElem? (i := 6) rfl) rfl (.int (nI (nuN tb (e0 + k) j))) rfl dX1_advance_194 ?_
                  refine n_imul hx hb dX1_advance_197 ?_
                  refine lv_aload_n hx hb dX1_advance_198 rfl (lv_at hl 0 rfl) ?_
                  refine n_get (C := RX1) (T := TX1) (N := 6) hx hb hts (fun _ h => List.mem_cons_of_mem _ (List.mem_append_left _ (List.mem_append_right _ h))) hown hK hP 0 rfl rfl 0 (by decide) (List.mem_of_getElem? (i := 3) rfl) rfl (.ref (x 1)) rfl dX1_advance_199 ?_
                  refine lv_aload_n hx hb dX1_advance_202 rfl (lv_at hl 0 rfl) ?_
                  refine n_get (C := RX1) (T := TX1) (N := 6) hx hb hts (fun _ h => List.mem_cons_of_mem _ (List.mem_append_left _ (List.mem_append_right _ h))) hown hK hP 0 rfl rfl 4 (by decide) (List.mem_of_getElem? (i := 1) rfl) rfl (.int (nI (e0 + k + j))) rfl dX1_advance_203 ?_
                  refine callVI (rest := [.int (nI (10 * (nuN tb (e0 + k) j))), .int (nI 1000), .ref (r 0)]) (wn := fun u => [(r 0, .inr (1, [.ref (x 1), .ref (tr 0), .int (nI 2), .int (nI (e0 + k)), .int (nI (e0 + k + j)), .int (nI (nuN tb (e0 + k) j))])), (x 1, .inr (3, [.ref (x 2), .int (nI ln)])), (x 2, .inl (G.2.1, 120, .inl (nF tb)))]) ⟨hx, hb, hml, hown, hts⟩ (c_X4_byteAt l G H.size x tb ln (e0 + k + j) (by omega) (by omega)) (cwV 1 hts gX1_advance_X4_byteAt rfl rfl rfl (by decide +kernel) ⟨Nat.le_of_ble_eq_true rfl, Nat.le_of_ble_eq_true rfl⟩) noXB (fun _ _ _ => trivial) hK hP hD hS hAq 3 0 (T := TX4) (N := 2) rfl rfl rfl hl.1 rfl (Nat.le_of_ble_eq_true rfl) dX1_advance_206 ⟨Nat.le_of_ble_eq_true rfl, Nat.le_of_ble_eq_true rfl⟩ [1, 2] rfl rfl [x 1, x 2] rfl (fun _ => rfl) (fun _ => rfl) (fun u H locs hok hP hD hS => ?_)
                  refine n_top (y := nI (tb (e0 + k + j))) (if_pos (by omega)) ?_
                  have hB_25 := htb (e0 + k + j)
                  refine n_iadd hx hb dX1_advance_209 ?_
                  refine lv_bipush (v := nI 48) hx hb dX1_advance_210 rfl ?_
                  refine n_isub hx hb (by omega) dX1_advance_212 ?_
                  refine n_min hx hb (hml.trans hl.1.symm) hown hts (List.mem_of_getElem? (i := 7) rfl) (List.mem_of_getElem? (i := 8) rfl) (List.mem_of_getElem? (i := 9) rfl) (List.mem_of_getElem? (i := 10) rfl) (Nat.le_of_ble_eq_true rfl) (Nat.le_of_ble_eq_true rfl) (Nat.le_of_ble_eq_true rfl) (Nat.le_of_ble_eq_true rfl) (by omega) (by omega) dX1_advance_213 ?_
                  refine n_put (C := RX1) (T := TX1) (N := 6) hx hb hts (fun _ h => List.mem_cons_of_mem _ (List.mem_append_left _ (List.mem_append_right _ h))) tyX1 tyX1_ok nmX1 hown hK hP hD hS 0 rfl rfl 5 (by decide) (List.mem_of_getElem? (i := 6) rfl) rfl rfl (ty := .int) (v := .int (nI (min 1000 (((10 * (nuN tb (e0 + k) j)) + (tb (e0 + k + j))) - 48)))) rfl rfl rfl (Nat.le_of_ble_eq_true rfl) (wn := [(r 0, .inr (1, [.ref (x 1), .ref (tr 0), .int (nI 2), .int (nI (e0 + k)), .int (nI (e0 + k + j)), .int (nI (min 1000 (((10 * (nuN tb (e0 + k) j)) + (tb (e0 + k + j))) - 48)))])), (x 1, .inr (3, [.ref (x 2), .int (nI ln)])), (x 2, .inl (G.2.1, 120, .inl (nF tb)))]) rfl dX1_advance_216 (fun H locs hP hD hS => ?_)
                  refine lv_aload_n hx hb dX1_advance_219 rfl (lv_at hl 0 rfl) ?_
                  refine lv_dup hx hb dX1_advance_220 rfl ?_
                  refine n_get (C := RX1) (T := TX1) (N := 6) hx hb hts (fun _ h => List.mem_cons_of_mem _ (List.mem_append_left _ (List.mem_append_right _ h))) hown hK hP 0 rfl rfl 4 (by decide) (List.mem_of_getElem? (i := 1) rfl) rfl (.int (nI (e0 + k + j))) rfl dX1_advance_221 ?_
                  refine lv_iconst (v := nI 1) hx hb dX1_advance_224 rfl ?_
                  refine n_iadd hx hb dX1_advance_225 ?_
                  refine n_put (C := RX1) (T := TX1) (N := 6) hx hb hts (fun _ h => List.mem_cons_of_mem _ (List.mem_append_left _ (List.mem_append_right _ h))) tyX1 tyX1_ok nmX1 hown hK hP hD hS 0 rfl rfl 4 (by decide) (List.mem_of_getElem? (i := 1) rfl) rfl rfl (ty := .int) (v := .int (nI ((e0 + k + j) + 1))) rfl rfl rfl (Nat.le_of_ble_eq_true rfl) (wn := [(r 0, .inr (1, [.ref (x 1), .ref (tr 0), .int (nI 2), .int (nI (e0 + k)), .int (nI ((e0 + k + j) + 1)), .int (nI (min 1000 (((10 * (nuN tb (e0 + k) j)) + (tb (e0 + k + j))) - 48)))])), (x 1, .inr (3, [.ref (x 2), .int (nI ln)])), (x 2, .inl (G.2.1, 120, .inl (nF tb)))]) rfl dX1_advance_226 (fun H locs hP hD hS => ?_)
                  refine lv_goto (tgt := 156) hx hb dX1_advance_229 (by decide) ?_
                  have e1 : nuN tb (e0 + k) (j + 1) = min 1000 (((10 * (nuN tb (e0 + k) j)) + (tb (e0 + k + j))) - 48) := by rw [nu_S]; unfold nuS; omega
                  exact ih1 (j + 1) _ _ _ (by omega) ⟨by omega, run_S hnj (decide_eq_true hcj)⟩ (by rw [e1]; exact hP) (by rw [e1]; exact hD) hS (lv_sub hl [0] rfl)
          · have hLt := c_19
            refine lv_aload_n hx hb dX1_advance_90 rfl (lv_at hl 1 rfl) ?_
            refine lv_iconst (v := nI 1) hx hb dX1_advance_91 rfl ?_
            refine n_put (C := RX1) (T := TX1) (N := 6) hx hb hts (fun _ h => List.mem_cons_of_mem _ (List.mem_append_left _ (List.mem_append_right _ h))) tyX1 tyX1_ok nmX1 hown hK hP hD hS 0 rfl rfl 2 (by decide) (List.mem_of_getElem? (i := 5) rfl) rfl rfl (ty := .int) (v := .int (nI 1)) rfl rfl rfl (Nat.le_of_ble_eq_true rfl) (wn := [(r 0, .inr (1, [.ref (x 1), .ref (tr 0), .int (nI 1), .int (nI (e0 + k)), .int (nI (e0 + k)), .int (nI v0)])), (x 1, .inr (3, [.ref (x 2), .int (nI ln)])), (x 2, .inl (G.2.1, 120, .inl (nF tb)))]) rfl dX1_advance_92 (fun H locs hP hD hS => ?_)
            refine W_loop1 (I := fun (j : Nat) => e0 + k + j ≤ ln ∧ NoQ (runQ (qL tb) (e0 + k)) j) (wd := fun (j : Nat) => [(r 0, .inr (1, [.ref (x 1), .ref (tr 0), .int (nI 1), .int (nI (e0 + k)), .int (nI (e0 + k + j)), .int (nI v0)])), (x 1, .inr (3, [.ref (x 2), .int (nI ln)])), (x 2, .inl (G.2.1, 120, .inl (nF tb)))]) (lv := fun (j : Nat) => [(0, .ref (r 0))]) (μ := fun (j : Nat) => ln - (e0 + k + j)) ?_ 0 ⟨by omega, NoQ_0⟩ hP hD hS (lv_sub hl [1] rfl)
            intro j H locs ls hI0 hP hD hS hl ih1
            obtain ⟨hj, hnj⟩ := hI0
            refine lv_aload_n hx hb dX1_advance_95 rfl (lv_at hl 0 rfl) ?_
            refine n_get (C := RX1) (T := TX1) (N := 6) hx hb hts (fun _ h => List.mem_cons_of_mem _ (List.mem_append_left _ (List.mem_append_right _ h))) hown hK hP 0 rfl rfl 4 (by decide) (List.mem_of_getElem? (i := 1) rfl) rfl (.int (nI (e0 + k + j))) rfl dX1_advance_96 ?_
            refine lv_aload_n hx hb dX1_advance_99 rfl (lv_at hl 0 rfl) ?_
            refine n_get (C := RX1) (T := TX1) (N := 6) hx hb hts (fun _ h => List.mem_cons_of_mem _ (List.mem_append_left _ (List.mem_append_right _ h))) hown hK hP 0 rfl rfl 0 (by decide) (List.mem_of_getElem? (i := 3) rfl) rfl (.ref (x 1)) rfl dX1_advance_100 ?_
            refine n_get (C := RX4) (T := TX4) (N := 2) hx hb hts (fun _ h => List.mem_cons_of_mem _ (List.mem_append_right _ h)) hown hK hP 1 rfl rfl 1 (by decide) (List.mem_of_getElem? (i := 4) rfl) rfl (.int (nI ln)) rfl dX1_advance_103 ?_
            refine n_icmp_ge hx hb (by omega) (by omega) (tgt := 257) dX1_advance_106 (by decide) (fun c_26 => ?_) (fun c_26 => ?_)
            · have hru : runN (qL tb) (e0 + k) ln = e0 + k + j := run_end hnj (by omega)
              have hty : tyN tb ln (e0 + k) = 1 := by unfold tyN; rw [if_neg (by omega), if_pos hLt]
              have hen : enN tb ln (e0 + k) = e0 + k + j := by unfold enN; rw [if_neg (by omega), if_pos hLt, hru]
              exact fin_v hx hb hr hlk hS hP hD v0 ⟨by omega, fun h => by rw [hs, hty] at h; exact absurd h (by decide)⟩ (by rw [hs, hty, hen]; exact eqW.rf _) dX1_advance_257
            · refine lv_aload_n hx hb dX1_advance_109 rfl (lv_at hl 0 rfl) ?_
              refine n_get (C := RX1) (T := TX1) (N := 6) hx hb hts (fun _ h => List.mem_cons_of_mem _ (List.mem_append_left _ (List.mem_append_right _ h))) hown hK hP 0 rfl rfl 0 (by decide) (List.mem_of_getElem? (i := 3) rfl) rfl (.ref (x 1)) rfl dX1_advance_110 ?_
              refine lv_aload_n hx hb dX1_advance_113 rfl (lv_at hl 0 rfl) ?_
              refine n_get (C := RX1) (T := TX1) (N := 6) hx hb hts (fun _ h => List.mem_cons_of_mem _ (List.mem_append_left _ (List.mem_append_right _ h))) hown hK hP 0 rfl rfl 4 (by decide) (List.mem_of_getElem? (i := 1) rfl) rfl (.int (nI (e0 + k + j))) rfl dX1_advance_114 ?_
              refine callVI (rest := []) (wn := fun u => [(r 0, .inr (1, [.ref (x 1), .ref (tr 0), .int (nI 1), .int (nI (e0 + k)), .int (nI (e0 + k + j)), .int (nI v0)])), (x 1, .inr (3, [.ref (x 2), .int (nI ln)])), (x 2, .inl (G.2.1, 120, .inl (nF tb)))]) ⟨hx, hb, hml, hown, hts⟩ (c_X4_byteAt l G H.size x tb ln (e0 + k + j) (by omega) (by omega)) (cwV 1 hts gX1_advance_X4_byteAt rfl rfl rfl (by decide +kernel) ⟨Nat.le_of_ble_eq_true rfl, Nat.le_of_ble_eq_true rfl⟩) noXB (fun _ _ _ => trivial) hK hP hD hS hAq 3 0 (T := TX4) (N := 2) rfl rfl rfl hl.1 rfl (Nat.le_of_ble_eq_true rfl) dX1_advance_117 ⟨Nat.le_of_ble_eq_true rfl, Nat.le_of_ble_eq_true rfl⟩ [1, 2] rfl rfl [x 1, x 2] rfl (fun _ => rfl) (fun _ => rfl) (fun u H locs hok hP hD hS => ?_)
              refine n_top (y := nI (tb (e0 + k + j))) (if_pos (by omega)) ?_
              have hB_27 := htb (e0 + k + j)
              refine callSI (rest := []) (wn := fun u => [(r 0, .inr (1, [.ref (x 1), .ref (tr 0), .int (nI 1), .int (nI (e0 + k)), .int (nI (e0 + k + j)), .int (nI v0)])), (x 1, .inr (3, [.ref (x 2), .int (nI ln)])), (x 2, .inl (G.2.1, 120, .inl (nF tb)))]) ⟨hx, hb, hml, hown, hts⟩ (c_X1_isLetter l G H.size (tb (e0 + k + j)) (by omega)) (va_cwS 1 hts gX1_advance_X1_isLetter rfl rfl rfl (by decide +kernel) ⟨Nat.le_of_ble_eq_true rfl, Nat.le_of_ble_eq_true rfl⟩) noXB (fun _ _ _ => trivial) hK hP hD hS hAq rfl hl.1 rfl (Nat.le_of_ble_eq_true rfl) dX1_advance_120 ⟨Nat.le_of_ble_eq_true rfl, Nat.le_of_ble_eq_true rfl⟩ [] rfl rfl [] rfl (fun _ => rfl) (fun _ => rfl) (fun u H locs hok hP hD hS => ?_)
              refine z_if_eq hx hb (tgt := 257) dX1_advance_123 (by decide) (fun c_28 => ?_) (fun c_28 => ?_)
              · have hru : runN (qL tb) (e0 + k) ln = e0 + k + j := run_at hnj (by omega) (decide_eq_false c_28)
                have hty : tyN tb ln (e0 + k) = 1 := by unfold tyN; rw [if_neg (by omega), if_pos hLt]
                have hen : enN tb ln (e0 + k) = e0 + k + j := by unfold enN; rw [if_neg (by omega), if_pos hLt, hru]
                exact fin_v hx hb hr hlk hS hP hD v0 ⟨by omega, fun h => by rw [hs, hty] at h; exact absurd h (by decide)⟩ (by rw [hs, hty, hen]; exact eqW.rf _) dX1_advance_257
              · have hcj := c_28
                refine lv_aload_n hx hb dX1_advance_126 rfl (lv_at hl 0 rfl) ?_
                refine lv_dup hx hb dX1_advance_127 rfl ?_
                refine n_get (C := RX1) (T := TX1) (N := 6) hx hb hts (fun _ h => List.mem_cons_of_mem _ (List.mem_append_left _ (List.mem_append_right _ h))) hown hK hP 0 rfl rfl 4 (by decide) (List.mem_of_getElem? (i := 1) rfl) rfl (.int (nI (e0 + k + j))) rfl dX1_advance_128 ?_
                refine lv_iconst (v := nI 1) hx hb dX1_advance_131 rfl ?_
                refine n_iadd hx hb dX1_advance_132 ?_
                refine n_put (C := RX1) (T := TX1) (N := 6) hx hb hts (fun _ h => List.mem_cons_of_mem _ (List.mem_append_left _ (List.mem_append_right _ h))) tyX1 tyX1_ok nmX1 hown hK hP hD hS 0 rfl rfl 4 (by decide) (List.mem_of_getElem? (i := 1) rfl) rfl rfl (ty := .int) (v := .int (nI ((e0 + k + j) + 1))) rfl rfl rfl (Nat.le_of_ble_eq_true rfl) (wn := [(r 0, .inr (1, [.ref (x 1), .ref (tr 0), .int (nI 1), .int (nI (e0 + k)), .int (nI ((e0 + k + j) + 1)), .int (nI v0)])), (x 1, .inr (3, [.ref (x 2), .int (nI ln)])), (x 2, .inl (G.2.1, 120, .inl (nF tb)))]) rfl dX1_advance_133 (fun H locs hP hD hS => ?_)
                refine lv_goto (tgt := 95) hx hb dX1_advance_136 (by decide) ?_
                exact ih1 (j + 1) _ _ _ (by omega) ⟨by omega, run_S hnj (decide_eq_true hcj)⟩ hP hD hS (lv_sub hl [0] rfl)
        · omega
      · refine n_top (y := (-1)) (if_neg hq) ?_
        have hm1 : ((-1) : Int32).toInt = -1 := by decide
        refine lv_istore_n (lv' := [(1, .int (-1)), (0, .ref (r 0))]) hx hb dX1_advance_70 rfl hl (by decide) rfl (fun ls hl => ?_)
        refine lv_iload_n hx hb dX1_advance_71 rfl (lv_at hl 0 rfl) ?_
        refine r_if_ge hx hb (tgt := 83) dX1_advance_72 (by decide) (fun c_29 => ?_) (fun c_29 => ?_)
        · omega
        · refine lv_aload_n hx hb dX1_advance_75 rfl (lv_at hl 1 rfl) ?_
          refine lv_iconst (v := nI 0) hx hb dX1_advance_76 rfl ?_
          refine n_put (C := RX1) (T := TX1) (N := 6) hx hb hts (fun _ h => List.mem_cons_of_mem _ (List.mem_append_left _ (List.mem_append_right _ h))) tyX1 tyX1_ok nmX1 hown hK hP hD hS 0 rfl rfl 2 (by decide) (List.mem_of_getElem? (i := 5) rfl) rfl rfl (ty := .int) (v := .int (nI 0)) rfl rfl rfl (Nat.le_of_ble_eq_true rfl) (wn := [(r 0, .inr (1, [.ref (x 1), .ref (tr 0), .int (nI 0), .int (nI (e0 + k)), .int (nI (e0 + k)), .int (nI v0)])), (x 1, .inr (3, [.ref (x 2), .int (nI ln)])), (x 2, .inl (G.2.1, 120, .inl (nF tb)))]) rfl dX1_advance_77 (fun H locs hP hD hS => ?_)
          refine lv_goto (tgt := 257) hx hb dX1_advance_80 (by decide) ?_
          have hty : tyN tb ln (e0 + k) = 0 := by unfold tyN; rw [if_pos (by omega)]
          have hen : enN tb ln (e0 + k) = e0 + k := by unfold enN; rw [if_pos (by omega)]
          exact fin_v hx hb hr hlk hS hP hD v0 ⟨by omega, fun h => by rw [hs, hty] at h; exact absurd h (by decide)⟩ (by rw [hs, hty, hen]; exact eqW.rf _) dX1_advance_257
    · refine lv_aload_n hx hb dX1_advance_38 rfl (lv_at hl 0 rfl) ?_
      refine lv_dup hx hb dX1_advance_39 rfl ?_
      refine n_get (C := RX1) (T := TX1) (N := 6) hx hb hts (fun _ h => List.mem_cons_of_mem _ (List.mem_append_left _ (List.mem_append_right _ h))) hown hK hP 0 rfl rfl 3 (by decide) (List.mem_of_getElem? (i := 2) rfl) rfl (.int (nI (e0 + k))) rfl dX1_advance_40 ?_
      refine lv_iconst (v := nI 1) hx hb dX1_advance_43 rfl ?_
      refine n_iadd hx hb dX1_advance_44 ?_
      refine n_put (C := RX1) (T := TX1) (N := 6) hx hb hts (fun _ h => List.mem_cons_of_mem _ (List.mem_append_left _ (List.mem_append_right _ h))) tyX1 tyX1_ok nmX1 hown hK hP hD hS 0 rfl rfl 3 (by decide) (List.mem_of_getElem? (i := 2) rfl) rfl rfl (ty := .int) (v := .int (nI ((e0 + k) + 1))) rfl rfl rfl (Nat.le_of_ble_eq_true rfl) (wn := [(r 0, .inr (1, [.ref (x 1), .ref (tr 0), .int (nI ty0), .int (nI ((e0 + k) + 1)), .int (nI e0), .int (nI v0)])), (x 1, .inr (3, [.ref (x 2), .int (nI ln)])), (x 2, .inl (G.2.1, 120, .inl (nF tb)))]) rfl dX1_advance_45 (fun H locs hP hD hS => ?_)
      refine lv_goto (tgt := 8) hx hb dX1_advance_48 (by decide) ?_
      exact ih (k + 1) _ _ _ (by omega) ⟨by omega, run_S hno (decide_eq_true (by omega))⟩ hP hD hS (lv_sub hl [0] rfl)
set_option maxHeartbeats 400000 in
set_option maxRecDepth 100000 in
theorem c_X6_nextToken (l : Launch) (G : GT) (sz : Nat) (b : Nat → Nat) (ζ : Nat → Nat) (vv : Int64) (tb : Nat → Nat) (ln e0 : Nat) (h1 : ζ 1 = ln) (h4 : ζ 4 = e0) (hln : ln ≤ 120) (he : e0 ≤ ln) (htb : ∀ j, tb j < 256) : MV (S := Unit) l G noX yX6_nextToken wsX6_nextToken ({ frames := 2, cells := 0, slots := 0, locals := 42 } : Room) [.ref (b 0)] ([mO b ζ vv, (b 5, .inl (G.2.1, 120, .inl (nF tb)))]) sz (fun _ => True) (fun _ => [mO b (un (un (un ζ 2 (tkN tb ln (stN tb ln e0))) 3 (stN tb ln e0)) 4 (enN tb ln (stN tb ln e0))) (lN (vaN tb ln (stN tb ln e0))), (b 5, .inl (G.2.1, 120, .inl (nF tb)))]) := by
  refine MV_enter (cc := cX6_nextToken) (maxL := 1) (ret := none) (by decide) rfl (Nat.le_of_ble_eq_true rfl) ?_
  intro p e s m below meth c A ls H hx hb hr hlk hml hown hts hAq hS hP hK hD hX hl hnm
  have hown : s.vm.findClass RX6 = some m.cls := hown
  have hl : lv_has ls 1 [(0, .ref (b 0))] := hl
  subst h1
  subst h4
  refine lv_aload_n hx hb dX6_nextToken_0 rfl (lv_at hl 0 rfl) ?_
  refine lv_aload_n hx hb dX6_nextToken_1 rfl (lv_at hl 0 rfl) ?_
  refine n_get (C := RX6) (T := TX6) (N := 18) hx hb hts (fun _ h => List.mem_cons_of_mem _ (List.mem_append_right _ h)) hown hK hP 0 rfl rfl 9 (by decide) (List.mem_of_getElem? (i := 1) rfl) rfl (.int (nI (ζ 4))) rfl dX6_nextToken_2 ?_
  refine n_put (C := RX6) (T := TX6) (N := 18) hx hb hts (fun _ h => List.mem_cons_of_mem _ (List.mem_append_right _ h)) tyX6 tyX6_ok nmX6 hown hK hP hD hS 0 rfl rfl 8 (by decide) (List.mem_of_getElem? (i := 2) rfl) rfl rfl (ty := .int) (v := .int (nI (ζ 4))) rfl rfl rfl (Nat.le_of_ble_eq_true rfl) (wn := [mO b (un ζ 3 (ζ 4)) vv, (b 5, .inl (G.2.1, 120, .inl (nF tb)))]) rfl dX6_nextToken_5 (fun H locs hP hD hS => ?_)
  refine W_loop1 (I := fun (k : Nat) => ζ 4 + k ≤ ζ 1 ∧ NoQ (runQ (qS tb) (ζ 4)) k) (wd := fun (k : Nat) => [mO b (un ζ 3 (ζ 4 + k)) vv, (b 5, .inl (G.2.1, 120, .inl (nF tb)))]) (lv := fun (k : Nat) => [(0, .ref (b 0))]) (μ := fun (k : Nat) => ζ 1 - (ζ 4 + k)) ?_ 0 ⟨by omega, NoQ_0⟩ hP hD hS (lv_sub hl [0] rfl)
  intro k H locs ls hI0 hP hD hS hl ih
  obtain ⟨hk, hno⟩ := hI0
  refine lv_aload_n hx hb dX6_nextToken_8 rfl (lv_at hl 0 rfl) ?_
  refine n_get (C := RX6) (T := TX6) (N := 18) hx hb hts (fun _ h => List.mem_cons_of_mem _ (List.mem_append_right _ h)) hown hK hP 0 rfl rfl 8 (by decide) (List.mem_of_getElem? (i := 2) rfl) rfl (_) rfl dX6_nextToken_9 ?_
  refine n_top (y := (nI (ζ 4 + k))) (congrArg nI un_s) ?_
  refine lv_aload_n hx hb dX6_nextToken_12 rfl (lv_at hl 0 rfl) ?_
  refine n_get (C := RX6) (T := TX6) (N := 18) hx hb hts (fun _ h => List.mem_cons_of_mem _ (List.mem_append_right _ h)) hown hK hP 0 rfl rfl 6 (by decide) (List.mem_of_getElem? (i := 3) rfl) rfl (_) rfl dX6_nextToken_13 ?_
  refine n_top (y := (nI (ζ 1))) (congrArg nI (un_n (by decide))) ?_
  refine n_icmp_ge hx hb (by omega) (by omega) (tgt := 46) dX6_nextToken_16 (by decide) (fun c_1 => ?_) (fun c_1 => ?_)
  · have hs : stN tb (ζ 1) (ζ 4) = ζ 4 + k := run_end (q := qS tb) hno (by omega)
    refine lv_aload_n hx hb dX6_nextToken_46 rfl (lv_at hl 0 rfl) ?_
    refine lv_aload_n hx hb dX6_nextToken_47 rfl (lv_at hl 0 rfl) ?_
    refine n_get (C := RX6) (T := TX6) (N := 18) hx hb hts (fun _ h => List.mem_cons_of_mem _ (List.mem_append_right _ h)) hown hK hP 0 rfl rfl 8 (by decide) (List.mem_of_getElem? (i := 2) rfl) rfl (_) rfl dX6_nextToken_48 ?_
    refine n_top (y := (nI (ζ 4 + k))) (congrArg nI un_s) ?_
    refine n_put (C := RX6) (T := TX6) (N := 18) hx hb hts (fun _ h => List.mem_cons_of_mem _ (List.mem_append_right _ h)) tyX6 tyX6_ok nmX6 hown hK hP hD hS 0 rfl rfl 9 (by decide) (List.mem_of_getElem? (i := 1) rfl) rfl rfl (ty := .int) (v := .int (nI (ζ 4 + k))) rfl rfl rfl (Nat.le_of_ble_eq_true rfl) (wn := [mO b (un (un ζ 3 (ζ 4 + k)) 4 (ζ 4 + k)) vv, (b 5, .inl (G.2.1, 120, .inl (nF tb)))]) rfl dX6_nextToken_51 (fun H locs hP hD hS => ?_)
    refine lv_aload_n hx hb dX6_nextToken_54 rfl (lv_at hl 0 rfl) ?_
    refine lv_lconst (v := lN 0) hx hb dX6_nextToken_55 rfl ?_
    refine n_put (C := RX6) (T := TX6) (N := 18) hx hb hts (fun _ h => List.mem_cons_of_mem _ (List.mem_append_right _ h)) tyX6 tyX6_ok nmX6 hown hK hP hD hS 0 rfl rfl 10 (by decide) (List.mem_of_getElem? (i := 5) rfl) rfl rfl (ty := .long) (v := .long (lN 0)) rfl rfl rfl (Nat.le_of_ble_eq_true rfl) (wn := [mO b (un (un ζ 3 (ζ 4 + k)) 4 (ζ 4 + k)) (lN 0), (b 5, .inl (G.2.1, 120, .inl (nF tb)))]) rfl dX6_nextToken_56 (fun H locs hP hD hS => ?_)
    refine lv_aload_n hx hb dX6_nextToken_59 rfl (lv_at hl 0 rfl) ?_
    refine n_get (C := RX6) (T := TX6) (N := 18) hx hb hts (fun _ h => List.mem_cons_of_mem _ (List.mem_append_right _ h)) hown hK hP 0 rfl rfl 8 (by decide) (List.mem_of_getElem? (i := 2) rfl) rfl (_) rfl dX6_nextToken_60 ?_
    refine n_top (y := (nI (ζ 4 + k))) (congrArg nI (Eq.trans (un_n (by decide)) un_s)) ?_
    refine lv_aload_n hx hb dX6_nextToken_63 rfl (lv_at hl 0 rfl) ?_
    refine n_get (C := RX6) (T := TX6) (N := 18) hx hb hts (fun _ h => List.mem_cons_of_mem _ (List.mem_append_right _ h)) hown hK hP 0 rfl rfl 6 (by decide) (List.mem_of_getElem? (i := 3) rfl) rfl (_) rfl dX6_nextToken_64 ?_
    refine n_top (y := (nI (ζ 1))) (congrArg nI (Eq.trans (un_n (by decide)) (un_n (by decide)))) ?_
    refine n_icmp_ne hx hb (by omega) (by omega) (tgt := 78) dX6_nextToken_67 (by decide) (fun c_2 => ?_) (fun c_2 => ?_)
    · refine lv_aload_n hx hb dX6_nextToken_78 rfl (lv_at hl 0 rfl) ?_
      refine n_get (C := RX6) (T := TX6) (N := 18) hx hb hts (fun _ h => List.mem_cons_of_mem _ (List.mem_append_right _ h)) hown hK hP 0 rfl rfl 5 (by decide) (List.mem_of_getElem? (i := 4) rfl) rfl (.ref (b 5)) rfl dX6_nextToken_79 ?_
      refine lv_aload_n hx hb dX6_nextToken_82 rfl (lv_at hl 0 rfl) ?_
      refine n_get (C := RX6) (T := TX6) (N := 18) hx hb hts (fun _ h => List.mem_cons_of_mem _ (List.mem_append_right _ h)) hown hK hP 0 rfl rfl 8 (by decide) (List.mem_of_getElem? (i := 2) rfl) rfl (_) rfl dX6_nextToken_83 ?_
      refine n_top (y := (nI (ζ 4 + k))) (congrArg nI (Eq.trans (un_n (by decide)) un_s)) ?_
      have hB2 := htb (ζ 4 + k)
      refine n_iald hx hb hK hP 1 (v := (nI (tb (ζ 4 + k)))) rfl (by omega) (by omega) rfl dX6_nextToken_86 ?_
      refine callSI (rest := []) (wn := fun u => [mO b (un (un ζ 3 (ζ 4 + k)) 4 (ζ 4 + k)) (lN 0), (b 5, .inl (G.2.1, 120, .inl (nF tb)))]) ⟨hx, hb, hml, hown, hts⟩ (c_X6_isLetter l G H.size (tb (ζ 4 + k)) (by omega)) (va_cwS 1 hts gX6_nextToken_X6_isLetter rfl rfl rfl (by decide +kernel) ⟨Nat.le_of_ble_eq_true rfl, Nat.le_of_ble_eq_true rfl⟩) noXB (fun _ _ _ => trivial) hK hP hD hS hAq rfl hl.1 rfl (Nat.le_of_ble_eq_true rfl) dX6_nextToken_87 ⟨Nat.le_of_ble_eq_true rfl, Nat.le_of_ble_eq_true rfl⟩ [] rfl rfl [] rfl (fun _ => rfl) (fun _ => rfl) (fun u H locs hok hP hD hS => ?_)
      refine z_if_eq hx hb (tgt := 182) dX6_nextToken_90 (by decide) (fun c_3 => ?_) (fun c_3 => ?_)
      · have hLt := c_3
        refine lv_aload_n hx hb dX6_nextToken_182 rfl (lv_at hl 0 rfl) ?_
        refine n_get (C := RX6) (T := TX6) (N := 18) hx hb hts (fun _ h => List.mem_cons_of_mem _ (List.mem_append_right _ h)) hown hK hP 0 rfl rfl 5 (by decide) (List.mem_of_getElem? (i := 4) rfl) rfl (.ref (b 5)) rfl dX6_nextToken_183 ?_
        refine lv_aload_n hx hb dX6_nextToken_186 rfl (lv_at hl 0 rfl) ?_
        refine n_get (C := RX6) (T := TX6) (N := 18) hx hb hts (fun _ h => List.mem_cons_of_mem _ (List.mem_append_right _ h)) hown hK hP 0 rfl rfl 8 (by decide) (List.mem_of_getElem? (i := 2) rfl) rfl (_) rfl dX6_nextToken_187 ?_
        refine n_top (y := (nI (ζ 4 + k))) (congrArg nI (Eq.trans (un_n (by decide)) un_s)) ?_
        refine n_iald hx hb hK hP 1 (v := (nI (tb (ζ 4 + k)))) rfl (by omega) (by omega) rfl dX6_nextToken_190 ?_
        refine callSI (rest := []) (wn := fun u => [mO b (un (un ζ 3 (ζ 4 + k)) 4 (ζ 4 + k)) (lN 0), (b 5, .inl (G.2.1, 120, .inl (nF tb)))]) ⟨hx, hb, hml, hown, hts⟩ (c_X6_isDigit l G H.size (tb (ζ 4 + k)) (by omega)) (va_cwS 1 hts gX6_nextToken_X6_isDigit rfl rfl rfl (by decide +kernel) ⟨Nat.le_of_ble_eq_true rfl, Nat.le_of_ble_eq_true rfl⟩) noXB (fun _ _ _ => trivial) hK hP hD hS hAq rfl hl.1 rfl (Nat.le_of_ble_eq_true rfl) dX6_nextToken_191 ⟨Nat.le_of_ble_eq_true rfl, Nat.le_of_ble_eq_true rfl⟩ [] rfl rfl [] rfl (fun _ => rfl) (fun _ => rfl) (fun u H locs hok hP hD hS => ?_)
        refine z_if_eq hx hb (tgt := 304) dX6_nextToken_194 (by decide) (fun c_4 => ?_) (fun c_4 => ?_)
        · have hDg := c_4
          refine lv_aload_n hx hb dX6_nextToken_304 rfl (lv_at hl 0 rfl) ?_
          refine lv_aload_n hx hb dX6_nextToken_305 rfl (lv_at hl 0 rfl) ?_
          refine n_get (C := RX6) (T := TX6) (N := 18) hx hb hts (fun _ h => List.mem_cons_of_mem _ (List.mem_append_right _ h)) hown hK hP 0 rfl rfl 5 (by decide) (List.mem_of_getElem? (i := 4) rfl) rfl (.ref (b 5)) rfl dX6_nextToken_306 ?_
          refine lv_aload_n hx hb dX6_nextToken_309 rfl (lv_at hl 0 rfl) ?_
          refine n_get (C := RX6) (T := TX6) (N := 18) hx hb hts (fun _ h => List.mem_cons_of_mem _ (List.mem_append_right _ h)) hown hK hP 0 rfl rfl 8 (by decide) (List.mem_of_getElem? (i := 2) rfl) rfl (_) rfl dX6_nextToken_310 ?_
          refine n_top (y := (nI (ζ 4 + k))) (congrArg nI (Eq.trans (un_n (by decide)) un_s)) ?_
          refine n_iald hx hb hK hP 1 (v := (nI (tb (ζ 4 + k)))) rfl (by omega) (by omega) rfl dX6_nextToken_313 ?_
          refine lv_bipush (v := nI 59) hx hb dX6_nextToken_314 rfl ?_
          refine n_icmp_ne hx hb (by omega) (by omega) (tgt := 323) dX6_nextToken_316 (by decide) (fun c_5 => ?_) (fun c_5 => ?_)
          · refine lv_iconst (v := nI 4) hx hb dX6_nextToken_323 rfl ?_
            refine n_put (C := RX6) (T := TX6) (N := 18) hx hb hts (fun _ h => List.mem_cons_of_mem _ (List.mem_append_right _ h)) tyX6 tyX6_ok nmX6 hown hK hP hD hS 0 rfl rfl 7 (by decide) (List.mem_of_getElem? (i := 6) rfl) rfl rfl (ty := .int) (v := .int (nI 4)) rfl rfl rfl (Nat.le_of_ble_eq_true rfl) (wn := [mO b (un (un (un ζ 2 4) 3 (ζ 4 + k)) 4 (ζ 4 + k)) (lN 0), (b 5, .inl (G.2.1, 120, .inl (nF tb)))]) rfl dX6_nextToken_324 (fun H locs hP hD hS => ?_)
            refine lv_aload_n hx hb dX6_nextToken_327 rfl (lv_at hl 0 rfl) ?_
            refine lv_dup hx hb dX6_nextToken_328 rfl ?_
            refine n_get (C := RX6) (T := TX6) (N := 18) hx hb hts (fun _ h => List.mem_cons_of_mem _ (List.mem_append_right _ h)) hown hK hP 0 rfl rfl 9 (by decide) (List.mem_of_getElem? (i := 1) rfl) rfl (_) rfl dX6_nextToken_329 ?_
            refine n_top (y := (nI (ζ 4 + k))) (congrArg nI un_s) ?_
            refine lv_iconst (v := nI 1) hx hb dX6_nextToken_332 rfl ?_
            refine n_iadd hx hb dX6_nextToken_333 ?_
            refine n_put (C := RX6) (T := TX6) (N := 18) hx hb hts (fun _ h => List.mem_cons_of_mem _ (List.mem_append_right _ h)) tyX6 tyX6_ok nmX6 hown hK hP hD hS 0 rfl rfl 9 (by decide) (List.mem_of_getElem? (i := 1) rfl) rfl rfl (ty := .int) (v := .int (nI ((ζ 4 + k) + 1))) rfl rfl rfl (Nat.le_of_ble_eq_true rfl) (wn := [mO b (un (un (un ζ 2 4) 3 (ζ 4 + k)) 4 ((ζ 4 + k) + 1)) (lN 0), (b 5, .inl (G.2.1, 120, .inl (nF tb)))]) rfl dX6_nextToken_334 (fun H locs hP hD hS => ?_)
            have hty : tyN tb (ζ 1) (ζ 4 + k) = 4 := by unfold tyN; rw [if_neg (by omega), if_neg hLt, if_neg hDg, if_neg (by omega)]
            have hen : enN tb (ζ 1) (ζ 4 + k) = (ζ 4 + k) + 1 := by unfold enN; rw [if_neg (by omega), if_neg hLt, if_neg hDg]
            have hva : vaN tb (ζ 1) (ζ 4 + k) = 0 := by unfold vaN; rw [if_neg (by omega), if_neg hLt, if_neg hDg]
            have htk : tkN tb (ζ 1) (ζ 4 + k) = 4 := by unfold tkN; rw [hty]; rw [if_neg (by decide)]
            exact fin_v hx hb hr hlk hS hP hD () trivial (by rw [hs, htk, hen, hva]; exact eqW.rf _) dX6_nextToken_337
          · refine lv_iconst (v := nI 3) hx hb dX6_nextToken_319 rfl ?_
            refine lv_goto (tgt := 324) hx hb dX6_nextToken_320 (by decide) ?_
            refine n_put (C := RX6) (T := TX6) (N := 18) hx hb hts (fun _ h => List.mem_cons_of_mem _ (List.mem_append_right _ h)) tyX6 tyX6_ok nmX6 hown hK hP hD hS 0 rfl rfl 7 (by decide) (List.mem_of_getElem? (i := 6) rfl) rfl rfl (ty := .int) (v := .int (nI 3)) rfl rfl rfl (Nat.le_of_ble_eq_true rfl) (wn := [mO b (un (un (un ζ 2 3) 3 (ζ 4 + k)) 4 (ζ 4 + k)) (lN 0), (b 5, .inl (G.2.1, 120, .inl (nF tb)))]) rfl dX6_nextToken_324 (fun H locs hP hD hS => ?_)
            refine lv_aload_n hx hb dX6_nextToken_327 rfl (lv_at hl 0 rfl) ?_
            refine lv_dup hx hb dX6_nextToken_328 rfl ?_
            refine n_get (C := RX6) (T := TX6) (N := 18) hx hb hts (fun _ h => List.mem_cons_of_mem _ (List.mem_append_right _ h)) hown hK hP 0 rfl rfl 9 (by decide) (List.mem_of_getElem? (i := 1) rfl) rfl (_) rfl dX6_nextToken_329 ?_
            refine n_top (y := (nI (ζ 4 + k))) (congrArg nI un_s) ?_
            refine lv_iconst (v := nI 1) hx hb dX6_nextToken_332 rfl ?_
            refine n_iadd hx hb dX6_nextToken_333 ?_
            refine n_put (C := RX6) (T := TX6) (N := 18) hx hb hts (fun _ h => List.mem_cons_of_mem _ (List.mem_append_right _ h)) tyX6 tyX6_ok nmX6 hown hK hP hD hS 0 rfl rfl 9 (by decide) (List.mem_of_getElem? (i := 1) rfl) rfl rfl (ty := .int) (v := .int (nI ((ζ 4 + k) + 1))) rfl rfl rfl (Nat.le_of_ble_eq_true rfl) (wn := [mO b (un (un (un ζ 2 3) 3 (ζ 4 + k)) 4 ((ζ 4 + k) + 1)) (lN 0), (b 5, .inl (G.2.1, 120, .inl (nF tb)))]) rfl dX6_nextToken_334 (fun H locs hP hD hS => ?_)
            have hty : tyN tb (ζ 1) (ζ 4 + k) = 3 := by unfold tyN; rw [if_neg (by omega), if_neg hLt, if_neg hDg, if_pos (by omega)]
            have hen : enN tb (ζ 1) (ζ 4 + k) = (ζ 4 + k) + 1 := by unfold enN; rw [if_neg (by omega), if_neg hLt, if_neg hDg]
            have hva : vaN tb (ζ 1) (ζ 4 + k) = 0 := by unfold vaN; rw [if_neg (by omega), if_neg hLt, if_neg hDg]
            have htk : tkN tb (ζ 1) (ζ 4 + k) = 3 := by unfold tkN; rw [hty]; rw [if_neg (by decide)]
            exact fin_v hx hb hr hlk hS hP hD () trivial (by rw [hs, htk, hen, hva]; exact eqW.rf _) dX6_nextToken_337
        · have hDg := c_4
          refine W_loop1 (I := fun (j : Nat) => ζ 4 + k + j ≤ ζ 1 ∧ NoQ (runQ (qD tb) (ζ 4 + k)) j) (wd := fun (j : Nat) => [mO b (un (un ζ 3 (ζ 4 + k)) 4 (ζ 4 + k + j)) (lN (wvN 999 10 48 (fun i => tb (ζ 4 + k + i)) j)), (b 5, .inl (G.2.1, 120, .inl (nF tb)))]) (lv := fun (j : Nat) => [(0, .ref (b 0))]) (μ := fun (j : Nat) => ζ 1 - (ζ 4 + k + j)) ?_ 0 ⟨by omega, NoQ_0⟩ hP hD hS (lv_sub hl [0] rfl)
          intro j H locs ls hI0 hP hD hS hl ih1
          obtain ⟨hj, hnj⟩ := hI0
          have hwv := wvD_le htb (ζ 4 + k) j
          have hB3 := htb (ζ 4 + k + j)
          refine lv_aload_n hx hb dX6_nextToken_197 rfl (lv_at hl 0 rfl) ?_
          refine n_get (C := RX6) (T := TX6) (N := 18) hx hb hts (fun _ h => List.mem_cons_of_mem _ (List.mem_append_right _ h)) hown hK hP 0 rfl rfl 9 (by decide) (List.mem_of_getElem? (i := 1) rfl) rfl (_) rfl dX6_nextToken_198 ?_
          refine n_top (y := (nI (ζ 4 + k + j))) (congrArg nI un_s) ?_
          refine lv_aload_n hx hb dX6_nextToken_201 rfl (lv_at hl 0 rfl) ?_
          refine n_get (C := RX6) (T := TX6) (N := 18) hx hb hts (fun _ h => List.mem_cons_of_mem _ (List.mem_append_right _ h)) hown hK hP 0 rfl rfl 6 (by decide) (List.mem_of_getElem? (i := 3) rfl) rfl (_) rfl dX6_nextToken_202 ?_
          refine n_top (y := (nI (ζ 1))) (congrArg nI (Eq.trans (un_n (by decide)) (un_n (by decide)))) ?_
          refine n_icmp_ge hx hb (by omega) (by omega) (tgt := 281) dX6_nextToken_205 (by decide) (fun c_6 => ?_) (fun c_6 => ?_)
          · have hru : runN (qD tb) (ζ 4 + k) (ζ 1) = ζ 4 + k + j := run_end hnj (by omega)
            refine lv_aload_n hx hb dX6_nextToken_281 rfl (lv_at hl 0 rfl) ?_
            refine lv_aload_n hx hb dX6_nextToken_282 rfl (lv_at hl 0 rfl) ?_
            refine n_get (C := RX6) (T := TX6) (N := 18) hx hb hts (fun _ h => List.mem_cons_of_mem _ (List.mem_append_right _ h)) hown hK hP 0 rfl rfl 10 (by decide) (List.mem_of_getElem? (i := 5) rfl) rfl (.long (lN (wvN 999 10 48 (fun i => tb (ζ 4 + k + i)) j))) rfl dX6_nextToken_283 ?_
            refine lv_ldc2 (v := 999) hx hb hown (hts _ (List.mem_of_getElem? (i := 10) rfl)) dX6_nextToken_286 ?_
            refine n_topl (y := lN 999) rfl ?_
            refine W.lcmp hx hb dX6_nextToken_289 ?_
            have hlc_7 := lc_all (lN (wvN 999 10 48 (fun i => tb (ζ 4 + k + i)) j)) (lN 999)
            rw [pk_lT (show wvN 999 10 48 (fun i => tb (ζ 4 + k + i)) j < 9223372036854775808 by omega)] at hlc_7
            rw [pk_lT (show 999 < 9223372036854775808 by omega)] at hlc_7
            refine r_if_le hx hb (tgt := 297) dX6_nextToken_290 (by decide) (fun c_8 => ?_) (fun c_8 => ?_)
            · refine lv_iconst (v := nI 2) hx hb dX6_nextToken_297 rfl ?_
              refine n_put (C := RX6) (T := TX6) (N := 18) hx hb hts (fun _ h => List.mem_cons_of_mem _ (List.mem_append_right _ h)) tyX6 tyX6_ok nmX6 hown hK hP hD hS 0 rfl rfl 7 (by decide) (List.mem_of_getElem? (i := 6) rfl) rfl rfl (ty := .int) (v := .int (nI 2)) rfl rfl rfl (Nat.le_of_ble_eq_true rfl) (wn := [mO b (un (un (un ζ 2 2) 3 (ζ 4 + k)) 4 (ζ 4 + k + j)) (lN (wvN 999 10 48 (fun i => tb (ζ 4 + k + i)) j)), (b 5, .inl (G.2.1, 120, .inl (nF tb)))]) rfl dX6_nextToken_298 (fun H locs hP hD hS => ?_)
              refine lv_goto (tgt := 337) hx hb dX6_nextToken_301 (by decide) ?_
              have hty : tyN tb (ζ 1) (ζ 4 + k) = 2 := by unfold tyN; rw [if_neg (by omega), if_neg hLt, if_pos hDg]
              have hen : enN tb (ζ 1) (ζ 4 + k) = ζ 4 + k + j := by unfold enN; rw [if_neg (by omega), if_neg hLt, if_pos hDg, hru]
              have hva : vaN tb (ζ 1) (ζ 4 + k) = (wvN 999 10 48 (fun i => tb (ζ 4 + k + i)) j) := by unfold vaN; rw [if_neg (by omega), if_neg hLt, if_pos hDg, hen, show ζ 4 + k + j - (ζ 4 + k) = j by omega]
              have htk : tkN tb (ζ 1) (ζ 4 + k) = 2 := by unfold tkN; rw [hty]; rw [if_pos rfl, hva, if_neg (show ¬ 999 < (wvN 999 10 48 (fun i => tb (ζ 4 + k + i)) j) by omega)]
              exact fin_v hx hb hr hlk hS hP hD () trivial (by rw [hs, htk, hen, hva]; exact eqW.rf _) dX6_nextToken_337
            · refine lv_iconst (v := nI 4) hx hb dX6_nextToken_293 rfl ?_
              refine lv_goto (tgt := 298) hx hb dX6_nextToken_294 (by decide) ?_
              refine n_put (C := RX6) (T := TX6) (N := 18) hx hb hts (fun _ h => List.mem_cons_of_mem _ (List.mem_append_right _ h)) tyX6 tyX6_ok nmX6 hown hK hP hD hS 0 rfl rfl 7 (by decide) (List.mem_of_getElem? (i := 6) rfl) rfl rfl (ty := .int) (v := .int (nI 4)) rfl rfl rfl (Nat.le_of_ble_eq_true rfl) (wn := [mO b (un (un (un ζ 2 4) 3 (ζ 4 + k)) 4 (ζ 4 + k + j)) (lN (wvN 999 10 48 (fun i => tb (ζ 4 + k + i)) j)), (b 5, .inl (G.2.1, 120, .inl (nF tb)))]) rfl dX6_nextToken_298 (fun H locs hP hD hS => ?_)
              refine lv_goto (tgt := 337) hx hb dX6_nextToken_301 (by decide) ?_
              have hty : tyN tb (ζ 1) (ζ 4 + k) = 2 := by unfold tyN; rw [if_neg (by omega), if_neg hLt, if_pos hDg]
              have hen : enN tb (ζ 1) (ζ 4 + k) = ζ 4 + k + j := by unfold enN; rw [if_neg (by omega), if_neg hLt, if_pos hDg, hru]
              have hva : vaN tb (ζ 1) (ζ 4 + k) = (wvN 999 10 48 (fun i => tb (ζ 4 + k + i)) j) := by unfold vaN; rw [if_neg (by omega), if_neg hLt, if_pos hDg, hen, show ζ 4 + k + j - (ζ 4 + k) = j by omega]
              have htk : tkN tb (ζ 1) (ζ 4 + k) = 4 := by unfold tkN; rw [hty]; rw [if_pos rfl, hva, if_pos (show 999 < (wvN 999 10 48 (fun i => tb (ζ 4 + k + i)) j) by omega)]
              exact fin_v hx hb hr hlk hS hP hD () trivial (by rw [hs, htk, hen, hva]; exact eqW.rf _) dX6_nextToken_337
          · refine lv_aload_n hx hb dX6_nextToken_208 rfl (lv_at hl 0 rfl) ?_
            refine n_get (C := RX6) (T := TX6) (N := 18) hx hb hts (fun _ h => List.mem_cons_of_mem _ (List.mem_append_right _ h)) hown hK hP 0 rfl rfl 5 (by decide) (List.mem_of_getElem? (i := 4) rfl) rfl (.ref (b 5)) rfl dX6_nextToken_209 ?_
            refine lv_aload_n hx hb dX6_nextToken_212 rfl (lv_at hl 0 rfl) ?_
            refine n_get (C := RX6) (T := TX6) (N := 18) hx hb hts (fun _ h => List.mem_cons_of_mem _ (List.mem_append_right _ h)) hown hK hP 0 rfl rfl 9 (by decide) (List.mem_of_getElem? (i := 1) rfl) rfl (_) rfl dX6_nextToken_213 ?_
            refine n_top (y := (nI (ζ 4 + k + j))) (congrArg nI un_s) ?_
            refine n_iald hx hb hK hP 1 (v := (nI (tb (ζ 4 + k + j)))) rfl (by omega) (by omega) rfl dX6_nextToken_216 ?_
            refine callSI (rest := []) (wn := fun u => [mO b (un (un ζ 3 (ζ 4 + k)) 4 (ζ 4 + k + j)) (lN (wvN 999 10 48 (fun i => tb (ζ 4 + k + i)) j)), (b 5, .inl (G.2.1, 120, .inl (nF tb)))]) ⟨hx, hb, hml, hown, hts⟩ (c_X6_isDigit l G H.size (tb (ζ 4 + k + j)) (by omega)) (va_cwS 1 hts gX6_nextToken_X6_isDigit rfl rfl rfl (by decide +kernel) ⟨Nat.le_of_ble_eq_true rfl, Nat.le_of_ble_eq_true rfl⟩) noXB (fun _ _ _ => trivial) hK hP hD hS hAq rfl hl.1 rfl (Nat.le_of_ble_eq_true rfl) dX6_nextToken_217 ⟨Nat.le_of_ble_eq_true rfl, Nat.le_of_ble_eq_true rfl⟩ [] rfl rfl [] rfl (fun _ => rfl) (fun _ => rfl) (fun u H locs hok hP hD hS => ?_)
            refine z_if_eq hx hb (tgt := 281) dX6_nextToken_220 (by decide) (fun c_9 => ?_) (fun c_9 => ?_)
            · have hru : runN (qD tb) (ζ 4 + k) (ζ 1) = ζ 4 + k + j := run_at hnj (by omega) (decide_eq_false c_9)
              refine lv_aload_n hx hb dX6_nextToken_281 rfl (lv_at hl 0 rfl) ?_
              refine lv_aload_n hx hb dX6_nextToken_282 rfl (lv_at hl 0 rfl) ?_
              refine n_get (C := RX6) (T := TX6) (N := 18) hx hb hts (fun _ h => List.mem_cons_of_mem _ (List.mem_append_right _ h)) hown hK hP 0 rfl rfl 10 (by decide) (List.mem_of_getElem? (i := 5) rfl) rfl (.long (lN (wvN 999 10 48 (fun i => tb (ζ 4 + k + i)) j))) rfl dX6_nextToken_283 ?_
              refine lv_ldc2 (v := 999) hx hb hown (hts _ (List.mem_of_getElem? (i := 10) rfl)) dX6_nextToken_286 ?_
              refine n_topl (y := lN 999) rfl ?_
              refine W.lcmp hx hb dX6_nextToken_289 ?_
              have hlc_10 := lc_all (lN (wvN 999 10 48 (fun i => tb (ζ 4 + k + i)) j)) (lN 999)
              rw [pk_lT (show wvN 999 10 48 (fun i => tb (ζ 4 + k + i)) j < 9223372036854775808 by omega)] at hlc_10
              rw [pk_lT (show 999 < 9223372036854775808 by omega)] at hlc_10
              refine r_if_le hx hb (tgt := 297) dX6_nextToken_290 (by decide) (fun c_11 => ?_) (fun c_11 => ?_)
              · refine lv_iconst (v := nI 2) hx hb dX6_nextToken_297 rfl ?_
                refine n_put (C := RX6) (T := TX6) (N := 18) hx hb hts (fun _ h => List.mem_cons_of_mem _ (List.mem_append_right _ h)) tyX6 tyX6_ok nmX6 hown hK hP hD hS 0 rfl rfl 7 (by decide) (List.mem_of_getElem? (i := 6) rfl) rfl rfl (ty := .int) (v := .int (nI 2)) rfl rfl rfl (Nat.le_of_ble_eq_true rfl) (wn := [mO b (un (un (un ζ 2 2) 3 (ζ 4 + k)) 4 (ζ 4 + k + j)) (lN (wvN 999 10 48 (fun i => tb (ζ 4 + k + i)) j)), (b 5, .inl (G.2.1, 120, .inl (nF tb)))]) rfl dX6_nextToken_298 (fun H locs hP hD hS => ?_)
                refine lv_goto (tgt := 337) hx hb dX6_nextToken_301 (by decide) ?_
                have hty : tyN tb (ζ 1) (ζ 4 + k) = 2 := by unfold tyN; rw [if_neg (by omega), if_neg hLt, if_pos hDg]
                have hen : enN tb (ζ 1) (ζ 4 + k) = ζ 4 + k + j := by unfold enN; rw [if_neg (by omega), if_neg hLt, if_pos hDg, hru]
                have hva : vaN tb (ζ 1) (ζ 4 + k) = (wvN 999 10 48 (fun i => tb (ζ 4 + k + i)) j) := by unfold vaN; rw [if_neg (by omega), if_neg hLt, if_pos hDg, hen, show ζ 4 + k + j - (ζ 4 + k) = j by omega]
                have htk : tkN tb (ζ 1) (ζ 4 + k) = 2 := by unfold tkN; rw [hty]; rw [if_pos rfl, hva, if_neg (show ¬ 999 < (wvN 999 10 48 (fun i => tb (ζ 4 + k + i)) j) by omega)]
                exact fin_v hx hb hr hlk hS hP hD () trivial (by rw [hs, htk, hen, hva]; exact eqW.rf _) dX6_nextToken_337
              · refine lv_iconst (v := nI 4) hx hb dX6_nextToken_293 rfl ?_
                refine lv_goto (tgt := 298) hx hb dX6_nextToken_294 (by decide) ?_
                refine n_put (C := RX6) (T := TX6) (N := 18) hx hb hts (fun _ h => List.mem_cons_of_mem _ (List.mem_append_right _ h)) tyX6 tyX6_ok nmX6 hown hK hP hD hS 0 rfl rfl 7 (by decide) (List.mem_of_getElem? (i := 6) rfl) rfl rfl (ty := .int) (v := .int (nI 4)) rfl rfl rfl (Nat.le_of_ble_eq_true rfl) (wn := [mO b (un (un (un ζ 2 4) 3 (ζ 4 + k)) 4 (ζ 4 + k + j)) (lN (wvN 999 10 48 (fun i => tb (ζ 4 + k + i)) j)), (b 5, .inl (G.2.1, 120, .inl (nF tb)))]) rfl dX6_nextToken_298 (fun H locs hP hD hS => ?_)
                refine lv_goto (tgt := 337) hx hb dX6_nextToken_301 (by decide) ?_
                have hty : tyN tb (ζ 1) (ζ 4 + k) = 2 := by unfold tyN; rw [if_neg (by omega), if_neg hLt, if_pos hDg]
                have hen : enN tb (ζ 1) (ζ 4 + k) = ζ 4 + k + j := by unfold enN; rw [if_neg (by omega), if_neg hLt, if_pos hDg, hru]
                have hva : vaN tb (ζ 1) (ζ 4 + k) = (wvN 999 10 48 (fun i => tb (ζ 4 + k + i)) j) := by unfold vaN; rw [if_neg (by omega), if_neg hLt, if_pos hDg, hen, show ζ 4 + k + j - (ζ 4 + k) = j by omega]
                have htk : tkN tb (ζ 1) (ζ 4 + k) = 4 := by unfold tkN; rw [hty]; rw [if_pos rfl, hva, if_pos (show 999 < (wvN 999 10 48 (fun i => tb (ζ 4 + k + i)) j) by omega)]
                exact fin_v hx hb hr hlk hS hP hD () trivial (by rw [hs, htk, hen, hva]; exact eqW.rf _) dX6_nextToken_337
            · have hcj := c_9
              have hcd : 48 ≤ tb (ζ 4 + k + j) ∧ tb (ζ 4 + k + j) ≤ 57 := c_9
              refine lv_aload_n hx hb dX6_nextToken_223 rfl (lv_at hl 0 rfl) ?_
              refine lv_aload_n hx hb dX6_nextToken_224 rfl (lv_at hl 0 rfl) ?_
              refine n_get (C := RX6) (T := TX6) (N := 18) hx hb hts (fun _ h => List.mem_cons_of_mem _ (List.mem_append_right _ h)) hown hK hP 0 rfl rfl 10 (by decide) (List.mem_of_getElem? (i := 5) rfl) rfl (.long (lN (wvN 999 10 48 (fun i => tb (ζ 4 + k + i)) j))) rfl dX6_nextToken_225 ?_
              refine lv_ldc2 (v := 999) hx hb hown (hts _ (List.mem_of_getElem? (i := 10) rfl)) dX6_nextToken_228 ?_
              refine n_topl (y := lN 999) rfl ?_
              refine W.lcmp hx hb dX6_nextToken_231 ?_
              have hlc_12 := lc_all (lN (wvN 999 10 48 (fun i => tb (ζ 4 + k + i)) j)) (lN 999)
              rw [pk_lT (show wvN 999 10 48 (fun i => tb (ζ 4 + k + i)) j < 9223372036854775808 by omega)] at hlc_12
              rw [pk_lT (show 999 < 9223372036854775808 by omega)] at hlc_12
              refine r_if_le hx hb (tgt := 242) dX6_nextToken_232 (by decide) (fun c_13 => ?_) (fun c_13 => ?_)
              · refine lv_aload_n hx hb dX6_nextToken_242 rfl (lv_at hl 0 rfl) ?_
                refine n_get (C := RX6) (T := TX6) (N := 18) hx hb hts (fun _ h => List.mem_cons_of_mem _ (List.mem_append_right _ h)) hown hK hP 0 rfl rfl 10 (by decide) (List.mem_of_getElem? (i := 5) rfl) rfl (.long (lN (wvN 999 10 48 (fun i => tb (ζ 4 + k + i)) j))) rfl dX6_nextToken_243 ?_
                refine lv_ldc2 (v := 10) hx hb hown (hts _ (List.mem_of_getElem? (i := 11) rfl)) dX6_nextToken_246 ?_
                refine n_topl (y := lN 10) rfl ?_
                refine lv_lmul hx hb dX6_nextToken_249 ?_
                refine n_topl (y := lN ((wvN 999 10 48 (fun i => tb (ζ 4 + k + i)) j) * 10)) (lN_mul _ _) ?_
                refine lv_aload_n hx hb dX6_nextToken_250 rfl (lv_at hl 0 rfl) ?_
                refine n_get (C := RX6) (T := TX6) (N := 18) hx hb hts (fun _ h => List.mem_cons_of_mem _ (List.mem_append_right _ h)) hown hK hP 0 rfl rfl 5 (by decide) (List.mem_of_getElem? (i := 4) rfl) rfl (.ref (b 5)) rfl dX6_nextToken_251 ?_
                refine lv_aload_n hx hb dX6_nextToken_254 rfl (lv_at hl 0 rfl) ?_
                refine n_get (C := RX6) (T := TX6) (N := 18) hx hb hts (fun _ h => List.mem_cons_of_mem _ (List.mem_append_right _ h)) hown hK hP 0 rfl rfl 9 (by decide) (List.mem_of_getElem? (i := 1) rfl) rfl (_) rfl dX6_nextToken_255 ?_
                refine n_top (y := (nI (ζ 4 + k + j))) (congrArg nI un_s) ?_
                refine n_iald hx hb hK hP 1 (v := (nI (tb (ζ 4 + k + j)))) rfl (by omega) (by omega) rfl dX6_nextToken_258 ?_
                refine lv_i2l (v := lN (tb (ζ 4 + k + j))) hx hb dX6_nextToken_259 (nI_l (by omega)) ?_
                refine lv_ladd hx hb dX6_nextToken_260 ?_
                refine n_topl (y := lN (((wvN 999 10 48 (fun i => tb (ζ 4 + k + i)) j) * 10) + (tb (ζ 4 + k + j)))) (lN_add _ _) ?_
                refine lv_ldc2 (v := 48) hx hb hown (hts _ (List.mem_of_getElem? (i := 12) rfl)) dX6_nextToken_261 ?_
                refine n_topl (y := lN 48) rfl ?_
                refine lv_lsub hx hb dX6_nextToken_264 ?_
                refine n_topl (y := lN ((((wvN 999 10 48 (fun i => tb (ζ 4 + k + i)) j) * 10) + (tb (ζ 4 + k + j))) - 48)) (lN_sub (by omega)) ?_
                refine n_put (C := RX6) (T := TX6) (N := 18) hx hb hts (fun _ h => List.mem_cons_of_mem _ (List.mem_append_right _ h)) tyX6 tyX6_ok nmX6 hown hK hP hD hS 0 rfl rfl 10 (by decide) (List.mem_of_getElem? (i := 5) rfl) rfl rfl (ty := .long) (v := .long (lN ((((wvN 999 10 48 (fun i => tb (ζ 4 + k + i)) j) * 10) + (tb (ζ 4 + k + j))) - 48))) rfl rfl rfl (Nat.le_of_ble_eq_true rfl) (wn := [mO b (un (un ζ 3 (ζ 4 + k)) 4 (ζ 4 + k + j)) (lN ((((wvN 999 10 48 (fun i => tb (ζ 4 + k + i)) j) * 10) + (tb (ζ 4 + k + j))) - 48)), (b 5, .inl (G.2.1, 120, .inl (nF tb)))]) rfl dX6_nextToken_265 (fun H locs hP hD hS => ?_)
                refine lv_aload_n hx hb dX6_nextToken_268 rfl (lv_at hl 0 rfl) ?_
                refine lv_dup hx hb dX6_nextToken_269 rfl ?_
                refine n_get (C := RX6) (T := TX6) (N := 18) hx hb hts (fun _ h => List.mem_cons_of_mem _ (List.mem_append_right _ h)) hown hK hP 0 rfl rfl 9 (by decide) (List.mem_of_getElem? (i := 1) rfl) rfl (_) rfl dX6_nextToken_270 ?_
                refine n_top (y := (nI (ζ 4 + k + j))) (congrArg nI un_s) ?_
                refine lv_iconst (v := nI 1) hx hb dX6_nextToken_273 rfl ?_
                refine n_iadd hx hb dX6_nextToken_274 ?_
                refine n_put (C := RX6) (T := TX6) (N := 18) hx hb hts (fun _ h => List.mem_cons_of_mem _ (List.mem_append_right _ h)) tyX6 tyX6_ok nmX6 hown hK hP hD hS 0 rfl rfl 9 (by decide) (List.mem_of_getElem? (i := 1) rfl) rfl rfl (ty := .int) (v := .int (nI ((ζ 4 + k + j) + 1))) rfl rfl rfl (Nat.le_of_ble_eq_true rfl) (wn := [mO b (un (un ζ 3 (ζ 4 + k)) 4 ((ζ 4 + k + j) + 1)) (lN ((((wvN 999 10 48 (fun i => tb (ζ 4 + k + i)) j) * 10) + (tb (ζ 4 + k + j))) - 48)), (b 5, .inl (G.2.1, 120, .inl (nF tb)))]) rfl dX6_nextToken_275 (fun H locs hP hD hS => ?_)
                refine lv_goto (tgt := 197) hx hb dX6_nextToken_278 (by decide) ?_
                have e1 : wvN 999 10 48 (fun i => tb (ζ 4 + k + i)) (j + 1) = ((((wvN 999 10 48 (fun i => tb (ζ 4 + k + i)) j) * 10) + (tb (ζ 4 + k + j))) - 48) := by rw [wv_S]; unfold wvS; rw [if_neg (show ¬ 999 < wvN 999 10 48 (fun i => tb (ζ 4 + k + i)) j by omega)]; dsimp only; omega
                exact ih1 (j + 1) _ _ _ (by omega) ⟨by omega, run_S hnj (decide_eq_true hcj)⟩ (by rw [e1]; exact hP) (by rw [e1]; exact hD) hS (lv_sub hl [0] rfl)
              · refine lv_aload_n hx hb dX6_nextToken_235 rfl (lv_at hl 0 rfl) ?_
                refine n_get (C := RX6) (T := TX6) (N := 18) hx hb hts (fun _ h => List.mem_cons_of_mem _ (List.mem_append_right _ h)) hown hK hP 0 rfl rfl 10 (by decide) (List.mem_of_getElem? (i := 5) rfl) rfl (.long (lN (wvN 999 10 48 (fun i => tb (ζ 4 + k + i)) j))) rfl dX6_nextToken_236 ?_
                refine lv_goto (tgt := 265) hx hb dX6_nextToken_239 (by decide) ?_
                refine n_put (C := RX6) (T := TX6) (N := 18) hx hb hts (fun _ h => List.mem_cons_of_mem _ (List.mem_append_right _ h)) tyX6 tyX6_ok nmX6 hown hK hP hD hS 0 rfl rfl 10 (by decide) (List.mem_of_getElem? (i := 5) rfl) rfl rfl (ty := .long) (v := .long (lN (wvN 999 10 48 (fun i => tb (ζ 4 + k + i)) j))) rfl rfl rfl (Nat.le_of_ble_eq_true rfl) (wn := [mO b (un (un ζ 3 (ζ 4 + k)) 4 (ζ 4 + k + j)) (lN (wvN 999 10 48 (fun i => tb (ζ 4 + k + i)) j)), (b 5, .inl (G.2.1, 120, .inl (nF tb)))]) rfl dX6_nextToken_265 (fun H locs hP hD hS => ?_)
                refine lv_aload_n hx hb dX6_nextToken_268 rfl (lv_at hl 0 rfl) ?_
                refine lv_dup hx hb dX6_nextToken_269 rfl ?_
                refine n_get (C := RX6) (T := TX6) (N := 18) hx hb hts (fun _ h => List.mem_cons_of_mem _ (List.mem_append_right _ h)) hown hK hP 0 rfl rfl 9 (by decide) (List.mem_of_getElem? (i := 1) rfl) rfl (_) rfl dX6_nextToken_270 ?_
                refine n_top (y := (nI (ζ 4 + k + j))) (congrArg nI un_s) ?_
                refine lv_iconst (v := nI 1) hx hb dX6_nextToken_273 rfl ?_
                refine n_iadd hx hb dX6_nextToken_274 ?_
                refine n_put (C := RX6) (T := TX6) (N := 18) hx hb hts (fun _ h => List.mem_cons_of_mem _ (List.mem_append_right _ h)) tyX6 tyX6_ok nmX6 hown hK hP hD hS 0 rfl rfl 9 (by decide) (List.mem_of_getElem? (i := 1) rfl) rfl rfl (ty := .int) (v := .int (nI ((ζ 4 + k + j) + 1))) rfl rfl rfl (Nat.le_of_ble_eq_true rfl) (wn := [mO b (un (un ζ 3 (ζ 4 + k)) 4 ((ζ 4 + k + j) + 1)) (lN (wvN 999 10 48 (fun i => tb (ζ 4 + k + i)) j)), (b 5, .inl (G.2.1, 120, .inl (nF tb)))]) rfl dX6_nextToken_275 (fun H locs hP hD hS => ?_)
                refine lv_goto (tgt := 197) hx hb dX6_nextToken_278 (by decide) ?_
                have e1 : wvN 999 10 48 (fun i => tb (ζ 4 + k + i)) (j + 1) = (wvN 999 10 48 (fun i => tb (ζ 4 + k + i)) j) := by rw [wv_S]; unfold wvS; rw [if_pos (show 999 < wvN 999 10 48 (fun i => tb (ζ 4 + k + i)) j by omega)]
                exact ih1 (j + 1) _ _ _ (by omega) ⟨by omega, run_S hnj (decide_eq_true hcj)⟩ (by rw [e1]; exact hP) (by rw [e1]; exact hD) hS (lv_sub hl [0] rfl)
      · have hLt := c_3
        refine lv_aload_n hx hb dX6_nextToken_93 rfl (lv_at hl 0 rfl) ?_
        refine lv_iconst (v := nI 1) hx hb dX6_nextToken_94 rfl ?_
        refine n_put (C := RX6) (T := TX6) (N := 18) hx hb hts (fun _ h => List.mem_cons_of_mem _ (List.mem_append_right _ h)) tyX6 tyX6_ok nmX6 hown hK hP hD hS 0 rfl rfl 7 (by decide) (List.mem_of_getElem? (i := 6) rfl) rfl rfl (ty := .int) (v := .int (nI 1)) rfl rfl rfl (Nat.le_of_ble_eq_true rfl) (wn := [mO b (un (un (un ζ 2 1) 3 (ζ 4 + k)) 4 (ζ 4 + k)) (lN 0), (b 5, .inl (G.2.1, 120, .inl (nF tb)))]) rfl dX6_nextToken_95 (fun H locs hP hD hS => ?_)
        refine W_loop1 (I := fun (j : Nat) => ζ 4 + k + j ≤ ζ 1 ∧ NoQ (runQ (qL tb) (ζ 4 + k)) j) (wd := fun (j : Nat) => [mO b (un (un (un ζ 2 1) 3 (ζ 4 + k)) 4 (ζ 4 + k + j)) (lN (wvN 9999999999999 27 96 (fun i => tb (ζ 4 + k + i)) j)), (b 5, .inl (G.2.1, 120, .inl (nF tb)))]) (lv := fun (j : Nat) => [(0, .ref (b 0))]) (μ := fun (j : Nat) => ζ 1 - (ζ 4 + k + j)) ?_ 0 ⟨by omega, NoQ_0⟩ hP hD hS (lv_sub hl [0] rfl)
        intro j H locs ls hI0 hP hD hS hl ih1
        obtain ⟨hj, hnj⟩ := hI0
        have hwv := wvL_le htb (ζ 4 + k) j
        have hB3 := htb (ζ 4 + k + j)
        refine lv_aload_n hx hb dX6_nextToken_98 rfl (lv_at hl 0 rfl) ?_
        refine n_get (C := RX6) (T := TX6) (N := 18) hx hb hts (fun _ h => List.mem_cons_of_mem _ (List.mem_append_right _ h)) hown hK hP 0 rfl rfl 9 (by decide) (List.mem_of_getElem? (i := 1) rfl) rfl (_) rfl dX6_nextToken_99 ?_
        refine n_top (y := (nI (ζ 4 + k + j))) (congrArg nI un_s) ?_
        refine lv_aload_n hx hb dX6_nextToken_102 rfl (lv_at hl 0 rfl) ?_
        refine n_get (C := RX6) (T := TX6) (N := 18) hx hb hts (fun _ h => List.mem_cons_of_mem _ (List.mem_append_right _ h)) hown hK hP 0 rfl rfl 6 (by decide) (List.mem_of_getElem? (i := 3) rfl) rfl (_) rfl dX6_nextToken_103 ?_
        refine n_top (y := (nI (ζ 1))) (congrArg nI (Eq.trans (un_n (by decide)) (Eq.trans (un_n (by decide)) (un_n (by decide))))) ?_
        refine n_icmp_ge hx hb (by omega) (by omega) (tgt := 337) dX6_nextToken_106 (by decide) (fun c_14 => ?_) (fun c_14 => ?_)
        · have hru : runN (qL tb) (ζ 4 + k) (ζ 1) = ζ 4 + k + j := run_end hnj (by omega)
          have hty : tyN tb (ζ 1) (ζ 4 + k) = 1 := by unfold tyN; rw [if_neg (by omega), if_pos hLt]
          have hen : enN tb (ζ 1) (ζ 4 + k) = ζ 4 + k + j := by unfold enN; rw [if_neg (by omega), if_pos hLt, hru]
          have hva : vaN tb (ζ 1) (ζ 4 + k) = (wvN 9999999999999 27 96 (fun i => tb (ζ 4 + k + i)) j) := by unfold vaN; rw [if_neg (by omega), if_pos hLt, hen, show ζ 4 + k + j - (ζ 4 + k) = j by omega]
          have htk : tkN tb (ζ 1) (ζ 4 + k) = 1 := by unfold tkN; rw [hty]; rw [if_neg (by decide)]
          exact fin_v hx hb hr hlk hS hP hD () trivial (by rw [hs, htk, hen, hva]; exact eqW.rf _) dX6_nextToken_337
        · refine lv_aload_n hx hb dX6_nextToken_109 rfl (lv_at hl 0 rfl) ?_
          refine n_get (C := RX6) (T := TX6) (N := 18) hx hb hts (fun _ h => List.mem_cons_of_mem _ (List.mem_append_right _ h)) hown hK hP 0 rfl rfl 5 (by decide) (List.mem_of_getElem? (i := 4) rfl) rfl (.ref (b 5)) rfl dX6_nextToken_110 ?_
          refine lv_aload_n hx hb dX6_nextToken_113 rfl (lv_at hl 0 rfl) ?_
          refine n_get (C := RX6) (T := TX6) (N := 18) hx hb hts (fun _ h => List.mem_cons_of_mem _ (List.mem_append_right _ h)) hown hK hP 0 rfl rfl 9 (by decide) (List.mem_of_getElem? (i := 1) rfl) rfl (_) rfl dX6_nextToken_114 ?_
          refine n_top (y := (nI (ζ 4 + k + j))) (congrArg nI un_s) ?_
          refine n_iald hx hb hK hP 1 (v := (nI (tb (ζ 4 + k + j)))) rfl (by omega) (by omega) rfl dX6_nextToken_117 ?_
          refine callSI (rest := []) (wn := fun u => [mO b (un (un (un ζ 2 1) 3 (ζ 4 + k)) 4 (ζ 4 + k + j)) (lN (wvN 9999999999999 27 96 (fun i => tb (ζ 4 + k + i)) j)), (b 5, .inl (G.2.1, 120, .inl (nF tb)))]) ⟨hx, hb, hml, hown, hts⟩ (c_X6_isLetter l G H.size (tb (ζ 4 + k + j)) (by omega)) (va_cwS 1 hts gX6_nextToken_X6_isLetter rfl rfl rfl (by decide +kernel) ⟨Nat.le_of_ble_eq_true rfl, Nat.le_of_ble_eq_true rfl⟩) noXB (fun _ _ _ => trivial) hK hP hD hS hAq rfl hl.1 rfl (Nat.le_of_ble_eq_true rfl) dX6_nextToken_118 ⟨Nat.le_of_ble_eq_true rfl, Nat.le_of_ble_eq_true rfl⟩ [] rfl rfl [] rfl (fun _ => rfl) (fun _ => rfl) (fun u H locs hok hP hD hS => ?_)
          refine z_if_eq hx hb (tgt := 337) dX6_nextToken_121 (by decide) (fun c_15 => ?_) (fun c_15 => ?_)
          · have hru : runN (qL tb) (ζ 4 + k) (ζ 1) = ζ 4 + k + j := run_at hnj (by omega) (decide_eq_false c_15)
            have hty : tyN tb (ζ 1) (ζ 4 + k) = 1 := by unfold tyN; rw [if_neg (by omega), if_pos hLt]
            have hen : enN tb (ζ 1) (ζ 4 + k) = ζ 4 + k + j := by unfold enN; rw [if_neg (by omega), if_pos hLt, hru]
            have hva : vaN tb (ζ 1) (ζ 4 + k) = (wvN 9999999999999 27 96 (fun i => tb (ζ 4 + k + i)) j) := by unfold vaN; rw [if_neg (by omega), if_pos hLt, hen, show ζ 4 + k + j - (ζ 4 + k) = j by omega]
            have htk : tkN tb (ζ 1) (ζ 4 + k) = 1 := by unfold tkN; rw [hty]; rw [if_neg (by decide)]
            exact fin_v hx hb hr hlk hS hP hD () trivial (by rw [hs, htk, hen, hva]; exact eqW.rf _) dX6_nextToken_337
          · have hcj := c_15
            have hcl : 97 ≤ tb (ζ 4 + k + j) ∧ tb (ζ 4 + k + j) ≤ 122 := c_15
            refine lv_aload_n hx hb dX6_nextToken_124 rfl (lv_at hl 0 rfl) ?_
            refine lv_aload_n hx hb dX6_nextToken_125 rfl (lv_at hl 0 rfl) ?_
            refine n_get (C := RX6) (T := TX6) (N := 18) hx hb hts (fun _ h => List.mem_cons_of_mem _ (List.mem_append_right _ h)) hown hK hP 0 rfl rfl 10 (by decide) (List.mem_of_getElem? (i := 5) rfl) rfl (.long (lN (wvN 9999999999999 27 96 (fun i => tb (ζ 4 + k + i)) j))) rfl dX6_nextToken_126 ?_
            refine lv_ldc2 (v := 9999999999999) hx hb hown (hts _ (List.mem_of_getElem? (i := 7) rfl)) dX6_nextToken_129 ?_
            refine n_topl (y := lN 9999999999999) rfl ?_
            refine W.lcmp hx hb dX6_nextToken_132 ?_
            have hlc_16 := lc_all (lN (wvN 9999999999999 27 96 (fun i => tb (ζ 4 + k + i)) j)) (lN 9999999999999)
            rw [pk_lT (show wvN 9999999999999 27 96 (fun i => tb (ζ 4 + k + i)) j < 9223372036854775808 by omega)] at hlc_16
            rw [pk_lT (show 9999999999999 < 9223372036854775808 by omega)] at hlc_16
            refine r_if_le hx hb (tgt := 143) dX6_nextToken_133 (by decide) (fun c_17 => ?_) (fun c_17 => ?_)
            · refine lv_aload_n hx hb dX6_nextToken_143 rfl (lv_at hl 0 rfl) ?_
              refine n_get (C := RX6) (T := TX6) (N := 18) hx hb hts (fun _ h => List.mem_cons_of_mem _ (List.mem_append_right _ h)) hown hK hP 0 rfl rfl 10 (by decide) (List.mem_of_getElem? (i := 5) rfl) rfl (.long (lN (wvN 9999999999999 27 96 (fun i => tb (ζ 4 + k + i)) j))) rfl dX6_nextToken_144 ?_
              refine lv_ldc2 (v := 27) hx hb hown (hts _ (List.mem_of_getElem? (i := 8) rfl)) dX6_nextToken_147 ?_
              refine n_topl (y := lN 27) rfl ?_
              refine lv_lmul hx hb dX6_nextToken_150 ?_
              refine n_topl (y := lN ((wvN 9999999999999 27 96 (fun i => tb (ζ 4 + k + i)) j) * 27)) (lN_mul _ _) ?_
              refine lv_aload_n hx hb dX6_nextToken_151 rfl (lv_at hl 0 rfl) ?_
              refine n_get (C := RX6) (T := TX6) (N := 18) hx hb hts (fun _ h => List.mem_cons_of_mem _ (List.mem_append_right _ h)) hown hK hP 0 rfl rfl 5 (by decide) (List.mem_of_getElem? (i := 4) rfl) rfl (.ref (b 5)) rfl dX6_nextToken_152 ?_
              refine lv_aload_n hx hb dX6_nextToken_155 rfl (lv_at hl 0 rfl) ?_
              refine n_get (C := RX6) (T := TX6) (N := 18) hx hb hts (fun _ h => List.mem_cons_of_mem _ (List.mem_append_right _ h)) hown hK hP 0 rfl rfl 9 (by decide) (List.mem_of_getElem? (i := 1) rfl) rfl (_) rfl dX6_nextToken_156 ?_
              refine n_top (y := (nI (ζ 4 + k + j))) (congrArg nI un_s) ?_
              refine n_iald hx hb hK hP 1 (v := (nI (tb (ζ 4 + k + j)))) rfl (by omega) (by omega) rfl dX6_nextToken_159 ?_
              refine lv_i2l (v := lN (tb (ζ 4 + k + j))) hx hb dX6_nextToken_160 (nI_l (by omega)) ?_
              refine lv_ladd hx hb dX6_nextToken_161 ?_
              refine n_topl (y := lN (((wvN 9999999999999 27 96 (fun i => tb (ζ 4 + k + i)) j) * 27) + (tb (ζ 4 + k + j)))) (lN_add _ _) ?_
              refine lv_ldc2 (v := 96) hx hb hown (hts _ (List.mem_of_getElem? (i := 9) rfl)) dX6_nextToken_162 ?_
              refine n_topl (y := lN 96) rfl ?_
              refine lv_lsub hx hb dX6_nextToken_165 ?_
              refine n_topl (y := lN ((((wvN 9999999999999 27 96 (fun i => tb (ζ 4 + k + i)) j) * 27) + (tb (ζ 4 + k + j))) - 96)) (lN_sub (by omega)) ?_
              refine n_put (C := RX6) (T := TX6) (N := 18) hx hb hts (fun _ h => List.mem_cons_of_mem _ (List.mem_append_right _ h)) tyX6 tyX6_ok nmX6 hown hK hP hD hS 0 rfl rfl 10 (by decide) (List.mem_of_getElem? (i := 5) rfl) rfl rfl (ty := .long) (v := .long (lN ((((wvN 9999999999999 27 96 (fun i => tb (ζ 4 + k + i)) j) * 27) + (tb (ζ 4 + k + j))) - 96))) rfl rfl rfl (Nat.le_of_ble_eq_true rfl) (wn := [mO b (un (un (un ζ 2 1) 3 (ζ 4 + k)) 4 (ζ 4 + k + j)) (lN ((((wvN 9999999999999 27 96 (fun i => tb (ζ 4 + k + i)) j) * 27) + (tb (ζ 4 + k + j))) - 96)), (b 5, .inl (G.2.1, 120, .inl (nF tb)))]) rfl dX6_nextToken_166 (fun H locs hP hD hS => ?_)
              refine lv_aload_n hx hb dX6_nextToken_169 rfl (lv_at hl 0 rfl) ?_
              refine lv_dup hx hb dX6_nextToken_170 rfl ?_
              refine n_get (C := RX6) (T := TX6) (N := 18) hx hb hts (fun _ h => List.mem_cons_of_mem _ (List.mem_append_right _ h)) hown hK hP 0 rfl rfl 9 (by decide) (List.mem_of_getElem? (i := 1) rfl) rfl (_) rfl dX6_nextToken_171 ?_
              refine n_top (y := (nI (ζ 4 + k + j))) (congrArg nI un_s) ?_
              refine lv_iconst (v := nI 1) hx hb dX6_nextToken_174 rfl ?_
              refine n_iadd hx hb dX6_nextToken_175 ?_
              refine n_put (C := RX6) (T := TX6) (N := 18) hx hb hts (fun _ h => List.mem_cons_of_mem _ (List.mem_append_right _ h)) tyX6 tyX6_ok nmX6 hown hK hP hD hS 0 rfl rfl 9 (by decide) (List.mem_of_getElem? (i := 1) rfl) rfl rfl (ty := .int) (v := .int (nI ((ζ 4 + k + j) + 1))) rfl rfl rfl (Nat.le_of_ble_eq_true rfl) (wn := [mO b (un (un (un ζ 2 1) 3 (ζ 4 + k)) 4 ((ζ 4 + k + j) + 1)) (lN ((((wvN 9999999999999 27 96 (fun i => tb (ζ 4 + k + i)) j) * 27) + (tb (ζ 4 + k + j))) - 96)), (b 5, .inl (G.2.1, 120, .inl (nF tb)))]) rfl dX6_nextToken_176 (fun H locs hP hD hS => ?_)
              refine lv_goto (tgt := 98) hx hb dX6_nextToken_179 (by decide) ?_
              have e1 : wvN 9999999999999 27 96 (fun i => tb (ζ 4 + k + i)) (j + 1) = ((((wvN 9999999999999 27 96 (fun i => tb (ζ 4 + k + i)) j) * 27) + (tb (ζ 4 + k + j))) - 96) := by rw [wv_S]; unfold wvS; rw [if_neg (show ¬ 9999999999999 < wvN 9999999999999 27 96 (fun i => tb (ζ 4 + k + i)) j by omega)]; dsimp only; omega
              exact ih1 (j + 1) _ _ _ (by omega) ⟨by omega, run_S hnj (decide_eq_true hcj)⟩ (by rw [e1]; exact hP) (by rw [e1]; exact hD) hS (lv_sub hl [0] rfl)
            · refine lv_aload_n hx hb dX6_nextToken_136 rfl (lv_at hl 0 rfl) ?_
              refine n_get (C := RX6) (T := TX6) (N := 18) hx hb hts (fun _ h => List.mem_cons_of_mem _ (List.mem_append_right _ h)) hown hK hP 0 rfl rfl 10 (by decide) (List.mem_of_getElem? (i := 5) rfl) rfl (.long (lN (wvN 9999999999999 27 96 (fun i => tb (ζ 4 + k + i)) j))) rfl dX6_nextToken_137 ?_
              refine lv_goto (tgt := 166) hx hb dX6_nextToken_140 (by decide) ?_
              refine n_put (C := RX6) (T := TX6) (N := 18) hx hb hts (fun _ h => List.mem_cons_of_mem _ (List.mem_append_right _ h)) tyX6 tyX6_ok nmX6 hown hK hP hD hS 0 rfl rfl 10 (by decide) (List.mem_of_getElem? (i := 5) rfl) rfl rfl (ty := .long) (v := .long (lN (wvN 9999999999999 27 96 (fun i => tb (ζ 4 + k + i)) j))) rfl rfl rfl (Nat.le_of_ble_eq_true rfl) (wn := [mO b (un (un (un ζ 2 1) 3 (ζ 4 + k)) 4 (ζ 4 + k + j)) (lN (wvN 9999999999999 27 96 (fun i => tb (ζ 4 + k + i)) j)), (b 5, .inl (G.2.1, 120, .inl (nF tb)))]) rfl dX6_nextToken_166 (fun H locs hP hD hS => ?_)
              refine lv_aload_n hx hb dX6_nextToken_169 rfl (lv_at hl 0 rfl) ?_
              refine lv_dup hx hb dX6_nextToken_170 rfl ?_
              refine n_get (C := RX6) (T := TX6) (N := 18) hx hb hts (fun _ h => List.mem_cons_of_mem _ (List.mem_append_right _ h)) hown hK hP 0 rfl rfl 9 (by decide) (List.mem_of_getElem? (i := 1) rfl) rfl (_) rfl dX6_nextToken_171 ?_
              refine n_top (y := (nI (ζ 4 + k + j))) (congrArg nI un_s) ?_
              refine lv_iconst (v := nI 1) hx hb dX6_nextToken_174 rfl ?_
              refine n_iadd hx hb dX6_nextToken_175 ?_
              refine n_put (C := RX6) (T := TX6) (N := 18) hx hb hts (fun _ h => List.mem_cons_of_mem _ (List.mem_append_right _ h)) tyX6 tyX6_ok nmX6 hown hK hP hD hS 0 rfl rfl 9 (by decide) (List.mem_of_getElem? (i := 1) rfl) rfl rfl (ty := .int) (v := .int (nI ((ζ 4 + k + j) + 1))) rfl rfl rfl (Nat.le_of_ble_eq_true rfl) (wn := [mO b (un (un (un ζ 2 1) 3 (ζ 4 + k)) 4 ((ζ 4 + k + j) + 1)) (lN (wvN 9999999999999 27 96 (fun i => tb (ζ 4 + k + i)) j)), (b 5, .inl (G.2.1, 120, .inl (nF tb)))]) rfl dX6_nextToken_176 (fun H locs hP hD hS => ?_)
              refine lv_goto (tgt := 98) hx hb dX6_nextToken_179 (by decide) ?_
              have e1 : wvN 9999999999999 27 96 (fun i => tb (ζ 4 + k + i)) (j + 1) = (wvN 9999999999999 27 96 (fun i => tb (ζ 4 + k + i)) j) := by rw [wv_S]; unfold wvS; rw [if_pos (show 9999999999999 < wvN 9999999999999 27 96 (fun i => tb (ζ 4 + k + i)) j by omega)]
              exact ih1 (j + 1) _ _ _ (by omega) ⟨by omega, run_S hnj (decide_eq_true hcj)⟩ (by rw [e1]; exact hP) (by rw [e1]; exact hD) hS (lv_sub hl [0] rfl)
    · refine lv_aload_n hx hb dX6_nextToken_70 rfl (lv_at hl 0 rfl) ?_
      refine lv_iconst (v := nI 0) hx hb dX6_nextToken_71 rfl ?_
      refine n_put (C := RX6) (T := TX6) (N := 18) hx hb hts (fun _ h => List.mem_cons_of_mem _ (List.mem_append_right _ h)) tyX6 tyX6_ok nmX6 hown hK hP hD hS 0 rfl rfl 7 (by decide) (List.mem_of_getElem? (i := 6) rfl) rfl rfl (ty := .int) (v := .int (nI 0)) rfl rfl rfl (Nat.le_of_ble_eq_true rfl) (wn := [mO b (un (un (un ζ 2 0) 3 (ζ 4 + k)) 4 (ζ 4 + k)) (lN 0), (b 5, .inl (G.2.1, 120, .inl (nF tb)))]) rfl dX6_nextToken_72 (fun H locs hP hD hS => ?_)
      refine lv_goto (tgt := 337) hx hb dX6_nextToken_75 (by decide) ?_
      have hty : tyN tb (ζ 1) (ζ 4 + k) = 0 := by unfold tyN; rw [if_pos (by omega)]
      have hen : enN tb (ζ 1) (ζ 4 + k) = ζ 4 + k := by unfold enN; rw [if_pos (by omega)]
      have hva : vaN tb (ζ 1) (ζ 4 + k) = 0 := by unfold vaN; rw [if_pos (by omega)]
      have htk : tkN tb (ζ 1) (ζ 4 + k) = 0 := by unfold tkN; rw [hty]; rw [if_neg (by decide)]
      exact fin_v hx hb hr hlk hS hP hD () trivial (by rw [hs, htk, hen, hva]; exact eqW.rf _) dX6_nextToken_337
  · refine lv_aload_n hx hb dX6_nextToken_19 rfl (lv_at hl 0 rfl) ?_
    refine n_get (C := RX6) (T := TX6) (N := 18) hx hb hts (fun _ h => List.mem_cons_of_mem _ (List.mem_append_right _ h)) hown hK hP 0 rfl rfl 5 (by decide) (List.mem_of_getElem? (i := 4) rfl) rfl (.ref (b 5)) rfl dX6_nextToken_20 ?_
    refine lv_aload_n hx hb dX6_nextToken_23 rfl (lv_at hl 0 rfl) ?_
    refine n_get (C := RX6) (T := TX6) (N := 18) hx hb hts (fun _ h => List.mem_cons_of_mem _ (List.mem_append_right _ h)) hown hK hP 0 rfl rfl 8 (by decide) (List.mem_of_getElem? (i := 2) rfl) rfl (_) rfl dX6_nextToken_24 ?_
    refine n_top (y := (nI (ζ 4 + k))) (congrArg nI un_s) ?_
    have hB1 := htb (ζ 4 + k)
    refine n_iald hx hb hK hP 1 (v := (nI (tb (ζ 4 + k)))) rfl (by omega) (by omega) rfl dX6_nextToken_27 ?_
    refine lv_bipush (v := nI 32) hx hb dX6_nextToken_28 rfl ?_
    refine n_icmp_ne hx hb (by omega) (by omega) (tgt := 46) dX6_nextToken_30 (by decide) (fun c_18 => ?_) (fun c_18 => ?_)
    · have hs : stN tb (ζ 1) (ζ 4) = ζ 4 + k := run_at (q := qS tb) hno (by omega) (decide_eq_false (by omega))
      refine lv_aload_n hx hb dX6_nextToken_46 rfl (lv_at hl 0 rfl) ?_
      refine lv_aload_n hx hb dX6_nextToken_47 rfl (lv_at hl 0 rfl) ?_
      refine n_get (C := RX6) (T := TX6) (N := 18) hx hb hts (fun _ h => List.mem_cons_of_mem _ (List.mem_append_right _ h)) hown hK hP 0 rfl rfl 8 (by decide) (List.mem_of_getElem? (i := 2) rfl) rfl (_) rfl dX6_nextToken_48 ?_
      refine n_top (y := (nI (ζ 4 + k))) (congrArg nI un_s) ?_
      refine n_put (C := RX6) (T := TX6) (N := 18) hx hb hts (fun _ h => List.mem_cons_of_mem _ (List.mem_append_right _ h)) tyX6 tyX6_ok nmX6 hown hK hP hD hS 0 rfl rfl 9 (by decide) (List.mem_of_getElem? (i := 1) rfl) rfl rfl (ty := .int) (v := .int (nI (ζ 4 + k))) rfl rfl rfl (Nat.le_of_ble_eq_true rfl) (wn := [mO b (un (un ζ 3 (ζ 4 + k)) 4 (ζ 4 + k)) vv, (b 5, .inl (G.2.1, 120, .inl (nF tb)))]) rfl dX6_nextToken_51 (fun H locs hP hD hS => ?_)
      refine lv_aload_n hx hb dX6_nextToken_54 rfl (lv_at hl 0 rfl) ?_
      refine lv_lconst (v := lN 0) hx hb dX6_nextToken_55 rfl ?_
      refine n_put (C := RX6) (T := TX6) (N := 18) hx hb hts (fun _ h => List.mem_cons_of_mem _ (List.mem_append_right _ h)) tyX6 tyX6_ok nmX6 hown hK hP hD hS 0 rfl rfl 10 (by decide) (List.mem_of_getElem? (i := 5) rfl) rfl rfl (ty := .long) (v := .long (lN 0)) rfl rfl rfl (Nat.le_of_ble_eq_true rfl) (wn := [mO b (un (un ζ 3 (ζ 4 + k)) 4 (ζ 4 + k)) (lN 0), (b 5, .inl (G.2.1, 120, .inl (nF tb)))]) rfl dX6_nextToken_56 (fun H locs hP hD hS => ?_)
      refine lv_aload_n hx hb dX6_nextToken_59 rfl (lv_at hl 0 rfl) ?_
      refine n_get (C := RX6) (T := TX6) (N := 18) hx hb hts (fun _ h => List.mem_cons_of_mem _ (List.mem_append_right _ h)) hown hK hP 0 rfl rfl 8 (by decide) (List.mem_of_getElem? (i := 2) rfl) rfl (_) rfl dX6_nextToken_60 ?_
      refine n_top (y := (nI (ζ 4 + k))) (congrArg nI (Eq.trans (un_n (by decide)) un_s)) ?_
      refine lv_aload_n hx hb dX6_nextToken_63 rfl (lv_at hl 0 rfl) ?_
      refine n_get (C := RX6) (T := TX6) (N := 18) hx hb hts (fun _ h => List.mem_cons_of_mem _ (List.mem_append_right _ h)) hown hK hP 0 rfl rfl 6 (by decide) (List.mem_of_getElem? (i := 3) rfl) rfl (_) rfl dX6_nextToken_64 ?_
      refine n_top (y := (nI (ζ 1))) (congrArg nI (Eq.trans (un_n (by decide)) (un_n (by decide)))) ?_
      refine n_icmp_ne hx hb (by omega) (by omega) (tgt := 78) dX6_nextToken_67 (by decide) (fun c_19 => ?_) (fun c_19 => ?_)
      · refine lv_aload_n hx hb dX6_nextToken_78 rfl (lv_at hl 0 rfl) ?_
        refine n_get (C := RX6) (T := TX6) (N := 18) hx hb hts (fun _ h => List.mem_cons_of_mem _ (List.mem_append_right _ h)) hown hK hP 0 rfl rfl 5 (by decide) (List.mem_of_getElem? (i := 4) rfl) rfl (.ref (b 5)) rfl dX6_nextToken_79 ?_
        refine lv_aload_n hx hb dX6_nextToken_82 rfl (lv_at hl 0 rfl) ?_
        refine n_get (C := RX6) (T := TX6) (N := 18) hx hb hts (fun _ h => List.mem_cons_of_mem _ (List.mem_append_right _ h)) hown hK hP 0 rfl rfl 8 (by decide) (List.mem_of_getElem? (i := 2) rfl) rfl (_) rfl dX6_nextToken_83 ?_
        refine n_top (y := (nI (ζ 4 + k))) (congrArg nI (Eq.trans (un_n (by decide)) un_s)) ?_
        have hB2 := htb (ζ 4 + k)
        refine n_iald hx hb hK hP 1 (v := (nI (tb (ζ 4 + k)))) rfl (by omega) (by omega) rfl dX6_nextToken_86 ?_
        refine callSI (rest := []) (wn := fun u => [mO b (un (un ζ 3 (ζ 4 + k)) 4 (ζ 4 + k)) (lN 0), (b 5, .inl (G.2.1, 120, .inl (nF tb)))]) ⟨hx, hb, hml, hown, hts⟩ (c_X6_isLetter l G H.size (tb (ζ 4 + k)) (by omega)) (va_cwS 1 hts gX6_nextToken_X6_isLetter rfl rfl rfl (by decide +kernel) ⟨Nat.le_of_ble_eq_true rfl, Nat.le_of_ble_eq_true rfl⟩) noXB (fun _ _ _ => trivial) hK hP hD hS hAq rfl hl.1 rfl (Nat.le_of_ble_eq_true rfl) dX6_nextToken_87 ⟨Nat.le_of_ble_eq_true rfl, Nat.le_of_ble_eq_true rfl⟩ [] rfl rfl [] rfl (fun _ => rfl) (fun _ => rfl) (fun u H locs hok hP hD hS => ?_)
        refine z_if_eq hx hb (tgt := 182) dX6_nextToken_90 (by decide) (fun c_20 => ?_) (fun c_20 => ?_)
        · have hLt := c_20
          refine lv_aload_n hx hb dX6_nextToken_182 rfl (lv_at hl 0 rfl) ?_
          refine n_get (C := RX6) (T := TX6) (N := 18) hx hb hts (fun _ h => List.mem_cons_of_mem _ (List.mem_append_right _ h)) hown hK hP 0 rfl rfl 5 (by decide) (List.mem_of_getElem? (i := 4) rfl) rfl (.ref (b 5)) rfl dX6_nextToken_183 ?_
          refine lv_aload_n hx hb dX6_nextToken_186 rfl (lv_at hl 0 rfl) ?_
          refine n_get (C := RX6) (T := TX6) (N := 18) hx hb hts (fun _ h => List.mem_cons_of_mem _ (List.mem_append_right _ h)) hown hK hP 0 rfl rfl 8 (by decide) (List.mem_of_getElem? (i := 2) rfl) rfl (_) rfl dX6_nextToken_187 ?_
          refine n_top (y := (nI (ζ 4 + k))) (congrArg nI (Eq.trans (un_n (by decide)) un_s)) ?_
          refine n_iald hx hb hK hP 1 (v := (nI (tb (ζ 4 + k)))) rfl (by omega) (by omega) rfl dX6_nextToken_190 ?_
          refine callSI (rest := []) (wn := fun u => [mO b (un (un ζ 3 (ζ 4 + k)) 4 (ζ 4 + k)) (lN 0), (b 5, .inl (G.2.1, 120, .inl (nF tb)))]) ⟨hx, hb, hml, hown, hts⟩ (c_X6_isDigit l G H.size (tb (ζ 4 + k)) (by omega)) (va_cwS 1 hts gX6_nextToken_X6_isDigit rfl rfl rfl (by decide +kernel) ⟨Nat.le_of_ble_eq_true rfl, Nat.le_of_ble_eq_true rfl⟩) noXB (fun _ _ _ => trivial) hK hP hD hS hAq rfl hl.1 rfl (Nat.le_of_ble_eq_true rfl) dX6_nextToken_191 ⟨Nat.le_of_ble_eq_true rfl, Nat.le_of_ble_eq_true rfl⟩ [] rfl rfl [] rfl (fun _ => rfl) (fun _ => rfl) (fun u H locs hok hP hD hS => ?_)
          refine z_if_eq hx hb (tgt := 304) dX6_nextToken_194 (by decide) (fun c_21 => ?_) (fun c_21 => ?_)
          · have hDg := c_21
            refine lv_aload_n hx hb dX6_nextToken_304 rfl (lv_at hl 0 rfl) ?_
            refine lv_aload_n hx hb dX6_nextToken_305 rfl (lv_at hl 0 rfl) ?_
            refine n_get (C := RX6) (T := TX6) (N := 18) hx hb hts (fun _ h => List.mem_cons_of_mem _ (List.mem_append_right _ h)) hown hK hP 0 rfl rfl 5 (by decide) (List.mem_of_getElem? (i := 4) rfl) rfl (.ref (b 5)) rfl dX6_nextToken_306 ?_
            refine lv_aload_n hx hb dX6_nextToken_309 rfl (lv_at hl 0 rfl) ?_
            refine n_get (C := RX6) (T := TX6) (N := 18) hx hb hts (fun _ h => List.mem_cons_of_mem _ (List.mem_append_right _ h)) hown hK hP 0 rfl rfl 8 (by decide) (List.mem_of_getElem? (i := 2) rfl) rfl (_) rfl dX6_nextToken_310 ?_
            refine n_top (y := (nI (ζ 4 + k))) (congrArg nI (Eq.trans (un_n (by decide)) un_s)) ?_
            refine n_iald hx hb hK hP 1 (v := (nI (tb (ζ 4 + k)))) rfl (by omega) (by omega) rfl dX6_nextToken_313 ?_
            refine lv_bipush (v := nI 59) hx hb dX6_nextToken_314 rfl ?_
            refine n_icmp_ne hx hb (by omega) (by omega) (tgt := 323) dX6_nextToken_316 (by decide) (fun c_22 => ?_) (fun c_22 => ?_)
            · refine lv_iconst (v := nI 4) hx hb dX6_nextToken_323 rfl ?_
              refine n_put (C := RX6) (T := TX6) (N := 18) hx hb hts (fun _ h => List.mem_cons_of_mem _ (List.mem_append_right _ h)) tyX6 tyX6_ok nmX6 hown hK hP hD hS 0 rfl rfl 7 (by decide) (List.mem_of_getElem? (i := 6) rfl) rfl rfl (ty := .int) (v := .int (nI 4)) rfl rfl rfl (Nat.le_of_ble_eq_true rfl) (wn := [mO b (un (un (un ζ 2 4) 3 (ζ 4 + k)) 4 (ζ 4 + k)) (lN 0), (b 5, .inl (G.2.1, 120, .inl (nF tb)))]) rfl dX6_nextToken_324 (fun H locs hP hD hS => ?_)
              refine lv_aload_n hx hb dX6_nextToken_327 rfl (lv_at hl 0 rfl) ?_
              refine lv_dup hx hb dX6_nextToken_328 rfl ?_
              refine n_get (C := RX6) (T := TX6) (N := 18) hx hb hts (fun _ h => List.mem_cons_of_mem _ (List.mem_append_right _ h)) hown hK hP 0 rfl rfl 9 (by decide) (List.mem_of_getElem? (i := 1) rfl) rfl (_) rfl dX6_nextToken_329 ?_
              refine n_top (y := (nI (ζ 4 + k))) (congrArg nI un_s) ?_
              refine lv_iconst (v := nI 1) hx hb dX6_nextToken_332 rfl ?_
              refine n_iadd hx hb dX6_nextToken_333 ?_
              refine n_put (C := RX6) (T := TX6) (N := 18) hx hb hts (fun _ h => List.mem_cons_of_mem _ (List.mem_append_right _ h)) tyX6 tyX6_ok nmX6 hown hK hP hD hS 0 rfl rfl 9 (by decide) (List.mem_of_getElem? (i := 1) rfl) rfl rfl (ty := .int) (v := .int (nI ((ζ 4 + k) + 1))) rfl rfl rfl (Nat.le_of_ble_eq_true rfl) (wn := [mO b (un (un (un ζ 2 4) 3 (ζ 4 + k)) 4 ((ζ 4 + k) + 1)) (lN 0), (b 5, .inl (G.2.1, 120, .inl (nF tb)))]) rfl dX6_nextToken_334 (fun H locs hP hD hS => ?_)
              have hty : tyN tb (ζ 1) (ζ 4 + k) = 4 := by unfold tyN; rw [if_neg (by omega), if_neg hLt, if_neg hDg, if_neg (by omega)]
              have hen : enN tb (ζ 1) (ζ 4 + k) = (ζ 4 + k) + 1 := by unfold enN; rw [if_neg (by omega), if_neg hLt, if_neg hDg]
              have hva : vaN tb (ζ 1) (ζ 4 + k) = 0 := by unfold vaN; rw [if_neg (by omega), if_neg hLt, if_neg hDg]
              have htk : tkN tb (ζ 1) (ζ 4 + k) = 4 := by unfold tkN; rw [hty]; rw [if_neg (by decide)]
              exact fin_v hx hb hr hlk hS hP hD () trivial (by rw [hs, htk, hen, hva]; exact eqW.rf _) dX6_nextToken_337
            · refine lv_iconst (v := nI 3) hx hb dX6_nextToken_319 rfl ?_
              refine lv_goto (tgt := 324) hx hb dX6_nextToken_320 (by decide) ?_
              refine n_put (C := RX6) (T := TX6) (N := 18) hx hb hts (fun _ h => List.mem_cons_of_mem _ (List.mem_append_right _ h)) tyX6 tyX6_ok nmX6 hown hK hP hD hS 0 rfl rfl 7 (by decide) (List.mem_of_getElem? (i := 6) rfl) rfl rfl (ty := .int) (v := .int (nI 3)) rfl rfl rfl (Nat.le_of_ble_eq_true rfl) (wn := [mO b (un (un (un ζ 2 3) 3 (ζ 4 + k)) 4 (ζ 4 + k)) (lN 0), (b 5, .inl (G.2.1, 120, .inl (nF tb)))]) rfl dX6_nextToken_324 (fun H locs hP hD hS => ?_)
              refine lv_aload_n hx hb dX6_nextToken_327 rfl (lv_at hl 0 rfl) ?_
              refine lv_dup hx hb dX6_nextToken_328 rfl ?_
              refine n_get (C := RX6) (T := TX6) (N := 18) hx hb hts (fun _ h => List.mem_cons_of_mem _ (List.mem_append_right _ h)) hown hK hP 0 rfl rfl 9 (by decide) (List.mem_of_getElem? (i := 1) rfl) rfl (_) rfl dX6_nextToken_329 ?_
              refine n_top (y := (nI (ζ 4 + k))) (congrArg nI un_s) ?_
              refine lv_iconst (v := nI 1) hx hb dX6_nextToken_332 rfl ?_
              refine n_iadd hx hb dX6_nextToken_333 ?_
              refine n_put (C := RX6) (T := TX6) (N := 18) hx hb hts (fun _ h => List.mem_cons_of_mem _ (List.mem_append_right _ h)) tyX6 tyX6_ok nmX6 hown hK hP hD hS 0 rfl rfl 9 (by decide) (List.mem_of_getElem? (i := 1) rfl) rfl rfl (ty := .int) (v := .int (nI ((ζ 4 + k) + 1))) rfl rfl rfl (Nat.le_of_ble_eq_true rfl) (wn := [mO b (un (un (un ζ 2 3) 3 (ζ 4 + k)) 4 ((ζ 4 + k) + 1)) (lN 0), (b 5, .inl (G.2.1, 120, .inl (nF tb)))]) rfl dX6_nextToken_334 (fun H locs hP hD hS => ?_)
              have hty : tyN tb (ζ 1) (ζ 4 + k) = 3 := by unfold tyN; rw [if_neg (by omega), if_neg hLt, if_neg hDg, if_pos (by omega)]
              have hen : enN tb (ζ 1) (ζ 4 + k) = (ζ 4 + k) + 1 := by unfold enN; rw [if_neg (by omega), if_neg hLt, if_neg hDg]
              have hva : vaN tb (ζ 1) (ζ 4 + k) = 0 := by unfold vaN; rw [if_neg (by omega), if_neg hLt, if_neg hDg]
              have htk : tkN tb (ζ 1) (ζ 4 + k) = 3 := by unfold tkN; rw [hty]; rw [if_neg (by decide)]
              exact fin_v hx hb hr hlk hS hP hD () trivial (by rw [hs, htk, hen, hva]; exact eqW.rf _) dX6_nextToken_337
          · have hDg := c_21
            refine W_loop1 (I := fun (j : Nat) => ζ 4 + k + j ≤ ζ 1 ∧ NoQ (runQ (qD tb) (ζ 4 + k)) j) (wd := fun (j : Nat) => [mO b (un (un ζ 3 (ζ 4 + k)) 4 (ζ 4 + k + j)) (lN (wvN 999 10 48 (fun i => tb (ζ 4 + k + i)) j)), (b 5, .inl (G.2.1, 120, .inl (nF tb)))]) (lv := fun (j : Nat) => [(0, .ref (b 0))]) (μ := fun (j : Nat) => ζ 1 - (ζ 4 + k + j)) ?_ 0 ⟨by omega, NoQ_0⟩ hP hD hS (lv_sub hl [0] rfl)
            intro j H locs ls hI0 hP hD hS hl ih1
            obtain ⟨hj, hnj⟩ := hI0
            have hwv := wvD_le htb (ζ 4 + k) j
            have hB3 := htb (ζ 4 + k + j)
            refine lv_aload_n hx hb dX6_nextToken_197 rfl (lv_at hl 0 rfl) ?_
            refine n_get (C := RX6) (T := TX6) (N := 18) hx hb hts (fun _ h => List.mem_cons_of_mem _ (List.mem_append_right _ h)) hown hK hP 0 rfl rfl 9 (by decide) (List.mem_of_getElem? (i := 1) rfl) rfl (_) rfl dX6_nextToken_198 ?_
            refine n_top (y := (nI (ζ 4 + k + j))) (congrArg nI un_s) ?_
            refine lv_aload_n hx hb dX6_nextToken_201 rfl (lv_at hl 0 rfl) ?_
            refine n_get (C := RX6) (T := TX6) (N := 18) hx hb hts (fun _ h => List.mem_cons_of_mem _ (List.mem_append_right _ h)) hown hK hP 0 rfl rfl 6 (by decide) (List.mem_of_getElem? (i := 3) rfl) rfl (_) rfl dX6_nextToken_202 ?_
            refine n_top (y := (nI (ζ 1))) (congrArg nI (Eq.trans (un_n (by decide)) (un_n (by decide)))) ?_
            refine n_icmp_ge hx hb (by omega) (by omega) (tgt := 281) dX6_nextToken_205 (by decide) (fun c_23 => ?_) (fun c_23 => ?_)
            · have hru : runN (qD tb) (ζ 4 + k) (ζ 1) = ζ 4 + k + j := run_end hnj (by omega)
              refine lv_aload_n hx hb dX6_nextToken_281 rfl (lv_at hl 0 rfl) ?_
              refine lv_aload_n hx hb dX6_nextToken_282 rfl (lv_at hl 0 rfl) ?_
              refine n_get (C := RX6) (T := TX6) (N := 18) hx hb hts (fun _ h => List.mem_cons_of_mem _ (List.mem_append_right _ h)) hown hK hP 0 rfl rfl 10 (by decide) (List.mem_of_getElem? (i := 5) rfl) rfl (.long (lN (wvN 999 10 48 (fun i => tb (ζ 4 + k + i)) j))) rfl dX6_nextToken_283 ?_
              refine lv_ldc2 (v := 999) hx hb hown (hts _ (List.mem_of_getElem? (i := 10) rfl)) dX6_nextToken_286 ?_
              refine n_topl (y := lN 999) rfl ?_
              refine W.lcmp hx hb dX6_nextToken_289 ?_
              have hlc_24 := lc_all (lN (wvN 999 10 48 (fun i => tb (ζ 4 + k + i)) j)) (lN 999)
              rw [pk_lT (show wvN 999 10 48 (fun i => tb (ζ 4 + k + i)) j < 9223372036854775808 by omega)] at hlc_24
              rw [pk_lT (show 999 < 9223372036854775808 by omega)] at hlc_24
              refine r_if_le hx hb (tgt := 297) dX6_nextToken_290 (by decide) (fun c_25 => ?_) (fun c_25 => ?_)
              · refine lv_iconst (v := nI 2) hx hb dX6_nextToken_297 rfl ?_
                refine n_put (C := RX6) (T := TX6) (N := 18) hx hb hts (fun _ h => List.mem_cons_of_mem _ (List.mem_append_right _ h)) tyX6 tyX6_ok nmX6 hown hK hP hD hS 0 rfl rfl 7 (by decide) (List.mem_of_getElem? (i := 6) rfl) rfl rfl (ty := .int) (v := .int (nI 2)) rfl rfl rfl (Nat.le_of_ble_eq_true rfl) (wn := [mO b (un (un (un ζ 2 2) 3 (ζ 4 + k)) 4 (ζ 4 + k + j)) (lN (wvN 999 10 48 (fun i => tb (ζ 4 + k + i)) j)), (b 5, .inl (G.2.1, 120, .inl (nF tb)))]) rfl dX6_nextToken_298 (fun H locs hP hD hS => ?_)
                refine lv_goto (tgt := 337) hx hb dX6_nextToken_301 (by decide) ?_
                have hty : tyN tb (ζ 1) (ζ 4 + k) = 2 := by unfold tyN; rw [if_neg (by omega), if_neg hLt, if_pos hDg]
                have hen : enN tb (ζ 1) (ζ 4 + k) = ζ 4 + k + j := by unfold enN; rw [if_neg (by omega), if_neg hLt, if_pos hDg, hru]
                have hva : vaN tb (ζ 1) (ζ 4 + k) = (wvN 999 10 48 (fun i => tb (ζ 4 + k + i)) j) := by unfold vaN; rw [if_neg (by omega), if_neg hLt, if_pos hDg, hen, show ζ 4 + k + j - (ζ 4 + k) = j by omega]
                have htk : tkN tb (ζ 1) (ζ 4 + k) = 2 := by unfold tkN; rw [hty]; rw [if_pos rfl, hva, if_neg (show ¬ 999 < (wvN 999 10 48 (fun i => tb (ζ 4 + k + i)) j) by omega)]
                exact fin_v hx hb hr hlk hS hP hD () trivial (by rw [hs, htk, hen, hva]; exact eqW.rf _) dX6_nextToken_337
              · refine lv_iconst (v := nI 4) hx hb dX6_nextToken_293 rfl ?_
                refine lv_goto (tgt := 298) hx hb dX6_nextToken_294 (by decide) ?_
                refine n_put (C := RX6) (T := TX6) (N := 18) hx hb hts (fun _ h => List.mem_cons_of_mem _ (List.mem_append_right _ h)) tyX6 tyX6_ok nmX6 hown hK hP hD hS 0 rfl rfl 7 (by decide) (List.mem_of_getElem? (i := 6) rfl) rfl rfl (ty := .int) (v := .int (nI 4)) rfl rfl rfl (Nat.le_of_ble_eq_true rfl) (wn := [mO b (un (un (un ζ 2 4) 3 (ζ 4 + k)) 4 (ζ 4 + k + j)) (lN (wvN 999 10 48 (fun i => tb (ζ 4 + k + i)) j)), (b 5, .inl (G.2.1, 120, .inl (nF tb)))]) rfl dX6_nextToken_298 (fun H locs hP hD hS => ?_)
                refine lv_goto (tgt := 337) hx hb dX6_nextToken_301 (by decide) ?_
                have hty : tyN tb (ζ 1) (ζ 4 + k) = 2 := by unfold tyN; rw [if_neg (by omega), if_neg hLt, if_pos hDg]
                have hen : enN tb (ζ 1) (ζ 4 + k) = ζ 4 + k + j := by unfold enN; rw [if_neg (by omega), if_neg hLt, if_pos hDg, hru]
                have hva : vaN tb (ζ 1) (ζ 4 + k) = (wvN 999 10 48 (fun i => tb (ζ 4 + k + i)) j) := by unfold vaN; rw [if_neg (by omega), if_neg hLt, if_pos hDg, hen, show ζ 4 + k + j - (ζ 4 + k) = j by omega]
                have htk : tkN tb (ζ 1) (ζ 4 + k) = 4 := by unfold tkN; rw [hty]; rw [if_pos rfl, hva, if_pos (show 999 < (wvN 999 10 48 (fun i => tb (ζ 4 + k + i)) j) by omega)]
                exact fin_v hx hb hr hlk hS hP hD () trivial (by rw [hs, htk, hen, hva]; exact eqW.rf _) dX6_nextToken_337
            · refine lv_aload_n hx hb dX6_nextToken_208 rfl (lv_at hl 0 rfl) ?_
              refine n_get (C := RX6) (T := TX6) (N := 18) hx hb hts (fun _ h => List.mem_cons_of_mem _ (List.mem_append_right _ h)) hown hK hP 0 rfl rfl 5 (by decide) (List.mem_of_getElem? (i := 4) rfl) rfl (.ref (b 5)) rfl dX6_nextToken_209 ?_
              refine lv_aload_n hx hb dX6_nextToken_212 rfl (lv_at hl 0 rfl) ?_
              refine n_get (C := RX6) (T := TX6) (N := 18) hx hb hts (fun _ h => List.mem_cons_of_mem _ (List.mem_append_right _ h)) hown hK hP 0 rfl rfl 9 (by decide) (List.mem_of_getElem? (i := 1) rfl) rfl (_) rfl dX6_nextToken_213 ?_
              refine n_top (y := (nI (ζ 4 + k + j))) (congrArg nI un_s) ?_
              refine n_iald hx hb hK hP 1 (v := (nI (tb (ζ 4 + k + j)))) rfl (by omega) (by omega) rfl dX6_nextToken_216 ?_
              refine callSI (rest := []) (wn := fun u => [mO b (un (un ζ 3 (ζ 4 + k)) 4 (ζ 4 + k + j)) (lN (wvN 999 10 48 (fun i => tb (ζ 4 + k + i)) j)), (b 5, .inl (G.2.1, 120, .inl (nF tb)))]) ⟨hx, hb, hml, hown, hts⟩ (c_X6_isDigit l G H.size (tb (ζ 4 + k + j)) (by omega)) (va_cwS 1 hts gX6_nextToken_X6_isDigit rfl rfl rfl (by decide +kernel) ⟨Nat.le_of_ble_eq_true rfl, Nat.le_of_ble_eq_true rfl⟩) noXB (fun _ _ _ => trivial) hK hP hD hS hAq rfl hl.1 rfl (Nat.le_of_ble_eq_true rfl) dX6_nextToken_217 ⟨Nat.le_of_ble_eq_true rfl, Nat.le_of_ble_eq_true rfl⟩ [] rfl rfl [] rfl (fun _ => rfl) (fun _ => rfl) (fun u H locs hok hP hD hS => ?_)
              refine z_if_eq hx hb (tgt := 281) dX6_nextToken_220 (by decide) (fun c_26 => ?_) (fun c_26 => ?_)
              · have hru : runN (qD tb) (ζ 4 + k) (ζ 1) = ζ 4 + k + j := run_at hnj (by omega) (decide_eq_false c_26)
                refine lv_aload_n hx hb dX6_nextToken_281 rfl (lv_at hl 0 rfl) ?_
                refine lv_aload_n hx hb dX6_nextToken_282 rfl (lv_at hl 0 rfl) ?_
                refine n_get (C := RX6) (T := TX6) (N := 18) hx hb hts (fun _ h => List.mem_cons_of_mem _ (List.mem_append_right _ h)) hown hK hP 0 rfl rfl 10 (by decide) (List.mem_of_getElem? (i := 5) rfl) rfl (.long (lN (wvN 999 10 48 (fun i => tb (ζ 4 + k + i)) j))) rfl dX6_nextToken_283 ?_
                refine lv_ldc2 (v := 999) hx hb hown (hts _ (List.mem_of_getElem? (i := 10) rfl)) dX6_nextToken_286 ?_
                refine n_topl (y := lN 999) rfl ?_
                refine W.lcmp hx hb dX6_nextToken_289 ?_
                have hlc_27 := lc_all (lN (wvN 999 10 48 (fun i => tb (ζ 4 + k + i)) j)) (lN 999)
                rw [pk_lT (show wvN 999 10 48 (fun i => tb (ζ 4 + k + i)) j < 9223372036854775808 by omega)] at hlc_27
                rw [pk_lT (show 999 < 9223372036854775808 by omega)] at hlc_27
                refine r_if_le hx hb (tgt := 297) dX6_nextToken_290 (by decide) (fun c_28 => ?_) (fun c_28 => ?_)
                · refine lv_iconst (v := nI 2) hx hb dX6_nextToken_297 rfl ?_
                  refine n_put (C := RX6) (T := TX6) (N := 18) hx hb hts (fun _ h => List.mem_cons_of_mem _ (List.mem_append_right _ h)) tyX6 tyX6_ok nmX6 hown hK hP hD hS 0 rfl rfl 7 (by decide) (List.mem_of_getElem? (i := 6) rfl) rfl rfl (ty := .int) (v := .int (nI 2)) rfl rfl rfl (Nat.le_of_ble_eq_true rfl) (wn := [mO b (un (un (un ζ 2 2) 3 (ζ 4 + k)) 4 (ζ 4 + k + j)) (lN (wvN 999 10 48 (fun i => tb (ζ 4 + k + i)) j)), (b 5, .inl (G.2.1, 120, .inl (nF tb)))]) rfl dX6_nextToken_298 (fun H locs hP hD hS => ?_)
                  refine lv_goto (tgt := 337) hx hb dX6_nextToken_301 (by decide) ?_
                  have hty : tyN tb (ζ 1) (ζ 4 + k) = 2 := by unfold tyN; rw [if_neg (by omega), if_neg hLt, if_pos hDg]
                  have hen : enN tb (ζ 1) (ζ 4 + k) = ζ 4 + k + j := by unfold enN; rw [if_neg (by omega), if_neg hLt, if_pos hDg, hru]
                  have hva : vaN tb (ζ 1) (ζ 4 + k) = (wvN 999 10 48 (fun i => tb (ζ 4 + k + i)) j) := by unfold vaN; rw [if_neg (by omega), if_neg hLt, if_pos hDg, hen, show ζ 4 + k + j - (ζ 4 + k) = j by omega]
                  have htk : tkN tb (ζ 1) (ζ 4 + k) = 2 := by unfold tkN; rw [hty]; rw [if_pos rfl, hva, if_neg (show ¬ 999 < (wvN 999 10 48 (fun i => tb (ζ 4 + k + i)) j) by omega)]
                  exact fin_v hx hb hr hlk hS hP hD () trivial (by rw [hs, htk, hen, hva]; exact eqW.rf _) dX6_nextToken_337
                · refine lv_iconst (v := nI 4) hx hb dX6_nextToken_293 rfl ?_
                  refine lv_goto (tgt := 298) hx hb dX6_nextToken_294 (by decide) ?_
                  refine n_put (C := RX6) (T := TX6) (N := 18) hx hb hts (fun _ h => List.mem_cons_of_mem _ (List.mem_append_right _ h)) tyX6 tyX6_ok nmX6 hown hK hP hD hS 0 rfl rfl 7 (by decide) (List.mem_of_getElem? (i := 6) rfl) rfl rfl (ty := .int) (v := .int (nI 4)) rfl rfl rfl (Nat.le_of_ble_eq_true rfl) (wn := [mO b (un (un (un ζ 2 4) 3 (ζ 4 + k)) 4 (ζ 4 + k + j)) (lN (wvN 999 10 48 (fun i => tb (ζ 4 + k + i)) j)), (b 5, .inl (G.2.1, 120, .inl (nF tb)))]) rfl dX6_nextToken_298 (fun H locs hP hD hS => ?_)
                  refine lv_goto (tgt := 337) hx hb dX6_nextToken_301 (by decide) ?_
                  have hty : tyN tb (ζ 1) (ζ 4 + k) = 2 := by unfold tyN; rw [if_neg (by omega), if_neg hLt, if_pos hDg]
                  have hen : enN tb (ζ 1) (ζ 4 + k) = ζ 4 + k + j := by unfold enN; rw [if_neg (by omega), if_neg hLt, if_pos hDg, hru]
                  have hva : vaN tb (ζ 1) (ζ 4 + k) = (wvN 999 10 48 (fun i => tb (ζ 4 + k + i)) j) := by unfold vaN; rw [if_neg (by omega), if_neg hLt, if_pos hDg, hen, show ζ 4 + k + j - (ζ 4 + k) = j by omega]
                  have htk : tkN tb (ζ 1) (ζ 4 + k) = 4 := by unfold tkN; rw [hty]; rw [if_pos rfl, hva, if_pos (show 999 < (wvN 999 10 48 (fun i => tb (ζ 4 + k + i)) j) by omega)]
                  exact fin_v hx hb hr hlk hS hP hD () trivial (by rw [hs, htk, hen, hva]; exact eqW.rf _) dX6_nextToken_337
              · have hcj := c_26
                have hcd : 48 ≤ tb (ζ 4 + k + j) ∧ tb (ζ 4 + k + j) ≤ 57 := c_26
                refine lv_aload_n hx hb dX6_nextToken_223 rfl (lv_at hl 0 rfl) ?_
                refine lv_aload_n hx hb dX6_nextToken_224 rfl (lv_at hl 0 rfl) ?_
                refine n_get (C := RX6) (T := TX6) (N := 18) hx hb hts (fun _ h => List.mem_cons_of_mem _ (List.mem_append_right _ h)) hown hK hP 0 rfl rfl 10 (by decide) (List.mem_of_getElem? (i := 5) rfl) rfl (.long (lN (wvN 999 10 48 (fun i => tb (ζ 4 + k + i)) j))) rfl dX6_nextToken_225 ?_
                refine lv_ldc2 (v := 999) hx hb hown (hts _ (List.mem_of_getElem? (i := 10) rfl)) dX6_nextToken_228 ?_
                refine n_topl (y := lN 999) rfl ?_
                refine W.lcmp hx hb dX6_nextToken_231 ?_
                have hlc_29 := lc_all (lN (wvN 999 10 48 (fun i => tb (ζ 4 + k + i)) j)) (lN 999)
                rw [pk_lT (show wvN 999 10 48 (fun i => tb (ζ 4 + k + i)) j < 9223372036854775808 by omega)] at hlc_29
                rw [pk_lT (show 999 < 9223372036854775808 by omega)] at hlc_29
                refine r_if_le hx hb (tgt := 242) dX6_nextToken_232 (by decide) (fun c_30 => ?_) (fun c_30 => ?_)
                · refine lv_aload_n hx hb dX6_nextToken_242 rfl (lv_at hl 0 rfl) ?_
                  refine n_get (C := RX6) (T := TX6) (N := 18) hx hb hts (fun _ h => List.mem_cons_of_mem _ (List.mem_append_right _ h)) hown hK hP 0 rfl rfl 10 (by decide) (List.mem_of_getElem? (i := 5) rfl) rfl (.long (lN (wvN 999 10 48 (fun i => tb (ζ 4 + k + i)) j))) rfl dX6_nextToken_243 ?_
                  refine lv_ldc2 (v := 10) hx hb hown (hts _ (List.mem_of_getElem? (i := 11) rfl)) dX6_nextToken_246 ?_
                  refine n_topl (y := lN 10) rfl ?_
                  refine lv_lmul hx hb dX6_nextToken_249 ?_
                  refine n_topl (y := lN ((wvN 999 10 48 (fun i => tb (ζ 4 + k + i)) j) * 10)) (lN_mul _ _) ?_
                  refine lv_aload_n hx hb dX6_nextToken_250 rfl (lv_at hl 0 rfl) ?_
                  refine n_get (C := RX6) (T := TX6) (N := 18) hx hb hts (fun _ h => List.mem_cons_of_mem _ (List.mem_append_right _ h)) hown hK hP 0 rfl rfl 5 (by decide) (List.mem_of_getElem? (i := 4) rfl) rfl (.ref (b 5)) rfl dX6_nextToken_251 ?_
                  refine lv_aload_n hx hb dX6_nextToken_254 rfl (lv_at hl 0 rfl) ?_
                  refine n_get (C := RX6) (T := TX6) (N := 18) hx hb hts (fun _ h => List.mem_cons_of_mem _ (List.mem_append_right _ h)) hown hK hP 0 rfl rfl 9 (by decide) (List.mem_of_getElem? (i := 1) rfl) rfl (_) rfl dX6_nextToken_255 ?_
                  refine n_top (y := (nI (ζ 4 + k + j))) (congrArg nI un_s) ?_
                  refine n_iald hx hb hK hP 1 (v := (nI (tb (ζ 4 + k + j)))) rfl (by omega) (by omega) rfl dX6_nextToken_258 ?_
                  refine lv_i2l (v := lN (tb (ζ 4 + k + j))) hx hb dX6_nextToken_259 (nI_l (by omega)) ?_
                  refine lv_ladd hx hb dX6_nextToken_260 ?_
                  refine n_topl (y := lN (((wvN 999 10 48 (fun i => tb (ζ 4 + k + i)) j) * 10) + (tb (ζ 4 + k + j)))) (lN_add _ _) ?_
                  refine lv_ldc2 (v := 48) hx hb hown (hts _ (List.mem_of_getElem? (i := 12) rfl)) dX6_nextToken_261 ?_
                  refine n_topl (y := lN 48) rfl ?_
                  refine lv_lsub hx hb dX6_nextToken_264 ?_
                  refine n_topl (y := lN ((((wvN 999 10 48 (fun i => tb (ζ 4 + k + i)) j) * 10) + (tb (ζ 4 + k + j))) - 48)) (lN_sub (by omega)) ?_
                  refine n_put (C := RX6) (T := TX6) (N := 18) hx hb hts (fun _ h => List.mem_cons_of_mem _ (List.mem_append_right _ h)) tyX6 tyX6_ok nmX6 hown hK hP hD hS 0 rfl rfl 10 (by decide) (List.mem_of_getElem? (i := 5) rfl) rfl rfl (ty := .long) (v := .long (lN ((((wvN 999 10 48 (fun i => tb (ζ 4 + k + i)) j) * 10) + (tb (ζ 4 + k + j))) - 48))) rfl rfl rfl (Nat.le_of_ble_eq_true rfl) (wn := [mO b (un (un ζ 3 (ζ 4 + k)) 4 (ζ 4 + k + j)) (lN ((((wvN 999 10 48 (fun i => tb (ζ 4 + k + i)) j) * 10) + (tb (ζ 4 + k + j))) - 48)), (b 5, .inl (G.2.1, 120, .inl (nF tb)))]) rfl dX6_nextToken_265 (fun H locs hP hD hS => ?_)
                  refine lv_aload_n hx hb dX6_nextToken_268 rfl (lv_at hl 0 rfl) ?_
                  refine lv_dup hx hb dX6_nextToken_269 rfl ?_
                  refine n_get (C := RX6) (T := TX6) (N := 18) hx hb hts (fun _ h => List.mem_cons_of_mem _ (List.mem_append_right _ h)) hown hK hP 0 rfl rfl 9 (by decide) (List.mem_of_getElem? (i := 1) rfl) rfl (_) rfl dX6_nextToken_270 ?_
                  refine n_top (y := (nI (ζ 4 + k + j))) (congrArg nI un_s) ?_
                  refine lv_iconst (v := nI 1) hx hb dX6_nextToken_273 rfl ?_
                  refine n_iadd hx hb dX6_nextToken_274 ?_
                  refine n_put (C := RX6) (T := TX6) (N := 18) hx hb hts (fun _ h => List.mem_cons_of_mem _ (List.mem_append_right _ h)) tyX6 tyX6_ok nmX6 hown hK hP hD hS 0 rfl rfl 9 (by decide) (List.mem_of_getElem? (i := 1) rfl) rfl rfl (ty := .int) (v := .int (nI ((ζ 4 + k + j) + 1))) rfl rfl rfl (Nat.le_of_ble_eq_true rfl) (wn := [mO b (un (un ζ 3 (ζ 4 + k)) 4 ((ζ 4 + k + j) + 1)) (lN ((((wvN 999 10 48 (fun i => tb (ζ 4 + k + i)) j) * 10) + (tb (ζ 4 + k + j))) - 48)), (b 5, .inl (G.2.1, 120, .inl (nF tb)))]) rfl dX6_nextToken_275 (fun H locs hP hD hS => ?_)
                  refine lv_goto (tgt := 197) hx hb dX6_nextToken_278 (by decide) ?_
                  have e1 : wvN 999 10 48 (fun i => tb (ζ 4 + k + i)) (j + 1) = ((((wvN 999 10 48 (fun i => tb (ζ 4 + k + i)) j) * 10) + (tb (ζ 4 + k + j))) - 48) := by rw [wv_S]; unfold wvS; rw [if_neg (show ¬ 999 < wvN 999 10 48 (fun i => tb (ζ 4 + k + i)) j by omega)]; dsimp only; omega
                  exact ih1 (j + 1) _ _ _ (by omega) ⟨by omega, run_S hnj (decide_eq_true hcj)⟩ (by rw [e1]; exact hP) (by rw [e1]; exact hD) hS (lv_sub hl [0] rfl)
                · refine lv_aload_n hx hb dX6_nextToken_235 rfl (lv_at hl 0 rfl) ?_
                  refine n_get (C := RX6) (T := TX6) (N := 18) hx hb hts (fun _ h => List.mem_cons_of_mem _ (List.mem_append_right _ h)) hown hK hP 0 rfl rfl 10 (by decide) (List.mem_of_getElem? (i := 5) rfl) rfl (.long (lN (wvN 999 10 48 (fun i => tb (ζ 4 + k + i)) j))) rfl dX6_nextToken_236 ?_
                  refine lv_goto (tgt := 265) hx hb dX6_nextToken_239 (by decide) ?_
                  refine n_put (C := RX6) (T := TX6) (N := 18) hx hb hts (fun _ h => List.mem_cons_of_mem _ (List.mem_append_right _ h)) tyX6 tyX6_ok nmX6 hown hK hP hD hS 0 rfl rfl 10 (by decide) (List.mem_of_getElem? (i := 5) rfl) rfl rfl (ty := .long) (v := .long (lN (wvN 999 10 48 (fun i => tb (ζ 4 + k + i)) j))) rfl rfl rfl (Nat.le_of_ble_eq_true rfl) (wn := [mO b (un (un ζ 3 (ζ 4 + k)) 4 (ζ 4 + k + j)) (lN (wvN 999 10 48 (fun i => tb (ζ 4 + k + i)) j)), (b 5, .inl (G.2.1, 120, .inl (nF tb)))]) rfl dX6_nextToken_265 (fun H locs hP hD hS => ?_)
                  refine lv_aload_n hx hb dX6_nextToken_268 rfl (lv_at hl 0 rfl) ?_
                  refine lv_dup hx hb dX6_nextToken_269 rfl ?_
                  refine n_get (C := RX6) (T := TX6) (N := 18) hx hb hts (fun _ h => List.mem_cons_of_mem _ (List.mem_append_right _ h)) hown hK hP 0 rfl rfl 9 (by decide) (List.mem_of_getElem? (i := 1) rfl) rfl (_) rfl dX6_nextToken_270 ?_
                  refine n_top (y := (nI (ζ 4 + k + j))) (congrArg nI un_s) ?_
                  refine lv_iconst (v := nI 1) hx hb dX6_nextToken_273 rfl ?_
                  refine n_iadd hx hb dX6_nextToken_274 ?_
                  refine n_put (C := RX6) (T := TX6) (N := 18) hx hb hts (fun _ h => List.mem_cons_of_mem _ (List.mem_append_right _ h)) tyX6 tyX6_ok nmX6 hown hK hP hD hS 0 rfl rfl 9 (by decide) (List.mem_of_getElem? (i := 1) rfl) rfl rfl (ty := .int) (v := .int (nI ((ζ 4 + k + j) + 1))) rfl rfl rfl (Nat.le_of_ble_eq_true rfl) (wn := [mO b (un (un ζ 3 (ζ 4 + k)) 4 ((ζ 4 + k + j) + 1)) (lN (wvN 999 10 48 (fun i => tb (ζ 4 + k + i)) j)), (b 5, .inl (G.2.1, 120, .inl (nF tb)))]) rfl dX6_nextToken_275 (fun H locs hP hD hS => ?_)
                  refine lv_goto (tgt := 197) hx hb dX6_nextToken_278 (by decide) ?_
                  have e1 : wvN 999 10 48 (fun i => tb (ζ 4 + k + i)) (j + 1) = (wvN 999 10 48 (fun i => tb (ζ 4 + k + i)) j) := by rw [wv_S]; unfold wvS; rw [if_pos (show 999 < wvN 999 10 48 (fun i => tb (ζ 4 + k + i)) j by omega)]
                  exact ih1 (j + 1) _ _ _ (by omega) ⟨by omega, run_S hnj (decide_eq_true hcj)⟩ (by rw [e1]; exact hP) (by rw [e1]; exact hD) hS (lv_sub hl [0] rfl)
        · have hLt := c_20
          refine lv_aload_n hx hb dX6_nextToken_93 rfl (lv_at hl 0 rfl) ?_
          refine lv_iconst (v := nI 1) hx hb dX6_nextToken_94 rfl ?_
          refine n_put (C := RX6) (T := TX6) (N := 18) hx hb hts (fun _ h => List.mem_cons_of_mem _ (List.mem_append_right _ h)) tyX6 tyX6_ok nmX6 hown hK hP hD hS 0 rfl rfl 7 (by decide) (List.mem_of_getElem? (i := 6) rfl) rfl rfl (ty := .int) (v := .int (nI 1)) rfl rfl rfl (Nat.le_of_ble_eq_true rfl) (wn := [mO b (un (un (un ζ 2 1) 3 (ζ 4 + k)) 4 (ζ 4 + k)) (lN 0), (b 5, .inl (G.2.1, 120, .inl (nF tb)))]) rfl dX6_nextToken_95 (fun H locs hP hD hS => ?_)
          refine W_loop1 (I := fun (j : Nat) => ζ 4 + k + j ≤ ζ 1 ∧ NoQ (runQ (qL tb) (ζ 4 + k)) j) (wd := fun (j : Nat) => [mO b (un (un (un ζ 2 1) 3 (ζ 4 + k)) 4 (ζ 4 + k + j)) (lN (wvN 9999999999999 27 96 (fun i => tb (ζ 4 + k + i)) j)), (b 5, .inl (G.2.1, 120, .inl (nF tb)))]) (lv := fun (j : Nat) => [(0, .ref (b 0))]) (μ := fun (j : Nat) => ζ 1 - (ζ 4 + k + j)) ?_ 0 ⟨by omega, NoQ_0⟩ hP hD hS (lv_sub hl [0] rfl)
          intro j H locs ls hI0 hP hD hS hl ih1
          obtain ⟨hj, hnj⟩ := hI0
          have hwv := wvL_le htb (ζ 4 + k) j
          have hB3 := htb (ζ 4 + k + j)
          refine lv_aload_n hx hb dX6_nextToken_98 rfl (lv_at hl 0 rfl) ?_
          refine n_get (C := RX6) (T := TX6) (N := 18) hx hb hts (fun _ h => List.mem_cons_of_mem _ (List.mem_append_right _ h)) hown hK hP 0 rfl rfl 9 (by decide) (List.mem_of_getElem? (i := 1) rfl) rfl (_) rfl dX6_nextToken_99 ?_
          refine n_top (y := (nI (ζ 4 + k + j))) (congrArg nI un_s) ?_
          refine lv_aload_n hx hb dX6_nextToken_102 rfl (lv_at hl 0 rfl) ?_
          refine n_get (C := RX6) (T := TX6) (N := 18) hx hb hts (fun _ h => List.mem_cons_of_mem _ (List.mem_append_right _ h)) hown hK hP 0 rfl rfl 6 (by decide) (List.mem_of_getElem? (i := 3) rfl) rfl (_) rfl dX6_nextToken_103 ?_
          refine n_top (y := (nI (ζ 1))) (congrArg nI (Eq.trans (un_n (by decide)) (Eq.trans (un_n (by decide)) (un_n (by decide))))) ?_
          refine n_icmp_ge hx hb (by omega) (by omega) (tgt := 337) dX6_nextToken_106 (by decide) (fun c_31 => ?_) (fun c_31 => ?_)
          · have hru : runN (qL tb) (ζ 4 + k) (ζ 1) = ζ 4 + k + j := run_end hnj (by omega)
            have hty : tyN tb (ζ 1) (ζ 4 + k) = 1 := by unfold tyN; rw [if_neg (by omega), if_pos hLt]
            have hen : enN tb (ζ 1) (ζ 4 + k) = ζ 4 + k + j := by unfold enN; rw [if_neg (by omega), if_pos hLt, hru]
            have hva : vaN tb (ζ 1) (ζ 4 + k) = (wvN 9999999999999 27 96 (fun i => tb (ζ 4 + k + i)) j) := by unfold vaN; rw [if_neg (by omega), if_pos hLt, hen, show ζ 4 + k + j - (ζ 4 + k) = j by omega]
            have htk : tkN tb (ζ 1) (ζ 4 + k) = 1 := by unfold tkN; rw [hty]; rw [if_neg (by decide)]
            exact fin_v hx hb hr hlk hS hP hD () trivial (by rw [hs, htk, hen, hva]; exact eqW.rf _) dX6_nextToken_337
          · refine lv_aload_n hx hb dX6_nextToken_109 rfl (lv_at hl 0 rfl) ?_
            refine n_get (C := RX6) (T := TX6) (N := 18) hx hb hts (fun _ h => List.mem_cons_of_mem _ (List.mem_append_right _ h)) hown hK hP 0 rfl rfl 5 (by decide) (List.mem_of_getElem? (i := 4) rfl) rfl (.ref (b 5)) rfl dX6_nextToken_110 ?_
            refine lv_aload_n hx hb dX6_nextToken_113 rfl (lv_at hl 0 rfl) ?_
            refine n_get (C := RX6) (T := TX6) (N := 18) hx hb hts (fun _ h => List.mem_cons_of_mem _ (List.mem_append_right _ h)) hown hK hP 0 rfl rfl 9 (by decide) (List.mem_of_getElem? (i := 1) rfl) rfl (_) rfl dX6_nextToken_114 ?_
            refine n_top (y := (nI (ζ 4 + k + j))) (congrArg nI un_s) ?_
            refine n_iald hx hb hK hP 1 (v := (nI (tb (ζ 4 + k + j)))) rfl (by omega) (by omega) rfl dX6_nextToken_117 ?_
            refine callSI (rest := []) (wn := fun u => [mO b (un (un (un ζ 2 1) 3 (ζ 4 + k)) 4 (ζ 4 + k + j)) (lN (wvN 9999999999999 27 96 (fun i => tb (ζ 4 + k + i)) j)), (b 5, .inl (G.2.1, 120, .inl (nF tb)))]) ⟨hx, hb, hml, hown, hts⟩ (c_X6_isLetter l G H.size (tb (ζ 4 + k + j)) (by omega)) (va_cwS 1 hts gX6_nextToken_X6_isLetter rfl rfl rfl (by decide +kernel) ⟨Nat.le_of_ble_eq_true rfl, Nat.le_of_ble_eq_true rfl⟩) noXB (fun _ _ _ => trivial) hK hP hD hS hAq rfl hl.1 rfl (Nat.le_of_ble_eq_true rfl) dX6_nextToken_118 ⟨Nat.le_of_ble_eq_true rfl, Nat.le_of_ble_eq_true rfl⟩ [] rfl rfl [] rfl (fun _ => rfl) (fun _ => rfl) (fun u H locs hok hP hD hS => ?_)
            refine z_if_eq hx hb (tgt := 337) dX6_nextToken_121 (by decide) (fun c_32 => ?_) (fun c_32 => ?_)
            · have hru : runN (qL tb) (ζ 4 + k) (ζ 1) = ζ 4 + k + j := run_at hnj (by omega) (decide_eq_false c_32)
              have hty : tyN tb (ζ 1) (ζ 4 + k) = 1 := by unfold tyN; rw [if_neg (by omega), if_pos hLt]
              have hen : enN tb (ζ 1) (ζ 4 + k) = ζ 4 + k + j := by unfold enN; rw [if_neg (by omega), if_pos hLt, hru]
              have hva : vaN tb (ζ 1) (ζ 4 + k) = (wvN 9999999999999 27 96 (fun i => tb (ζ 4 + k + i)) j) := by unfold vaN; rw [if_neg (by omega), if_pos hLt, hen, show ζ 4 + k + j - (ζ 4 + k) = j by omega]
              have htk : tkN tb (ζ 1) (ζ 4 + k) = 1 := by unfold tkN; rw [hty]; rw [if_neg (by decide)]
              exact fin_v hx hb hr hlk hS hP hD () trivial (by rw [hs, htk, hen, hva]; exact eqW.rf _) dX6_nextToken_337
            · have hcj := c_32
              have hcl : 97 ≤ tb (ζ 4 + k + j) ∧ tb (ζ 4 + k + j) ≤ 122 := c_32
              refine lv_aload_n hx hb dX6_nextToken_124 rfl (lv_at hl 0 rfl) ?_
              refine lv_aload_n hx hb dX6_nextToken_125 rfl (lv_at hl 0 rfl) ?_
              refine n_get (C := RX6) (T := TX6) (N := 18) hx hb hts (fun _ h => List.mem_cons_of_mem _ (List.mem_append_right _ h)) hown hK hP 0 rfl rfl 10 (by decide) (List.mem_of_getElem? (i := 5) rfl) rfl (.long (lN (wvN 9999999999999 27 96 (fun i => tb (ζ 4 + k + i)) j))) rfl dX6_nextToken_126 ?_
              refine lv_ldc2 (v := 9999999999999) hx hb hown (hts _ (List.mem_of_getElem? (i := 7) rfl)) dX6_nextToken_129 ?_
              refine n_topl (y := lN 9999999999999) rfl ?_
              refine W.lcmp hx hb dX6_nextToken_132 ?_
              have hlc_33 := lc_all (lN (wvN 9999999999999 27 96 (fun i => tb (ζ 4 + k + i)) j)) (lN 9999999999999)
              rw [pk_lT (show wvN 9999999999999 27 96 (fun i => tb (ζ 4 + k + i)) j < 9223372036854775808 by omega)] at hlc_33
              rw [pk_lT (show 9999999999999 < 9223372036854775808 by omega)] at hlc_33
              refine r_if_le hx hb (tgt := 143) dX6_nextToken_133 (by decide) (fun c_34 => ?_) (fun c_34 => ?_)
              · refine lv_aload_n hx hb dX6_nextToken_143 rfl (lv_at hl 0 rfl) ?_
                refine n_get (C := RX6) (T := TX6) (N := 18) hx hb hts (fun _ h => List.mem_cons_of_mem _ (List.mem_append_right _ h)) hown hK hP 0 rfl rfl 10 (by decide) (List.mem_of_getElem? (i := 5) rfl) rfl (.long (lN (wvN 9999999999999 27 96 (fun i => tb (ζ 4 + k + i)) j))) rfl dX6_nextToken_144 ?_
                refine lv_ldc2 (v := 27) hx hb hown (hts _ (List.mem_of_getElem? (i := 8) rfl)) dX6_nextToken_147 ?_
                refine n_topl (y := lN 27) rfl ?_
                refine lv_lmul hx hb dX6_nextToken_150 ?_
                refine n_topl (y := lN ((wvN 9999999999999 27 96 (fun i => tb (ζ 4 + k + i)) j) * 27)) (lN_mul _ _) ?_
                refine lv_aload_n hx hb dX6_nextToken_151 rfl (lv_at hl 0 rfl) ?_
                refine n_get (C := RX6) (T := TX6) (N := 18) hx hb hts (fun _ h => List.mem_cons_of_mem _ (List.mem_append_right _ h)) hown hK hP 0 rfl rfl 5 (by decide) (List.mem_of_getElem? (i := 4) rfl) rfl (.ref (b 5)) rfl dX6_nextToken_152 ?_
                refine lv_aload_n hx hb dX6_nextToken_155 rfl (lv_at hl 0 rfl) ?_
                refine n_get (C := RX6) (T := TX6) (N := 18) hx hb hts (fun _ h => List.mem_cons_of_mem _ (List.mem_append_right _ h)) hown hK hP 0 rfl rfl 9 (by decide) (List.mem_of_getElem? (i := 1) rfl) rfl (_) rfl dX6_nextToken_156 ?_
                refine n_top (y := (nI (ζ 4 + k + j))) (congrArg nI un_s) ?_
                refine n_iald hx hb hK hP 1 (v := (nI (tb (ζ 4 + k + j)))) rfl (by omega) (by omega) rfl dX6_nextToken_159 ?_
                refine lv_i2l (v := lN (tb (ζ 4 + k + j))) hx hb dX6_nextToken_160 (nI_l (by omega)) ?_
                refine lv_ladd hx hb dX6_nextToken_161 ?_
                refine n_topl (y := lN (((wvN 9999999999999 27 96 (fun i => tb (ζ 4 + k + i)) j) * 27) + (tb (ζ 4 + k + j)))) (lN_add _ _) ?_
                refine lv_ldc2 (v := 96) hx hb hown (hts _ (List.mem_of_getElem? (i := 9) rfl)) dX6_nextToken_162 ?_
                refine n_topl (y := lN 96) rfl ?_
                refine lv_lsub hx hb dX6_nextToken_165 ?_
                refine n_topl (y := lN ((((wvN 9999999999999 27 96 (fun i => tb (ζ 4 + k + i)) j) * 27) + (tb (ζ 4 + k + j))) - 96)) (lN_sub (by omega)) ?_
                refine n_put (C := RX6) (T := TX6) (N := 18) hx hb hts (fun _ h => List.mem_cons_of_mem _ (List.mem_append_right _ h)) tyX6 tyX6_ok nmX6 hown hK hP hD hS 0 rfl rfl 10 (by decide) (List.mem_of_getElem? (i := 5) rfl) rfl rfl (ty := .long) (v := .long (lN ((((wvN 9999999999999 27 96 (fun i => tb (ζ 4 + k + i)) j) * 27) + (tb (ζ 4 + k + j))) - 96))) rfl rfl rfl (Nat.le_of_ble_eq_true rfl) (wn := [mO b (un (un (un ζ 2 1) 3 (ζ 4 + k)) 4 (ζ 4 + k + j)) (lN ((((wvN 9999999999999 27 96 (fun i => tb (ζ 4 + k + i)) j) * 27) + (tb (ζ 4 + k + j))) - 96)), (b 5, .inl (G.2.1, 120, .inl (nF tb)))]) rfl dX6_nextToken_166 (fun H locs hP hD hS => ?_)
                refine lv_aload_n hx hb dX6_nextToken_169 rfl (lv_at hl 0 rfl) ?_
                refine lv_dup hx hb dX6_nextToken_170 rfl ?_
                refine n_get (C := RX6) (T := TX6) (N := 18) hx hb hts (fun _ h => List.mem_cons_of_mem _ (List.mem_append_right _ h)) hown hK hP 0 rfl rfl 9 (by decide) (List.mem_of_getElem? (i := 1) rfl) rfl (_) rfl dX6_nextToken_171 ?_
                refine n_top (y := (nI (ζ 4 + k + j))) (congrArg nI un_s) ?_
                refine lv_iconst (v := nI 1) hx hb dX6_nextToken_174 rfl ?_
                refine n_iadd hx hb dX6_nextToken_175 ?_
                refine n_put (C := RX6) (T := TX6) (N := 18) hx hb hts (fun _ h => List.mem_cons_of_mem _ (List.mem_append_right _ h)) tyX6 tyX6_ok nmX6 hown hK hP hD hS 0 rfl rfl 9 (by decide) (List.mem_of_getElem? (i := 1) rfl) rfl rfl (ty := .int) (v := .int (nI ((ζ 4 + k + j) + 1))) rfl rfl rfl (Nat.le_of_ble_eq_true rfl) (wn := [mO b (un (un (un ζ 2 1) 3 (ζ 4 + k)) 4 ((ζ 4 + k + j) + 1)) (lN ((((wvN 9999999999999 27 96 (fun i => tb (ζ 4 + k + i)) j) * 27) + (tb (ζ 4 + k + j))) - 96)), (b 5, .inl (G.2.1, 120, .inl (nF tb)))]) rfl dX6_nextToken_176 (fun H locs hP hD hS => ?_)
                refine lv_goto (tgt := 98) hx hb dX6_nextToken_179 (by decide) ?_
                have e1 : wvN 9999999999999 27 96 (fun i => tb (ζ 4 + k + i)) (j + 1) = ((((wvN 9999999999999 27 96 (fun i => tb (ζ 4 + k + i)) j) * 27) + (tb (ζ 4 + k + j))) - 96) := by rw [wv_S]; unfold wvS; rw [if_neg (show ¬ 9999999999999 < wvN 9999999999999 27 96 (fun i => tb (ζ 4 + k + i)) j by omega)]; dsimp only; omega
                exact ih1 (j + 1) _ _ _ (by omega) ⟨by omega, run_S hnj (decide_eq_true hcj)⟩ (by rw [e1]; exact hP) (by rw [e1]; exact hD) hS (lv_sub hl [0] rfl)
              · refine lv_aload_n hx hb dX6_nextToken_136 rfl (lv_at hl 0 rfl) ?_
                refine n_get (C := RX6) (T := TX6) (N := 18) hx hb hts (fun _ h => List.mem_cons_of_mem _ (List.mem_append_right _ h)) hown hK hP 0 rfl rfl 10 (by decide) (List.mem_of_getElem? (i := 5) rfl) rfl (.long (lN (wvN 9999999999999 27 96 (fun i => tb (ζ 4 + k + i)) j))) rfl dX6_nextToken_137 ?_
                refine lv_goto (tgt := 166) hx hb dX6_nextToken_140 (by decide) ?_
                refine n_put (C := RX6) (T := TX6) (N := 18) hx hb hts (fun _ h => List.mem_cons_of_mem _ (List.mem_append_right _ h)) tyX6 tyX6_ok nmX6 hown hK hP hD hS 0 rfl rfl 10 (by decide) (List.mem_of_getElem? (i := 5) rfl) rfl rfl (ty := .long) (v := .long (lN (wvN 9999999999999 27 96 (fun i => tb (ζ 4 + k + i)) j))) rfl rfl rfl (Nat.le_of_ble_eq_true rfl) (wn := [mO b (un (un (un ζ 2 1) 3 (ζ 4 + k)) 4 (ζ 4 + k + j)) (lN (wvN 9999999999999 27 96 (fun i => tb (ζ 4 + k + i)) j)), (b 5, .inl (G.2.1, 120, .inl (nF tb)))]) rfl dX6_nextToken_166 (fun H locs hP hD hS => ?_)
                refine lv_aload_n hx hb dX6_nextToken_169 rfl (lv_at hl 0 rfl) ?_
                refine lv_dup hx hb dX6_nextToken_170 rfl ?_
                refine n_get (C := RX6) (T := TX6) (N := 18) hx hb hts (fun _ h => List.mem_cons_of_mem _ (List.mem_append_right _ h)) hown hK hP 0 rfl rfl 9 (by decide) (List.mem_of_getElem? (i := 1) rfl) rfl (_) rfl dX6_nextToken_171 ?_
                refine n_top (y := (nI (ζ 4 + k + j))) (congrArg nI un_s) ?_
                refine lv_iconst (v := nI 1) hx hb dX6_nextToken_174 rfl ?_
                refine n_iadd hx hb dX6_nextToken_175 ?_
                refine n_put (C := RX6) (T := TX6) (N := 18) hx hb hts (fun _ h => List.mem_cons_of_mem _ (List.mem_append_right _ h)) tyX6 tyX6_ok nmX6 hown hK hP hD hS 0 rfl rfl 9 (by decide) (List.mem_of_getElem? (i := 1) rfl) rfl rfl (ty := .int) (v := .int (nI ((ζ 4 + k + j) + 1))) rfl rfl rfl (Nat.le_of_ble_eq_true rfl) (wn := [mO b (un (un (un ζ 2 1) 3 (ζ 4 + k)) 4 ((ζ 4 + k + j) + 1)) (lN (wvN 9999999999999 27 96 (fun i => tb (ζ 4 + k + i)) j)), (b 5, .inl (G.2.1, 120, .inl (nF tb)))]) rfl dX6_nextToken_176 (fun H locs hP hD hS => ?_)
                refine lv_goto (tgt := 98) hx hb dX6_nextToken_179 (by decide) ?_
                have e1 : wvN 9999999999999 27 96 (fun i => tb (ζ 4 + k + i)) (j + 1) = (wvN 9999999999999 27 96 (fun i => tb (ζ 4 + k + i)) j) := by rw [wv_S]; unfold wvS; rw [if_pos (show 9999999999999 < wvN 9999999999999 27 96 (fun i => tb (ζ 4 + k + i)) j by omega)]
                exact ih1 (j + 1) _ _ _ (by omega) ⟨by omega, run_S hnj (decide_eq_true hcj)⟩ (by rw [e1]; exact hP) (by rw [e1]; exact hD) hS (lv_sub hl [0] rfl)
      · refine lv_aload_n hx hb dX6_nextToken_70 rfl (lv_at hl 0 rfl) ?_
        refine lv_iconst (v := nI 0) hx hb dX6_nextToken_71 rfl ?_
        refine n_put (C := RX6) (T := TX6) (N := 18) hx hb hts (fun _ h => List.mem_cons_of_mem _ (List.mem_append_right _ h)) tyX6 tyX6_ok nmX6 hown hK hP hD hS 0 rfl rfl 7 (by decide) (List.mem_of_getElem? (i := 6) rfl) rfl rfl (ty := .int) (v := .int (nI 0)) rfl rfl rfl (Nat.le_of_ble_eq_true rfl) (wn := [mO b (un (un (un ζ 2 0) 3 (ζ 4 + k)) 4 (ζ 4 + k)) (lN 0), (b 5, .inl (G.2.1, 120, .inl (nF tb)))]) rfl dX6_nextToken_72 (fun H locs hP hD hS => ?_)
        refine lv_goto (tgt := 337) hx hb dX6_nextToken_75 (by decide) ?_
        have hty : tyN tb (ζ 1) (ζ 4 + k) = 0 := by unfold tyN; rw [if_pos (by omega)]
        have hen : enN tb (ζ 1) (ζ 4 + k) = ζ 4 + k := by unfold enN; rw [if_pos (by omega)]
        have hva : vaN tb (ζ 1) (ζ 4 + k) = 0 := by unfold vaN; rw [if_pos (by omega)]
        have htk : tkN tb (ζ 1) (ζ 4 + k) = 0 := by unfold tkN; rw [hty]; rw [if_neg (by decide)]
        exact fin_v hx hb hr hlk hS hP hD () trivial (by rw [hs, htk, hen, hva]; exact eqW.rf _) dX6_nextToken_337
    · refine lv_aload_n hx hb dX6_nextToken_33 rfl (lv_at hl 0 rfl) ?_
      refine lv_dup hx hb dX6_nextToken_34 rfl ?_
      refine n_get (C := RX6) (T := TX6) (N := 18) hx hb hts (fun _ h => List.mem_cons_of_mem _ (List.mem_append_right _ h)) hown hK hP 0 rfl rfl 8 (by decide) (List.mem_of_getElem? (i := 2) rfl) rfl (_) rfl dX6_nextToken_35 ?_
      refine n_top (y := (nI (ζ 4 + k))) (congrArg nI un_s) ?_
      refine lv_iconst (v := nI 1) hx hb dX6_nextToken_38 rfl ?_
      refine n_iadd hx hb dX6_nextToken_39 ?_
      refine n_put (C := RX6) (T := TX6) (N := 18) hx hb hts (fun _ h => List.mem_cons_of_mem _ (List.mem_append_right _ h)) tyX6 tyX6_ok nmX6 hown hK hP hD hS 0 rfl rfl 8 (by decide) (List.mem_of_getElem? (i := 2) rfl) rfl rfl (ty := .int) (v := .int (nI ((ζ 4 + k) + 1))) rfl rfl rfl (Nat.le_of_ble_eq_true rfl) (wn := [mO b (un ζ 3 ((ζ 4 + k) + 1)) vv, (b 5, .inl (G.2.1, 120, .inl (nF tb)))]) rfl dX6_nextToken_40 (fun H locs hP hD hS => ?_)
      refine lv_goto (tgt := 8) hx hb dX6_nextToken_43 (by decide) ?_
      exact ih (k + 1) _ _ _ (by omega) ⟨by omega, run_S hno (decide_eq_true (by omega))⟩ hP hD hS (lv_sub hl [0] rfl)
