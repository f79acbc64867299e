set_option maxHeartbeats 800000 in
set_option maxRecDepth 100000 in
theorem c_X1_readItems (l : Launch) (G : GT) (sz : Nat) (r x tr : Nat → Nat) (tb : Nat → Nat) (ln : Nat) (hln : ln ≤ 120) (htb : ∀ j, tb j < 256) (adK adV : Nat → Nat) (σ : Sg) (hI : Inv σ) : MI (S := Nat) l G (XS adK adV) yX1_readItems wsX1_readItems ({ frames := 8, cells := 0, slots := 0, locals := 175 } : Room) [.ref (r 0)] (([(r 0, .inr (1, [.ref (x 1), .ref (tr 0), .int (nI 0), .int (nI 0), .int (nI 0), .int (nI 0)])), (x 1, .inr (3, [.ref (x 2), .int (nI ln)])), (x 2, .inl (G.2.1, 120, .inl (nF tb)))] ++ (wH G tr σ))) sz (fun _ => True) (fun u => txV tb ln σ) (fun u => ([(r 0, .inr (1, [.ref (x 1), .ref (tr 0), .int (nI (tyN tb ln ((txN tb ln σ).2.1))), .int (nI ((txN tb ln σ).2.1)), .int (nI (enN tb ln ((txN tb ln σ).2.1))), .int (nI u)])), (x 1, .inr (3, [.ref (x 2), .int (nI ln)])), (x 2, .inl (G.2.1, 120, .inl (nF tb)))] ++ (wH G tr ((txN tb ln σ).2.2)))) := by
  refine MI_enter (cc := cX1_readItems) (maxL := 2) (ret := (some .int)) (by decide) rfl (Nat.le_of_ble_eq_true rfl) ?_
  intro p e s m below meth c A ls H hx hb hr hlk hml hown hts hAq hS hP hK hD hX hl hnm
  have hown : s.vm.findClass RX1 = some m.cls := hown
  have hl : lv_has ls 2 [(0, .ref (r 0))] := hl
  refine lv_aload_n hx hb dX1_readItems_0 rfl (lv_at hl 0 rfl) ?_
  refine callVV (rest := []) (wn := fun u => ([(r 0, .inr (1, [.ref (x 1), .ref (tr 0), .int (nI (tyN tb ln (stN tb ln 0))), .int (nI (stN tb ln 0)), .int (nI (enN tb ln (stN tb ln 0))), .int (nI u)])), (x 1, .inr (3, [.ref (x 2), .int (nI ln)])), (x 2, .inl (G.2.1, 120, .inl (nF tb)))] ++ (wH G tr σ))) ⟨hx, hb, hml, hown, hts⟩ (c_X1_advance l G H.size r x tr tb ln 0 0 0 0 (by omega) (by omega) htb (by omega)) (cwV 0 hts gX1_readItems_X1_advance rfl rfl rfl (by decide +kernel) ⟨Nat.le_of_ble_eq_true rfl, Nat.le_of_ble_eq_true rfl⟩) noXB (fun _ _ _ => trivial) hK hP hD hS hAq 1 0 (T := TX1) (N := 6) rfl rfl rfl hl.1 rfl (Nat.le_of_ble_eq_true rfl) dX1_readItems_1 ⟨Nat.le_of_ble_eq_true rfl, Nat.le_of_ble_eq_true rfl⟩ [0, 1, 2] rfl rfl [r 0, x 1, x 2] rfl (fun _ => rfl) (fun _ => rfl) (fun u H locs hok hP hD hS => ?_)
  obtain ⟨hu1, hu2⟩ := hok
  refine lv_iconst (v := nI 1) hx hb dX1_readItems_4 rfl ?_
  refine lv_istore_n (lv' := [(1, .int (nI 1)), (0, .ref (r 0))]) hx hb dX1_readItems_5 rfl hl (by decide) rfl (fun ls hl => ?_)
  refine W_loop2 (I := fun (n : Nat) (v0 : Nat) => n ≤ 120 ∧ NoQ (ntQ tb ln σ) n ∧ v0 ≤ 1000 ∧ (tyN tb ln (hdN tb ln σ n).1 = 2 → v0 = nmN tb ln (hdN tb ln σ n).1)) (wd := fun (n : Nat) (v0 : Nat) => ([(r 0, .inr (1, [.ref (x 1), .ref (tr 0), .int (nI (tyN tb ln ((hdN tb ln σ n).1))), .int (nI ((hdN tb ln σ n).1)), .int (nI (enN tb ln ((hdN tb ln σ n).1))), .int (nI v0)])), (x 1, .inr (3, [.ref (x 2), .int (nI ln)])), (x 2, .inl (G.2.1, 120, .inl (nF tb)))] ++ (wH G tr ((hdN tb ln σ n).2)))) (lv := fun (n : Nat) (v0 : Nat) => [(1, .int (nI (n + 1))), (0, .ref (r 0))]) (μ := fun (n : Nat) (v0 : Nat) => 121 - n) ?_ 0 u ⟨by omega, NoQ_0, by omega, by rw [hd_01]; exact hu2⟩ hP hD hS (lv_sub hl [0, 1] rfl)
  intro n v0 H locs ls hI0 hP hD hS hl ih
  obtain ⟨hn, hno, hv1, hv2⟩ := hI0
  have hle := hd_le (tb := tb) (ln := ln) (σ := σ) n
  have hge := hd_n n hno
  have hIn := hd_Inv (tb := tb) (ln := ln) hI n
  have h5n : (hdN tb ln σ n).2 5 ≤ 8 := hIn.1.2.2.2.2
  obtain ⟨hia1, hia2⟩ := ia_le (tb := tb) (ln := ln) (σ := σ) n
  refine lv_iload_n hx hb dX1_readItems_6 rfl (lv_at hl 0 rfl) ?_
  refine lv_bipush (v := nI 120) hx hb dX1_readItems_7 rfl ?_
  refine n_icmp_gt hx hb (by omega) (by omega) (tgt := 60) dX1_readItems_9 (by decide) (fun c_1 => ?_) (fun c_1 => ?_)
  · refine lv_iconst (v := (-1)) hx hb dX1_readItems_60 rfl ?_
    refine lv_aload_n hx hb dX1_readItems_61 rfl (lv_at hl 1 rfl) ?_
    refine n_get (C := RX1) (T := TX1) (N := 6) hx hb hts (fun _ h => List.mem_cons_of_mem _ (List.mem_append_left _ (List.mem_append_left _ (List.mem_append_right _ h)))) hown hK hP 0 rfl rfl 3 (by decide) (List.mem_of_getElem? (i := 1) rfl) rfl (.int (nI ((hdN tb ln σ n).1))) rfl dX1_readItems_62 ?_
    refine lv_isub hx hb dX1_readItems_65 ?_
    have hal : (hdN tb ln σ n).1 = ln := by omega
    have hia := ia_end hal
    have hni : niN tb ln σ = n := ni_of hno (fun h => by rw [hia] at h; exact Bool.false_ne_true h.1) (by omega)
    have htx := tx_of hni
    rw [hia] at htx
    exact fin_i hx hb hr hlk hS hP hD v0 trivial (by rw [tx_no (fun h => Bool.false_ne_true (txI_of htx h).1), htx]) (by rw [htx]; exact eqW.rf _) dX1_readItems_66
  · refine lv_aload_n hx hb dX1_readItems_12 rfl (lv_at hl 1 rfl) ?_
    refine callVI (rest := []) (wn := fun u => ([(r 0, .inr (1, [.ref (x 1), .ref (tr 0), .int (nI (tyN tb ln ((iaN tb ln σ n).2.1))), .int (nI ((iaN tb ln σ n).2.1)), .int (nI (enN tb ln ((iaN tb ln σ n).2.1))), .int (nI u)])), (x 1, .inr (3, [.ref (x 2), .int (nI ln)])), (x 2, .inl (G.2.1, 120, .inl (nF tb)))] ++ (wH G tr ((iaN tb ln σ n).2.2)))) ⟨hx, hb, hml, hown, hts⟩ (c_X1_readItem l G H.size r x tr tb ln ((hdN tb ln σ n).1) v0 (by omega) (by omega) htb adK adV ((hdN tb ln σ n).2) (by omega) (by omega) hv2) (cwV 0 hts gX1_readItems_X1_readItem rfl rfl rfl (by decide +kernel) ⟨Nat.le_of_ble_eq_true rfl, Nat.le_of_ble_eq_true rfl⟩) XSB (XS_at hX hS hD hAq [0, 1, 2, 3, 4, 5, 6, 7, 8] rfl) hK hP hD hS hAq 1 0 (T := TX1) (N := 6) rfl rfl rfl hl.1 rfl (Nat.le_of_ble_eq_true rfl) dX1_readItems_13 ⟨Nat.le_of_ble_eq_true rfl, Nat.le_of_ble_eq_true rfl⟩ [0, 1, 2, 3, 4, 5, 6, 7, 8] rfl rfl [r 0, x 1, x 2, tr 0, tr 1, tr 2, tr 3, tr 4, tr 5] rfl (fun _ => rfl) (fun _ => rfl) (fun u H locs hok hP hD hS => ?_)
    obtain ⟨hu1, hu2⟩ := hok
    have hu2 : tyN tb ln (iaN tb ln σ n).2.1 = 2 → u = nmN tb ln (iaN tb ln σ n).2.1 := hu2
    have htyi := ty_le tb ln (iaN tb ln σ n).2.1
    refine z_if_ne hx hb (tgt := 26) dX1_readItems_16 (by decide) (fun c_2 => ?_) (fun c_2 => ?_)
    · have hgood : (iaN tb ln σ n).1 = true := c_2
      refine lv_aload_n hx hb dX1_readItems_26 rfl (lv_at hl 1 rfl) ?_
      refine n_get (C := RX1) (T := TX1) (N := 6) hx hb hts (fun _ h => List.mem_cons_of_mem _ (List.mem_append_left _ (List.mem_append_left _ (List.mem_append_right _ h)))) hown hK hP 0 rfl rfl 2 (by decide) (List.mem_of_getElem? (i := 2) rfl) rfl (.int (nI (tyN tb ln ((iaN tb ln σ n).2.1)))) rfl dX1_readItems_27 ?_
      refine n_if_ne hx hb (by omega) (tgt := 35) dX1_readItems_30 (by decide) (fun c_3 => ?_) (fun c_3 => ?_)
      · refine lv_aload_n hx hb dX1_readItems_35 rfl (lv_at hl 1 rfl) ?_
        refine n_get (C := RX1) (T := TX1) (N := 6) hx hb hts (fun _ h => List.mem_cons_of_mem _ (List.mem_append_left _ (List.mem_append_left _ (List.mem_append_right _ h)))) hown hK hP 0 rfl rfl 2 (by decide) (List.mem_of_getElem? (i := 2) rfl) rfl (.int (nI (tyN tb ln ((iaN tb ln σ n).2.1)))) rfl dX1_readItems_36 ?_
        refine lv_iconst (v := nI 3) hx hb dX1_readItems_39 rfl ?_
        refine n_icmp_eq hx hb (by omega) (by omega) (tgt := 50) dX1_readItems_40 (by decide) (fun c_4 => ?_) (fun c_4 => ?_)
        · have c3 : tyN tb ln (iaN tb ln σ n).2.1 = 3 := c_4
          refine lv_aload_n hx hb dX1_readItems_50 rfl (lv_at hl 1 rfl) ?_
          have hen_5 := en_le (tb := tb) (ln := ln) (s := ((iaN tb ln σ n).2.1)) (by omega)
          have had_6 := ad_le (tb := tb) (ln := ln) (s := ((iaN tb ln σ n).2.1)) (by omega)
          refine callVV (rest := []) (wn := fun u => ([(r 0, .inr (1, [.ref (x 1), .ref (tr 0), .int (nI (tyN tb ln (adN tb ln ((iaN tb ln σ n).2.1)))), .int (nI (adN tb ln ((iaN tb ln σ n).2.1))), .int (nI (enN tb ln (adN tb ln ((iaN tb ln σ n).2.1)))), .int (nI u)])), (x 1, .inr (3, [.ref (x 2), .int (nI ln)])), (x 2, .inl (G.2.1, 120, .inl (nF tb)))] ++ (wH G tr ((iaN tb ln σ n).2.2)))) ⟨hx, hb, hml, hown, hts⟩ (c_X1_advance l G H.size r x tr tb ln (tyN tb ln ((iaN tb ln σ n).2.1)) ((iaN tb ln σ n).2.1) (enN tb ln ((iaN tb ln σ n).2.1)) u (by omega) (by omega) htb (by omega)) (cwV 0 hts gX1_readItems_X1_advance rfl rfl rfl (by decide +kernel) ⟨Nat.le_of_ble_eq_true rfl, Nat.le_of_ble_eq_true rfl⟩) noXB (fun _ _ _ => trivial) hK hP hD hS hAq 1 0 (T := TX1) (N := 6) rfl rfl rfl hl.1 rfl (Nat.le_of_ble_eq_true rfl) dX1_readItems_51 ⟨Nat.le_of_ble_eq_true rfl, Nat.le_of_ble_eq_true rfl⟩ [0, 1, 2] rfl rfl [r 0, x 1, x 2] rfl (fun _ => rfl) (fun _ => rfl) (fun u H locs hok hP hD hS => ?_)
          obtain ⟨hu1, hu2⟩ := hok
          refine n_iinc (lv' := [(1, .int (nI ((n + 1) + 1))), (0, .ref (r 0))]) hx hb dX1_readItems_54 hl (k := 0) rfl (by decide) rfl (fun ls hl => ?_)
          refine lv_goto (tgt := 6) hx hb dX1_readItems_57 (by decide) ?_
          have hnx : n + 1 ≤ (hdN tb ln σ (n + 1)).1 := hd_n (n + 1) (NoQ_S hno (decide_eq_false (fun h => h ⟨hgood, c3⟩)))
          have hlx := hd_le (tb := tb) (ln := ln) (σ := σ) (n + 1)
          exact ih (n + 1) u _ _ _ (by omega) ⟨by omega, NoQ_S hno (decide_eq_false (fun h => h ⟨hgood, c3⟩)), by omega, by rw [hd_11]; exact hu2⟩ (by rw [hd_11, hd_12]; exact hP) (by rw [hd_11, hd_12]; exact hD) hS (lv_sub hl [0, 1] rfl)
        · refine lv_iconst (v := (-1)) hx hb dX1_readItems_43 rfl ?_
          refine lv_aload_n hx hb dX1_readItems_44 rfl (lv_at hl 1 rfl) ?_
          refine n_get (C := RX1) (T := TX1) (N := 6) hx hb hts (fun _ h => List.mem_cons_of_mem _ (List.mem_append_left _ (List.mem_append_left _ (List.mem_append_right _ h)))) hown hK hP 0 rfl rfl 3 (by decide) (List.mem_of_getElem? (i := 1) rfl) rfl (.int (nI ((iaN tb ln σ n).2.1))) rfl dX1_readItems_45 ?_
          refine lv_isub hx hb dX1_readItems_48 ?_
          have hni : niN tb ln σ = n := ni_of hno (fun h => by omega) (by omega)
          have htx := tx_of hni
          exact fin_i hx hb hr hlk hS hP hD u trivial (by rw [tx_no (fun h => by have := (txI_of htx h).2; omega), htx]) (by rw [htx]; exact eqW.rf _) dX1_readItems_49
      · refine lv_iload_n hx hb dX1_readItems_33 rfl (lv_at hl 0 rfl) ?_
        have hni : niN tb ln σ = n := ni_of hno (fun h => by omega) (by omega)
        have htx := tx_of hni
        exact fin_i hx hb hr hlk hS hP hD u trivial (by rw [tx_yes (txI_mk htx ⟨hgood, by omega⟩), hni]) (by rw [htx]; exact eqW.rf _) dX1_readItems_34
    · have hgood : ¬ (iaN tb ln σ n).1 = true := c_2
      refine lv_iconst (v := (-1)) hx hb dX1_readItems_19 rfl ?_
      refine lv_aload_n hx hb dX1_readItems_20 rfl (lv_at hl 1 rfl) ?_
      refine n_get (C := RX1) (T := TX1) (N := 6) hx hb hts (fun _ h => List.mem_cons_of_mem _ (List.mem_append_left _ (List.mem_append_left _ (List.mem_append_right _ h)))) hown hK hP 0 rfl rfl 3 (by decide) (List.mem_of_getElem? (i := 1) rfl) rfl (.int (nI ((iaN tb ln σ n).2.1))) rfl dX1_readItems_21 ?_
      refine lv_isub hx hb dX1_readItems_24 ?_
      have hni : niN tb ln σ = n := ni_of hno (fun h => hgood h.1) (by omega)
      have htx := tx_of hni
      exact fin_i hx hb hr hlk hS hP hD u trivial (by rw [tx_no (fun h => hgood (txI_of htx h).1), htx]) (by rw [htx]; exact eqW.rf _) dX1_readItems_25
set_option maxHeartbeats 400000 in
set_option maxRecDepth 100000 in
theorem c_X1_init (l : Launch) (G : GT) (sz : Nat) (r x tr : Nat → Nat) : MV (S := Unit) l G noX yX1_init wsX1_init ({ frames := 1, cells := 0, slots := 0, locals := 12 } : Room) [.ref (r 0), .ref (x 1), .ref (tr 0)] ([(r 0, .inr (1, [.null, .null, .int (nI 0), .int (nI 0), .int (nI 0), .int (nI 0)]))]) sz (fun _ => True) (fun _ => [(r 0, .inr (1, [.ref (x 1), .ref (tr 0), .int (nI 0), .int (nI 0), .int (nI 0), .int (nI 0)]))]) := by
  refine MV_enter (cc := cX1_init) (maxL := 3) (ret := none) (by decide) rfl (Nat.le_of_ble_eq_true rfl) ?_
  intro p e s m below meth c A ls H hx hb hr hlk hml hown hts hAq hS hP hK hD hX hl hnm
  have hown : s.vm.findClass RX1 = some m.cls := hown
  have hl : lv_has ls 3 [(0, .ref (r 0)), (1, .ref (x 1)), (2, .ref (tr 0))] := hl
  refine lv_aload_n hx hb dX1_init_0 rfl (lv_at hl 0 rfl) ?_
  refine n_objInit hx hb (hml.trans hl.1.symm) hown hts (List.mem_of_getElem? (i := 1) rfl) (List.mem_of_getElem? (i := 2) rfl) (List.mem_of_getElem? (i := 3) rfl) dX1_init_1 (Nat.le_of_ble_eq_true rfl) (Nat.le_of_ble_eq_true rfl) ?_
  refine lv_aload_n hx hb dX1_init_4 rfl (lv_at hl 0 rfl) ?_
  refine lv_iconst (v := nI 0) hx hb dX1_init_5 rfl ?_
  refine n_put (C := RX1) (T := TX1) (N := 6) hx hb hts (fun _ h => List.mem_cons_of_mem _ (List.mem_append_right _ h)) tyX1 tyX1_ok nmX1 hown hK hP hD hS 0 rfl rfl 2 (by decide) (List.mem_of_getElem? (i := 4) rfl) rfl rfl (ty := .int) (v := .int (nI 0)) rfl rfl rfl (Nat.le_of_ble_eq_true rfl) (wn := [(r 0, .inr (1, [.null, .null, .int (nI 0), .int (nI 0), .int (nI 0), .int (nI 0)]))]) rfl dX1_init_6 (fun H locs hP hD hS => ?_)
  refine lv_aload_n hx hb dX1_init_9 rfl (lv_at hl 0 rfl) ?_
  refine lv_iconst (v := nI 0) hx hb dX1_init_10 rfl ?_
  refine n_put (C := RX1) (T := TX1) (N := 6) hx hb hts (fun _ h => List.mem_cons_of_mem _ (List.mem_append_right _ h)) tyX1 tyX1_ok nmX1 hown hK hP hD hS 0 rfl rfl 3 (by decide) (List.mem_of_getElem? (i := 5) rfl) rfl rfl (ty := .int) (v := .int (nI 0)) rfl rfl rfl (Nat.le_of_ble_eq_true rfl) (wn := [(r 0, .inr (1, [.null, .null, .int (nI 0), .int (nI 0), .int (nI 0), .int (nI 0)]))]) rfl dX1_init_11 (fun H locs hP hD hS => ?_)
  refine lv_aload_n hx hb dX1_init_14 rfl (lv_at hl 0 rfl) ?_
  refine lv_iconst (v := nI 0) hx hb dX1_init_15 rfl ?_
  refine n_put (C := RX1) (T := TX1) (N := 6) hx hb hts (fun _ h => List.mem_cons_of_mem _ (List.mem_append_right _ h)) tyX1 tyX1_ok nmX1 hown hK hP hD hS 0 rfl rfl 4 (by decide) (List.mem_of_getElem? (i := 6) rfl) rfl rfl (ty := .int) (v := .int (nI 0)) rfl rfl rfl (Nat.le_of_ble_eq_true rfl) (wn := [(r 0, .inr (1, [.null, .null, .int (nI 0), .int (nI 0), .int (nI 0), .int (nI 0)]))]) rfl dX1_init_16 (fun H locs hP hD hS => ?_)
  refine lv_aload_n hx hb dX1_init_19 rfl (lv_at hl 0 rfl) ?_
  refine lv_iconst (v := nI 0) hx hb dX1_init_20 rfl ?_
  refine n_put (C := RX1) (T := TX1) (N := 6) hx hb hts (fun _ h => List.mem_cons_of_mem _ (List.mem_append_right _ h)) tyX1 tyX1_ok nmX1 hown hK hP hD hS 0 rfl rfl 5 (by decide) (List.mem_of_getElem? (i := 7) rfl) rfl rfl (ty := .int) (v := .int (nI 0)) rfl rfl rfl (Nat.le_of_ble_eq_true rfl) (wn := [(r 0, .inr (1, [.null, .null, .int (nI 0), .int (nI 0), .int (nI 0), .int (nI 0)]))]) rfl dX1_init_21 (fun H locs hP hD hS => ?_)
  refine lv_aload_n hx hb dX1_init_24 rfl (lv_at hl 0 rfl) ?_
  refine lv_aload_n hx hb dX1_init_25 rfl (lv_at hl 1 rfl) ?_
  refine n_putF (C := RX1) (T := TX1) (N := 6) hx hb hts (fun _ h => List.mem_cons_of_mem _ (List.mem_append_right _ h)) tyX1 tyX1_ok nmX1 hown hK hP hD hS 0 rfl rfl 0 (by decide) (List.mem_of_getElem? (i := 8) rfl) rfl rfl hnm rfl (ty := tyX1 0) (v := .ref (x 1)) rfl rfl rfl (Nat.le_of_ble_eq_true rfl) (wn := [(r 0, .inr (1, [.ref (x 1), .null, .int (nI 0), .int (nI 0), .int (nI 0), .int (nI 0)]))]) rfl dX1_init_26 (fun H locs hP hD hS => ?_)
  refine lv_aload_n hx hb dX1_init_29 rfl (lv_at hl 0 rfl) ?_
  refine lv_aload_n hx hb dX1_init_30 rfl (lv_at hl 2 rfl) ?_
  refine n_putF (C := RX1) (T := TX1) (N := 6) hx hb hts (fun _ h => List.mem_cons_of_mem _ (List.mem_append_right _ h)) tyX1 tyX1_ok nmX1 hown hK hP hD hS 0 rfl rfl 1 (by decide) (List.mem_of_getElem? (i := 9) rfl) rfl rfl hnm rfl (ty := tyX1 1) (v := .ref (tr 0)) rfl rfl rfl (Nat.le_of_ble_eq_true rfl) (wn := [(r 0, .inr (1, [.ref (x 1), .ref (tr 0), .int (nI 0), .int (nI 0), .int (nI 0), .int (nI 0)]))]) rfl dX1_init_31 (fun H locs hP hD hS => ?_)
  exact fin_v hx hb hr hlk hS hP hD () trivial (eqW.rf _) dX1_init_34
set_option maxHeartbeats 400000 in
set_option maxRecDepth 100000 in
theorem c_X5_text (l : Launch) (G : GT) (sz : Nat) (x hm kp tr : Nat → Nat) (hi : Nat) (σ τ : Sg) (tb : Nat → Nat) (ln : Nat) (hln : ln ≤ 120) (htb : ∀ j, tb j < 256) (adK adV : Nat → Nat) (hI : Inv σ) : MI (S := Unit) l G (XS adK adV) yX5_text wsX5_text ({ frames := 9, cells := 1, slots := 6, locals := 196 } : Room) [.ref (x 0)] (([xO x hm kp tr hi] ++ (wH G hm σ ++ (wH G tr τ ++ ([(x 1, .inr (3, [.ref (x 2), .int (nI ln)])), (x 2, .inl (G.2.1, 120, .inl (nF tb)))]))))) sz (fun _ => True) (fun _ => txV tb ln σ) (fun _ => ([xO x hm kp tr hi] ++ (wH G hm (if txI tb ln σ then (txN tb ln σ).2.2 else σ) ++ (wH G tr ((txN tb ln σ).2.2) ++ ([(x 1, .inr (3, [.ref (x 2), .int (nI 0)])), (x 2, .inl (G.2.1, 120, .inl (nF tb)))]))))) := by
  refine MI_enter (cc := cX5_text) (maxL := 2) (ret := (some .int)) (by decide) rfl (Nat.le_of_ble_eq_true rfl) ?_
  intro p e s m below meth c A ls H hx hb hr hlk hml hown hts hAq hS hP hK hD hX hl hnm
  have hown : s.vm.findClass RX5 = some m.cls := hown
  have hl : lv_has ls 2 [(0, .ref (x 0))] := hl
  refine lv_aload_n hx hb dX5_text_0 rfl (lv_at hl 0 rfl) ?_
  refine n_get (C := RX5) (T := TX5) (N := 7) hx hb hts (fun _ h => List.mem_cons_of_mem _ (List.mem_append_left _ (List.mem_append_left _ (List.mem_append_left _ (List.mem_append_right _ h))))) hown hK hP 0 rfl rfl 2 (by decide) (List.mem_of_getElem? (i := 1) rfl) rfl (.ref (tr 0)) rfl dX5_text_1 ?_
  refine lv_aload_n hx hb dX5_text_4 rfl (lv_at hl 0 rfl) ?_
  refine n_get (C := RX5) (T := TX5) (N := 7) hx hb hts (fun _ h => List.mem_cons_of_mem _ (List.mem_append_left _ (List.mem_append_left _ (List.mem_append_left _ (List.mem_append_right _ h))))) hown hK hP 0 rfl rfl 0 (by decide) (List.mem_of_getElem? (i := 2) rfl) rfl (.ref (hm 0)) rfl dX5_text_5 ?_
  refine callVV (rest := []) (wn := fun u => ([xO x hm kp tr hi] ++ (wH G hm σ ++ (wH G tr σ ++ ([(x 1, .inr (3, [.ref (x 2), .int (nI ln)])), (x 2, .inl (G.2.1, 120, .inl (nF tb)))]))))) ⟨hx, hb, hml, hown, hts⟩ (c_X0_become l G H.size tr τ hm σ) (cwV 1 hts gX5_text_X0_become rfl rfl rfl (by decide +kernel) ⟨Nat.le_of_ble_eq_true rfl, Nat.le_of_ble_eq_true rfl⟩) noXB (fun _ _ _ => trivial) hK hP hD hS hAq 0 0 (T := TX0) (N := 11) rfl rfl rfl hl.1 rfl (Nat.le_of_ble_eq_true rfl) dX5_text_8 ⟨Nat.le_of_ble_eq_true rfl, Nat.le_of_ble_eq_true rfl⟩ [7, 8, 9, 10, 11, 12, 1, 2, 3, 4, 5, 6] rfl rfl [tr 0, tr 1, tr 2, tr 3, tr 4, tr 5, hm 0, hm 1, hm 2, hm 3, hm 4, hm 5] rfl (fun _ => rfl) (fun _ => rfl) (fun u H locs hok hP hD hS => ?_)
  refine n_new (fs := [.null, .null, .int (nI 0), .int (nI 0), .int (nI 0), .int (nI 0)]) (C := RX1) (T := TX1) (N := 6) (ci := 1) hx hb hts (fun _ h => List.mem_cons_of_mem _ (List.mem_append_left _ (List.mem_append_left _ (List.mem_append_right _ h)))) tyX1 tyX1_ok hown (List.mem_of_getElem? (i := 3) rfl) (List.mem_of_getElem? (i := 4) rfl) (List.mem_of_getElem? (i := 5) rfl) hK hP hD hS hAq rfl (fun j hj => by rcases (show j = 0 ∨ j = 1 ∨ j = 2 ∨ j = 3 ∨ j = 4 ∨ j = 5 by omega) with rfl | rfl | rfl | rfl | rfl | rfl <;> rfl) (Nat.le_of_ble_eq_true rfl) (Nat.le_of_ble_eq_true rfl) dX5_text_11 (fun q_1 H hP hD hS => ?_)
  obtain ⟨r, hr0⟩ : ∃ r : Nat → Nat, q_1 = r 0 := ⟨fun _ => q_1, rfl⟩
  subst hr0
  have hP : PP G (([xO x hm kp tr hi] ++ (wH G hm σ ++ (wH G tr σ ++ ([(x 1, .inr (3, [.ref (x 2), .int (nI ln)])), (x 2, .inl (G.2.1, 120, .inl (nF tb))), (r 0, .inr (1, [.null, .null, .int (nI 0), .int (nI 0), .int (nI 0), .int (nI 0)]))]))))) H := hP
  have hD : va_D A (([xO x hm kp tr hi] ++ (wH G hm σ ++ (wH G tr σ ++ ([(x 1, .inr (3, [.ref (x 2), .int (nI ln)])), (x 2, .inl (G.2.1, 120, .inl (nF tb))), (r 0, .inr (1, [.null, .null, .int (nI 0), .int (nI 0), .int (nI 0), .int (nI 0)]))]))))) := hD
  refine lv_dup hx hb dX5_text_14 rfl ?_
  refine lv_aload_n hx hb dX5_text_15 rfl (lv_at hl 0 rfl) ?_
  refine n_get (C := RX5) (T := TX5) (N := 7) hx hb hts (fun _ h => List.mem_cons_of_mem _ (List.mem_append_left _ (List.mem_append_left _ (List.mem_append_left _ (List.mem_append_right _ h))))) hown hK hP 0 rfl rfl 3 (by decide) (List.mem_of_getElem? (i := 6) rfl) rfl (.ref (x 1)) rfl dX5_text_16 ?_
  refine lv_aload_n hx hb dX5_text_19 rfl (lv_at hl 0 rfl) ?_
  refine n_get (C := RX5) (T := TX5) (N := 7) hx hb hts (fun _ h => List.mem_cons_of_mem _ (List.mem_append_left _ (List.mem_append_left _ (List.mem_append_left _ (List.mem_append_right _ h))))) hown hK hP 0 rfl rfl 2 (by decide) (List.mem_of_getElem? (i := 1) rfl) rfl (.ref (tr 0)) rfl dX5_text_20 ?_
  refine callJVg (ret := none) (rest := [.ref (r 0)]) ⟨hx, hb, hml, hown, hts⟩ (c_X1_init l G H.size r x tr) (cwI 2 hts gX5_text_X1_init rfl rfl rfl (hts _ (List.mem_of_getElem? (i := 5) rfl)) (hts _ (List.mem_of_getElem? (i := 24) rfl)) (hts _ (List.mem_of_getElem? (i := 25) rfl)) rfl (by decide +kernel) ⟨Nat.le_of_ble_eq_true rfl, Nat.le_of_ble_eq_true rfl⟩) noXB (fun _ _ _ => trivial) hK hP hD hS hAq rfl hl.1 rfl (Nat.le_of_ble_eq_true rfl) dX5_text_23 ⟨Nat.le_of_ble_eq_true rfl, Nat.le_of_ble_eq_true rfl⟩ [15] rfl rfl (wr := ([xO x hm kp tr hi] ++ (wH G hm σ ++ (wH G tr σ ++ ([(x 1, .inr (3, [.ref (x 2), .int (nI ln)])), (x 2, .inl (G.2.1, 120, .inl (nF tb)))]))))) [0, 1, 2, 3, 4, 5, 6, 7, 8, 9, 10, 11, 12, 13, 14] rfl rfl (by decide) (fun u_ H locs hok hP hD hS => ?_)
  have hP : PP G (([xO x hm kp tr hi] ++ (wH G hm σ ++ (wH G tr σ ++ ([(x 1, .inr (3, [.ref (x 2), .int (nI ln)])), (x 2, .inl (G.2.1, 120, .inl (nF tb))), (r 0, .inr (1, [.ref (x 1), .ref (tr 0), .int (nI 0), .int (nI 0), .int (nI 0), .int (nI 0)]))]))))) H := hP
  have hD : va_D A (([xO x hm kp tr hi] ++ (wH G hm σ ++ (wH G tr σ ++ ([(x 1, .inr (3, [.ref (x 2), .int (nI ln)])), (x 2, .inl (G.2.1, 120, .inl (nF tb))), (r 0, .inr (1, [.ref (x 1), .ref (tr 0), .int (nI 0), .int (nI 0), .int (nI 0), .int (nI 0)]))]))))) := hD
  refine callVI (rest := []) (wn := fun u => ([xO x hm kp tr hi] ++ (wH G hm σ ++ (wH G tr ((txN tb ln σ).2.2) ++ ([(x 1, .inr (3, [.ref (x 2), .int (nI ln)])), (x 2, .inl (G.2.1, 120, .inl (nF tb))), (r 0, .inr (1, [.ref (x 1), .ref (tr 0), .int (nI (tyN tb ln ((txN tb ln σ).2.1))), .int (nI ((txN tb ln σ).2.1)), .int (nI (enN tb ln ((txN tb ln σ).2.1))), .int (nI u)]))]))))) ⟨hx, hb, hml, hown, hts⟩ (c_X1_readItems l G H.size r x tr tb ln (by omega) htb adK adV σ hI) (cwV 0 hts gX5_text_X1_readItems rfl rfl rfl (by decide +kernel) ⟨Nat.le_of_ble_eq_true rfl, Nat.le_of_ble_eq_true rfl⟩) XSB (XS_at hX hS hD hAq [15, 13, 14, 7, 8, 9, 10, 11, 12] rfl) hK hP hD hS hAq 1 0 (T := TX1) (N := 6) rfl rfl rfl hl.1 rfl (Nat.le_of_ble_eq_true rfl) dX5_text_26 ⟨Nat.le_of_ble_eq_true rfl, Nat.le_of_ble_eq_true rfl⟩ [15, 13, 14, 7, 8, 9, 10, 11, 12] rfl rfl [r 0, x 1, x 2, tr 0, tr 1, tr 2, tr 3, tr 4, tr 5] rfl (fun _ => rfl) (fun _ => rfl) (fun u H locs hok hP hD hS => ?_)
  have htl := tx_le (tb := tb) (ln := ln) (σ := σ)
  have hnl := ni_le (tb := tb) (ln := ln) (σ := σ)
  by_cases htx : txI tb ln σ
  · refine n_top (tx_yes htx) ?_
    refine lv_istore_n (lv' := [(1, .int (nI (niN tb ln σ + 1))), (0, .ref (x 0))]) hx hb dX5_text_29 rfl hl (by decide) rfl (fun ls hl => ?_)
    refine lv_aload_n hx hb dX5_text_30 rfl (lv_at hl 1 rfl) ?_
    refine n_get (C := RX5) (T := TX5) (N := 7) hx hb hts (fun _ h => List.mem_cons_of_mem _ (List.mem_append_left _ (List.mem_append_left _ (List.mem_append_left _ (List.mem_append_right _ h))))) hown hK hP 0 rfl rfl 3 (by decide) (List.mem_of_getElem? (i := 6) rfl) rfl (.ref (x 1)) rfl dX5_text_31 ?_
    refine lv_iconst (v := nI 0) hx hb dX5_text_34 rfl ?_
    refine n_put (C := RX4) (T := TX4) (N := 2) hx hb hts (fun _ h => List.mem_cons_of_mem _ (List.mem_append_left _ (List.mem_append_right _ h))) tyX4 tyX4_ok nmX4 hown hK hP hD hS 13 rfl rfl 1 (by decide) (List.mem_of_getElem? (i := 7) rfl) rfl rfl (ty := .int) (v := .int (nI 0)) rfl rfl rfl (Nat.le_of_ble_eq_true rfl) (wn := ([xO x hm kp tr hi] ++ (wH G hm σ ++ (wH G tr ((txN tb ln σ).2.2) ++ ([(x 1, .inr (3, [.ref (x 2), .int (nI 0)])), (x 2, .inl (G.2.1, 120, .inl (nF tb))), (r 0, .inr (1, [.ref (x 1), .ref (tr 0), .int (nI (tyN tb ln ((txN tb ln σ).2.1))), .int (nI ((txN tb ln σ).2.1)), .int (nI (enN tb ln ((txN tb ln σ).2.1))), .int (nI u)]))]))))) rfl dX5_text_35 (fun H locs hP hD hS => ?_)
    refine lv_iload_n hx hb dX5_text_38 rfl (lv_at hl 0 rfl) ?_
    refine n_if_lt hx hb (by omega) (tgt := 53) dX5_text_39 (by decide) (fun c_2 => ?_) (fun c_2 => ?_)
    · omega
    · refine lv_aload_n hx hb dX5_text_42 rfl (lv_at hl 1 rfl) ?_
      refine n_get (C := RX5) (T := TX5) (N := 7) hx hb hts (fun _ h => List.mem_cons_of_mem _ (List.mem_append_left _ (List.mem_append_left _ (List.mem_append_left _ (List.mem_append_right _ h))))) hown hK hP 0 rfl rfl 0 (by decide) (List.mem_of_getElem? (i := 2) rfl) rfl (.ref (hm 0)) rfl dX5_text_43 ?_
      refine lv_aload_n hx hb dX5_text_46 rfl (lv_at hl 1 rfl) ?_
      refine n_get (C := RX5) (T := TX5) (N := 7) hx hb hts (fun _ h => List.mem_cons_of_mem _ (List.mem_append_left _ (List.mem_append_left _ (List.mem_append_left _ (List.mem_append_right _ h))))) hown hK hP 0 rfl rfl 2 (by decide) (List.mem_of_getElem? (i := 1) rfl) rfl (.ref (tr 0)) rfl dX5_text_47 ?_
      refine callVV (rest := []) (wn := fun u_ => ([xO x hm kp tr hi] ++ (wH G hm ((txN tb ln σ).2.2) ++ (wH G tr ((txN tb ln σ).2.2) ++ ([(x 1, .inr (3, [.ref (x 2), .int (nI 0)])), (x 2, .inl (G.2.1, 120, .inl (nF tb))), (r 0, .inr (1, [.ref (x 1), .ref (tr 0), .int (nI (tyN tb ln ((txN tb ln σ).2.1))), .int (nI ((txN tb ln σ).2.1)), .int (nI (enN tb ln ((txN tb ln σ).2.1))), .int (nI u)]))]))))) ⟨hx, hb, hml, hown, hts⟩ (c_X0_become l G H.size hm σ tr ((txN tb ln σ).2.2)) (cwV 1 hts gX5_text_X0_become rfl rfl rfl (by decide +kernel) ⟨Nat.le_of_ble_eq_true rfl, Nat.le_of_ble_eq_true rfl⟩) noXB (fun _ _ _ => trivial) hK hP hD hS hAq 0 0 (T := TX0) (N := 11) rfl rfl rfl hl.1 rfl (Nat.le_of_ble_eq_true rfl) dX5_text_50 ⟨Nat.le_of_ble_eq_true rfl, Nat.le_of_ble_eq_true rfl⟩ [1, 2, 3, 4, 5, 6, 7, 8, 9, 10, 11, 12] rfl rfl [hm 0, hm 1, hm 2, hm 3, hm 4, hm 5, tr 0, tr 1, tr 2, tr 3, tr 4, tr 5] rfl (fun _ => rfl) (fun _ => rfl) (fun u_ H locs hok hP hD hS => ?_)
      refine lv_iload_n hx hb dX5_text_53 rfl (lv_at hl 0 rfl) ?_
      have hP : PP G (([xO x hm kp tr hi] ++ (wH G hm ((txN tb ln σ).2.2) ++ (wH G tr ((txN tb ln σ).2.2) ++ ([(x 1, .inr (3, [.ref (x 2), .int (nI 0)])), (x 2, .inl (G.2.1, 120, .inl (nF tb)))]))))) H := va_P.sub hP [0, 1, 2, 3, 4, 5, 6, 7, 8, 9, 10, 11, 12, 13, 14] rfl
      have hD : va_D A (([xO x hm kp tr hi] ++ (wH G hm ((txN tb ln σ).2.2) ++ (wH G tr ((txN tb ln σ).2.2) ++ ([(x 1, .inr (3, [.ref (x 2), .int (nI 0)])), (x 2, .inl (G.2.1, 120, .inl (nF tb)))]))))) := va_D.sub hD [0, 1, 2, 3, 4, 5, 6, 7, 8, 9, 10, 11, 12, 13, 14] rfl rfl
      exact fin_i hx hb hr hlk hS hP hD () trivial (tx_yes htx).symm (by rw [if_pos htx]; exact eqW.rf _) dX5_text_54
  · refine n_top (tx_no htx) ?_
    have hnT := neg_T (txN tb ln σ).2.1 (by omega)
    refine lv_istore_n (lv' := [(1, .int ((-1) - nI (txN tb ln σ).2.1)), (0, .ref (x 0))]) hx hb dX5_text_29 rfl hl (by decide) rfl (fun ls hl => ?_)
    refine lv_aload_n hx hb dX5_text_30 rfl (lv_at hl 1 rfl) ?_
    refine n_get (C := RX5) (T := TX5) (N := 7) hx hb hts (fun _ h => List.mem_cons_of_mem _ (List.mem_append_left _ (List.mem_append_left _ (List.mem_append_left _ (List.mem_append_right _ h))))) hown hK hP 0 rfl rfl 3 (by decide) (List.mem_of_getElem? (i := 6) rfl) rfl (.ref (x 1)) rfl dX5_text_31 ?_
    refine lv_iconst (v := nI 0) hx hb dX5_text_34 rfl ?_
    refine n_put (C := RX4) (T := TX4) (N := 2) hx hb hts (fun _ h => List.mem_cons_of_mem _ (List.mem_append_left _ (List.mem_append_right _ h))) tyX4 tyX4_ok nmX4 hown hK hP hD hS 13 rfl rfl 1 (by decide) (List.mem_of_getElem? (i := 7) rfl) rfl rfl (ty := .int) (v := .int (nI 0)) rfl rfl rfl (Nat.le_of_ble_eq_true rfl) (wn := ([xO x hm kp tr hi] ++ (wH G hm σ ++ (wH G tr ((txN tb ln σ).2.2) ++ ([(x 1, .inr (3, [.ref (x 2), .int (nI 0)])), (x 2, .inl (G.2.1, 120, .inl (nF tb))), (r 0, .inr (1, [.ref (x 1), .ref (tr 0), .int (nI (tyN tb ln ((txN tb ln σ).2.1))), .int (nI ((txN tb ln σ).2.1)), .int (nI (enN tb ln ((txN tb ln σ).2.1))), .int (nI u)]))]))))) rfl dX5_text_35 (fun H locs hP hD hS => ?_)
    refine lv_iload_n hx hb dX5_text_38 rfl (lv_at hl 0 rfl) ?_
    refine r_if_lt hx hb (tgt := 53) dX5_text_39 (by decide) (fun c_3 => ?_) (fun c_3 => ?_)
    · refine lv_iload_n hx hb dX5_text_53 rfl (lv_at hl 0 rfl) ?_
      have hP : PP G (([xO x hm kp tr hi] ++ (wH G hm σ ++ (wH G tr ((txN tb ln σ).2.2) ++ ([(x 1, .inr (3, [.ref (x 2), .int (nI 0)])), (x 2, .inl (G.2.1, 120, .inl (nF tb)))]))))) H := va_P.sub hP [0, 1, 2, 3, 4, 5, 6, 7, 8, 9, 10, 11, 12, 13, 14] rfl
      have hD : va_D A (([xO x hm kp tr hi] ++ (wH G hm σ ++ (wH G tr ((txN tb ln σ).2.2) ++ ([(x 1, .inr (3, [.ref (x 2), .int (nI 0)])), (x 2, .inl (G.2.1, 120, .inl (nF tb)))]))))) := va_D.sub hD [0, 1, 2, 3, 4, 5, 6, 7, 8, 9, 10, 11, 12, 13, 14] rfl rfl
      exact fin_i hx hb hr hlk hS hP hD () trivial (tx_no htx).symm (by rw [if_neg htx]; exact eqW.rf _) dX5_text_54
    · omega
