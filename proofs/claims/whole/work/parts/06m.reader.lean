set_option maxHeartbeats 400000 in
set_option maxRecDepth 100000 in
theorem c_X1_readPerhaps_1 (l : Launch) (G : GT) (sz : Nat) (r x tr : Nat → Nat) (tb : Nat → Nat) (ln s0 v0 : Nat) (hln : ln ≤ 120) (hs0 : s0 ≤ ln) (htb : ∀ j, tb j < 256) (adK adV : Nat → Nat) (σ : Sg) (p0 : Nat) (hp0 : p0 < 8) (hv1 : v0 ≤ 1000) (hv2 : tyN tb ln s0 = 2 → v0 = nmN tb ln s0) : MI (S := Nat) l G (XS adK adV) yX1_readPerhaps wsX1_readPerhaps ({ frames := 5, cells := 0, slots := 0, locals := 107 } : Room) [.ref (r 0), .ref (adK 6), .ref (tr 2), .int (nI p0), .int (nI 20)] (([(r 0, .inr (1, [.ref (x 1), .ref (tr 0), .int (nI (tyN tb ln s0)), .int (nI s0), .int (nI (enN tb ln s0)), .int (nI v0)])), (x 1, .inr (3, [.ref (x 2), .int (nI ln)])), (x 2, .inl (G.2.1, 120, .inl (nF tb)))] ++ (wH G tr σ))) sz (fun u => u ≤ 1000 ∧ (tyN tb ln (phN tb ln 6 20 p0 1 s0 σ).2.1 = 2 → u = nmN tb ln (phN tb ln 6 20 p0 1 s0 σ).2.1)) (fun u => zI ((phN tb ln 6 20 p0 1 s0 σ).1 = true)) (fun u => ([(r 0, .inr (1, [.ref (x 1), .ref (tr 0), .int (nI (tyN tb ln ((phN tb ln 6 20 p0 1 s0 σ).2.1))), .int (nI ((phN tb ln 6 20 p0 1 s0 σ).2.1)), .int (nI (enN tb ln ((phN tb ln 6 20 p0 1 s0 σ).2.1))), .int (nI u)])), (x 1, .inr (3, [.ref (x 2), .int (nI ln)])), (x 2, .inl (G.2.1, 120, .inl (nF tb)))] ++ (wH G tr ((phN tb ln 6 20 p0 1 s0 σ).2.2)))) := by
  refine MI_enter (cc := cX1_readPerhaps) (maxL := 5) (ret := (some .boolean)) (by decide) rfl (Nat.le_of_ble_eq_true rfl) ?_
  intro p e s m below meth c A ls H hx hb hr hlk hml hown hts hAq hS hP hK hD hX hl hnm
  have hown : s.vm.findClass RX1 = some m.cls := hown
  have hl : lv_has ls 5 [(0, .ref (r 0)), (1, .ref (adK 6)), (2, .ref (tr 2)), (3, .int (nI p0)), (4, .int (nI 20))] := hl
  obtain ⟨hen1, hen2⟩ := en_le (tb := tb) hs0
  have htyl := ty_le tb ln s0
  refine lv_aload_n hx hb dX1_readPerhaps_0 rfl (lv_at hl 0 rfl) ?_
  refine lv_aload_n hx hb dX1_readPerhaps_1 rfl (lv_at hl 1 rfl) ?_
  refine callVI (rest := []) (wn := fun u => ([(r 0, .inr (1, [.ref (x 1), .ref (tr 0), .int (nI (tyN tb ln s0)), .int (nI s0), .int (nI (enN tb ln s0)), .int (nI v0)])), (x 1, .inr (3, [.ref (x 2), .int (nI ln)])), (x 2, .inl (G.2.1, 120, .inl (nF tb)))] ++ (wH G tr σ))) ⟨hx, hb, hml, hown, hts⟩ (c_X1_isWord l G H.size r x tr tb ln s0 v0 (by omega) (by omega) htb adK adV 6 (by omega)) (cwV 1 hts gX1_readPerhaps_X1_isWord rfl rfl rfl (by decide +kernel) ⟨Nat.le_of_ble_eq_true rfl, Nat.le_of_ble_eq_true rfl⟩) XSB (XS_at hX hS hD hAq [0, 1, 2] rfl) hK hP hD hS hAq 1 0 (T := TX1) (N := 6) rfl rfl rfl hl.1 rfl (Nat.le_of_ble_eq_true rfl) dX1_readPerhaps_2 ⟨Nat.le_of_ble_eq_true rfl, Nat.le_of_ble_eq_true rfl⟩ [0, 1, 2] rfl rfl [r 0, x 1, x 2] rfl (fun _ => rfl) (fun _ => rfl) (fun u H locs hok hP hD hS => ?_)
  refine z_if_ne hx hb (tgt := 10) dX1_readPerhaps_5 (by decide) (fun c_1 => ?_) (fun c_1 => ?_)
  · have hw := c_1
    refine lv_aload_n hx hb dX1_readPerhaps_10 rfl (lv_at hl 0 rfl) ?_
    have hen_2 := en_le (tb := tb) (ln := ln) (s := s0) (by omega)
    have had_3 := ad_le (tb := tb) (ln := ln) (s := s0) (by omega)
    refine callVV (rest := []) (wn := fun u => ([(r 0, .inr (1, [.ref (x 1), .ref (tr 0), .int (nI (tyN tb ln (adN tb ln s0))), .int (nI (adN tb ln s0)), .int (nI (enN tb ln (adN tb ln s0))), .int (nI u)])), (x 1, .inr (3, [.ref (x 2), .int (nI ln)])), (x 2, .inl (G.2.1, 120, .inl (nF tb)))] ++ (wH G tr σ))) ⟨hx, hb, hml, hown, hts⟩ (c_X1_advance l G H.size r x tr tb ln (tyN tb ln s0) s0 (enN tb ln s0) v0 (by omega) (by omega) htb (by omega)) (cwV 0 hts gX1_readPerhaps_X1_advance rfl rfl rfl (by decide +kernel) ⟨Nat.le_of_ble_eq_true rfl, Nat.le_of_ble_eq_true rfl⟩) noXB (fun _ _ _ => trivial) hK hP hD hS hAq 1 0 (T := TX1) (N := 6) rfl rfl rfl hl.1 rfl (Nat.le_of_ble_eq_true rfl) dX1_readPerhaps_11 ⟨Nat.le_of_ble_eq_true rfl, Nat.le_of_ble_eq_true rfl⟩ [0, 1, 2] rfl rfl [r 0, x 1, x 2] rfl (fun _ => rfl) (fun _ => rfl) (fun u H locs hok hP hD hS => ?_)
    obtain ⟨hu1, hu2⟩ := hok
    refine lv_aload_n hx hb dX1_readPerhaps_14 rfl (lv_at hl 0 rfl) ?_
    refine lv_iload hx hb dX1_readPerhaps_15 (lv_at hl 4 rfl) ?_
    refine callVI (rest := []) (wn := fun u_ => ([(r 0, .inr (1, [.ref (x 1), .ref (tr 0), .int (nI (tyN tb ln (adN tb ln s0))), .int (nI (adN tb ln s0)), .int (nI (enN tb ln (adN tb ln s0))), .int (nI u)])), (x 1, .inr (3, [.ref (x 2), .int (nI ln)])), (x 2, .inl (G.2.1, 120, .inl (nF tb)))] ++ (wH G tr σ))) ⟨hx, hb, hml, hown, hts⟩ (c_X1_isNumber l G H.size r x tr tb ln (adN tb ln s0) u (by omega) (by omega) htb 20 (by omega) (by omega)) (cwV 1 hts gX1_readPerhaps_X1_isNumber rfl rfl rfl (by decide +kernel) ⟨Nat.le_of_ble_eq_true rfl, Nat.le_of_ble_eq_true rfl⟩) noXB (fun _ _ _ => trivial) hK hP hD hS hAq 1 0 (T := TX1) (N := 6) rfl rfl rfl hl.1 rfl (Nat.le_of_ble_eq_true rfl) dX1_readPerhaps_17 ⟨Nat.le_of_ble_eq_true rfl, Nat.le_of_ble_eq_true rfl⟩ [0, 1, 2] rfl rfl [r 0, x 1, x 2] rfl (fun _ => rfl) (fun _ => rfl) (fun u_ H locs hok hP hD hS => ?_)
    refine z_if_ne hx hb (tgt := 25) dX1_readPerhaps_20 (by decide) (fun c_4 => ?_) (fun c_4 => ?_)
    · have hun := hu2 c_4.1
      subst hun
      have hnu : isNu tb ln (adN tb ln s0) 20 := c_4
      refine lv_iload_n hx hb dX1_readPerhaps_25 rfl (lv_at hl 3 rfl) ?_
      refine n_if_lt hx hb (by omega) (tgt := 42) dX1_readPerhaps_26 (by decide) (fun c_5 => ?_) (fun c_5 => ?_)
      · exact absurd c_5 (by omega)
      · refine lv_iload_n hx hb dX1_readPerhaps_29 rfl (lv_at hl 3 rfl) ?_
        refine lv_aload_n hx hb dX1_readPerhaps_30 rfl (lv_at hl 2 rfl) ?_
        refine n_alen hx hb hK hP 5 0 rfl rfl dX1_readPerhaps_31 ?_
        refine n_icmp_ge hx hb (by omega) (by omega) (tgt := 42) dX1_readPerhaps_32 (by decide) (fun c_6 => ?_) (fun c_6 => ?_)
        · omega
        · refine lv_aload_n hx hb dX1_readPerhaps_35 rfl (lv_at hl 2 rfl) ?_
          refine lv_iload_n hx hb dX1_readPerhaps_36 rfl (lv_at hl 3 rfl) ?_
          refine lv_aload_n hx hb dX1_readPerhaps_37 rfl (lv_at hl 0 rfl) ?_
          refine n_get (C := RX1) (T := TX1) (N := 6) hx hb hts (fun _ h => List.mem_cons_of_mem _ (List.mem_append_left _ (List.mem_append_right _ h))) hown hK hP 0 rfl rfl 5 (by decide) (List.mem_of_getElem? (i := 1) rfl) rfl (.int (nI (nmN tb ln (adN tb ln s0)))) rfl dX1_readPerhaps_38 ?_
          refine n_iast hx hb hK hP hD hS 5 (wn := ([(r 0, .inr (1, [.ref (x 1), .ref (tr 0), .int (nI (tyN tb ln (adN tb ln s0))), .int (nI (adN tb ln s0)), .int (nI (enN tb ln (adN tb ln s0))), .int (nI (nmN tb ln (adN tb ln s0)))])), (x 1, .inr (3, [.ref (x 2), .int (nI ln)])), (x 2, .inl (G.2.1, 120, .inl (nF tb)))] ++ (wH G tr (un σ (pl p0 1) (nmN tb ln (adN tb ln s0)))))) rfl (by omega) (by omega) (congrArg (fun hole_w : va_W => ([(r 0, .inr (1, [.ref (x 1), .ref (tr 0), .int (nI (tyN tb ln (adN tb ln s0))), .int (nI (adN tb ln s0)), .int (nI (enN tb ln (adN tb ln s0))), .int (nI (nmN tb ln (adN tb ln s0)))])), (x 1, .inr (3, [.ref (x 2), .int (nI ln)])), (x 2, .inl (G.2.1, 120, .inl (nF tb)))] ++ (hole_w))) (wH_p1 G tr σ p0 (nmN tb ln (adN tb ln s0)))) dX1_readPerhaps_41 (fun H locs hP hD hS => ?_)
          refine lv_aload_n hx hb dX1_readPerhaps_42 rfl (lv_at hl 0 rfl) ?_
          have hen_7 := en_le (tb := tb) (ln := ln) (s := (adN tb ln s0)) (by omega)
          have had_8 := ad_le (tb := tb) (ln := ln) (s := (adN tb ln s0)) (by omega)
          refine callVV (rest := []) (wn := fun u => ([(r 0, .inr (1, [.ref (x 1), .ref (tr 0), .int (nI (tyN tb ln (adN tb ln (adN tb ln s0)))), .int (nI (adN tb ln (adN tb ln s0))), .int (nI (enN tb ln (adN tb ln (adN tb ln s0)))), .int (nI u)])), (x 1, .inr (3, [.ref (x 2), .int (nI ln)])), (x 2, .inl (G.2.1, 120, .inl (nF tb)))] ++ (wH G tr (un σ (pl p0 1) (nmN tb ln (adN tb ln s0)))))) ⟨hx, hb, hml, hown, hts⟩ (c_X1_advance l G H.size r x tr tb ln (tyN tb ln (adN tb ln s0)) (adN tb ln s0) (enN tb ln (adN tb ln s0)) (nmN tb ln (adN tb ln s0)) (by omega) (by omega) htb (by omega)) (cwV 0 hts gX1_readPerhaps_X1_advance rfl rfl rfl (by decide +kernel) ⟨Nat.le_of_ble_eq_true rfl, Nat.le_of_ble_eq_true rfl⟩) noXB (fun _ _ _ => trivial) hK hP hD hS hAq 1 0 (T := TX1) (N := 6) rfl rfl rfl hl.1 rfl (Nat.le_of_ble_eq_true rfl) dX1_readPerhaps_43 ⟨Nat.le_of_ble_eq_true rfl, Nat.le_of_ble_eq_true rfl⟩ [0, 1, 2] rfl rfl [r 0, x 1, x 2] rfl (fun _ => rfl) (fun _ => rfl) (fun u H locs hok hP hD hS => ?_)
          obtain ⟨hu1, hu2⟩ := hok
          refine lv_iconst (v := nI 1) hx hb dX1_readPerhaps_46 rfl ?_
          have hph : phN tb ln 6 20 p0 1 s0 σ = (true, adN tb ln (adN tb ln s0), un σ (pl p0 1) (nmN tb ln (adN tb ln s0))) := by unfold phN; rw [if_pos hw, if_pos hnu]
          exact fin_z (ty := .boolean) (by decide) hx hb hr hlk hS hP hD u (by rw [hph]; exact ⟨by omega, hu2⟩) (by rw [hph]; rfl) (by rw [hph]; exact eqW.rf _) dX1_readPerhaps_47
    · have hnu : ¬ isNu tb ln (adN tb ln s0) 20 := fun h => c_4 ⟨h.1, (hu2 h.1).symm ▸ h.2⟩
      refine lv_iconst (v := nI 0) hx hb dX1_readPerhaps_23 rfl ?_
      have hph : phN tb ln 6 20 p0 1 s0 σ = (false, adN tb ln s0, σ) := by unfold phN; rw [if_pos hw, if_neg hnu]
      exact fin_z (ty := .boolean) (by decide) hx hb hr hlk hS hP hD u (by rw [hph]; exact ⟨by omega, hu2⟩) (by rw [hph]; rfl) (by rw [hph]; exact eqW.rf _) dX1_readPerhaps_24
  · have hw := c_1
    refine lv_iconst (v := nI 1) hx hb dX1_readPerhaps_8 rfl ?_
    have hph : phN tb ln 6 20 p0 1 s0 σ = (true, s0, σ) := by unfold phN; rw [if_neg hw]
    exact fin_z (ty := .boolean) (by decide) hx hb hr hlk hS hP hD v0 (by rw [hph]; exact ⟨by omega, hv2⟩) (by rw [hph]; rfl) (by rw [hph]; exact eqW.rf _) dX1_readPerhaps_9
set_option maxHeartbeats 400000 in
set_option maxRecDepth 100000 in
theorem c_X1_readPerhaps_2 (l : Launch) (G : GT) (sz : Nat) (r x tr : Nat → Nat) (tb : Nat → Nat) (ln s0 v0 : Nat) (hln : ln ≤ 120) (hs0 : s0 ≤ ln) (htb : ∀ j, tb j < 256) (adK adV : Nat → Nat) (σ : Sg) (p0 : Nat) (hp0 : p0 < 8) (hv1 : v0 ≤ 1000) (hv2 : tyN tb ln s0 = 2 → v0 = nmN tb ln s0) : MI (S := Nat) l G (XS adK adV) yX1_readPerhaps wsX1_readPerhaps ({ frames := 5, cells := 0, slots := 0, locals := 107 } : Room) [.ref (r 0), .ref (adK 7), .ref (tr 3), .int (nI p0), .int (nI 99)] (([(r 0, .inr (1, [.ref (x 1), .ref (tr 0), .int (nI (tyN tb ln s0)), .int (nI s0), .int (nI (enN tb ln s0)), .int (nI v0)])), (x 1, .inr (3, [.ref (x 2), .int (nI ln)])), (x 2, .inl (G.2.1, 120, .inl (nF tb)))] ++ (wH G tr σ))) sz (fun u => u ≤ 1000 ∧ (tyN tb ln (phN tb ln 7 99 p0 2 s0 σ).2.1 = 2 → u = nmN tb ln (phN tb ln 7 99 p0 2 s0 σ).2.1)) (fun u => zI ((phN tb ln 7 99 p0 2 s0 σ).1 = true)) (fun u => ([(r 0, .inr (1, [.ref (x 1), .ref (tr 0), .int (nI (tyN tb ln ((phN tb ln 7 99 p0 2 s0 σ).2.1))), .int (nI ((phN tb ln 7 99 p0 2 s0 σ).2.1)), .int (nI (enN tb ln ((phN tb ln 7 99 p0 2 s0 σ).2.1))), .int (nI u)])), (x 1, .inr (3, [.ref (x 2), .int (nI ln)])), (x 2, .inl (G.2.1, 120, .inl (nF tb)))] ++ (wH G tr ((phN tb ln 7 99 p0 2 s0 σ).2.2)))) := by
  refine MI_enter (cc := cX1_readPerhaps) (maxL := 5) (ret := (some .boolean)) (by decide) rfl (Nat.le_of_ble_eq_true rfl) ?_
  intro p e s m below meth c A ls H hx hb hr hlk hml hown hts hAq hS hP hK hD hX hl hnm
  have hown : s.vm.findClass RX1 = some m.cls := hown
  have hl : lv_has ls 5 [(0, .ref (r 0)), (1, .ref (adK 7)), (2, .ref (tr 3)), (3, .int (nI p0)), (4, .int (nI 99))] := hl
  obtain ⟨hen1, hen2⟩ := en_le (tb := tb) hs0
  have htyl := ty_le tb ln s0
  refine lv_aload_n hx hb dX1_readPerhaps_0 rfl (lv_at hl 0 rfl) ?_
  refine lv_aload_n hx hb dX1_readPerhaps_1 rfl (lv_at hl 1 rfl) ?_
  refine callVI (rest := []) (wn := fun u => ([(r 0, .inr (1, [.ref (x 1), .ref (tr 0), .int (nI (tyN tb ln s0)), .int (nI s0), .int (nI (enN tb ln s0)), .int (nI v0)])), (x 1, .inr (3, [.ref (x 2), .int (nI ln)])), (x 2, .inl (G.2.1, 120, .inl (nF tb)))] ++ (wH G tr σ))) ⟨hx, hb, hml, hown, hts⟩ (c_X1_isWord l G H.size r x tr tb ln s0 v0 (by omega) (by omega) htb adK adV 7 (by omega)) (cwV 1 hts gX1_readPerhaps_X1_isWord rfl rfl rfl (by decide +kernel) ⟨Nat.le_of_ble_eq_true rfl, Nat.le_of_ble_eq_true rfl⟩) XSB (XS_at hX hS hD hAq [0, 1, 2] rfl) hK hP hD hS hAq 1 0 (T := TX1) (N := 6) rfl rfl rfl hl.1 rfl (Nat.le_of_ble_eq_true rfl) dX1_readPerhaps_2 ⟨Nat.le_of_ble_eq_true rfl, Nat.le_of_ble_eq_true rfl⟩ [0, 1, 2] rfl rfl [r 0, x 1, x 2] rfl (fun _ => rfl) (fun _ => rfl) (fun u H locs hok hP hD hS => ?_)
  refine z_if_ne hx hb (tgt := 10) dX1_readPerhaps_5 (by decide) (fun c_1 => ?_) (fun c_1 => ?_)
  · have hw := c_1
    refine lv_aload_n hx hb dX1_readPerhaps_10 rfl (lv_at hl 0 rfl) ?_
    have hen_2 := en_le (tb := tb) (ln := ln) (s := s0) (by omega)
    have had_3 := ad_le (tb := tb) (ln := ln) (s := s0) (by omega)
    refine callVV (rest := []) (wn := fun u => ([(r 0, .inr (1, [.ref (x 1), .ref (tr 0), .int (nI (tyN tb ln (adN tb ln s0))), .int (nI (adN tb ln s0)), .int (nI (enN tb ln (adN tb ln s0))), .int (nI u)])), (x 1, .inr (3, [.ref (x 2), .int (nI ln)])), (x 2, .inl (G.2.1, 120, .inl (nF tb)))] ++ (wH G tr σ))) ⟨hx, hb, hml, hown, hts⟩ (c_X1_advance l G H.size r x tr tb ln (tyN tb ln s0) s0 (enN tb ln s0) v0 (by omega) (by omega) htb (by omega)) (cwV 0 hts gX1_readPerhaps_X1_advance rfl rfl rfl (by decide +kernel) ⟨Nat.le_of_ble_eq_true rfl, Nat.le_of_ble_eq_true rfl⟩) noXB (fun _ _ _ => trivial) hK hP hD hS hAq 1 0 (T := TX1) (N := 6) rfl rfl rfl hl.1 rfl (Nat.le_of_ble_eq_true rfl) dX1_readPerhaps_11 ⟨Nat.le_of_ble_eq_true rfl, Nat.le_of_ble_eq_true rfl⟩ [0, 1, 2] rfl rfl [r 0, x 1, x 2] rfl (fun _ => rfl) (fun _ => rfl) (fun u H locs hok hP hD hS => ?_)
    obtain ⟨hu1, hu2⟩ := hok
    refine lv_aload_n hx hb dX1_readPerhaps_14 rfl (lv_at hl 0 rfl) ?_
    refine lv_iload hx hb dX1_readPerhaps_15 (lv_at hl 4 rfl) ?_
    refine callVI (rest := []) (wn := fun u_ => ([(r 0, .inr (1, [.ref (x 1), .ref (tr 0), .int (nI (tyN tb ln (adN tb ln s0))), .int (nI (adN tb ln s0)), .int (nI (enN tb ln (adN tb ln s0))), .int (nI u)])), (x 1, .inr (3, [.ref (x 2), .int (nI ln)])), (x 2, .inl (G.2.1, 120, .inl (nF tb)))] ++ (wH G tr σ))) ⟨hx, hb, hml, hown, hts⟩ (c_X1_isNumber l G H.size r x tr tb ln (adN tb ln s0) u (by omega) (by omega) htb 99 (by omega) (by omega)) (cwV 1 hts gX1_readPerhaps_X1_isNumber rfl rfl rfl (by decide +kernel) ⟨Nat.le_of_ble_eq_true rfl, Nat.le_of_ble_eq_true rfl⟩) noXB (fun _ _ _ => trivial) hK hP hD hS hAq 1 0 (T := TX1) (N := 6) rfl rfl rfl hl.1 rfl (Nat.le_of_ble_eq_true rfl) dX1_readPerhaps_17 ⟨Nat.le_of_ble_eq_true rfl, Nat.le_of_ble_eq_true rfl⟩ [0, 1, 2] rfl rfl [r 0, x 1, x 2] rfl (fun _ => rfl) (fun _ => rfl) (fun u_ H locs hok hP hD hS => ?_)
    refine z_if_ne hx hb (tgt := 25) dX1_readPerhaps_20 (by decide) (fun c_4 => ?_) (fun c_4 => ?_)
    · have hun := hu2 c_4.1
      subst hun
      have hnu : isNu tb ln (adN tb ln s0) 99 := c_4
      refine lv_iload_n hx hb dX1_readPerhaps_25 rfl (lv_at hl 3 rfl) ?_
      refine n_if_lt hx hb (by omega) (tgt := 42) dX1_readPerhaps_26 (by decide) (fun c_5 => ?_) (fun c_5 => ?_)
      · exact absurd c_5 (by omega)
      · refine lv_iload_n hx hb dX1_readPerhaps_29 rfl (lv_at hl 3 rfl) ?_
        refine lv_aload_n hx hb dX1_readPerhaps_30 rfl (lv_at hl 2 rfl) ?_
        refine n_alen hx hb hK hP 6 0 rfl rfl dX1_readPerhaps_31 ?_
        refine n_icmp_ge hx hb (by omega) (by omega) (tgt := 42) dX1_readPerhaps_32 (by decide) (fun c_6 => ?_) (fun c_6 => ?_)
        · omega
        · refine lv_aload_n hx hb dX1_readPerhaps_35 rfl (lv_at hl 2 rfl) ?_
          refine lv_iload_n hx hb dX1_readPerhaps_36 rfl (lv_at hl 3 rfl) ?_
          refine lv_aload_n hx hb dX1_readPerhaps_37 rfl (lv_at hl 0 rfl) ?_
          refine n_get (C := RX1) (T := TX1) (N := 6) hx hb hts (fun _ h => List.mem_cons_of_mem _ (List.mem_append_left _ (List.mem_append_right _ h))) hown hK hP 0 rfl rfl 5 (by decide) (List.mem_of_getElem? (i := 1) rfl) rfl (.int (nI (nmN tb ln (adN tb ln s0)))) rfl dX1_readPerhaps_38 ?_
          refine n_iast hx hb hK hP hD hS 6 (wn := ([(r 0, .inr (1, [.ref (x 1), .ref (tr 0), .int (nI (tyN tb ln (adN tb ln s0))), .int (nI (adN tb ln s0)), .int (nI (enN tb ln (adN tb ln s0))), .int (nI (nmN tb ln (adN tb ln s0)))])), (x 1, .inr (3, [.ref (x 2), .int (nI ln)])), (x 2, .inl (G.2.1, 120, .inl (nF tb)))] ++ (wH G tr (un σ (pl p0 2) (nmN tb ln (adN tb ln s0)))))) rfl (by omega) (by omega) (congrArg (fun hole_w : va_W => ([(r 0, .inr (1, [.ref (x 1), .ref (tr 0), .int (nI (tyN tb ln (adN tb ln s0))), .int (nI (adN tb ln s0)), .int (nI (enN tb ln (adN tb ln s0))), .int (nI (nmN tb ln (adN tb ln s0)))])), (x 1, .inr (3, [.ref (x 2), .int (nI ln)])), (x 2, .inl (G.2.1, 120, .inl (nF tb)))] ++ (hole_w))) (wH_p2 G tr σ p0 (nmN tb ln (adN tb ln s0)))) dX1_readPerhaps_41 (fun H locs hP hD hS => ?_)
          refine lv_aload_n hx hb dX1_readPerhaps_42 rfl (lv_at hl 0 rfl) ?_
          have hen_7 := en_le (tb := tb) (ln := ln) (s := (adN tb ln s0)) (by omega)
          have had_8 := ad_le (tb := tb) (ln := ln) (s := (adN tb ln s0)) (by omega)
          refine callVV (rest := []) (wn := fun u => ([(r 0, .inr (1, [.ref (x 1), .ref (tr 0), .int (nI (tyN tb ln (adN tb ln (adN tb ln s0)))), .int (nI (adN tb ln (adN tb ln s0))), .int (nI (enN tb ln (adN tb ln (adN tb ln s0)))), .int (nI u)])), (x 1, .inr (3, [.ref (x 2), .int (nI ln)])), (x 2, .inl (G.2.1, 120, .inl (nF tb)))] ++ (wH G tr (un σ (pl p0 2) (nmN tb ln (adN tb ln s0)))))) ⟨hx, hb, hml, hown, hts⟩ (c_X1_advance l G H.size r x tr tb ln (tyN tb ln (adN tb ln s0)) (adN tb ln s0) (enN tb ln (adN tb ln s0)) (nmN tb ln (adN tb ln s0)) (by omega) (by omega) htb (by omega)) (cwV 0 hts gX1_readPerhaps_X1_advance rfl rfl rfl (by decide +kernel) ⟨Nat.le_of_ble_eq_true rfl, Nat.le_of_ble_eq_true rfl⟩) noXB (fun _ _ _ => trivial) hK hP hD hS hAq 1 0 (T := TX1) (N := 6) rfl rfl rfl hl.1 rfl (Nat.le_of_ble_eq_true rfl) dX1_readPerhaps_43 ⟨Nat.le_of_ble_eq_true rfl, Nat.le_of_ble_eq_true rfl⟩ [0, 1, 2] rfl rfl [r 0, x 1, x 2] rfl (fun _ => rfl) (fun _ => rfl) (fun u H locs hok hP hD hS => ?_)
          obtain ⟨hu1, hu2⟩ := hok
          refine lv_iconst (v := nI 1) hx hb dX1_readPerhaps_46 rfl ?_
          have hph : phN tb ln 7 99 p0 2 s0 σ = (true, adN tb ln (adN tb ln s0), un σ (pl p0 2) (nmN tb ln (adN tb ln s0))) := by unfold phN; rw [if_pos hw, if_pos hnu]
          exact fin_z (ty := .boolean) (by decide) hx hb hr hlk hS hP hD u (by rw [hph]; exact ⟨by omega, hu2⟩) (by rw [hph]; rfl) (by rw [hph]; exact eqW.rf _) dX1_readPerhaps_47
    · have hnu : ¬ isNu tb ln (adN tb ln s0) 99 := fun h => c_4 ⟨h.1, (hu2 h.1).symm ▸ h.2⟩
      refine lv_iconst (v := nI 0) hx hb dX1_readPerhaps_23 rfl ?_
      have hph : phN tb ln 7 99 p0 2 s0 σ = (false, adN tb ln s0, σ) := by unfold phN; rw [if_pos hw, if_neg hnu]
      exact fin_z (ty := .boolean) (by decide) hx hb hr hlk hS hP hD u (by rw [hph]; exact ⟨by omega, hu2⟩) (by rw [hph]; rfl) (by rw [hph]; exact eqW.rf _) dX1_readPerhaps_24
  · have hw := c_1
    refine lv_iconst (v := nI 1) hx hb dX1_readPerhaps_8 rfl ?_
    have hph : phN tb ln 7 99 p0 2 s0 σ = (true, s0, σ) := by unfold phN; rw [if_neg hw]
    exact fin_z (ty := .boolean) (by decide) hx hb hr hlk hS hP hD v0 (by rw [hph]; exact ⟨by omega, hv2⟩) (by rw [hph]; rfl) (by rw [hph]; exact eqW.rf _) dX1_readPerhaps_9
set_option maxHeartbeats 400000 in
set_option maxRecDepth 100000 in
theorem c_X1_readPerhaps_3 (l : Launch) (G : GT) (sz : Nat) (r x tr : Nat → Nat) (tb : Nat → Nat) (ln s0 v0 : Nat) (hln : ln ≤ 120) (hs0 : s0 ≤ ln) (htb : ∀ j, tb j < 256) (adK adV : Nat → Nat) (σ : Sg) (p0 : Nat) (hp0 : p0 < 8) (hv1 : v0 ≤ 1000) (hv2 : tyN tb ln s0 = 2 → v0 = nmN tb ln s0) : MI (S := Nat) l G (XS adK adV) yX1_readPerhaps wsX1_readPerhaps ({ frames := 5, cells := 0, slots := 0, locals := 107 } : Room) [.ref (r 0), .ref (adK 8), .ref (tr 4), .int (nI p0), .int (nI 99)] (([(r 0, .inr (1, [.ref (x 1), .ref (tr 0), .int (nI (tyN tb ln s0)), .int (nI s0), .int (nI (enN tb ln s0)), .int (nI v0)])), (x 1, .inr (3, [.ref (x 2), .int (nI ln)])), (x 2, .inl (G.2.1, 120, .inl (nF tb)))] ++ (wH G tr σ))) sz (fun u => u ≤ 1000 ∧ (tyN tb ln (phN tb ln 8 99 p0 3 s0 σ).2.1 = 2 → u = nmN tb ln (phN tb ln 8 99 p0 3 s0 σ).2.1)) (fun u => zI ((phN tb ln 8 99 p0 3 s0 σ).1 = true)) (fun u => ([(r 0, .inr (1, [.ref (x 1), .ref (tr 0), .int (nI (tyN tb ln ((phN tb ln 8 99 p0 3 s0 σ).2.1))), .int (nI ((phN tb ln 8 99 p0 3 s0 σ).2.1)), .int (nI (enN tb ln ((phN tb ln 8 99 p0 3 s0 σ).2.1))), .int (nI u)])), (x 1, .inr (3, [.ref (x 2), .int (nI ln)])), (x 2, .inl (G.2.1, 120, .inl (nF tb)))] ++ (wH G tr ((phN tb ln 8 99 p0 3 s0 σ).2.2)))) := by
  refine MI_enter (cc := cX1_readPerhaps) (maxL := 5) (ret := (some .boolean)) (by decide) rfl (Nat.le_of_ble_eq_true rfl) ?_
  intro p e s m below meth c A ls H hx hb hr hlk hml hown hts hAq hS hP hK hD hX hl hnm
  have hown : s.vm.findClass RX1 = some m.cls := hown
  have hl : lv_has ls 5 [(0, .ref (r 0)), (1, .ref (adK 8)), (2, .ref (tr 4)), (3, .int (nI p0)), (4, .int (nI 99))] := hl
  obtain ⟨hen1, hen2⟩ := en_le (tb := tb) hs0
  have htyl := ty_le tb ln s0
  refine lv_aload_n hx hb dX1_readPerhaps_0 rfl (lv_at hl 0 rfl) ?_
  refine lv_aload_n hx hb dX1_readPerhaps_1 rfl (lv_at hl 1 rfl) ?_
  refine callVI (rest := []) (wn := fun u => ([(r 0, .inr (1, [.ref (x 1), .ref (tr 0), .int (nI (tyN tb ln s0)), .int (nI s0), .int (nI (enN tb ln s0)), .int (nI v0)])), (x 1, .inr (3, [.ref (x 2), .int (nI ln)])), (x 2, .inl (G.2.1, 120, .inl (nF tb)))] ++ (wH G tr σ))) ⟨hx, hb, hml, hown, hts⟩ (c_X1_isWord l G H.size r x tr tb ln s0 v0 (by omega) (by omega) htb adK adV 8 (by omega)) (cwV 1 hts gX1_readPerhaps_X1_isWord rfl rfl rfl (by decide +kernel) ⟨Nat.le_of_ble_eq_true rfl, Nat.le_of_ble_eq_true rfl⟩) XSB (XS_at hX hS hD hAq [0, 1, 2] rfl) hK hP hD hS hAq 1 0 (T := TX1) (N := 6) rfl rfl rfl hl.1 rfl (Nat.le_of_ble_eq_true rfl) dX1_readPerhaps_2 ⟨Nat.le_of_ble_eq_true rfl, Nat.le_of_ble_eq_true rfl⟩ [0, 1, 2] rfl rfl [r 0, x 1, x 2] rfl (fun _ => rfl) (fun _ => rfl) (fun u H locs hok hP hD hS => ?_)
  refine z_if_ne hx hb (tgt := 10) dX1_readPerhaps_5 (by decide) (fun c_1 => ?_) (fun c_1 => ?_)
  · have hw := c_1
    refine lv_aload_n hx hb dX1_readPerhaps_10 rfl (lv_at hl 0 rfl) ?_
    have hen_2 := en_le (tb := tb) (ln := ln) (s := s0) (by omega)
    have had_3 := ad_le (tb := tb) (ln := ln) (s := s0) (by omega)
    refine callVV (rest := []) (wn := fun u => ([(r 0, .inr (1, [.ref (x 1), .ref (tr 0), .int (nI (tyN tb ln (adN tb ln s0))), .int (nI (adN tb ln s0)), .int (nI (enN tb ln (adN tb ln s0))), .int (nI u)])), (x 1, .inr (3, [.ref (x 2), .int (nI ln)])), (x 2, .inl (G.2.1, 120, .inl (nF tb)))] ++ (wH G tr σ))) ⟨hx, hb, hml, hown, hts⟩ (c_X1_advance l G H.size r x tr tb ln (tyN tb ln s0) s0 (enN tb ln s0) v0 (by omega) (by omega) htb (by omega)) (cwV 0 hts gX1_readPerhaps_X1_advance rfl rfl rfl (by decide +kernel) ⟨Nat.le_of_ble_eq_true rfl, Nat.le_of_ble_eq_true rfl⟩) noXB (fun _ _ _ => trivial) hK hP hD hS hAq 1 0 (T := TX1) (N := 6) rfl rfl rfl hl.1 rfl (Nat.le_of_ble_eq_true rfl) dX1_readPerhaps_11 ⟨Nat.le_of_ble_eq_true rfl, Nat.le_of_ble_eq_true rfl⟩ [0, 1, 2] rfl rfl [r 0, x 1, x 2] rfl (fun _ => rfl) (fun _ => rfl) (fun u H locs hok hP hD hS => ?_)
    obtain ⟨hu1, hu2⟩ := hok
    refine lv_aload_n hx hb dX1_readPerhaps_14 rfl (lv_at hl 0 rfl) ?_
    refine lv_iload hx hb dX1_readPerhaps_15 (lv_at hl 4 rfl) ?_
    refine callVI (rest := []) (wn := fun u_ => ([(r 0, .inr (1, [.ref (x 1), .ref (tr 0), .int (nI (tyN tb ln (adN tb ln s0))), .int (nI (adN tb ln s0)), .int (nI (enN tb ln (adN tb ln s0))), .int (nI u)])), (x 1, .inr (3, [.ref (x 2), .int (nI ln)])), (x 2, .inl (G.2.1, 120, .inl (nF tb)))] ++ (wH G tr σ))) ⟨hx, hb, hml, hown, hts⟩ (c_X1_isNumber l G H.size r x tr tb ln (adN tb ln s0) u (by omega) (by omega) htb 99 (by omega) (by omega)) (cwV 1 hts gX1_readPerhaps_X1_isNumber rfl rfl rfl (by decide +kernel) ⟨Nat.le_of_ble_eq_true rfl, Nat.le_of_ble_eq_true rfl⟩) noXB (fun _ _ _ => trivial) hK hP hD hS hAq 1 0 (T := TX1) (N := 6) rfl rfl rfl hl.1 rfl (Nat.le_of_ble_eq_true rfl) dX1_readPerhaps_17 ⟨Nat.le_of_ble_eq_true rfl, Nat.le_of_ble_eq_true rfl⟩ [0, 1, 2] rfl rfl [r 0, x 1, x 2] rfl (fun _ => rfl) (fun _ => rfl) (fun u_ H locs hok hP hD hS => ?_)
    refine z_if_ne hx hb (tgt := 25) dX1_readPerhaps_20 (by decide) (fun c_4 => ?_) (fun c_4 => ?_)
    · have hun := hu2 c_4.1
      subst hun
      have hnu : isNu tb ln (adN tb ln s0) 99 := c_4
      refine lv_iload_n hx hb dX1_readPerhaps_25 rfl (lv_at hl 3 rfl) ?_
      refine n_if_lt hx hb (by omega) (tgt := 42) dX1_readPerhaps_26 (by decide) (fun c_5 => ?_) (fun c_5 => ?_)
      · exact absurd c_5 (by omega)
      · refine lv_iload_n hx hb dX1_readPerhaps_29 rfl (lv_at hl 3 rfl) ?_
        refine lv_aload_n hx hb dX1_readPerhaps_30 rfl (lv_at hl 2 rfl) ?_
        refine n_alen hx hb hK hP 7 0 rfl rfl dX1_readPerhaps_31 ?_
        refine n_icmp_ge hx hb (by omega) (by omega) (tgt := 42) dX1_readPerhaps_32 (by decide) (fun c_6 => ?_) (fun c_6 => ?_)
        · omega
        · refine lv_aload_n hx hb dX1_readPerhaps_35 rfl (lv_at hl 2 rfl) ?_
          refine lv_iload_n hx hb dX1_readPerhaps_36 rfl (lv_at hl 3 rfl) ?_
          refine lv_aload_n hx hb dX1_readPerhaps_37 rfl (lv_at hl 0 rfl) ?_
          refine n_get (C := RX1) (T := TX1) (N := 6) hx hb hts (fun _ h => List.mem_cons_of_mem _ (List.mem_append_left _ (List.mem_append_right _ h))) hown hK hP 0 rfl rfl 5 (by decide) (List.mem_of_getElem? (i := 1) rfl) rfl (.int (nI (nmN tb ln (adN tb ln s0)))) rfl dX1_readPerhaps_38 ?_
          refine n_iast hx hb hK hP hD hS 7 (wn := ([(r 0, .inr (1, [.ref (x 1), .ref (tr 0), .int (nI (tyN tb ln (adN tb ln s0))), .int (nI (adN tb ln s0)), .int (nI (enN tb ln (adN tb ln s0))), .int (nI (nmN tb ln (adN tb ln s0)))])), (x 1, .inr (3, [.ref (x 2), .int (nI ln)])), (x 2, .inl (G.2.1, 120, .inl (nF tb)))] ++ (wH G tr (un σ (pl p0 3) (nmN tb ln (adN tb ln s0)))))) rfl (by omega) (by omega) (congrArg (fun hole_w : va_W => ([(r 0, .inr (1, [.ref (x 1), .ref (tr 0), .int (nI (tyN tb ln (adN tb ln s0))), .int (nI (adN tb ln s0)), .int (nI (enN tb ln (adN tb ln s0))), .int (nI (nmN tb ln (adN tb ln s0)))])), (x 1, .inr (3, [.ref (x 2), .int (nI ln)])), (x 2, .inl (G.2.1, 120, .inl (nF tb)))] ++ (hole_w))) (wH_p3 G tr σ p0 (nmN tb ln (adN tb ln s0)))) dX1_readPerhaps_41 (fun H locs hP hD hS => ?_)
          refine lv_aload_n hx hb dX1_readPerhaps_42 rfl (lv_at hl 0 rfl) ?_
          have hen_7 := en_le (tb := tb) (ln := ln) (s := (adN tb ln s0)) (by omega)
          have had_8 := ad_le (tb := tb) (ln := ln) (s := (adN tb ln s0)) (by omega)
          refine callVV (rest := []) (wn := fun u => ([(r 0, .inr (1, [.ref (x 1), .ref (tr 0), .int (nI (tyN tb ln (adN tb ln (adN tb ln s0)))), .int (nI (adN tb ln (adN tb ln s0))), .int (nI (enN tb ln (adN tb ln (adN tb ln s0)))), .int (nI u)])), (x 1, .inr (3, [.ref (x 2), .int (nI ln)])), (x 2, .inl (G.2.1, 120, .inl (nF tb)))] ++ (wH G tr (un σ (pl p0 3) (nmN tb ln (adN tb ln s0)))))) ⟨hx, hb, hml, hown, hts⟩ (c_X1_advance l G H.size r x tr tb ln (tyN tb ln (adN tb ln s0)) (adN tb ln s0) (enN tb ln (adN tb ln s0)) (nmN tb ln (adN tb ln s0)) (by omega) (by omega) htb (by omega)) (cwV 0 hts gX1_readPerhaps_X1_advance rfl rfl rfl (by decide +kernel) ⟨Nat.le_of_ble_eq_true rfl, Nat.le_of_ble_eq_true rfl⟩) noXB (fun _ _ _ => trivial) hK hP hD hS hAq 1 0 (T := TX1) (N := 6) rfl rfl rfl hl.1 rfl (Nat.le_of_ble_eq_true rfl) dX1_readPerhaps_43 ⟨Nat.le_of_ble_eq_true rfl, Nat.le_of_ble_eq_true rfl⟩ [0, 1, 2] rfl rfl [r 0, x 1, x 2] rfl (fun _ => rfl) (fun _ => rfl) (fun u H locs hok hP hD hS => ?_)
          obtain ⟨hu1, hu2⟩ := hok
          refine lv_iconst (v := nI 1) hx hb dX1_readPerhaps_46 rfl ?_
          have hph : phN tb ln 8 99 p0 3 s0 σ = (true, adN tb ln (adN tb ln s0), un σ (pl p0 3) (nmN tb ln (adN tb ln s0))) := by unfold phN; rw [if_pos hw, if_pos hnu]
          exact fin_z (ty := .boolean) (by decide) hx hb hr hlk hS hP hD u (by rw [hph]; exact ⟨by omega, hu2⟩) (by rw [hph]; rfl) (by rw [hph]; exact eqW.rf _) dX1_readPerhaps_47
    · have hnu : ¬ isNu tb ln (adN tb ln s0) 99 := fun h => c_4 ⟨h.1, (hu2 h.1).symm ▸ h.2⟩
      refine lv_iconst (v := nI 0) hx hb dX1_readPerhaps_23 rfl ?_
      have hph : phN tb ln 8 99 p0 3 s0 σ = (false, adN tb ln s0, σ) := by unfold phN; rw [if_pos hw, if_neg hnu]
      exact fin_z (ty := .boolean) (by decide) hx hb hr hlk hS hP hD u (by rw [hph]; exact ⟨by omega, hu2⟩) (by rw [hph]; rfl) (by rw [hph]; exact eqW.rf _) dX1_readPerhaps_24
  · have hw := c_1
    refine lv_iconst (v := nI 1) hx hb dX1_readPerhaps_8 rfl ?_
    have hph : phN tb ln 8 99 p0 3 s0 σ = (true, s0, σ) := by unfold phN; rw [if_neg hw]
    exact fin_z (ty := .boolean) (by decide) hx hb hr hlk hS hP hD v0 (by rw [hph]; exact ⟨by omega, hv2⟩) (by rw [hph]; rfl) (by rw [hph]; exact eqW.rf _) dX1_readPerhaps_9
set_option maxHeartbeats 400000 in
set_option maxRecDepth 100000 in
theorem c_X1_readPerson (l : Launch) (G : GT) (sz : Nat) (r x tr : Nat → Nat) (tb : Nat → Nat) (ln s0 v0 : Nat) (hln : ln ≤ 120) (hs0 : s0 ≤ ln) (htb : ∀ j, tb j < 256) (adK adV : Nat → Nat) (σ : Sg) (kd : Nat) (h5 : σ 5 ≤ 8) (hv1 : v0 ≤ 1000) (hv2 : tyN tb ln s0 = 2 → v0 = nmN tb ln s0) : MI (S := Nat) l G (XS adK adV) yX1_readPerson wsX1_readPerson ({ frames := 6, cells := 0, slots := 0, locals := 131 } : Room) [.ref (r 0), .int (nI kd)] (([(r 0, .inr (1, [.ref (x 1), .ref (tr 0), .int (nI (tyN tb ln s0)), .int (nI s0), .int (nI (enN tb ln s0)), .int (nI v0)])), (x 1, .inr (3, [.ref (x 2), .int (nI ln)])), (x 2, .inl (G.2.1, 120, .inl (nF tb)))] ++ (wH G tr σ))) sz (fun u => u ≤ 1000 ∧ (tyN tb ln (psN tb ln kd s0 σ).2.1 = 2 → u = nmN tb ln (psN tb ln kd s0 σ).2.1)) (fun u => zI ((psN tb ln kd s0 σ).1 = true)) (fun u => ([(r 0, .inr (1, [.ref (x 1), .ref (tr 0), .int (nI (tyN tb ln ((psN tb ln kd s0 σ).2.1))), .int (nI ((psN tb ln kd s0 σ).2.1)), .int (nI (enN tb ln ((psN tb ln kd s0 σ).2.1))), .int (nI u)])), (x 1, .inr (3, [.ref (x 2), .int (nI ln)])), (x 2, .inl (G.2.1, 120, .inl (nF tb)))] ++ (wH G tr ((psN tb ln kd s0 σ).2.2)))) := by
  refine MI_enter (cc := cX1_readPerson) (maxL := 3) (ret := (some .boolean)) (by decide) rfl (Nat.le_of_ble_eq_true rfl) ?_
  intro p e s m below meth c A ls H hx hb hr hlk hml hown hts hAq hS hP hK hD hX hl hnm
  have hown : s.vm.findClass RX1 = some m.cls := hown
  have hl : lv_has ls 3 [(0, .ref (r 0)), (1, .int (nI kd))] := hl
  obtain ⟨hen1, hen2⟩ := en_le (tb := tb) hs0
  have htyl := ty_le tb ln s0
  refine lv_aload_n hx hb dX1_readPerson_0 rfl (lv_at hl 0 rfl) ?_
  refine n_get (C := RX1) (T := TX1) (N := 6) hx hb hts (fun _ h => List.mem_cons_of_mem _ (List.mem_append_left _ (List.mem_append_left _ (List.mem_append_right _ h)))) hown hK hP 0 rfl rfl 1 (by decide) (List.mem_of_getElem? (i := 1) rfl) rfl (.ref (tr 0)) rfl dX1_readPerson_1 ?_
  refine lv_iload_n hx hb dX1_readPerson_4 rfl (lv_at hl 1 rfl) ?_
  refine callVI (rest := []) (wn := fun u => ([(r 0, .inr (1, [.ref (x 1), .ref (tr 0), .int (nI (tyN tb ln s0)), .int (nI s0), .int (nI (enN tb ln s0)), .int (nI v0)])), (x 1, .inr (3, [.ref (x 2), .int (nI ln)])), (x 2, .inl (G.2.1, 120, .inl (nF tb)))] ++ (wH G tr (if σ 5 < 8 then addN σ kd else σ)))) ⟨hx, hb, hml, hown, hts⟩ (c_X0_addOne l G H.size tr σ kd (by omega)) (cwV 1 hts gX1_readPerson_X0_addOne rfl rfl rfl (by decide +kernel) ⟨Nat.le_of_ble_eq_true rfl, Nat.le_of_ble_eq_true rfl⟩) noXB (fun _ _ _ => trivial) hK hP hD hS hAq 0 0 (T := TX0) (N := 11) rfl rfl rfl hl.1 rfl (Nat.le_of_ble_eq_true rfl) dX1_readPerson_5 ⟨Nat.le_of_ble_eq_true rfl, Nat.le_of_ble_eq_true rfl⟩ [3, 4, 5, 6, 7, 8] rfl rfl [tr 0, tr 1, tr 2, tr 3, tr 4, tr 5] rfl (fun _ => rfl) (fun _ => rfl) (fun u H locs hok hP hD hS => ?_)
  by_cases h58 : σ 5 < 8
  · rw [if_pos h58] at hP hD
    refine n_top (y := nI (σ 5)) (if_pos h58) ?_
    refine lv_istore_n (lv' := [(2, .int (nI (σ 5))), (0, .ref (r 0)), (1, .int (nI kd))]) hx hb dX1_readPerson_8 rfl hl (by decide) rfl (fun ls hl => ?_)
    refine lv_iload_n hx hb dX1_readPerson_9 rfl (lv_at hl 0 rfl) ?_
    refine n_if_ge hx hb (by omega) (tgt := 15) dX1_readPerson_10 (by decide) (fun c_1 => ?_) (fun c_1 => ?_)
    · refine lv_aload_n hx hb dX1_readPerson_15 rfl (lv_at hl 1 rfl) ?_
      have hen_2 := en_le (tb := tb) (ln := ln) (s := s0) (by omega)
      have had_3 := ad_le (tb := tb) (ln := ln) (s := s0) (by omega)
      refine callVV (rest := []) (wn := fun u => ([(r 0, .inr (1, [.ref (x 1), .ref (tr 0), .int (nI (tyN tb ln (adN tb ln s0))), .int (nI (adN tb ln s0)), .int (nI (enN tb ln (adN tb ln s0))), .int (nI u)])), (x 1, .inr (3, [.ref (x 2), .int (nI ln)])), (x 2, .inl (G.2.1, 120, .inl (nF tb)))] ++ (wH G tr (addN σ kd)))) ⟨hx, hb, hml, hown, hts⟩ (c_X1_advance l G H.size r x tr tb ln (tyN tb ln s0) s0 (enN tb ln s0) v0 (by omega) (by omega) htb (by omega)) (cwV 0 hts gX1_readPerson_X1_advance rfl rfl rfl (by decide +kernel) ⟨Nat.le_of_ble_eq_true rfl, Nat.le_of_ble_eq_true rfl⟩) noXB (fun _ _ _ => trivial) hK hP hD hS hAq 1 0 (T := TX1) (N := 6) rfl rfl rfl hl.1 rfl (Nat.le_of_ble_eq_true rfl) dX1_readPerson_16 ⟨Nat.le_of_ble_eq_true rfl, Nat.le_of_ble_eq_true rfl⟩ [0, 1, 2] rfl rfl [r 0, x 1, x 2] rfl (fun _ => rfl) (fun _ => rfl) (fun u H locs hok hP hD hS => ?_)
      obtain ⟨hu1, hu2⟩ := hok
      refine lv_aload_n hx hb dX1_readPerson_19 rfl (lv_at hl 1 rfl) ?_
      refine va_ldcS hx hb hown (show vk_R RX1 68 "needs" (adK 6) s from hX.2.2.2 6 (by decide)) dX1_readPerson_20 ?_
      refine lv_aload_n hx hb dX1_readPerson_22 rfl (lv_at hl 1 rfl) ?_
      refine n_get (C := RX1) (T := TX1) (N := 6) hx hb hts (fun _ h => List.mem_cons_of_mem _ (List.mem_append_left _ (List.mem_append_left _ (List.mem_append_right _ h)))) hown hK hP 0 rfl rfl 1 (by decide) (List.mem_of_getElem? (i := 1) rfl) rfl (.ref (tr 0)) rfl dX1_readPerson_23 ?_
      refine n_get (C := RX0) (T := TX0) (N := 11) hx hb hts (fun _ h => List.mem_cons_of_mem _ (List.mem_append_left _ (List.mem_append_right _ h))) hown hK hP 3 rfl rfl 7 (by decide) (List.mem_of_getElem? (i := 2) rfl) rfl (.ref (tr 2)) rfl dX1_readPerson_26 ?_
      refine lv_iload_n hx hb dX1_readPerson_29 rfl (lv_at hl 0 rfl) ?_
      refine lv_bipush (v := nI 20) hx hb dX1_readPerson_30 rfl ?_
      have hph_4 := ph_le (tb := tb) (ln := ln) (w := 6) (g := 20) (p := (σ 5)) (c := 1) (s := adN tb ln s0) (σ := addN σ kd) (by omega)
      have hpq_5 : (ln : Nat) ≥ (psA tb ln kd s0 σ).2.1 := hph_4.2
      refine callVI (rest := []) (wn := fun u => ([(r 0, .inr (1, [.ref (x 1), .ref (tr 0), .int (nI (tyN tb ln ((psA tb ln kd s0 σ).2.1))), .int (nI ((psA tb ln kd s0 σ).2.1)), .int (nI (enN tb ln ((psA tb ln kd s0 σ).2.1))), .int (nI u)])), (x 1, .inr (3, [.ref (x 2), .int (nI ln)])), (x 2, .inl (G.2.1, 120, .inl (nF tb)))] ++ (wH G tr ((psA tb ln kd s0 σ).2.2)))) ⟨hx, hb, hml, hown, hts⟩ (c_X1_readPerhaps_1 l G H.size r x tr tb ln (adN tb ln s0) u (by omega) (by omega) htb adK adV (addN σ kd) (σ 5) (by omega) (by omega) hu2) (cwV 4 hts gX1_readPerson_X1_readPerhaps rfl rfl rfl (by decide +kernel) ⟨Nat.le_of_ble_eq_true rfl, Nat.le_of_ble_eq_true rfl⟩) XSB (XS_at hX hS hD hAq [0, 1, 2, 3, 4, 5, 6, 7, 8] rfl) hK hP hD hS hAq 1 0 (T := TX1) (N := 6) rfl rfl rfl hl.1 rfl (Nat.le_of_ble_eq_true rfl) dX1_readPerson_32 ⟨Nat.le_of_ble_eq_true rfl, Nat.le_of_ble_eq_true rfl⟩ [0, 1, 2, 3, 4, 5, 6, 7, 8] rfl rfl [r 0, x 1, x 2, tr 0, tr 1, tr 2, tr 3, tr 4, tr 5] rfl (fun _ => rfl) (fun _ => rfl) (fun u H locs hok hP hD hS => ?_)
      obtain ⟨hu1, hu2⟩ := hok
      refine z_if_eq hx hb (tgt := 80) dX1_readPerson_35 (by decide) (fun c_6 => ?_) (fun c_6 => ?_)
      · have ha : ¬ (psA tb ln kd s0 σ).1 = true := c_6
        refine lv_iconst (v := nI 0) hx hb dX1_readPerson_80 rfl ?_
        have hps : psN tb ln kd s0 σ = psA tb ln kd s0 σ := by unfold psN; rw [if_pos h58, if_neg ha]
        exact fin_z (ty := .boolean) (by decide) hx hb hr hlk hS hP hD u (by rw [hps]; exact ⟨by omega, hu2⟩) (by rw [hps]; exact (zI_f ha).symm) (by rw [hps]; exact eqW.rf _) dX1_readPerson_81
      · have ha : (psA tb ln kd s0 σ).1 = true := c_6
        refine lv_aload_n hx hb dX1_readPerson_38 rfl (lv_at hl 1 rfl) ?_
        refine va_ldcS hx hb hown (show vk_R RX1 78 "reason" (adK 7) s from hX.2.2.2 7 (by decide)) dX1_readPerson_39 ?_
        refine lv_aload_n hx hb dX1_readPerson_41 rfl (lv_at hl 1 rfl) ?_
        refine n_get (C := RX1) (T := TX1) (N := 6) hx hb hts (fun _ h => List.mem_cons_of_mem _ (List.mem_append_left _ (List.mem_append_left _ (List.mem_append_right _ h)))) hown hK hP 0 rfl rfl 1 (by decide) (List.mem_of_getElem? (i := 1) rfl) rfl (.ref (tr 0)) rfl dX1_readPerson_42 ?_
        refine n_get (C := RX0) (T := TX0) (N := 11) hx hb hts (fun _ h => List.mem_cons_of_mem _ (List.mem_append_left _ (List.mem_append_right _ h))) hown hK hP 3 rfl rfl 8 (by decide) (List.mem_of_getElem? (i := 3) rfl) rfl (.ref (tr 3)) rfl dX1_readPerson_45 ?_
        refine lv_iload_n hx hb dX1_readPerson_48 rfl (lv_at hl 0 rfl) ?_
        refine lv_bipush (v := nI 99) hx hb dX1_readPerson_49 rfl ?_
        have hph_7 := ph_le (tb := tb) (ln := ln) (w := 7) (g := 99) (p := (σ 5)) (c := 2) (s := (psA tb ln kd s0 σ).2.1) (σ := (psA tb ln kd s0 σ).2.2) (by omega)
        have hpq_8 : (ln : Nat) ≥ (psB tb ln kd s0 σ).2.1 := hph_7.2
        refine callVI (rest := []) (wn := fun u => ([(r 0, .inr (1, [.ref (x 1), .ref (tr 0), .int (nI (tyN tb ln ((psB tb ln kd s0 σ).2.1))), .int (nI ((psB tb ln kd s0 σ).2.1)), .int (nI (enN tb ln ((psB tb ln kd s0 σ).2.1))), .int (nI u)])), (x 1, .inr (3, [.ref (x 2), .int (nI ln)])), (x 2, .inl (G.2.1, 120, .inl (nF tb)))] ++ (wH G tr ((psB tb ln kd s0 σ).2.2)))) ⟨hx, hb, hml, hown, hts⟩ (c_X1_readPerhaps_2 l G H.size r x tr tb ln ((psA tb ln kd s0 σ).2.1) u (by omega) (by omega) htb adK adV ((psA tb ln kd s0 σ).2.2) (σ 5) (by omega) (by omega) hu2) (cwV 4 hts gX1_readPerson_X1_readPerhaps rfl rfl rfl (by decide +kernel) ⟨Nat.le_of_ble_eq_true rfl, Nat.le_of_ble_eq_true rfl⟩) XSB (XS_at hX hS hD hAq [0, 1, 2, 3, 4, 5, 6, 7, 8] rfl) hK hP hD hS hAq 1 0 (T := TX1) (N := 6) rfl rfl rfl hl.1 rfl (Nat.le_of_ble_eq_true rfl) dX1_readPerson_51 ⟨Nat.le_of_ble_eq_true rfl, Nat.le_of_ble_eq_true rfl⟩ [0, 1, 2, 3, 4, 5, 6, 7, 8] rfl rfl [r 0, x 1, x 2, tr 0, tr 1, tr 2, tr 3, tr 4, tr 5] rfl (fun _ => rfl) (fun _ => rfl) (fun u H locs hok hP hD hS => ?_)
        obtain ⟨hu1, hu2⟩ := hok
        refine z_if_eq hx hb (tgt := 80) dX1_readPerson_54 (by decide) (fun c_9 => ?_) (fun c_9 => ?_)
        · have hb_ : ¬ (psB tb ln kd s0 σ).1 = true := c_9
          refine lv_iconst (v := nI 0) hx hb dX1_readPerson_80 rfl ?_
          have hps : psN tb ln kd s0 σ = psB tb ln kd s0 σ := by unfold psN; rw [if_pos h58, if_pos ha, if_neg hb_]
          exact fin_z (ty := .boolean) (by decide) hx hb hr hlk hS hP hD u (by rw [hps]; exact ⟨by omega, hu2⟩) (by rw [hps]; exact (zI_f hb_).symm) (by rw [hps]; exact eqW.rf _) dX1_readPerson_81
        · have hb_ : (psB tb ln kd s0 σ).1 = true := c_9
          refine lv_aload_n hx hb dX1_readPerson_57 rfl (lv_at hl 1 rfl) ?_
          refine va_ldcS hx hb hown (show vk_R RX1 83 "watched" (adK 8) s from hX.2.2.2 8 (by decide)) dX1_readPerson_58 ?_
          refine lv_aload_n hx hb dX1_readPerson_60 rfl (lv_at hl 1 rfl) ?_
          refine n_get (C := RX1) (T := TX1) (N := 6) hx hb hts (fun _ h => List.mem_cons_of_mem _ (List.mem_append_left _ (List.mem_append_left _ (List.mem_append_right _ h)))) hown hK hP 0 rfl rfl 1 (by decide) (List.mem_of_getElem? (i := 1) rfl) rfl (.ref (tr 0)) rfl dX1_readPerson_61 ?_
          refine n_get (C := RX0) (T := TX0) (N := 11) hx hb hts (fun _ h => List.mem_cons_of_mem _ (List.mem_append_left _ (List.mem_append_right _ h))) hown hK hP 3 rfl rfl 9 (by decide) (List.mem_of_getElem? (i := 4) rfl) rfl (.ref (tr 4)) rfl dX1_readPerson_64 ?_
          refine lv_iload_n hx hb dX1_readPerson_67 rfl (lv_at hl 0 rfl) ?_
          refine lv_bipush (v := nI 99) hx hb dX1_readPerson_68 rfl ?_
          have hph_10 := ph_le (tb := tb) (ln := ln) (w := 8) (g := 99) (p := (σ 5)) (c := 3) (s := (psB tb ln kd s0 σ).2.1) (σ := (psB tb ln kd s0 σ).2.2) (by omega)
          have hpq_11 : (ln : Nat) ≥ (psC tb ln kd s0 σ).2.1 := hph_10.2
          refine callVI (rest := []) (wn := fun u => ([(r 0, .inr (1, [.ref (x 1), .ref (tr 0), .int (nI (tyN tb ln ((psC tb ln kd s0 σ).2.1))), .int (nI ((psC tb ln kd s0 σ).2.1)), .int (nI (enN tb ln ((psC tb ln kd s0 σ).2.1))), .int (nI u)])), (x 1, .inr (3, [.ref (x 2), .int (nI ln)])), (x 2, .inl (G.2.1, 120, .inl (nF tb)))] ++ (wH G tr ((psC tb ln kd s0 σ).2.2)))) ⟨hx, hb, hml, hown, hts⟩ (c_X1_readPerhaps_3 l G H.size r x tr tb ln ((psB tb ln kd s0 σ).2.1) u (by omega) (by omega) htb adK adV ((psB tb ln kd s0 σ).2.2) (σ 5) (by omega) (by omega) hu2) (cwV 4 hts gX1_readPerson_X1_readPerhaps rfl rfl rfl (by decide +kernel) ⟨Nat.le_of_ble_eq_true rfl, Nat.le_of_ble_eq_true rfl⟩) XSB (XS_at hX hS hD hAq [0, 1, 2, 3, 4, 5, 6, 7, 8] rfl) hK hP hD hS hAq 1 0 (T := TX1) (N := 6) rfl rfl rfl hl.1 rfl (Nat.le_of_ble_eq_true rfl) dX1_readPerson_70 ⟨Nat.le_of_ble_eq_true rfl, Nat.le_of_ble_eq_true rfl⟩ [0, 1, 2, 3, 4, 5, 6, 7, 8] rfl rfl [r 0, x 1, x 2, tr 0, tr 1, tr 2, tr 3, tr 4, tr 5] rfl (fun _ => rfl) (fun _ => rfl) (fun u H locs hok hP hD hS => ?_)
          obtain ⟨hu1, hu2⟩ := hok
          refine z_if_eq hx hb (tgt := 80) dX1_readPerson_73 (by decide) (fun c_12 => ?_) (fun c_12 => ?_)
          · have hc_ : ¬ (psC tb ln kd s0 σ).1 = true := c_12
            refine lv_iconst (v := nI 0) hx hb dX1_readPerson_80 rfl ?_
            have hps : psN tb ln kd s0 σ = psC tb ln kd s0 σ := by unfold psN; rw [if_pos h58, if_pos ha, if_pos hb_]
            exact fin_z (ty := .boolean) (by decide) hx hb hr hlk hS hP hD u (by rw [hps]; exact ⟨by omega, hu2⟩) (by rw [hps]; exact (zI_f hc_).symm) (by rw [hps]; exact eqW.rf _) dX1_readPerson_81
          · have hc_ : (psC tb ln kd s0 σ).1 = true := c_12
            refine lv_iconst (v := nI 1) hx hb dX1_readPerson_76 rfl ?_
            refine lv_goto (tgt := 81) hx hb dX1_readPerson_77 (by decide) ?_
            have hps : psN tb ln kd s0 σ = psC tb ln kd s0 σ := by unfold psN; rw [if_pos h58, if_pos ha, if_pos hb_]
            exact fin_z (ty := .boolean) (by decide) hx hb hr hlk hS hP hD u (by rw [hps]; exact ⟨by omega, hu2⟩) (by rw [hps]; exact (zI_t hc_).symm) (by rw [hps]; exact eqW.rf _) dX1_readPerson_81
    · omega
  · rw [if_neg h58] at hP hD
    refine n_top (y := (-1)) (if_neg h58) ?_
    have hm1 : ((-1) : Int32).toInt = -1 := by decide
    refine lv_istore_n (lv' := [(2, .int (-1)), (0, .ref (r 0)), (1, .int (nI kd))]) hx hb dX1_readPerson_8 rfl hl (by decide) rfl (fun ls hl => ?_)
    refine lv_iload_n hx hb dX1_readPerson_9 rfl (lv_at hl 0 rfl) ?_
    refine r_if_ge hx hb (tgt := 15) dX1_readPerson_10 (by decide) (fun c_13 => ?_) (fun c_13 => ?_)
    · omega
    · refine lv_iconst (v := nI 0) hx hb dX1_readPerson_13 rfl ?_
      have hps : psN tb ln kd s0 σ = (false, s0, σ) := by unfold psN; rw [if_neg h58]
      exact fin_z (ty := .boolean) (by decide) hx hb hr hlk hS hP hD v0 (by rw [hps]; exact ⟨by omega, hv2⟩) (by rw [hps]; rfl) (by rw [hps]; exact eqW.rf _) dX1_readPerson_14
set_option maxHeartbeats 400000 in
set_option maxRecDepth 100000 in
theorem c_X1_readItem (l : Launch) (G : GT) (sz : Nat) (r x tr : Nat → Nat) (tb : Nat → Nat) (ln s0 v0 : Nat) (hln : ln ≤ 120) (hs0 : s0 ≤ ln) (htb : ∀ j, tb j < 256) (adK adV : Nat → Nat) (σ : Sg) (h5 : σ 5 ≤ 8) (hv1 : v0 ≤ 1000) (hv2 : tyN tb ln s0 = 2 → v0 = nmN tb ln s0) : MI (S := Nat) l G (XS adK adV) yX1_readItem wsX1_readItem ({ frames := 7, cells := 0, slots := 0, locals := 153 } : Room) [.ref (r 0)] (([(r 0, .inr (1, [.ref (x 1), .ref (tr 0), .int (nI (tyN tb ln s0)), .int (nI s0), .int (nI (enN tb ln s0)), .int (nI v0)])), (x 1, .inr (3, [.ref (x 2), .int (nI ln)])), (x 2, .inl (G.2.1, 120, .inl (nF tb)))] ++ (wH G tr σ))) sz (fun u => u ≤ 1000 ∧ (tyN tb ln (itN tb ln s0 σ).2.1 = 2 → u = nmN tb ln (itN tb ln s0 σ).2.1)) (fun u => zI ((itN tb ln s0 σ).1 = true)) (fun u => ([(r 0, .inr (1, [.ref (x 1), .ref (tr 0), .int (nI (tyN tb ln ((itN tb ln s0 σ).2.1))), .int (nI ((itN tb ln s0 σ).2.1)), .int (nI (enN tb ln ((itN tb ln s0 σ).2.1))), .int (nI u)])), (x 1, .inr (3, [.ref (x 2), .int (nI ln)])), (x 2, .inl (G.2.1, 120, .inl (nF tb)))] ++ (wH G tr ((itN tb ln s0 σ).2.2)))) := by
  refine MI_enter (cc := cX1_readItem) (maxL := 3) (ret := (some .boolean)) (by decide) rfl (Nat.le_of_ble_eq_true rfl) ?_
  intro p e s m below meth c A ls H hx hb hr hlk hml hown hts hAq hS hP hK hD hX hl hnm
  have hown : s.vm.findClass RX1 = some m.cls := hown
  have hl : lv_has ls 3 [(0, .ref (r 0))] := hl
  obtain ⟨hen1, hen2⟩ := en_le (tb := tb) hs0
  have htyl := ty_le tb ln s0
  refine lv_aload_n hx hb dX1_readItem_0 rfl (lv_at hl 0 rfl) ?_
  refine callVI (rest := []) (wn := fun u => ([(r 0, .inr (1, [.ref (x 1), .ref (tr 0), .int (nI (tyN tb ln s0)), .int (nI s0), .int (nI (enN tb ln s0)), .int (nI v0)])), (x 1, .inr (3, [.ref (x 2), .int (nI ln)])), (x 2, .inl (G.2.1, 120, .inl (nF tb)))] ++ (wH G tr σ))) ⟨hx, hb, hml, hown, hts⟩ (c_X1_kindNamed l G H.size r x tr tb ln s0 v0 (by omega) (by omega) htb adK adV) (cwV 0 hts gX1_readItem_X1_kindNamed rfl rfl rfl (by decide +kernel) ⟨Nat.le_of_ble_eq_true rfl, Nat.le_of_ble_eq_true rfl⟩) XSB (XS_at hX hS hD hAq [0, 1, 2] rfl) hK hP hD hS hAq 1 0 (T := TX1) (N := 6) rfl rfl rfl hl.1 rfl (Nat.le_of_ble_eq_true rfl) dX1_readItem_1 ⟨Nat.le_of_ble_eq_true rfl, Nat.le_of_ble_eq_true rfl⟩ [0, 1, 2] rfl rfl [r 0, x 1, x 2] rfl (fun _ => rfl) (fun _ => rfl) (fun u H locs hok hP hD hS => ?_)
  by_cases hk6 : kiN tb ln s0 < 6
  · refine n_top (y := nI (kiN tb ln s0)) (show kiV tb ln s0 = _ from if_pos hk6) ?_
    refine lv_istore_n (lv' := [(1, .int (nI (kiN tb ln s0))), (0, .ref (r 0))]) hx hb dX1_readItem_4 rfl hl (by decide) rfl (fun ls hl => ?_)
    refine lv_iload_n hx hb dX1_readItem_5 rfl (lv_at hl 0 rfl) ?_
    refine n_if_lt hx hb (by omega) (tgt := 15) dX1_readItem_6 (by decide) (fun c_1 => ?_) (fun c_1 => ?_)
    · omega
    · refine lv_aload_n hx hb dX1_readItem_9 rfl (lv_at hl 1 rfl) ?_
      refine lv_iload_n hx hb dX1_readItem_10 rfl (lv_at hl 0 rfl) ?_
      refine callVI (rest := []) (wn := fun u => ([(r 0, .inr (1, [.ref (x 1), .ref (tr 0), .int (nI (tyN tb ln ((psN tb ln (kiN tb ln s0) s0 σ).2.1))), .int (nI ((psN tb ln (kiN tb ln s0) s0 σ).2.1)), .int (nI (enN tb ln ((psN tb ln (kiN tb ln s0) s0 σ).2.1))), .int (nI u)])), (x 1, .inr (3, [.ref (x 2), .int (nI ln)])), (x 2, .inl (G.2.1, 120, .inl (nF tb)))] ++ (wH G tr ((psN tb ln (kiN tb ln s0) s0 σ).2.2)))) ⟨hx, hb, hml, hown, hts⟩ (c_X1_readPerson l G H.size r x tr tb ln s0 v0 (by omega) (by omega) htb adK adV σ (kiN tb ln s0) (by omega) (by omega) hv2) (cwV 1 hts gX1_readItem_X1_readPerson rfl rfl rfl (by decide +kernel) ⟨Nat.le_of_ble_eq_true rfl, Nat.le_of_ble_eq_true rfl⟩) XSB (XS_at hX hS hD hAq [0, 1, 2, 3, 4, 5, 6, 7, 8] rfl) hK hP hD hS hAq 1 0 (T := TX1) (N := 6) rfl rfl rfl hl.1 rfl (Nat.le_of_ble_eq_true rfl) dX1_readItem_11 ⟨Nat.le_of_ble_eq_true rfl, Nat.le_of_ble_eq_true rfl⟩ [0, 1, 2, 3, 4, 5, 6, 7, 8] rfl rfl [r 0, x 1, x 2, tr 0, tr 1, tr 2, tr 3, tr 4, tr 5] rfl (fun _ => rfl) (fun _ => rfl) (fun u H locs hok hP hD hS => ?_)
      obtain ⟨hu1, hu2⟩ := hok
      have hit : itN tb ln s0 σ = psN tb ln (kiN tb ln s0) s0 σ := by unfold itN; rw [if_pos hk6]
      exact fin_z (ty := .boolean) zI_n hx hb hr hlk hS hP hD u (by rw [hit]; exact ⟨by omega, hu2⟩) (by rw [hit]) (by rw [hit]; exact eqW.rf _) dX1_readItem_14
  · refine n_top (y := (-1)) (show kiV tb ln s0 = _ from if_neg hk6) ?_
    have hm1 : ((-1) : Int32).toInt = -1 := by decide
    refine lv_istore_n (lv' := [(1, .int (-1)), (0, .ref (r 0))]) hx hb dX1_readItem_4 rfl hl (by decide) rfl (fun ls hl => ?_)
    refine lv_iload_n hx hb dX1_readItem_5 rfl (lv_at hl 0 rfl) ?_
    refine r_if_lt hx hb (tgt := 15) dX1_readItem_6 (by decide) (fun c_2 => ?_) (fun c_2 => ?_)
    · refine lv_aload_n hx hb dX1_readItem_15 rfl (lv_at hl 1 rfl) ?_
      refine va_ldcS hx hb hown (show vk_R RX1 47 "eggs" (adK 9) s from hX.2.2.2 9 (by decide)) dX1_readItem_16 ?_
      refine callVI (rest := []) (wn := fun u => ([(r 0, .inr (1, [.ref (x 1), .ref (tr 0), .int (nI (tyN tb ln s0)), .int (nI s0), .int (nI (enN tb ln s0)), .int (nI v0)])), (x 1, .inr (3, [.ref (x 2), .int (nI ln)])), (x 2, .inl (G.2.1, 120, .inl (nF tb)))] ++ (wH G tr σ))) ⟨hx, hb, hml, hown, hts⟩ (c_X1_isWord l G H.size r x tr tb ln s0 v0 (by omega) (by omega) htb adK adV 9 (by omega)) (cwV 1 hts gX1_readItem_X1_isWord rfl rfl rfl (by decide +kernel) ⟨Nat.le_of_ble_eq_true rfl, Nat.le_of_ble_eq_true rfl⟩) XSB (XS_at hX hS hD hAq [0, 1, 2] rfl) hK hP hD hS hAq 1 0 (T := TX1) (N := 6) rfl rfl rfl hl.1 rfl (Nat.le_of_ble_eq_true rfl) dX1_readItem_18 ⟨Nat.le_of_ble_eq_true rfl, Nat.le_of_ble_eq_true rfl⟩ [0, 1, 2] rfl rfl [r 0, x 1, x 2] rfl (fun _ => rfl) (fun _ => rfl) (fun u H locs hok hP hD hS => ?_)
      refine lv_istore_n (lv' := [(2, .int (zI (isW tb ln 9 s0))), (1, .int (-1)), (0, .ref (r 0))]) hx hb dX1_readItem_21 rfl hl (by decide) rfl (fun ls hl => ?_)
      refine lv_iload_n hx hb dX1_readItem_22 rfl (lv_at hl 0 rfl) ?_
      refine z_if_ne hx hb (tgt := 37) dX1_readItem_23 (by decide) (fun c_3 => ?_) (fun c_3 => ?_)
      · have hw9 : isW tb ln 9 s0 := c_3
        refine lv_aload_n hx hb dX1_readItem_37 rfl (lv_at hl 2 rfl) ?_
        have hen_4 := en_le (tb := tb) (ln := ln) (s := s0) (by omega)
        have had_5 := ad_le (tb := tb) (ln := ln) (s := s0) (by omega)
        refine callVV (rest := []) (wn := fun u => ([(r 0, .inr (1, [.ref (x 1), .ref (tr 0), .int (nI (tyN tb ln (adN tb ln s0))), .int (nI (adN tb ln s0)), .int (nI (enN tb ln (adN tb ln s0))), .int (nI u)])), (x 1, .inr (3, [.ref (x 2), .int (nI ln)])), (x 2, .inl (G.2.1, 120, .inl (nF tb)))] ++ (wH G tr σ))) ⟨hx, hb, hml, hown, hts⟩ (c_X1_advance l G H.size r x tr tb ln (tyN tb ln s0) s0 (enN tb ln s0) v0 (by omega) (by omega) htb (by omega)) (cwV 0 hts gX1_readItem_X1_advance rfl rfl rfl (by decide +kernel) ⟨Nat.le_of_ble_eq_true rfl, Nat.le_of_ble_eq_true rfl⟩) noXB (fun _ _ _ => trivial) hK hP hD hS hAq 1 0 (T := TX1) (N := 6) rfl rfl rfl hl.1 rfl (Nat.le_of_ble_eq_true rfl) dX1_readItem_38 ⟨Nat.le_of_ble_eq_true rfl, Nat.le_of_ble_eq_true rfl⟩ [0, 1, 2] rfl rfl [r 0, x 1, x 2] rfl (fun _ => rfl) (fun _ => rfl) (fun u H locs hok hP hD hS => ?_)
        obtain ⟨hu1, hu2⟩ := hok
        refine lv_aload_n hx hb dX1_readItem_41 rfl (lv_at hl 2 rfl) ?_
        refine lv_iload_n hx hb dX1_readItem_42 rfl (lv_at hl 0 rfl) ?_
        refine z_if_eq hx hb (tgt := 52) dX1_readItem_43 (by decide) (fun c_6 => ?_) (fun c_6 => ?_)
        · exact absurd hw9 c_6
        · refine lv_sipush (v := nI 999) hx hb dX1_readItem_46 rfl ?_
          refine lv_goto (tgt := 54) hx hb dX1_readItem_49 (by decide) ?_
          refine callVI (rest := []) (wn := fun u_ => ([(r 0, .inr (1, [.ref (x 1), .ref (tr 0), .int (nI (tyN tb ln (adN tb ln s0))), .int (nI (adN tb ln s0)), .int (nI (enN tb ln (adN tb ln s0))), .int (nI u)])), (x 1, .inr (3, [.ref (x 2), .int (nI ln)])), (x 2, .inl (G.2.1, 120, .inl (nF tb)))] ++ (wH G tr σ))) ⟨hx, hb, hml, hown, hts⟩ (c_X1_isNumber l G H.size r x tr tb ln (adN tb ln s0) u (by omega) (by omega) htb 999 (by omega) (by omega)) (cwV 1 hts gX1_readItem_X1_isNumber rfl rfl rfl (by decide +kernel) ⟨Nat.le_of_ble_eq_true rfl, Nat.le_of_ble_eq_true rfl⟩) noXB (fun _ _ _ => trivial) hK hP hD hS hAq 1 0 (T := TX1) (N := 6) rfl rfl rfl hl.1 rfl (Nat.le_of_ble_eq_true rfl) dX1_readItem_54 ⟨Nat.le_of_ble_eq_true rfl, Nat.le_of_ble_eq_true rfl⟩ [0, 1, 2] rfl rfl [r 0, x 1, x 2] rfl (fun _ => rfl) (fun _ => rfl) (fun u_ H locs hok hP hD hS => ?_)
          refine z_if_ne hx hb (tgt := 62) dX1_readItem_57 (by decide) (fun c_7 => ?_) (fun c_7 => ?_)
          · have hun := hu2 c_7.1
            subst hun
            have hnu : isNu tb ln (adN tb ln s0) 999 := c_7
            refine lv_iload_n hx hb dX1_readItem_62 rfl (lv_at hl 0 rfl) ?_
            refine z_if_eq hx hb (tgt := 80) dX1_readItem_63 (by decide) (fun c_8 => ?_) (fun c_8 => ?_)
            · exact absurd hw9 c_8
            · refine lv_aload_n hx hb dX1_readItem_66 rfl (lv_at hl 2 rfl) ?_
              refine n_get (C := RX1) (T := TX1) (N := 6) hx hb hts (fun _ h => List.mem_cons_of_mem _ (List.mem_append_left _ (List.mem_append_left _ (List.mem_append_right _ h)))) hown hK hP 0 rfl rfl 1 (by decide) (List.mem_of_getElem? (i := 1) rfl) rfl (.ref (tr 0)) rfl dX1_readItem_67 ?_
              refine lv_aload_n hx hb dX1_readItem_70 rfl (lv_at hl 2 rfl) ?_
              refine n_get (C := RX1) (T := TX1) (N := 6) hx hb hts (fun _ h => List.mem_cons_of_mem _ (List.mem_append_left _ (List.mem_append_left _ (List.mem_append_right _ h)))) hown hK hP 0 rfl rfl 5 (by decide) (List.mem_of_getElem? (i := 2) rfl) rfl (.int (nI (nmN tb ln (adN tb ln s0)))) rfl dX1_readItem_71 ?_
              refine n_put (C := RX0) (T := TX0) (N := 11) hx hb hts (fun _ h => List.mem_cons_of_mem _ (List.mem_append_left _ (List.mem_append_right _ h))) tyX0 tyX0_ok nmX0 hown hK hP hD hS 3 rfl rfl 1 (by decide) (List.mem_of_getElem? (i := 3) rfl) rfl rfl (ty := .int) (v := .int (nI (nmN tb ln (adN tb ln s0)))) rfl rfl rfl (Nat.le_of_ble_eq_true rfl) (wn := ([(r 0, .inr (1, [.ref (x 1), .ref (tr 0), .int (nI (tyN tb ln (adN tb ln s0))), .int (nI (adN tb ln s0)), .int (nI (enN tb ln (adN tb ln s0))), .int (nI (nmN tb ln (adN tb ln s0)))])), (x 1, .inr (3, [.ref (x 2), .int (nI ln)])), (x 2, .inl (G.2.1, 120, .inl (nF tb)))] ++ (wH G tr (un σ 1 (nmN tb ln (adN tb ln s0)))))) (congrArg (fun hole_w : va_W => ([(r 0, .inr (1, [.ref (x 1), .ref (tr 0), .int (nI (tyN tb ln (adN tb ln s0))), .int (nI (adN tb ln s0)), .int (nI (enN tb ln (adN tb ln s0))), .int (nI (nmN tb ln (adN tb ln s0)))])), (x 1, .inr (3, [.ref (x 2), .int (nI ln)])), (x 2, .inl (G.2.1, 120, .inl (nF tb)))] ++ (hole_w))) (wH_f1 G tr σ (nmN tb ln (adN tb ln s0)))) dX1_readItem_74 (fun H locs hP hD hS => ?_)
              refine lv_goto (tgt := 91) hx hb dX1_readItem_77 (by decide) ?_
              refine lv_aload_n hx hb dX1_readItem_91 rfl (lv_at hl 2 rfl) ?_
              have hen_9 := en_le (tb := tb) (ln := ln) (s := (adN tb ln s0)) (by omega)
              have had_10 := ad_le (tb := tb) (ln := ln) (s := (adN tb ln s0)) (by omega)
              refine callVV (rest := []) (wn := fun u => ([(r 0, .inr (1, [.ref (x 1), .ref (tr 0), .int (nI (tyN tb ln (adN tb ln (adN tb ln s0)))), .int (nI (adN tb ln (adN tb ln s0))), .int (nI (enN tb ln (adN tb ln (adN tb ln s0)))), .int (nI u)])), (x 1, .inr (3, [.ref (x 2), .int (nI ln)])), (x 2, .inl (G.2.1, 120, .inl (nF tb)))] ++ (wH G tr (un σ 1 (nmN tb ln (adN tb ln s0)))))) ⟨hx, hb, hml, hown, hts⟩ (c_X1_advance l G H.size r x tr tb ln (tyN tb ln (adN tb ln s0)) (adN tb ln s0) (enN tb ln (adN tb ln s0)) (nmN tb ln (adN tb ln s0)) (by omega) (by omega) htb (by omega)) (cwV 0 hts gX1_readItem_X1_advance rfl rfl rfl (by decide +kernel) ⟨Nat.le_of_ble_eq_true rfl, Nat.le_of_ble_eq_true rfl⟩) noXB (fun _ _ _ => trivial) hK hP hD hS hAq 1 0 (T := TX1) (N := 6) rfl rfl rfl hl.1 rfl (Nat.le_of_ble_eq_true rfl) dX1_readItem_92 ⟨Nat.le_of_ble_eq_true rfl, Nat.le_of_ble_eq_true rfl⟩ [0, 1, 2] rfl rfl [r 0, x 1, x 2] rfl (fun _ => rfl) (fun _ => rfl) (fun u H locs hok hP hD hS => ?_)
              obtain ⟨hu1, hu2⟩ := hok
              refine lv_iconst (v := nI 1) hx hb dX1_readItem_95 rfl ?_
              have hit : itN tb ln s0 σ = (true, adN tb ln (adN tb ln s0), un σ 1 (nmN tb ln (adN tb ln s0))) := by unfold itN; rw [if_neg hk6, if_pos hw9]; unfold egN; rw [if_pos hnu]
              exact fin_z (ty := .boolean) (by decide) hx hb hr hlk hS hP hD u (by rw [hit]; exact ⟨by omega, hu2⟩) (by rw [hit]; rfl) (by rw [hit]; exact eqW.rf _) dX1_readItem_96
          · have hnu : ¬ isNu tb ln (adN tb ln s0) 999 := fun h => c_7 ⟨h.1, (hu2 h.1).symm ▸ h.2⟩
            refine lv_iconst (v := nI 0) hx hb dX1_readItem_60 rfl ?_
            have hit : itN tb ln s0 σ = (false, adN tb ln s0, σ) := by unfold itN; rw [if_neg hk6, if_pos hw9]; unfold egN; rw [if_neg hnu]
            exact fin_z (ty := .boolean) (by decide) hx hb hr hlk hS hP hD u (by rw [hit]; exact ⟨by omega, hu2⟩) (by rw [hit]; rfl) (by rw [hit]; exact eqW.rf _) dX1_readItem_61
      · have hw9 : ¬ isW tb ln 9 s0 := c_3
        refine lv_aload_n hx hb dX1_readItem_26 rfl (lv_at hl 2 rfl) ?_
        refine va_ldcS hx hb hown (show vk_R RX1 53 "laid" (adK 10) s from hX.2.2.2 10 (by decide)) dX1_readItem_27 ?_
        refine callVI (rest := []) (wn := fun u => ([(r 0, .inr (1, [.ref (x 1), .ref (tr 0), .int (nI (tyN tb ln s0)), .int (nI s0), .int (nI (enN tb ln s0)), .int (nI v0)])), (x 1, .inr (3, [.ref (x 2), .int (nI ln)])), (x 2, .inl (G.2.1, 120, .inl (nF tb)))] ++ (wH G tr σ))) ⟨hx, hb, hml, hown, hts⟩ (c_X1_isWord l G H.size r x tr tb ln s0 v0 (by omega) (by omega) htb adK adV 10 (by omega)) (cwV 1 hts gX1_readItem_X1_isWord rfl rfl rfl (by decide +kernel) ⟨Nat.le_of_ble_eq_true rfl, Nat.le_of_ble_eq_true rfl⟩) XSB (XS_at hX hS hD hAq [0, 1, 2] rfl) hK hP hD hS hAq 1 0 (T := TX1) (N := 6) rfl rfl rfl hl.1 rfl (Nat.le_of_ble_eq_true rfl) dX1_readItem_29 ⟨Nat.le_of_ble_eq_true rfl, Nat.le_of_ble_eq_true rfl⟩ [0, 1, 2] rfl rfl [r 0, x 1, x 2] rfl (fun _ => rfl) (fun _ => rfl) (fun u H locs hok hP hD hS => ?_)
        refine z_if_ne hx hb (tgt := 37) dX1_readItem_32 (by decide) (fun c_11 => ?_) (fun c_11 => ?_)
        · have hw10 : isW tb ln 10 s0 := c_11
          refine lv_aload_n hx hb dX1_readItem_37 rfl (lv_at hl 2 rfl) ?_
          have hen_12 := en_le (tb := tb) (ln := ln) (s := s0) (by omega)
          have had_13 := ad_le (tb := tb) (ln := ln) (s := s0) (by omega)
          refine callVV (rest := []) (wn := fun u => ([(r 0, .inr (1, [.ref (x 1), .ref (tr 0), .int (nI (tyN tb ln (adN tb ln s0))), .int (nI (adN tb ln s0)), .int (nI (enN tb ln (adN tb ln s0))), .int (nI u)])), (x 1, .inr (3, [.ref (x 2), .int (nI ln)])), (x 2, .inl (G.2.1, 120, .inl (nF tb)))] ++ (wH G tr σ))) ⟨hx, hb, hml, hown, hts⟩ (c_X1_advance l G H.size r x tr tb ln (tyN tb ln s0) s0 (enN tb ln s0) v0 (by omega) (by omega) htb (by omega)) (cwV 0 hts gX1_readItem_X1_advance rfl rfl rfl (by decide +kernel) ⟨Nat.le_of_ble_eq_true rfl, Nat.le_of_ble_eq_true rfl⟩) noXB (fun _ _ _ => trivial) hK hP hD hS hAq 1 0 (T := TX1) (N := 6) rfl rfl rfl hl.1 rfl (Nat.le_of_ble_eq_true rfl) dX1_readItem_38 ⟨Nat.le_of_ble_eq_true rfl, Nat.le_of_ble_eq_true rfl⟩ [0, 1, 2] rfl rfl [r 0, x 1, x 2] rfl (fun _ => rfl) (fun _ => rfl) (fun u H locs hok hP hD hS => ?_)
          obtain ⟨hu1, hu2⟩ := hok
          refine lv_aload_n hx hb dX1_readItem_41 rfl (lv_at hl 2 rfl) ?_
          refine lv_iload_n hx hb dX1_readItem_42 rfl (lv_at hl 0 rfl) ?_
          refine z_if_eq hx hb (tgt := 52) dX1_readItem_43 (by decide) (fun c_14 => ?_) (fun c_14 => ?_)
          · refine lv_bipush (v := nI 99) hx hb dX1_readItem_52 rfl ?_
            refine callVI (rest := []) (wn := fun u_ => ([(r 0, .inr (1, [.ref (x 1), .ref (tr 0), .int (nI (tyN tb ln (adN tb ln s0))), .int (nI (adN tb ln s0)), .int (nI (enN tb ln (adN tb ln s0))), .int (nI u)])), (x 1, .inr (3, [.ref (x 2), .int (nI ln)])), (x 2, .inl (G.2.1, 120, .inl (nF tb)))] ++ (wH G tr σ))) ⟨hx, hb, hml, hown, hts⟩ (c_X1_isNumber l G H.size r x tr tb ln (adN tb ln s0) u (by omega) (by omega) htb 99 (by omega) (by omega)) (cwV 1 hts gX1_readItem_X1_isNumber rfl rfl rfl (by decide +kernel) ⟨Nat.le_of_ble_eq_true rfl, Nat.le_of_ble_eq_true rfl⟩) noXB (fun _ _ _ => trivial) hK hP hD hS hAq 1 0 (T := TX1) (N := 6) rfl rfl rfl hl.1 rfl (Nat.le_of_ble_eq_true rfl) dX1_readItem_54 ⟨Nat.le_of_ble_eq_true rfl, Nat.le_of_ble_eq_true rfl⟩ [0, 1, 2] rfl rfl [r 0, x 1, x 2] rfl (fun _ => rfl) (fun _ => rfl) (fun u_ H locs hok hP hD hS => ?_)
            refine z_if_ne hx hb (tgt := 62) dX1_readItem_57 (by decide) (fun c_15 => ?_) (fun c_15 => ?_)
            · have hun := hu2 c_15.1
              subst hun
              have hnu : isNu tb ln (adN tb ln s0) 99 := c_15
              refine lv_iload_n hx hb dX1_readItem_62 rfl (lv_at hl 0 rfl) ?_
              refine z_if_eq hx hb (tgt := 80) dX1_readItem_63 (by decide) (fun c_16 => ?_) (fun c_16 => ?_)
              · refine lv_aload_n hx hb dX1_readItem_80 rfl (lv_at hl 2 rfl) ?_
                refine n_get (C := RX1) (T := TX1) (N := 6) hx hb hts (fun _ h => List.mem_cons_of_mem _ (List.mem_append_left _ (List.mem_append_left _ (List.mem_append_right _ h)))) hown hK hP 0 rfl rfl 1 (by decide) (List.mem_of_getElem? (i := 1) rfl) rfl (.ref (tr 0)) rfl dX1_readItem_81 ?_
                refine lv_aload_n hx hb dX1_readItem_84 rfl (lv_at hl 2 rfl) ?_
                refine n_get (C := RX1) (T := TX1) (N := 6) hx hb hts (fun _ h => List.mem_cons_of_mem _ (List.mem_append_left _ (List.mem_append_left _ (List.mem_append_right _ h)))) hown hK hP 0 rfl rfl 5 (by decide) (List.mem_of_getElem? (i := 2) rfl) rfl (.int (nI (nmN tb ln (adN tb ln s0)))) rfl dX1_readItem_85 ?_
                refine n_put (C := RX0) (T := TX0) (N := 11) hx hb hts (fun _ h => List.mem_cons_of_mem _ (List.mem_append_left _ (List.mem_append_right _ h))) tyX0 tyX0_ok nmX0 hown hK hP hD hS 3 rfl rfl 2 (by decide) (List.mem_of_getElem? (i := 4) rfl) rfl rfl (ty := .int) (v := .int (nI (nmN tb ln (adN tb ln s0)))) rfl rfl rfl (Nat.le_of_ble_eq_true rfl) (wn := ([(r 0, .inr (1, [.ref (x 1), .ref (tr 0), .int (nI (tyN tb ln (adN tb ln s0))), .int (nI (adN tb ln s0)), .int (nI (enN tb ln (adN tb ln s0))), .int (nI (nmN tb ln (adN tb ln s0)))])), (x 1, .inr (3, [.ref (x 2), .int (nI ln)])), (x 2, .inl (G.2.1, 120, .inl (nF tb)))] ++ (wH G tr (un σ 2 (nmN tb ln (adN tb ln s0)))))) (congrArg (fun hole_w : va_W => ([(r 0, .inr (1, [.ref (x 1), .ref (tr 0), .int (nI (tyN tb ln (adN tb ln s0))), .int (nI (adN tb ln s0)), .int (nI (enN tb ln (adN tb ln s0))), .int (nI (nmN tb ln (adN tb ln s0)))])), (x 1, .inr (3, [.ref (x 2), .int (nI ln)])), (x 2, .inl (G.2.1, 120, .inl (nF tb)))] ++ (hole_w))) (wH_f2 G tr σ (nmN tb ln (adN tb ln s0)))) dX1_readItem_88 (fun H locs hP hD hS => ?_)
                refine lv_aload_n hx hb dX1_readItem_91 rfl (lv_at hl 2 rfl) ?_
                have hen_17 := en_le (tb := tb) (ln := ln) (s := (adN tb ln s0)) (by omega)
                have had_18 := ad_le (tb := tb) (ln := ln) (s := (adN tb ln s0)) (by omega)
                refine callVV (rest := []) (wn := fun u => ([(r 0, .inr (1, [.ref (x 1), .ref (tr 0), .int (nI (tyN tb ln (adN tb ln (adN tb ln s0)))), .int (nI (adN tb ln (adN tb ln s0))), .int (nI (enN tb ln (adN tb ln (adN tb ln s0)))), .int (nI u)])), (x 1, .inr (3, [.ref (x 2), .int (nI ln)])), (x 2, .inl (G.2.1, 120, .inl (nF tb)))] ++ (wH G tr (un σ 2 (nmN tb ln (adN tb ln s0)))))) ⟨hx, hb, hml, hown, hts⟩ (c_X1_advance l G H.size r x tr tb ln (tyN tb ln (adN tb ln s0)) (adN tb ln s0) (enN tb ln (adN tb ln s0)) (nmN tb ln (adN tb ln s0)) (by omega) (by omega) htb (by omega)) (cwV 0 hts gX1_readItem_X1_advance rfl rfl rfl (by decide +kernel) ⟨Nat.le_of_ble_eq_true rfl, Nat.le_of_ble_eq_true rfl⟩) noXB (fun _ _ _ => trivial) hK hP hD hS hAq 1 0 (T := TX1) (N := 6) rfl rfl rfl hl.1 rfl (Nat.le_of_ble_eq_true rfl) dX1_readItem_92 ⟨Nat.le_of_ble_eq_true rfl, Nat.le_of_ble_eq_true rfl⟩ [0, 1, 2] rfl rfl [r 0, x 1, x 2] rfl (fun _ => rfl) (fun _ => rfl) (fun u H locs hok hP hD hS => ?_)
                obtain ⟨hu1, hu2⟩ := hok
                refine lv_iconst (v := nI 1) hx hb dX1_readItem_95 rfl ?_
                have hit : itN tb ln s0 σ = (true, adN tb ln (adN tb ln s0), un σ 2 (nmN tb ln (adN tb ln s0))) := by unfold itN; rw [if_neg hk6, if_neg hw9, if_pos hw10]; unfold egN; rw [if_pos hnu]
                exact fin_z (ty := .boolean) (by decide) hx hb hr hlk hS hP hD u (by rw [hit]; exact ⟨by omega, hu2⟩) (by rw [hit]; rfl) (by rw [hit]; exact eqW.rf _) dX1_readItem_96
              · exact absurd c_16 hw9
            · have hnu : ¬ isNu tb ln (adN tb ln s0) 99 := fun h => c_15 ⟨h.1, (hu2 h.1).symm ▸ h.2⟩
              refine lv_iconst (v := nI 0) hx hb dX1_readItem_60 rfl ?_
              have hit : itN tb ln s0 σ = (false, adN tb ln s0, σ) := by unfold itN; rw [if_neg hk6, if_neg hw9, if_pos hw10]; unfold egN; rw [if_neg hnu]
              exact fin_z (ty := .boolean) (by decide) hx hb hr hlk hS hP hD u (by rw [hit]; exact ⟨by omega, hu2⟩) (by rw [hit]; rfl) (by rw [hit]; exact eqW.rf _) dX1_readItem_61
          · exact absurd c_14 hw9
        · have hw10 : ¬ isW tb ln 10 s0 := c_11
          refine lv_iconst (v := nI 0) hx hb dX1_readItem_35 rfl ?_
          have hit : itN tb ln s0 σ = (false, s0, σ) := by unfold itN; rw [if_neg hk6, if_neg hw9, if_neg hw10]
          exact fin_z (ty := .boolean) (by decide) hx hb hr hlk hS hP hD v0 (by rw [hit]; exact ⟨by omega, hv2⟩) (by rw [hit]; rfl) (by rw [hit]; exact eqW.rf _) dX1_readItem_36
    · omega
