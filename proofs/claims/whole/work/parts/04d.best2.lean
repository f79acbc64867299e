set_option maxHeartbeats 400000 in
set_option maxRecDepth 100000 in
theorem c_X6_hunger (l : Launch) (G : GT) (sz : Nat) (b : Nat → Nat) (ζ : Nat → Nat) (vv : Int64) (tl : Nat → Int32) (σ : Sg) (F : Nat → Int32) (hI : Inv σ) (hd0 : σ 0 ≤ 9999) : MI (S := Nat → Int32) l G noX yX6_hunger wsX6_hunger ({ frames := 7, cells := 0, slots := 0, locals := 159 } : Room) [.ref (b 0)] ([mO b ζ vv, (b 4, .inl (G.2.1, 7, .inl tl)), (b 1, .inl (G.2.1, 46, .inl (nF σ))), (b 3, .inl (G.2.1, 46, .inl F))]) sz (fun _ => True) (fun u => rs (hunger_e σ) (nI (fbN σ 4 (σ 4 + 1)))) (fun u => [mO b ζ vv, (b 4, .inl (G.2.1, 7, .inl (ts tl (hunger_e σ)))), (b 1, .inl (G.2.1, 46, .inl (nF σ))), (b 3, .inl (G.2.1, 46, .inl u))]) := by
  refine MI_enter (cc := cX6_hunger) (maxL := 1) (ret := (some .int)) (by decide) rfl (Nat.le_of_ble_eq_true rfl) ?_
  intro p e s m below meth c A ls H hx hb hr hlk hml hown hts hAq hS hP hK hD hX hl hnm
  have hown : s.vm.findClass RX6 = some m.cls := hown
  have hl : lv_has ls 1 [(0, .ref (b 0))] := hl
  obtain ⟨⟨i1, i2, i3, i4, i5⟩, ip⟩ := id hI
  refine lv_aload_n hx hb dX6_hunger_0 rfl (lv_at hl 0 rfl) ?_
  refine lv_iconst (v := nI 4) hx hb dX6_hunger_1 rfl ?_
  refine lv_aload_n hx hb dX6_hunger_2 rfl (lv_at hl 0 rfl) ?_
  refine n_get (C := RX6) (T := TX6) (N := 18) hx hb hts (fun _ h => List.mem_cons_of_mem _ (List.mem_append_right _ h)) hown hK hP 0 rfl rfl 0 (by decide) (List.mem_of_getElem? (i := 1) rfl) rfl (.ref (b 1)) rfl dX6_hunger_3 ?_
  refine lv_iconst (v := nI 4) hx hb dX6_hunger_6 rfl ?_
  refine n_iald hx hb hK hP 2 (v := (nI (σ 4))) rfl (by omega) (by omega) rfl dX6_hunger_7 ?_
  refine lv_iconst (v := nI 1) hx hb dX6_hunger_8 rfl ?_
  refine n_iadd hx hb dX6_hunger_9 ?_
  refine callVI (rest := []) (wn := fun u => [mO b ζ vv, (b 4, .inl (G.2.1, 7, .inl (ts tl (fb_e σ 4 ((σ 4) + 1))))), (b 1, .inl (G.2.1, 46, .inl (nF σ))), (b 3, .inl (G.2.1, 46, .inl (nF σ)))]) ⟨hx, hb, hml, hown, hts⟩ (c_X6_firstBy l G H.size b ζ vv tl σ F 4 ((σ 4) + 1) hI (by omega) (by omega) (by omega)) (cwV 2 hts gX6_hunger_X6_firstBy rfl rfl rfl (by decide +kernel) ⟨Nat.le_of_ble_eq_true rfl, Nat.le_of_ble_eq_true rfl⟩) noXB (fun _ _ _ => trivial) hK hP hD hS hAq 5 0 (T := TX6) (N := 18) rfl rfl rfl hl.1 rfl (Nat.le_of_ble_eq_true rfl) dX6_hunger_10 ⟨Nat.le_of_ble_eq_true rfl, Nat.le_of_ble_eq_true rfl⟩ [0, 1, 2, 3] rfl rfl [b 0, b 4, b 1, b 3] rfl (fun _ => rfl) (fun _ => rfl) (fun u H locs hok hP hD hS => ?_)
  have he : hunger_e σ = fb_e σ 4 (σ 4 + 1) := rfl
  exact fin_i hx hb hr hlk hS hP hD (nF σ) trivial (by rw [he]) (by rw [he]; exact eqW.rf _) dX6_hunger_13
set_option maxHeartbeats 400000 in
set_option maxRecDepth 100000 in
theorem c_X6_comes (l : Launch) (G : GT) (sz : Nat) (b : Nat → Nat) (ζ : Nat → Nat) (vv : Int64) (tl : Nat → Int32) (σ : Sg) (F : Nat → Int32) (a0 : Int32) (hI : Inv σ) (hd0 : σ 0 ≤ 9999) : MI (S := Nat → Int32) l G noX yX6_comes wsX6_comes ({ frames := 7, cells := 0, slots := 0, locals := 159 } : Room) [.ref (b 0), .int a0] ([mO b ζ vv, (b 4, .inl (G.2.1, 7, .inl tl)), (b 1, .inl (G.2.1, 46, .inl (nF σ))), (b 3, .inl (G.2.1, 46, .inl F))]) sz (fun _ => True) (fun u => rs (comes_e σ a0.toInt) (nI (fbN σ 3 a0.toInt.toNat))) (fun u => [mO b ζ vv, (b 4, .inl (G.2.1, 7, .inl (ts tl (comes_e σ a0.toInt)))), (b 1, .inl (G.2.1, 46, .inl (nF σ))), (b 3, .inl (G.2.1, 46, .inl u))]) := by
  refine MI_enter (cc := cX6_comes) (maxL := 2) (ret := (some .int)) (by decide) rfl (Nat.le_of_ble_eq_true rfl) ?_
  intro p e s m below meth c A ls H hx hb hr hlk hml hown hts hAq hS hP hK hD hX hl hnm
  have hown : s.vm.findClass RX6 = some m.cls := hown
  have hl : lv_has ls 2 [(0, .ref (b 0)), (1, .int a0)] := hl
  obtain ⟨⟨i1, i2, i3, i4, i5⟩, ip⟩ := id hI
  refine lv_iload_n hx hb dX6_comes_0 rfl (lv_at hl 1 rfl) ?_
  refine lv_iconst (v := nI 0) hx hb dX6_comes_1 rfl ?_
  refine lv_ldc (v := 99999999) hx hb hown (hts _ (List.mem_of_getElem? (i := 1) rfl)) dX6_comes_2 ?_
  refine n_top (y := nI 99999999) rfl ?_
  refine callSI (rest := []) (wn := fun u => [mO b ζ vv, (b 4, .inl (G.2.1, 7, .inl tl)), (b 1, .inl (G.2.1, 46, .inl (nF σ))), (b 3, .inl (G.2.1, 46, .inl F))]) ⟨hx, hb, hml, hown, hts⟩ (c_X6_in1 l G H.size a0 (nI 0) (nI 99999999)) (va_cwS 3 hts gX6_comes_X6_in1 rfl rfl rfl (by decide +kernel) ⟨Nat.le_of_ble_eq_true rfl, Nat.le_of_ble_eq_true rfl⟩) noXB (fun _ _ _ => trivial) hK hP hD hS hAq rfl hl.1 rfl (Nat.le_of_ble_eq_true rfl) dX6_comes_4 ⟨Nat.le_of_ble_eq_true rfl, Nat.le_of_ble_eq_true rfl⟩ [] rfl rfl [] rfl (fun _ => rfl) (fun _ => rfl) (fun u H locs hok hP hD hS => ?_)
  refine n_top (y := zI ((0 : Int) ≤ a0.toInt ∧ a0.toInt ≤ 99999999)) (zI_c (by rw [nI_T (show 0 < 2147483648 by decide), nI_T (show 99999999 < 2147483648 by decide)]; exact Iff.rfl)) ?_
  refine z_if_eq hx hb (tgt := 19) dX6_comes_7 (by decide) (fun c_1 => ?_) (fun c_1 => ?_)
  · refine lv_aload_n hx hb dX6_comes_19 rfl (lv_at hl 0 rfl) ?_
    refine lv_iconst (v := nI 0) hx hb dX6_comes_20 rfl ?_
    refine callVI (rest := []) (wn := fun u => [mO b ζ vv, (b 4, .inl (G.2.1, 7, .inl (tk tl 0))), (b 1, .inl (G.2.1, 46, .inl (nF σ))), (b 3, .inl (G.2.1, 46, .inl F))]) ⟨hx, hb, hml, hown, hts⟩ (c_X6_no l G H.size b ζ vv tl 0 (by omega)) (cwV 1 hts gX6_comes_X6_no rfl rfl rfl (by decide +kernel) ⟨Nat.le_of_ble_eq_true rfl, Nat.le_of_ble_eq_true rfl⟩) noXB (fun _ _ _ => trivial) hK hP hD hS hAq 5 0 (T := TX6) (N := 18) rfl rfl rfl hl.1 rfl (Nat.le_of_ble_eq_true rfl) dX6_comes_21 ⟨Nat.le_of_ble_eq_true rfl, Nat.le_of_ble_eq_true rfl⟩ [0, 1] rfl rfl [b 0, b 4] rfl (fun _ => rfl) (fun _ => rfl) (fun u H locs hok hP hD hS => ?_)
    have he : comes_e σ a0.toInt = 0 := by unfold comes_e; (try simp only [Int.toNat_natCast]); (repeat' split) <;> omega
    exact fin_i hx hb hr hlk hS hP hD (F) trivial (by rw [he]; first | done | ((try simp only [Int.toNat_natCast]); first | done | rfl)) (by rw [he]; (try simp only [Int.toNat_natCast]); exact eqW.rf _) dX6_comes_24
  · obtain ⟨v0, hv0, rfl⟩ := nI_of_rg (n := 99999999) (x := a0) ⟨by omega, by omega⟩
    have hT0 := nI_T (a := v0) (by omega)
    refine lv_aload_n hx hb dX6_comes_10 rfl (lv_at hl 0 rfl) ?_
    refine lv_iconst (v := nI 3) hx hb dX6_comes_11 rfl ?_
    refine lv_iload_n hx hb dX6_comes_12 rfl (lv_at hl 1 rfl) ?_
    refine callVI (rest := []) (wn := fun u => [mO b ζ vv, (b 4, .inl (G.2.1, 7, .inl (ts tl (fb_e σ 3 v0)))), (b 1, .inl (G.2.1, 46, .inl (nF σ))), (b 3, .inl (G.2.1, 46, .inl (nF σ)))]) ⟨hx, hb, hml, hown, hts⟩ (c_X6_firstBy l G H.size b ζ vv tl σ F 3 v0 hI (by omega) (by omega) (by omega)) (cwV 2 hts gX6_comes_X6_firstBy rfl rfl rfl (by decide +kernel) ⟨Nat.le_of_ble_eq_true rfl, Nat.le_of_ble_eq_true rfl⟩) noXB (fun _ _ _ => trivial) hK hP hD hS hAq 5 0 (T := TX6) (N := 18) rfl rfl rfl hl.1 rfl (Nat.le_of_ble_eq_true rfl) dX6_comes_13 ⟨Nat.le_of_ble_eq_true rfl, Nat.le_of_ble_eq_true rfl⟩ [0, 1, 2, 3] rfl rfl [b 0, b 4, b 1, b 3] rfl (fun _ => rfl) (fun _ => rfl) (fun u H locs hok hP hD hS => ?_)
    refine lv_goto (tgt := 24) hx hb dX6_comes_16 (by decide) ?_
    have he : comes_e σ (nI v0).toInt = fb_e σ 3 v0 := by unfold comes_e; (try simp only [hT0, Int.toNat_natCast]); rw [if_pos (by omega)]
    exact fin_i hx hb hr hlk hS hP hD (nF σ) trivial (by rw [he]; (try simp only [hT0, Int.toNat_natCast])) (by rw [he]; exact eqW.rf _) dX6_comes_24
set_option maxHeartbeats 400000 in
set_option maxRecDepth 100000 in
theorem c_X6_watched (l : Launch) (G : GT) (sz : Nat) (b : Nat → Nat) (ζ : Nat → Nat) (vv : Int64) (tl : Nat → Int32) (σ : Sg) (F : Nat → Int32) (a0 : Int32) (hI : Inv σ) (hd0 : σ 0 ≤ 9999) : MI (S := Nat → Int32) l G noX yX6_watched wsX6_watched ({ frames := 7, cells := 0, slots := 0, locals := 159 } : Room) [.ref (b 0), .int a0] ([mO b ζ vv, (b 4, .inl (G.2.1, 7, .inl tl)), (b 1, .inl (G.2.1, 46, .inl (nF σ))), (b 3, .inl (G.2.1, 46, .inl F))]) sz (fun _ => True) (fun u => rs (watched_e σ a0.toInt) (nI (fbN σ (pl a0.toInt.toNat 3) 1))) (fun u => [mO b ζ vv, (b 4, .inl (G.2.1, 7, .inl (ts tl (watched_e σ a0.toInt)))), (b 1, .inl (G.2.1, 46, .inl (nF σ))), (b 3, .inl (G.2.1, 46, .inl u))]) := by
  refine MI_enter (cc := cX6_watched) (maxL := 2) (ret := (some .int)) (by decide) rfl (Nat.le_of_ble_eq_true rfl) ?_
  intro p e s m below meth c A ls H hx hb hr hlk hml hown hts hAq hS hP hK hD hX hl hnm
  have hown : s.vm.findClass RX6 = some m.cls := hown
  have hl : lv_has ls 2 [(0, .ref (b 0)), (1, .int a0)] := hl
  obtain ⟨⟨i1, i2, i3, i4, i5⟩, ip⟩ := id hI
  refine lv_aload_n hx hb dX6_watched_0 rfl (lv_at hl 0 rfl) ?_
  refine lv_iload_n hx hb dX6_watched_1 rfl (lv_at hl 1 rfl) ?_
  refine callVI (rest := []) (wn := fun u => [mO b ζ vv, (b 4, .inl (G.2.1, 7, .inl tl)), (b 1, .inl (G.2.1, 46, .inl (nF σ))), (b 3, .inl (G.2.1, 46, .inl F))]) ⟨hx, hb, hml, hown, hts⟩ (c_X6_isPerson l G H.size b ζ vv σ a0 (by omega)) (cwV 1 hts gX6_watched_X6_isPerson rfl rfl rfl (by decide +kernel) ⟨Nat.le_of_ble_eq_true rfl, Nat.le_of_ble_eq_true rfl⟩) noXB (fun _ _ _ => trivial) hK hP hD hS hAq 5 0 (T := TX6) (N := 18) rfl rfl rfl hl.1 rfl (Nat.le_of_ble_eq_true rfl) dX6_watched_2 ⟨Nat.le_of_ble_eq_true rfl, Nat.le_of_ble_eq_true rfl⟩ [0, 2] rfl rfl [b 0, b 1] rfl (fun _ => rfl) (fun _ => rfl) (fun u H locs hok hP hD hS => ?_)
  refine z_if_eq hx hb (tgt := 24) dX6_watched_5 (by decide) (fun c_1 => ?_) (fun c_1 => ?_)
  · refine lv_aload_n hx hb dX6_watched_24 rfl (lv_at hl 0 rfl) ?_
    refine lv_iconst (v := nI 0) hx hb dX6_watched_25 rfl ?_
    refine callVI (rest := []) (wn := fun u => [mO b ζ vv, (b 4, .inl (G.2.1, 7, .inl (tk tl 0))), (b 1, .inl (G.2.1, 46, .inl (nF σ))), (b 3, .inl (G.2.1, 46, .inl F))]) ⟨hx, hb, hml, hown, hts⟩ (c_X6_no l G H.size b ζ vv tl 0 (by omega)) (cwV 1 hts gX6_watched_X6_no rfl rfl rfl (by decide +kernel) ⟨Nat.le_of_ble_eq_true rfl, Nat.le_of_ble_eq_true rfl⟩) noXB (fun _ _ _ => trivial) hK hP hD hS hAq 5 0 (T := TX6) (N := 18) rfl rfl rfl hl.1 rfl (Nat.le_of_ble_eq_true rfl) dX6_watched_26 ⟨Nat.le_of_ble_eq_true rfl, Nat.le_of_ble_eq_true rfl⟩ [0, 1] rfl rfl [b 0, b 4] rfl (fun _ => rfl) (fun _ => rfl) (fun u H locs hok hP hD hS => ?_)
    have he : watched_e σ a0.toInt = 0 := by unfold watched_e; (try simp only [Int.toNat_natCast]); (repeat' split) <;> omega
    exact fin_i hx hb hr hlk hS hP hD (F) trivial (by rw [he]; first | done | ((try simp only [Int.toNat_natCast]); first | done | rfl)) (by rw [he]; (try simp only [Int.toNat_natCast]); exact eqW.rf _) dX6_watched_29
  · obtain ⟨k0, hk0, rfl⟩ := nI_of_rg (n := 7) (x := a0) ⟨by omega, by omega⟩
    have hT0 := nI_T (a := k0) (by omega)
    have hp0 : k0 < σ 5 := by omega
    obtain ⟨q00, q01, q02, q03, q04⟩ := ip k0 (by omega)
    refine lv_aload_n hx hb dX6_watched_8 rfl (lv_at hl 0 rfl) ?_
    refine lv_bipush (v := nI 6) hx hb dX6_watched_9 rfl ?_
    refine lv_iconst (v := nI 5) hx hb dX6_watched_11 rfl ?_
    refine lv_iload_n hx hb dX6_watched_12 rfl (lv_at hl 1 rfl) ?_
    refine n_imul hx hb dX6_watched_13 ?_
    refine n_iadd hx hb dX6_watched_14 ?_
    refine lv_iconst (v := nI 3) hx hb dX6_watched_15 rfl ?_
    refine n_iadd hx hb dX6_watched_16 ?_
    have hpq := pl_lt (k := k0) (c := 3) (by omega) (by omega)
    refine n_top (y := nI (pl k0 3)) rfl ?_
    refine lv_iconst (v := nI 1) hx hb dX6_watched_17 rfl ?_
    refine callVI (rest := []) (wn := fun u => [mO b ζ vv, (b 4, .inl (G.2.1, 7, .inl (ts tl (fb_e σ (pl k0 3) 1)))), (b 1, .inl (G.2.1, 46, .inl (nF σ))), (b 3, .inl (G.2.1, 46, .inl (nF σ)))]) ⟨hx, hb, hml, hown, hts⟩ (c_X6_firstBy l G H.size b ζ vv tl σ F (pl k0 3) 1 hI (by omega) (by omega) (by omega)) (cwV 2 hts gX6_watched_X6_firstBy rfl rfl rfl (by decide +kernel) ⟨Nat.le_of_ble_eq_true rfl, Nat.le_of_ble_eq_true rfl⟩) noXB (fun _ _ _ => trivial) hK hP hD hS hAq 5 0 (T := TX6) (N := 18) rfl rfl rfl hl.1 rfl (Nat.le_of_ble_eq_true rfl) dX6_watched_18 ⟨Nat.le_of_ble_eq_true rfl, Nat.le_of_ble_eq_true rfl⟩ [0, 1, 2, 3] rfl rfl [b 0, b 4, b 1, b 3] rfl (fun _ => rfl) (fun _ => rfl) (fun u H locs hok hP hD hS => ?_)
    refine lv_goto (tgt := 29) hx hb dX6_watched_21 (by decide) ?_
    have he : watched_e σ (nI k0).toInt = fb_e σ (pl k0 3) 1 := by unfold watched_e; (try simp only [hT0, Int.toNat_natCast]); rw [if_pos (by omega)]
    exact fin_i hx hb hr hlk hS hP hD (nF σ) trivial (by rw [he]; (try simp only [hT0, Int.toNat_natCast])) (by rw [he]; exact eqW.rf _) dX6_watched_29
set_option maxHeartbeats 400000 in
set_option maxRecDepth 100000 in
theorem c_X5_reason (l : Launch) (G : GT) (sz : Nat) (x hm kp tr : Nat → Nat) (hi : Nat) (tl : Nat → Int32) (σ τ : Sg) (a0 a1 a2 : Int32) (hI : Inv σ) (hd0 : σ 0 ≤ 9999) : MI (S := Sg) l G noX yX5_reason wsX5_reason ({ frames := 5, cells := 0, slots := 0, locals := 113 } : Room) [.ref (x 0), .int a0, .int a1, .int a2] (([xO x hm kp tr hi, (x 7, .inl (G.2.1, 7, .inl tl))] ++ (wH G hm σ ++ (wH G tr τ)))) sz (fun _ => True) (fun u => rs (reason_e σ a0.toInt a1.toInt a2.toInt) (nI (fstN (reQ σ a0.toInt.toNat a1.toInt.toNat a2.toInt.toNat) 100))) (fun u => ([xO x hm kp tr hi, (x 7, .inl (G.2.1, 7, .inl (ts tl (reason_e σ a0.toInt a1.toInt a2.toInt))))] ++ (wH G hm σ ++ (wH G tr u)))) := by
  refine MI_enter (cc := cX5_reason) (maxL := 5) (ret := (some .int)) (by decide) rfl (Nat.le_of_ble_eq_true rfl) ?_
  intro p e s m below meth c A ls H hx hb hr hlk hml hown hts hAq hS hP hK hD hX hl hnm
  have hown : s.vm.findClass RX5 = some m.cls := hown
  have hl : lv_has ls 5 [(0, .ref (x 0)), (1, .int a0), (2, .int a1), (3, .int a2)] := hl
  obtain ⟨⟨i1, i2, i3, i4, i5⟩, ip⟩ := id hI
  refine lv_aload_n hx hb dX5_reason_0 rfl (lv_at hl 0 rfl) ?_
  refine n_get (C := RX5) (T := TX5) (N := 7) hx hb hts (fun _ h => List.mem_cons_of_mem _ (List.mem_append_left _ (List.mem_append_right _ h))) hown hK hP 0 rfl rfl 0 (by decide) (List.mem_of_getElem? (i := 1) rfl) rfl (.ref (hm 0)) rfl dX5_reason_1 ?_
  refine lv_iload_n hx hb dX5_reason_4 rfl (lv_at hl 1 rfl) ?_
  refine callVI (rest := []) (wn := fun u => ([xO x hm kp tr hi, (x 7, .inl (G.2.1, 7, .inl tl))] ++ (wH G hm σ ++ (wH G tr τ)))) ⟨hx, hb, hml, hown, hts⟩ (c_X0_hasOne l G H.size hm σ a0 (by omega)) (cwV 1 hts gX5_reason_X0_hasOne rfl rfl rfl (by decide +kernel) ⟨Nat.le_of_ble_eq_true rfl, Nat.le_of_ble_eq_true rfl⟩) noXB (fun _ _ _ => trivial) hK hP hD hS hAq 0 0 (T := TX0) (N := 11) rfl rfl rfl hl.1 rfl (Nat.le_of_ble_eq_true rfl) dX5_reason_5 ⟨Nat.le_of_ble_eq_true rfl, Nat.le_of_ble_eq_true rfl⟩ [2, 3, 4, 5, 6, 7] rfl rfl [hm 0, hm 1, hm 2, hm 3, hm 4, hm 5] rfl (fun _ => rfl) (fun _ => rfl) (fun u H locs hok hP hD hS => ?_)
  refine z_if_eq hx hb (tgt := 21) dX5_reason_8 (by decide) (fun c_1 => ?_) (fun c_1 => ?_)
  · refine lv_aload_n hx hb dX5_reason_21 rfl (lv_at hl 0 rfl) ?_
    refine lv_iconst (v := nI 0) hx hb dX5_reason_22 rfl ?_
    refine callVI (rest := []) (wn := fun u => ([xO x hm kp tr hi, (x 7, .inl (G.2.1, 7, .inl (tk tl 0)))] ++ (wH G hm σ ++ (wH G tr τ)))) ⟨hx, hb, hml, hown, hts⟩ (c_X5_tell l G H.size x hm kp tr hi tl 0 (by omega)) (cwV 1 hts gX5_reason_X5_tell rfl rfl rfl (by decide +kernel) ⟨Nat.le_of_ble_eq_true rfl, Nat.le_of_ble_eq_true rfl⟩) noXB (fun _ _ _ => trivial) hK hP hD hS hAq 4 0 (T := TX5) (N := 7) rfl rfl rfl hl.1 rfl (Nat.le_of_ble_eq_true rfl) dX5_reason_23 ⟨Nat.le_of_ble_eq_true rfl, Nat.le_of_ble_eq_true rfl⟩ [0, 1] rfl rfl [x 0, x 7] rfl (fun _ => rfl) (fun _ => rfl) (fun u H locs hok hP hD hS => ?_)
    have he : reason_e σ a0.toInt a1.toInt a2.toInt = 0 := by unfold reason_e; (try simp only [Int.toNat_natCast]); (repeat' split) <;> omega
    exact fin_i hx hb hr hlk hS hP hD τ trivial (by rw [he]; first | done | ((try simp only [Int.toNat_natCast]); first | done | rfl)) (by rw [he]; (try simp only [Int.toNat_natCast]); exact eqW.rf _) dX5_reason_26
  · obtain ⟨k0, hk0, rfl⟩ := nI_of_rg (n := 7) (x := a0) ⟨by omega, by omega⟩
    have hT0 := nI_T (a := k0) (by omega)
    have hp0 : k0 < σ 5 := by omega
    obtain ⟨q00, q01, q02, q03, q04⟩ := ip k0 (by omega)
    refine lv_iload_n hx hb dX5_reason_11 rfl (lv_at hl 2 rfl) ?_
    refine lv_iconst (v := nI 1) hx hb dX5_reason_12 rfl ?_
    refine lv_bipush (v := nI 60) hx hb dX5_reason_13 rfl ?_
    refine callSI (rest := []) (wn := fun u => ([xO x hm kp tr hi, (x 7, .inl (G.2.1, 7, .inl tl))] ++ (wH G hm σ ++ (wH G tr τ)))) ⟨hx, hb, hml, hown, hts⟩ (c_X5_isWithin l G H.size a1 (nI 1) (nI 60)) (va_cwS 3 hts gX5_reason_X5_isWithin rfl rfl rfl (by decide +kernel) ⟨Nat.le_of_ble_eq_true rfl, Nat.le_of_ble_eq_true rfl⟩) noXB (fun _ _ _ => trivial) hK hP hD hS hAq rfl hl.1 rfl (Nat.le_of_ble_eq_true rfl) dX5_reason_15 ⟨Nat.le_of_ble_eq_true rfl, Nat.le_of_ble_eq_true rfl⟩ [] rfl rfl [] rfl (fun _ => rfl) (fun _ => rfl) (fun u H locs hok hP hD hS => ?_)
    refine n_top (y := zI ((1 : Int) ≤ a1.toInt ∧ a1.toInt ≤ 60)) (zI_c (by rw [nI_T (show 1 < 2147483648 by decide), nI_T (show 60 < 2147483648 by decide)]; exact Iff.rfl)) ?_
    refine z_if_ne hx hb (tgt := 27) dX5_reason_18 (by decide) (fun c_2 => ?_) (fun c_2 => ?_)
    · obtain ⟨n1, hn1, rfl⟩ := nI_of_rg (n := 60) (x := a1) ⟨by omega, by omega⟩
      have hT1 := nI_T (a := n1) (by omega)
      refine lv_iload_n hx hb dX5_reason_27 rfl (lv_at hl 3 rfl) ?_
      refine lv_iconst (v := nI 0) hx hb dX5_reason_28 rfl ?_
      refine lv_ldc (v := 99999999) hx hb hown (hts _ (List.mem_of_getElem? (i := 2) rfl)) dX5_reason_29 ?_
      refine n_top (y := nI 99999999) rfl ?_
      refine callSI (rest := []) (wn := fun u => ([xO x hm kp tr hi, (x 7, .inl (G.2.1, 7, .inl tl))] ++ (wH G hm σ ++ (wH G tr τ)))) ⟨hx, hb, hml, hown, hts⟩ (c_X5_isWithin l G H.size a2 (nI 0) (nI 99999999)) (va_cwS 3 hts gX5_reason_X5_isWithin rfl rfl rfl (by decide +kernel) ⟨Nat.le_of_ble_eq_true rfl, Nat.le_of_ble_eq_true rfl⟩) noXB (fun _ _ _ => trivial) hK hP hD hS hAq rfl hl.1 rfl (Nat.le_of_ble_eq_true rfl) dX5_reason_31 ⟨Nat.le_of_ble_eq_true rfl, Nat.le_of_ble_eq_true rfl⟩ [] rfl rfl [] rfl (fun _ => rfl) (fun _ => rfl) (fun u H locs hok hP hD hS => ?_)
      refine n_top (y := zI ((0 : Int) ≤ a2.toInt ∧ a2.toInt ≤ 99999999)) (zI_c (by rw [nI_T (show 0 < 2147483648 by decide), nI_T (show 99999999 < 2147483648 by decide)]; exact Iff.rfl)) ?_
      refine z_if_ne hx hb (tgt := 43) dX5_reason_34 (by decide) (fun c_3 => ?_) (fun c_3 => ?_)
      · obtain ⟨v2, hv2, rfl⟩ := nI_of_rg (n := 99999999) (x := a2) ⟨by omega, by omega⟩
        have hT2 := nI_T (a := v2) (by omega)
        refine lv_iconst (v := nI 0) hx hb dX5_reason_43 rfl ?_
        refine lv_istore (lv' := [(4, .int (nI 0)), (0, .ref (x 0)), (1, .int (nI k0)), (2, .int (nI n1)), (3, .int (nI v2))]) hx hb dX5_reason_44 hl (by decide) rfl (fun ls hl => ?_)
        refine W_loop2 (I := fun (g : Nat) (τ1 : Sg) => g ≤ 100 ∧ NoQ (reQ σ k0 n1 v2) g) (wd := fun (g : Nat) (τ1 : Sg) => ([xO x hm kp tr hi, (x 7, .inl (G.2.1, 7, .inl tl))] ++ (wH G hm σ ++ (wH G tr τ1)))) (lv := fun (g : Nat) (τ1 : Sg) => [(4, .int (nI g)), (0, .ref (x 0)), (1, .int (nI k0)), (2, .int (nI n1)), (3, .int (nI v2))]) (μ := fun (g : Nat) (τ1 : Sg) => 100 - g) ?_ 0 τ ⟨by omega, NoQ_0⟩ hP hD hS (lv_sub hl [0, 1, 2, 3, 4] rfl)
        intro g τ1 H locs ls hI0 hP hD hS hl ih
        obtain ⟨hk, hno⟩ := hI0
        refine lv_iload hx hb dX5_reason_46 (lv_at hl 0 rfl) ?_
        refine lv_bipush (v := nI 99) hx hb dX5_reason_48 rfl ?_
        refine n_icmp_gt hx hb (by omega) (by omega) (tgt := 103) dX5_reason_50 (by decide) (fun c_4 => ?_) (fun c_4 => ?_)
        · have hk5 : g = 100 := by omega
          subst hk5
          refine lv_aload_n hx hb dX5_reason_103 rfl (lv_at hl 1 rfl) ?_
          refine lv_iconst (v := nI 3) hx hb dX5_reason_104 rfl ?_
          refine callVI (rest := []) (wn := fun u => ([xO x hm kp tr hi, (x 7, .inl (G.2.1, 7, .inl (tk tl 3)))] ++ (wH G hm σ ++ (wH G tr τ1)))) ⟨hx, hb, hml, hown, hts⟩ (c_X5_tell l G H.size x hm kp tr hi tl 3 (by omega)) (cwV 1 hts gX5_reason_X5_tell rfl rfl rfl (by decide +kernel) ⟨Nat.le_of_ble_eq_true rfl, Nat.le_of_ble_eq_true rfl⟩) noXB (fun _ _ _ => trivial) hK hP hD hS hAq 4 0 (T := TX5) (N := 7) rfl rfl rfl hl.1 rfl (Nat.le_of_ble_eq_true rfl) dX5_reason_105 ⟨Nat.le_of_ble_eq_true rfl, Nat.le_of_ble_eq_true rfl⟩ [0, 1] rfl rfl [x 0, x 7] rfl (fun _ => rfl) (fun _ => rfl) (fun u H locs hok hP hD hS => ?_)
          have hf : fstN (reQ σ k0 n1 v2) 100 = 100 := fst_none hno
          have he : reason_e σ (nI k0).toInt (nI n1).toInt (nI v2).toInt = 3 := by unfold reason_e; (try simp only [hT0, hT1, hT2, Int.toNat_natCast]); rw [if_pos (by omega), hf]; first | rw [if_pos (by omega)] | rw [if_neg (by omega)]
          exact fin_i hx hb hr hlk hS hP hD τ1 trivial (by rw [he]; first | done | ((try simp only [hT0, hT1, hT2, Int.toNat_natCast]); first | done | rfl)) (by rw [he]; (try simp only [hT0, hT1, hT2, Int.toNat_natCast]); exact eqW.rf _) dX5_reason_108
        · have hIu : Inv (un σ (pl k0 2) g) := Inv.unp hI (by decide) (by omega)
          have hE0 : un σ (pl k0 2) g 0 = σ 0 := un_ps (by decide)
          have hEc : daysN n1 (un σ (pl k0 2) g) 3 ≤ 99999999 := (days_Inv hIu n1).1.2.2.1
          refine lv_aload_n hx hb dX5_reason_53 rfl (lv_at hl 1 rfl) ?_
          refine n_get (C := RX5) (T := TX5) (N := 7) hx hb hts (fun _ h => List.mem_cons_of_mem _ (List.mem_append_left _ (List.mem_append_right _ h))) hown hK hP 0 rfl rfl 2 (by decide) (List.mem_of_getElem? (i := 3) rfl) rfl (.ref (tr 0)) rfl dX5_reason_54 ?_
          refine lv_aload_n hx hb dX5_reason_57 rfl (lv_at hl 1 rfl) ?_
          refine n_get (C := RX5) (T := TX5) (N := 7) hx hb hts (fun _ h => List.mem_cons_of_mem _ (List.mem_append_left _ (List.mem_append_right _ h))) hown hK hP 0 rfl rfl 0 (by decide) (List.mem_of_getElem? (i := 1) rfl) rfl (.ref (hm 0)) rfl dX5_reason_58 ?_
          refine callVV (rest := []) (wn := fun u => ([xO x hm kp tr hi, (x 7, .inl (G.2.1, 7, .inl tl))] ++ (wH G hm σ ++ (wH G tr σ)))) ⟨hx, hb, hml, hown, hts⟩ (c_X0_become l G H.size tr τ1 hm σ) (cwV 1 hts gX5_reason_X0_become rfl rfl rfl (by decide +kernel) ⟨Nat.le_of_ble_eq_true rfl, Nat.le_of_ble_eq_true rfl⟩) noXB (fun _ _ _ => trivial) hK hP hD hS hAq 0 0 (T := TX0) (N := 11) rfl rfl rfl hl.1 rfl (Nat.le_of_ble_eq_true rfl) dX5_reason_61 ⟨Nat.le_of_ble_eq_true rfl, Nat.le_of_ble_eq_true rfl⟩ [8, 9, 10, 11, 12, 13, 2, 3, 4, 5, 6, 7] rfl rfl [tr 0, tr 1, tr 2, tr 3, tr 4, tr 5, hm 0, hm 1, hm 2, hm 3, hm 4, hm 5] rfl (fun _ => rfl) (fun _ => rfl) (fun u H locs hok hP hD hS => ?_)
          refine lv_aload_n hx hb dX5_reason_64 rfl (lv_at hl 1 rfl) ?_
          refine n_get (C := RX5) (T := TX5) (N := 7) hx hb hts (fun _ h => List.mem_cons_of_mem _ (List.mem_append_left _ (List.mem_append_right _ h))) hown hK hP 0 rfl rfl 2 (by decide) (List.mem_of_getElem? (i := 3) rfl) rfl (.ref (tr 0)) rfl dX5_reason_65 ?_
          refine n_get (C := RX0) (T := TX0) (N := 11) hx hb hts (fun _ h => List.mem_cons_of_mem _ (List.mem_append_right _ h)) hown hK hP 8 rfl rfl 8 (by decide) (List.mem_of_getElem? (i := 4) rfl) rfl (.ref (tr 3)) rfl dX5_reason_68 ?_
          refine lv_iload_n hx hb dX5_reason_71 rfl (lv_at hl 2 rfl) ?_
          refine lv_iload hx hb dX5_reason_72 (lv_at hl 0 rfl) ?_
          refine n_iast hx hb hK hP hD hS 11 (wn := ([xO x hm kp tr hi, (x 7, .inl (G.2.1, 7, .inl tl))] ++ (wH G hm σ ++ (wH G tr (un σ (pl k0 2) g))))) rfl (by omega) (by omega) (congrArg (fun hole_w : va_W => ([xO x hm kp tr hi, (x 7, .inl (G.2.1, 7, .inl tl))] ++ (wH G hm σ ++ (hole_w)))) (wH_p2 G tr σ k0 g)) dX5_reason_74 (fun H locs hP hD hS => ?_)
          refine lv_aload_n hx hb dX5_reason_75 rfl (lv_at hl 1 rfl) ?_
          refine n_get (C := RX5) (T := TX5) (N := 7) hx hb hts (fun _ h => List.mem_cons_of_mem _ (List.mem_append_left _ (List.mem_append_right _ h))) hown hK hP 0 rfl rfl 2 (by decide) (List.mem_of_getElem? (i := 3) rfl) rfl (.ref (tr 0)) rfl dX5_reason_76 ?_
          refine lv_iload_n hx hb dX5_reason_79 rfl (lv_at hl 3 rfl) ?_
          refine callVV (rest := []) (wn := fun u => ([xO x hm kp tr hi, (x 7, .inl (G.2.1, 7, .inl tl))] ++ (wH G hm σ ++ (wH G tr (daysN n1 (un σ (pl k0 2) g)))))) ⟨hx, hb, hml, hown, hts⟩ (c_X0_goOn l G H.size tr (un σ (pl k0 2) g) n1 hIu (by omega)) (cwV 1 hts gX5_reason_X0_goOn rfl rfl rfl (by decide +kernel) ⟨Nat.le_of_ble_eq_true rfl, Nat.le_of_ble_eq_true rfl⟩) noXB (fun _ _ _ => trivial) hK hP hD hS hAq 0 0 (T := TX0) (N := 11) rfl rfl rfl hl.1 rfl (Nat.le_of_ble_eq_true rfl) dX5_reason_80 ⟨Nat.le_of_ble_eq_true rfl, Nat.le_of_ble_eq_true rfl⟩ [8, 9, 10, 11, 12, 13] rfl rfl [tr 0, tr 1, tr 2, tr 3, tr 4, tr 5] rfl (fun _ => rfl) (fun _ => rfl) (fun u H locs hok hP hD hS => ?_)
          refine lv_aload_n hx hb dX5_reason_83 rfl (lv_at hl 1 rfl) ?_
          refine n_get (C := RX5) (T := TX5) (N := 7) hx hb hts (fun _ h => List.mem_cons_of_mem _ (List.mem_append_left _ (List.mem_append_right _ h))) hown hK hP 0 rfl rfl 2 (by decide) (List.mem_of_getElem? (i := 3) rfl) rfl (.ref (tr 0)) rfl dX5_reason_84 ?_
          refine n_get (C := RX0) (T := TX0) (N := 11) hx hb hts (fun _ h => List.mem_cons_of_mem _ (List.mem_append_right _ h)) hown hK hP 8 rfl rfl 3 (by decide) (List.mem_of_getElem? (i := 5) rfl) rfl (.int (nI ((daysN n1 (un σ (pl k0 2) g)) 3))) rfl dX5_reason_87 ?_
          refine lv_iload_n hx hb dX5_reason_90 rfl (lv_at hl 4 rfl) ?_
          refine n_icmp_lt hx hb (by omega) (by omega) (tgt := 97) dX5_reason_91 (by decide) (fun c_5 => ?_) (fun c_5 => ?_)
          · refine n_iinc (lv' := [(4, .int (nI (g + 1))), (0, .ref (x 0)), (1, .int (nI k0)), (2, .int (nI n1)), (3, .int (nI v2))]) hx hb dX5_reason_97 hl (k := 0) rfl (by decide) rfl (fun ls hl => ?_)
            refine lv_goto (tgt := 46) hx hb dX5_reason_100 (by decide) ?_
            exact ih (g + 1) (daysN n1 (un σ (pl k0 2) g)) _ _ _ (by omega) ⟨by omega, NoQ_S hno (decide_eq_false (by omega))⟩ hP hD hS (lv_sub hl [0, 1, 2, 3, 4] rfl)
          · refine lv_iload hx hb dX5_reason_94 (lv_at hl 0 rfl) ?_
            have hf : fstN (reQ σ k0 n1 v2) 100 = g := fst_of hno (decide_eq_true (by omega)) (by omega)
            have he : reason_e σ (nI k0).toInt (nI n1).toInt (nI v2).toInt = 7 := by unfold reason_e; (try simp only [hT0, hT1, hT2, Int.toNat_natCast]); rw [if_pos (by omega), hf]; first | rw [if_pos (by omega)] | rw [if_neg (by omega)]
            exact fin_i hx hb hr hlk hS hP hD (daysN n1 (un σ (pl k0 2) g)) trivial (by rw [he]; (try simp only [hT0, hT1, hT2, Int.toNat_natCast]); rw [hf]; rfl) (by rw [he]; (try simp only [hT0, hT1, hT2, Int.toNat_natCast]); exact eqW.rf _) dX5_reason_96
      · refine lv_aload_n hx hb dX5_reason_37 rfl (lv_at hl 0 rfl) ?_
        refine lv_iconst (v := nI 0) hx hb dX5_reason_38 rfl ?_
        refine callVI (rest := []) (wn := fun u => ([xO x hm kp tr hi, (x 7, .inl (G.2.1, 7, .inl (tk tl 0)))] ++ (wH G hm σ ++ (wH G tr τ)))) ⟨hx, hb, hml, hown, hts⟩ (c_X5_tell l G H.size x hm kp tr hi tl 0 (by omega)) (cwV 1 hts gX5_reason_X5_tell rfl rfl rfl (by decide +kernel) ⟨Nat.le_of_ble_eq_true rfl, Nat.le_of_ble_eq_true rfl⟩) noXB (fun _ _ _ => trivial) hK hP hD hS hAq 4 0 (T := TX5) (N := 7) rfl rfl rfl hl.1 rfl (Nat.le_of_ble_eq_true rfl) dX5_reason_39 ⟨Nat.le_of_ble_eq_true rfl, Nat.le_of_ble_eq_true rfl⟩ [0, 1] rfl rfl [x 0, x 7] rfl (fun _ => rfl) (fun _ => rfl) (fun u H locs hok hP hD hS => ?_)
        have he : reason_e σ (nI k0).toInt (nI n1).toInt a2.toInt = 0 := by unfold reason_e; (try simp only [hT0, hT1, Int.toNat_natCast]); (repeat' split) <;> omega
        exact fin_i hx hb hr hlk hS hP hD τ trivial (by rw [he]; first | done | ((try simp only [hT0, hT1, Int.toNat_natCast]); first | done | rfl)) (by rw [he]; (try simp only [hT0, hT1, Int.toNat_natCast]); exact eqW.rf _) dX5_reason_42
    · refine lv_aload_n hx hb dX5_reason_21 rfl (lv_at hl 0 rfl) ?_
      refine lv_iconst (v := nI 0) hx hb dX5_reason_22 rfl ?_
      refine callVI (rest := []) (wn := fun u => ([xO x hm kp tr hi, (x 7, .inl (G.2.1, 7, .inl (tk tl 0)))] ++ (wH G hm σ ++ (wH G tr τ)))) ⟨hx, hb, hml, hown, hts⟩ (c_X5_tell l G H.size x hm kp tr hi tl 0 (by omega)) (cwV 1 hts gX5_reason_X5_tell rfl rfl rfl (by decide +kernel) ⟨Nat.le_of_ble_eq_true rfl, Nat.le_of_ble_eq_true rfl⟩) noXB (fun _ _ _ => trivial) hK hP hD hS hAq 4 0 (T := TX5) (N := 7) rfl rfl rfl hl.1 rfl (Nat.le_of_ble_eq_true rfl) dX5_reason_23 ⟨Nat.le_of_ble_eq_true rfl, Nat.le_of_ble_eq_true rfl⟩ [0, 1] rfl rfl [x 0, x 7] rfl (fun _ => rfl) (fun _ => rfl) (fun u H locs hok hP hD hS => ?_)
      have he : reason_e σ (nI k0).toInt a1.toInt a2.toInt = 0 := by unfold reason_e; (try simp only [hT0, Int.toNat_natCast]); (repeat' split) <;> omega
      exact fin_i hx hb hr hlk hS hP hD τ trivial (by rw [he]; first | done | ((try simp only [hT0, Int.toNat_natCast]); first | done | rfl)) (by rw [he]; (try simp only [hT0, Int.toNat_natCast]); exact eqW.rf _) dX5_reason_26
set_option maxHeartbeats 400000 in
set_option maxRecDepth 100000 in
theorem c_X6_reason (l : Launch) (G : GT) (sz : Nat) (b : Nat → Nat) (ζ : Nat → Nat) (vv : Int64) (tl : Nat → Int32) (σ : Sg) (F : Nat → Int32) (a0 a1 a2 : Int32) (hI : Inv σ) (hd0 : σ 0 ≤ 9999) : MI (S := Nat → Int32) l G noX yX6_reason wsX6_reason ({ frames := 8, cells := 0, slots := 0, locals := 181 } : Room) [.ref (b 0), .int a0, .int a1, .int a2] ([mO b ζ vv, (b 4, .inl (G.2.1, 7, .inl tl)), (b 1, .inl (G.2.1, 46, .inl (nF σ))), (b 3, .inl (G.2.1, 46, .inl F))]) sz (fun _ => True) (fun u => rs (reason_e σ a0.toInt a1.toInt a2.toInt) (nI (fstN (reQ σ a0.toInt.toNat a1.toInt.toNat a2.toInt.toNat) 100))) (fun u => [mO b ζ vv, (b 4, .inl (G.2.1, 7, .inl (ts tl (reason_e σ a0.toInt a1.toInt a2.toInt)))), (b 1, .inl (G.2.1, 46, .inl (nF σ))), (b 3, .inl (G.2.1, 46, .inl u))]) := by
  refine MI_enter (cc := cX6_reason) (maxL := 5) (ret := (some .int)) (by decide) rfl (Nat.le_of_ble_eq_true rfl) ?_
  intro p e s m below meth c A ls H hx hb hr hlk hml hown hts hAq hS hP hK hD hX hl hnm
  have hown : s.vm.findClass RX6 = some m.cls := hown
  have hl : lv_has ls 5 [(0, .ref (b 0)), (1, .int a0), (2, .int a1), (3, .int a2)] := hl
  obtain ⟨⟨i1, i2, i3, i4, i5⟩, ip⟩ := id hI
  refine lv_aload_n hx hb dX6_reason_0 rfl (lv_at hl 0 rfl) ?_
  refine lv_iload_n hx hb dX6_reason_1 rfl (lv_at hl 1 rfl) ?_
  refine callVI (rest := []) (wn := fun u => [mO b ζ vv, (b 4, .inl (G.2.1, 7, .inl tl)), (b 1, .inl (G.2.1, 46, .inl (nF σ))), (b 3, .inl (G.2.1, 46, .inl F))]) ⟨hx, hb, hml, hown, hts⟩ (c_X6_isPerson l G H.size b ζ vv σ a0 (by omega)) (cwV 1 hts gX6_reason_X6_isPerson rfl rfl rfl (by decide +kernel) ⟨Nat.le_of_ble_eq_true rfl, Nat.le_of_ble_eq_true rfl⟩) noXB (fun _ _ _ => trivial) hK hP hD hS hAq 5 0 (T := TX6) (N := 18) rfl rfl rfl hl.1 rfl (Nat.le_of_ble_eq_true rfl) dX6_reason_2 ⟨Nat.le_of_ble_eq_true rfl, Nat.le_of_ble_eq_true rfl⟩ [0, 2] rfl rfl [b 0, b 1] rfl (fun _ => rfl) (fun _ => rfl) (fun u H locs hok hP hD hS => ?_)
  refine z_if_eq hx hb (tgt := 25) dX6_reason_5 (by decide) (fun c_1 => ?_) (fun c_1 => ?_)
  · refine lv_aload_n hx hb dX6_reason_25 rfl (lv_at hl 0 rfl) ?_
    refine lv_iconst (v := nI 0) hx hb dX6_reason_26 rfl ?_
    refine callVI (rest := []) (wn := fun u => [mO b ζ vv, (b 4, .inl (G.2.1, 7, .inl (tk tl 0))), (b 1, .inl (G.2.1, 46, .inl (nF σ))), (b 3, .inl (G.2.1, 46, .inl F))]) ⟨hx, hb, hml, hown, hts⟩ (c_X6_no l G H.size b ζ vv tl 0 (by omega)) (cwV 1 hts gX6_reason_X6_no rfl rfl rfl (by decide +kernel) ⟨Nat.le_of_ble_eq_true rfl, Nat.le_of_ble_eq_true rfl⟩) noXB (fun _ _ _ => trivial) hK hP hD hS hAq 5 0 (T := TX6) (N := 18) rfl rfl rfl hl.1 rfl (Nat.le_of_ble_eq_true rfl) dX6_reason_27 ⟨Nat.le_of_ble_eq_true rfl, Nat.le_of_ble_eq_true rfl⟩ [0, 1] rfl rfl [b 0, b 4] rfl (fun _ => rfl) (fun _ => rfl) (fun u H locs hok hP hD hS => ?_)
    have he : reason_e σ a0.toInt a1.toInt a2.toInt = 0 := by unfold reason_e; (try simp only [Int.toNat_natCast]); (repeat' split) <;> omega
    exact fin_i hx hb hr hlk hS hP hD (F) trivial (by rw [he]; first | done | ((try simp only [Int.toNat_natCast]); first | done | rfl)) (by rw [he]; (try simp only [Int.toNat_natCast]); exact eqW.rf _) dX6_reason_30
  · obtain ⟨k0, hk0, rfl⟩ := nI_of_rg (n := 7) (x := a0) ⟨by omega, by omega⟩
    have hT0 := nI_T (a := k0) (by omega)
    have hp0 : k0 < σ 5 := by omega
    obtain ⟨q00, q01, q02, q03, q04⟩ := ip k0 (by omega)
    refine lv_iload_n hx hb dX6_reason_8 rfl (lv_at hl 2 rfl) ?_
    refine callSI (rest := []) (wn := fun u => [mO b ζ vv, (b 4, .inl (G.2.1, 7, .inl tl)), (b 1, .inl (G.2.1, 46, .inl (nF σ))), (b 3, .inl (G.2.1, 46, .inl F))]) ⟨hx, hb, hml, hown, hts⟩ (c_X6_isSoon l G H.size a1) (va_cwS 1 hts gX6_reason_X6_isSoon rfl rfl rfl (by decide +kernel) ⟨Nat.le_of_ble_eq_true rfl, Nat.le_of_ble_eq_true rfl⟩) noXB (fun _ _ _ => trivial) hK hP hD hS hAq rfl hl.1 rfl (Nat.le_of_ble_eq_true rfl) dX6_reason_9 ⟨Nat.le_of_ble_eq_true rfl, Nat.le_of_ble_eq_true rfl⟩ [] rfl rfl [] rfl (fun _ => rfl) (fun _ => rfl) (fun u H locs hok hP hD hS => ?_)
    refine z_if_eq hx hb (tgt := 25) dX6_reason_12 (by decide) (fun c_2 => ?_) (fun c_2 => ?_)
    · refine lv_aload_n hx hb dX6_reason_25 rfl (lv_at hl 0 rfl) ?_
      refine lv_iconst (v := nI 0) hx hb dX6_reason_26 rfl ?_
      refine callVI (rest := []) (wn := fun u => [mO b ζ vv, (b 4, .inl (G.2.1, 7, .inl (tk tl 0))), (b 1, .inl (G.2.1, 46, .inl (nF σ))), (b 3, .inl (G.2.1, 46, .inl F))]) ⟨hx, hb, hml, hown, hts⟩ (c_X6_no l G H.size b ζ vv tl 0 (by omega)) (cwV 1 hts gX6_reason_X6_no rfl rfl rfl (by decide +kernel) ⟨Nat.le_of_ble_eq_true rfl, Nat.le_of_ble_eq_true rfl⟩) noXB (fun _ _ _ => trivial) hK hP hD hS hAq 5 0 (T := TX6) (N := 18) rfl rfl rfl hl.1 rfl (Nat.le_of_ble_eq_true rfl) dX6_reason_27 ⟨Nat.le_of_ble_eq_true rfl, Nat.le_of_ble_eq_true rfl⟩ [0, 1] rfl rfl [b 0, b 4] rfl (fun _ => rfl) (fun _ => rfl) (fun u H locs hok hP hD hS => ?_)
      have he : reason_e σ (nI k0).toInt a1.toInt a2.toInt = 0 := by unfold reason_e; (try simp only [hT0, Int.toNat_natCast]); (repeat' split) <;> omega
      exact fin_i hx hb hr hlk hS hP hD (F) trivial (by rw [he]; first | done | ((try simp only [hT0, Int.toNat_natCast]); first | done | rfl)) (by rw [he]; (try simp only [hT0, Int.toNat_natCast]); exact eqW.rf _) dX6_reason_30
    · obtain ⟨n1, hn1, rfl⟩ := nI_of_rg (n := 60) (x := a1) ⟨by omega, by omega⟩
      have hT1 := nI_T (a := n1) (by omega)
      refine lv_iload_n hx hb dX6_reason_15 rfl (lv_at hl 3 rfl) ?_
      refine lv_iconst (v := nI 0) hx hb dX6_reason_16 rfl ?_
      refine lv_ldc (v := 99999999) hx hb hown (hts _ (List.mem_of_getElem? (i := 1) rfl)) dX6_reason_17 ?_
      refine n_top (y := nI 99999999) rfl ?_
      refine callSI (rest := []) (wn := fun u => [mO b ζ vv, (b 4, .inl (G.2.1, 7, .inl tl)), (b 1, .inl (G.2.1, 46, .inl (nF σ))), (b 3, .inl (G.2.1, 46, .inl F))]) ⟨hx, hb, hml, hown, hts⟩ (c_X6_in1 l G H.size a2 (nI 0) (nI 99999999)) (va_cwS 3 hts gX6_reason_X6_in1 rfl rfl rfl (by decide +kernel) ⟨Nat.le_of_ble_eq_true rfl, Nat.le_of_ble_eq_true rfl⟩) noXB (fun _ _ _ => trivial) hK hP hD hS hAq rfl hl.1 rfl (Nat.le_of_ble_eq_true rfl) dX6_reason_19 ⟨Nat.le_of_ble_eq_true rfl, Nat.le_of_ble_eq_true rfl⟩ [] rfl rfl [] rfl (fun _ => rfl) (fun _ => rfl) (fun u H locs hok hP hD hS => ?_)
      refine n_top (y := zI ((0 : Int) ≤ a2.toInt ∧ a2.toInt ≤ 99999999)) (zI_c (by rw [nI_T (show 0 < 2147483648 by decide), nI_T (show 99999999 < 2147483648 by decide)]; exact Iff.rfl)) ?_
      refine z_if_ne hx hb (tgt := 31) dX6_reason_22 (by decide) (fun c_3 => ?_) (fun c_3 => ?_)
      · obtain ⟨v2, hv2, rfl⟩ := nI_of_rg (n := 99999999) (x := a2) ⟨by omega, by omega⟩
        have hT2 := nI_T (a := v2) (by omega)
        refine lv_aload_n hx hb dX6_reason_31 rfl (lv_at hl 0 rfl) ?_
        refine callVV (rest := []) (wn := fun u => [mO b ζ vv, (b 4, .inl (G.2.1, 7, .inl tl)), (b 1, .inl (G.2.1, 46, .inl (nF σ))), (b 3, .inl (G.2.1, 46, .inl (nF σ)))]) ⟨hx, hb, hml, hown, hts⟩ (c_X6_setsAside l G H.size b ζ vv σ F) (cwV 0 hts gX6_reason_X6_setsAside rfl rfl rfl (by decide +kernel) ⟨Nat.le_of_ble_eq_true rfl, Nat.le_of_ble_eq_true rfl⟩) noXB (fun _ _ _ => trivial) hK hP hD hS hAq 5 0 (T := TX6) (N := 18) rfl rfl rfl hl.1 rfl (Nat.le_of_ble_eq_true rfl) dX6_reason_32 ⟨Nat.le_of_ble_eq_true rfl, Nat.le_of_ble_eq_true rfl⟩ [0, 2, 3] rfl rfl [b 0, b 1, b 3] rfl (fun _ => rfl) (fun _ => rfl) (fun u H locs hok hP hD hS => ?_)
        refine lv_iconst (v := nI 0) hx hb dX6_reason_35 rfl ?_
        refine lv_istore (lv' := [(4, .int (nI 0)), (0, .ref (b 0)), (1, .int (nI k0)), (2, .int (nI n1)), (3, .int (nI v2))]) hx hb dX6_reason_36 hl (by decide) rfl (fun ls hl => ?_)
        refine W_loop1 (I := fun (g : Nat) => g ≤ 100 ∧ NoQ (reQ σ k0 n1 v2) g) (wd := fun (g : Nat) => [mO b ζ vv, (b 4, .inl (G.2.1, 7, .inl tl)), (b 1, .inl (G.2.1, 46, .inl (nF σ))), (b 3, .inl (G.2.1, 46, .inl (nF σ)))]) (lv := fun (g : Nat) => [(4, .int (nI g)), (0, .ref (b 0)), (1, .int (nI k0)), (2, .int (nI n1)), (3, .int (nI v2))]) (μ := fun (g : Nat) => 100 - g) ?_ 0 ⟨by omega, NoQ_0⟩ hP hD hS (lv_sub hl [0, 1, 2, 3, 4] rfl)
        intro g H locs ls hI0 hP hD hS hl ih
        obtain ⟨hk, hno⟩ := hI0
        refine lv_iload hx hb dX6_reason_38 (lv_at hl 0 rfl) ?_
        refine lv_bipush (v := nI 100) hx hb dX6_reason_40 rfl ?_
        refine n_icmp_ge hx hb (by omega) (by omega) (tgt := 72) dX6_reason_42 (by decide) (fun c_4 => ?_) (fun c_4 => ?_)
        · have hk5 : g = 100 := by omega
          subst hk5
          refine lv_aload_n hx hb dX6_reason_72 rfl (lv_at hl 1 rfl) ?_
          refine lv_iconst (v := nI 3) hx hb dX6_reason_73 rfl ?_
          refine callVI (rest := []) (wn := fun u => [mO b ζ vv, (b 4, .inl (G.2.1, 7, .inl (tk tl 3))), (b 1, .inl (G.2.1, 46, .inl (nF σ))), (b 3, .inl (G.2.1, 46, .inl (nF σ)))]) ⟨hx, hb, hml, hown, hts⟩ (c_X6_no l G H.size b ζ vv tl 3 (by omega)) (cwV 1 hts gX6_reason_X6_no rfl rfl rfl (by decide +kernel) ⟨Nat.le_of_ble_eq_true rfl, Nat.le_of_ble_eq_true rfl⟩) noXB (fun _ _ _ => trivial) hK hP hD hS hAq 5 0 (T := TX6) (N := 18) rfl rfl rfl hl.1 rfl (Nat.le_of_ble_eq_true rfl) dX6_reason_74 ⟨Nat.le_of_ble_eq_true rfl, Nat.le_of_ble_eq_true rfl⟩ [0, 1] rfl rfl [b 0, b 4] rfl (fun _ => rfl) (fun _ => rfl) (fun u H locs hok hP hD hS => ?_)
          have hf : fstN (reQ σ k0 n1 v2) 100 = 100 := fst_none hno
          have he : reason_e σ (nI k0).toInt (nI n1).toInt (nI v2).toInt = 3 := by unfold reason_e; (try simp only [hT0, hT1, hT2, Int.toNat_natCast]); rw [if_pos (by omega), hf]; first | rw [if_pos (by omega)] | rw [if_neg (by omega)]
          exact fin_i hx hb hr hlk hS hP hD (nF σ) trivial (by rw [he]; first | done | ((try simp only [hT0, hT1, hT2, Int.toNat_natCast]); first | done | rfl)) (by rw [he]; (try simp only [hT0, hT1, hT2, Int.toNat_natCast]); exact eqW.rf _) dX6_reason_77
        · have hIu : Inv (un σ (pl k0 2) g) := Inv.unp hI (by decide) (by omega)
          have hE0 : un σ (pl k0 2) g 0 = σ 0 := un_ps (by decide)
          have hEc : daysN n1 (un σ (pl k0 2) g) 3 ≤ 99999999 := (days_Inv hIu n1).1.2.2.1
          refine lv_aload_n hx hb dX6_reason_45 rfl (lv_at hl 1 rfl) ?_
          refine lv_iload_n hx hb dX6_reason_46 rfl (lv_at hl 2 rfl) ?_
          refine lv_iconst (v := nI 2) hx hb dX6_reason_47 rfl ?_
          refine lv_iload hx hb dX6_reason_48 (lv_at hl 0 rfl) ?_
          refine callVV (rest := []) (wn := fun u => [mO b ζ vv, (b 4, .inl (G.2.1, 7, .inl tl)), (b 1, .inl (G.2.1, 46, .inl (nF (un σ (pl k0 2) g)))), (b 3, .inl (G.2.1, 46, .inl (nF σ)))]) ⟨hx, hb, hml, hown, hts⟩ (c_X6_puts l G H.size b ζ vv σ k0 2 g (by omega) (by omega)) (cwV 3 hts gX6_reason_X6_puts rfl rfl rfl (by decide +kernel) ⟨Nat.le_of_ble_eq_true rfl, Nat.le_of_ble_eq_true rfl⟩) noXB (fun _ _ _ => trivial) hK hP hD hS hAq 5 0 (T := TX6) (N := 18) rfl rfl rfl hl.1 rfl (Nat.le_of_ble_eq_true rfl) dX6_reason_50 ⟨Nat.le_of_ble_eq_true rfl, Nat.le_of_ble_eq_true rfl⟩ [0, 2] rfl rfl [b 0, b 1] rfl (fun _ => rfl) (fun _ => rfl) (fun u H locs hok hP hD hS => ?_)
          refine lv_aload_n hx hb dX6_reason_53 rfl (lv_at hl 1 rfl) ?_
          refine lv_iconst (v := nI 3) hx hb dX6_reason_54 rfl ?_
          refine lv_iload_n hx hb dX6_reason_55 rfl (lv_at hl 3 rfl) ?_
          refine callVI (rest := []) (wn := fun u => [mO b ζ vv, (b 4, .inl (G.2.1, 7, .inl tl)), (b 1, .inl (G.2.1, 46, .inl (nF σ))), (b 3, .inl (G.2.1, 46, .inl (nF σ)))]) ⟨hx, hb, hml, hown, hts⟩ (c_X6_thenAt l G H.size b ζ vv σ (un σ (pl k0 2) g) 3 n1 hIu (by omega) (by omega)) (cwV 2 hts gX6_reason_X6_thenAt rfl rfl rfl (by decide +kernel) ⟨Nat.le_of_ble_eq_true rfl, Nat.le_of_ble_eq_true rfl⟩) noXB (fun _ _ _ => trivial) hK hP hD hS hAq 5 0 (T := TX6) (N := 18) rfl rfl rfl hl.1 rfl (Nat.le_of_ble_eq_true rfl) dX6_reason_56 ⟨Nat.le_of_ble_eq_true rfl, Nat.le_of_ble_eq_true rfl⟩ [0, 2, 3] rfl rfl [b 0, b 1, b 3] rfl (fun _ => rfl) (fun _ => rfl) (fun u H locs hok hP hD hS => ?_)
          refine lv_iload_n hx hb dX6_reason_59 rfl (lv_at hl 4 rfl) ?_
          refine n_icmp_lt hx hb (by omega) (by omega) (tgt := 66) dX6_reason_60 (by decide) (fun c_5 => ?_) (fun c_5 => ?_)
          · refine n_iinc (lv' := [(4, .int (nI (g + 1))), (0, .ref (b 0)), (1, .int (nI k0)), (2, .int (nI n1)), (3, .int (nI v2))]) hx hb dX6_reason_66 hl (k := 0) rfl (by decide) rfl (fun ls hl => ?_)
            refine lv_goto (tgt := 38) hx hb dX6_reason_69 (by decide) ?_
            exact ih (g + 1) _ _ _ (by omega) ⟨by omega, NoQ_S hno (decide_eq_false (by omega))⟩ hP hD hS (lv_sub hl [0, 1, 2, 3, 4] rfl)
          · refine lv_iload hx hb dX6_reason_63 (lv_at hl 0 rfl) ?_
            have hf : fstN (reQ σ k0 n1 v2) 100 = g := fst_of hno (decide_eq_true (by omega)) (by omega)
            have he : reason_e σ (nI k0).toInt (nI n1).toInt (nI v2).toInt = 7 := by unfold reason_e; (try simp only [hT0, hT1, hT2, Int.toNat_natCast]); rw [if_pos (by omega), hf]; first | rw [if_pos (by omega)] | rw [if_neg (by omega)]
            exact fin_i hx hb hr hlk hS hP hD (nF σ) trivial (by rw [he]; (try simp only [hT0, hT1, hT2, Int.toNat_natCast]); rw [hf]; rfl) (by rw [he]; (try simp only [hT0, hT1, hT2, Int.toNat_natCast]); exact eqW.rf _) dX6_reason_65
      · refine lv_aload_n hx hb dX6_reason_25 rfl (lv_at hl 0 rfl) ?_
        refine lv_iconst (v := nI 0) hx hb dX6_reason_26 rfl ?_
        refine callVI (rest := []) (wn := fun u => [mO b ζ vv, (b 4, .inl (G.2.1, 7, .inl (tk tl 0))), (b 1, .inl (G.2.1, 46, .inl (nF σ))), (b 3, .inl (G.2.1, 46, .inl F))]) ⟨hx, hb, hml, hown, hts⟩ (c_X6_no l G H.size b ζ vv tl 0 (by omega)) (cwV 1 hts gX6_reason_X6_no rfl rfl rfl (by decide +kernel) ⟨Nat.le_of_ble_eq_true rfl, Nat.le_of_ble_eq_true rfl⟩) noXB (fun _ _ _ => trivial) hK hP hD hS hAq 5 0 (T := TX6) (N := 18) rfl rfl rfl hl.1 rfl (Nat.le_of_ble_eq_true rfl) dX6_reason_27 ⟨Nat.le_of_ble_eq_true rfl, Nat.le_of_ble_eq_true rfl⟩ [0, 1] rfl rfl [b 0, b 4] rfl (fun _ => rfl) (fun _ => rfl) (fun u H locs hok hP hD hS => ?_)
        have he : reason_e σ (nI k0).toInt (nI n1).toInt a2.toInt = 0 := by unfold reason_e; (try simp only [hT0, hT1, Int.toNat_natCast]); (repeat' split) <;> omega
        exact fin_i hx hb hr hlk hS hP hD (F) trivial (by rw [he]; first | done | ((try simp only [hT0, hT1, Int.toNat_natCast]); first | done | rfl)) (by rw [he]; (try simp only [hT0, hT1, Int.toNat_natCast]); exact eqW.rf _) dX6_reason_30
set_option maxHeartbeats 400000 in
set_option maxRecDepth 100000 in
theorem c_X5_enough (l : Launch) (G : GT) (sz : Nat) (x hm kp tr : Nat → Nat) (hi : Nat) (tl : Nat → Int32) (σ τ : Sg) (a0 : Int32) (hI : Inv σ) (hd0 : σ 0 ≤ 9999) : MI (S := Sg) l G noX yX5_enough wsX5_enough ({ frames := 5, cells := 0, slots := 0, locals := 113 } : Room) [.ref (x 0), .int a0] (([xO x hm kp tr hi, (x 7, .inl (G.2.1, 7, .inl tl))] ++ (wH G hm σ ++ (wH G tr τ)))) sz (fun _ => True) (fun u => rs (enough_e σ a0.toInt) (nI (fstN (enQ σ a0.toInt.toNat) 100))) (fun u => ([xO x hm kp tr hi, (x 7, .inl (G.2.1, 7, .inl (ts tl (enough_e σ a0.toInt))))] ++ (wH G hm σ ++ (wH G tr u)))) := by
  refine MI_enter (cc := cX5_enough) (maxL := 3) (ret := (some .int)) (by decide) rfl (Nat.le_of_ble_eq_true rfl) ?_
  intro p e s m below meth c A ls H hx hb hr hlk hml hown hts hAq hS hP hK hD hX hl hnm
  have hown : s.vm.findClass RX5 = some m.cls := hown
  have hl : lv_has ls 3 [(0, .ref (x 0)), (1, .int a0)] := hl
  obtain ⟨⟨i1, i2, i3, i4, i5⟩, ip⟩ := id hI
  refine lv_iload_n hx hb dX5_enough_0 rfl (lv_at hl 1 rfl) ?_
  refine lv_iconst (v := nI 1) hx hb dX5_enough_1 rfl ?_
  refine lv_bipush (v := nI 60) hx hb dX5_enough_2 rfl ?_
  refine callSI (rest := []) (wn := fun u => ([xO x hm kp tr hi, (x 7, .inl (G.2.1, 7, .inl tl))] ++ (wH G hm σ ++ (wH G tr τ)))) ⟨hx, hb, hml, hown, hts⟩ (c_X5_isWithin l G H.size a0 (nI 1) (nI 60)) (va_cwS 3 hts gX5_enough_X5_isWithin rfl rfl rfl (by decide +kernel) ⟨Nat.le_of_ble_eq_true rfl, Nat.le_of_ble_eq_true rfl⟩) noXB (fun _ _ _ => trivial) hK hP hD hS hAq rfl hl.1 rfl (Nat.le_of_ble_eq_true rfl) dX5_enough_4 ⟨Nat.le_of_ble_eq_true rfl, Nat.le_of_ble_eq_true rfl⟩ [] rfl rfl [] rfl (fun _ => rfl) (fun _ => rfl) (fun u H locs hok hP hD hS => ?_)
  refine n_top (y := zI ((1 : Int) ≤ a0.toInt ∧ a0.toInt ≤ 60)) (zI_c (by rw [nI_T (show 1 < 2147483648 by decide), nI_T (show 60 < 2147483648 by decide)]; exact Iff.rfl)) ?_
  refine z_if_ne hx hb (tgt := 16) dX5_enough_7 (by decide) (fun c_1 => ?_) (fun c_1 => ?_)
  · obtain ⟨n0, hn0, rfl⟩ := nI_of_rg (n := 60) (x := a0) ⟨by omega, by omega⟩
    have hT0 := nI_T (a := n0) (by omega)
    refine lv_iconst (v := nI 0) hx hb dX5_enough_16 rfl ?_
    refine lv_istore_n (lv' := [(2, .int (nI 0)), (0, .ref (x 0)), (1, .int (nI n0))]) hx hb dX5_enough_17 rfl hl (by decide) rfl (fun ls hl => ?_)
    refine W_loop2 (I := fun (g : Nat) (τ1 : Sg) => g ≤ 100 ∧ NoQ (enQ σ n0) g) (wd := fun (g : Nat) (τ1 : Sg) => ([xO x hm kp tr hi, (x 7, .inl (G.2.1, 7, .inl tl))] ++ (wH G hm σ ++ (wH G tr τ1)))) (lv := fun (g : Nat) (τ1 : Sg) => [(2, .int (nI g)), (0, .ref (x 0)), (1, .int (nI n0))]) (μ := fun (g : Nat) (τ1 : Sg) => 100 - g) ?_ 0 τ ⟨by omega, NoQ_0⟩ hP hD hS (lv_sub hl [0, 1, 2] rfl)
    intro g τ1 H locs ls hI0 hP hD hS hl ih
    obtain ⟨hk, hno⟩ := hI0
    refine lv_iload_n hx hb dX5_enough_18 rfl (lv_at hl 0 rfl) ?_
    refine lv_bipush (v := nI 99) hx hb dX5_enough_19 rfl ?_
    refine n_icmp_gt hx hb (by omega) (by omega) (tgt := 59) dX5_enough_21 (by decide) (fun c_2 => ?_) (fun c_2 => ?_)
    · have hk5 : g = 100 := by omega
      subst hk5
      refine lv_aload_n hx hb dX5_enough_59 rfl (lv_at hl 1 rfl) ?_
      refine lv_iconst (v := nI 3) hx hb dX5_enough_60 rfl ?_
      refine callVI (rest := []) (wn := fun u => ([xO x hm kp tr hi, (x 7, .inl (G.2.1, 7, .inl (tk tl 3)))] ++ (wH G hm σ ++ (wH G tr τ1)))) ⟨hx, hb, hml, hown, hts⟩ (c_X5_tell l G H.size x hm kp tr hi tl 3 (by omega)) (cwV 1 hts gX5_enough_X5_tell rfl rfl rfl (by decide +kernel) ⟨Nat.le_of_ble_eq_true rfl, Nat.le_of_ble_eq_true rfl⟩) noXB (fun _ _ _ => trivial) hK hP hD hS hAq 4 0 (T := TX5) (N := 7) rfl rfl rfl hl.1 rfl (Nat.le_of_ble_eq_true rfl) dX5_enough_61 ⟨Nat.le_of_ble_eq_true rfl, Nat.le_of_ble_eq_true rfl⟩ [0, 1] rfl rfl [x 0, x 7] rfl (fun _ => rfl) (fun _ => rfl) (fun u H locs hok hP hD hS => ?_)
      have hf : fstN (enQ σ n0) 100 = 100 := fst_none hno
      have he : enough_e σ (nI n0).toInt = 3 := by unfold enough_e; (try simp only [hT0, Int.toNat_natCast]); rw [if_pos (by omega), hf]; first | rw [if_pos (by omega)] | rw [if_neg (by omega)]
      exact fin_i hx hb hr hlk hS hP hD τ1 trivial (by rw [he]; first | done | ((try simp only [hT0, Int.toNat_natCast]); first | done | rfl)) (by rw [he]; (try simp only [hT0, Int.toNat_natCast]); exact eqW.rf _) dX5_enough_64
    · have hIu : Inv (un σ 2 g) := Inv.un2 hI (by omega)
      have hE0 : un σ 2 g 0 = σ 0 := un_n (by decide)
      have hE4 : un σ 2 g 4 = σ 4 := un_n (by decide)
      have hEm := days_4 hIu n0
      have hEc : daysN n0 (un σ 2 g) 4 ≤ 9999 := (days_Inv hIu n0).1.2.2.2.1
      refine lv_aload_n hx hb dX5_enough_24 rfl (lv_at hl 1 rfl) ?_
      refine n_get (C := RX5) (T := TX5) (N := 7) hx hb hts (fun _ h => List.mem_cons_of_mem _ (List.mem_append_left _ (List.mem_append_right _ h))) hown hK hP 0 rfl rfl 2 (by decide) (List.mem_of_getElem? (i := 1) rfl) rfl (.ref (tr 0)) rfl dX5_enough_25 ?_
      refine lv_aload_n hx hb dX5_enough_28 rfl (lv_at hl 1 rfl) ?_
      refine n_get (C := RX5) (T := TX5) (N := 7) hx hb hts (fun _ h => List.mem_cons_of_mem _ (List.mem_append_left _ (List.mem_append_right _ h))) hown hK hP 0 rfl rfl 0 (by decide) (List.mem_of_getElem? (i := 2) rfl) rfl (.ref (hm 0)) rfl dX5_enough_29 ?_
      refine callVV (rest := []) (wn := fun u => ([xO x hm kp tr hi, (x 7, .inl (G.2.1, 7, .inl tl))] ++ (wH G hm σ ++ (wH G tr σ)))) ⟨hx, hb, hml, hown, hts⟩ (c_X0_become l G H.size tr τ1 hm σ) (cwV 1 hts gX5_enough_X0_become rfl rfl rfl (by decide +kernel) ⟨Nat.le_of_ble_eq_true rfl, Nat.le_of_ble_eq_true rfl⟩) noXB (fun _ _ _ => trivial) hK hP hD hS hAq 0 0 (T := TX0) (N := 11) rfl rfl rfl hl.1 rfl (Nat.le_of_ble_eq_true rfl) dX5_enough_32 ⟨Nat.le_of_ble_eq_true rfl, Nat.le_of_ble_eq_true rfl⟩ [8, 9, 10, 11, 12, 13, 2, 3, 4, 5, 6, 7] rfl rfl [tr 0, tr 1, tr 2, tr 3, tr 4, tr 5, hm 0, hm 1, hm 2, hm 3, hm 4, hm 5] rfl (fun _ => rfl) (fun _ => rfl) (fun u H locs hok hP hD hS => ?_)
      refine lv_aload_n hx hb dX5_enough_35 rfl (lv_at hl 1 rfl) ?_
      refine n_get (C := RX5) (T := TX5) (N := 7) hx hb hts (fun _ h => List.mem_cons_of_mem _ (List.mem_append_left _ (List.mem_append_right _ h))) hown hK hP 0 rfl rfl 2 (by decide) (List.mem_of_getElem? (i := 1) rfl) rfl (.ref (tr 0)) rfl dX5_enough_36 ?_
      refine lv_iload_n hx hb dX5_enough_39 rfl (lv_at hl 0 rfl) ?_
      refine n_put (C := RX0) (T := TX0) (N := 11) hx hb hts (fun _ h => List.mem_cons_of_mem _ (List.mem_append_right _ h)) tyX0 tyX0_ok nmX0 hown hK hP hD hS 8 rfl rfl 2 (by decide) (List.mem_of_getElem? (i := 3) rfl) rfl rfl (ty := .int) (v := .int (nI g)) rfl rfl rfl (Nat.le_of_ble_eq_true rfl) (wn := ([xO x hm kp tr hi, (x 7, .inl (G.2.1, 7, .inl tl))] ++ (wH G hm σ ++ (wH G tr (un σ 2 g))))) (congrArg (fun hole_w : va_W => ([xO x hm kp tr hi, (x 7, .inl (G.2.1, 7, .inl tl))] ++ (wH G hm σ ++ (hole_w)))) (wH_f2 G tr σ g)) dX5_enough_40 (fun H locs hP hD hS => ?_)
      refine lv_aload_n hx hb dX5_enough_43 rfl (lv_at hl 1 rfl) ?_
      refine lv_iload_n hx hb dX5_enough_44 rfl (lv_at hl 2 rfl) ?_
      refine callVI (rest := []) (wn := fun u => ([xO x hm kp tr hi, (x 7, .inl (G.2.1, 7, .inl tl))] ++ (wH G hm σ ++ (wH G tr u)))) ⟨hx, hb, hml, hown, hts⟩ (c_X5_isTrialFed l G H.size x hm kp tr hi σ (un σ 2 g) n0 hI hIu (by omega) (by omega)) (cwV 1 hts gX5_enough_X5_isTrialFed rfl rfl rfl (by decide +kernel) ⟨Nat.le_of_ble_eq_true rfl, Nat.le_of_ble_eq_true rfl⟩) noXB (fun _ _ _ => trivial) hK hP hD hS hAq 4 0 (T := TX5) (N := 7) rfl rfl rfl hl.1 rfl (Nat.le_of_ble_eq_true rfl) dX5_enough_45 ⟨Nat.le_of_ble_eq_true rfl, Nat.le_of_ble_eq_true rfl⟩ [0, 2, 3, 4, 5, 6, 7, 8, 9, 10, 11, 12, 13] rfl rfl [x 0, hm 0, hm 1, hm 2, hm 3, hm 4, hm 5, tr 0, tr 1, tr 2, tr 3, tr 4, tr 5] rfl (fun _ => rfl) (fun _ => rfl) (fun u H locs hok hP hD hS => ?_)
      refine z_if_eq hx hb (tgt := 53) dX5_enough_48 (by decide) (fun c_3 => ?_) (fun c_3 => ?_)
      · refine n_iinc (lv' := [(2, .int (nI (g + 1))), (0, .ref (x 0)), (1, .int (nI n0))]) hx hb dX5_enough_53 hl (k := 0) rfl (by decide) rfl (fun ls hl => ?_)
        refine lv_goto (tgt := 18) hx hb dX5_enough_56 (by decide) ?_
        exact ih (g + 1) u _ _ _ (by omega) ⟨by omega, NoQ_S hno (decide_eq_false (by omega))⟩ hP hD hS (lv_sub hl [0, 1, 2] rfl)
      · refine lv_iload_n hx hb dX5_enough_51 rfl (lv_at hl 0 rfl) ?_
        have hf : fstN (enQ σ n0) 100 = g := fst_of hno (decide_eq_true (by omega)) (by omega)
        have he : enough_e σ (nI n0).toInt = 7 := by unfold enough_e; (try simp only [hT0, Int.toNat_natCast]); rw [if_pos (by omega), hf]; first | rw [if_pos (by omega)] | rw [if_neg (by omega)]
        exact fin_i hx hb hr hlk hS hP hD u trivial (by rw [he]; (try simp only [hT0, Int.toNat_natCast]); rw [hf]; rfl) (by rw [he]; (try simp only [hT0, Int.toNat_natCast]); exact eqW.rf _) dX5_enough_52
  · refine lv_aload_n hx hb dX5_enough_10 rfl (lv_at hl 0 rfl) ?_
    refine lv_iconst (v := nI 0) hx hb dX5_enough_11 rfl ?_
    refine callVI (rest := []) (wn := fun u => ([xO x hm kp tr hi, (x 7, .inl (G.2.1, 7, .inl (tk tl 0)))] ++ (wH G hm σ ++ (wH G tr τ)))) ⟨hx, hb, hml, hown, hts⟩ (c_X5_tell l G H.size x hm kp tr hi tl 0 (by omega)) (cwV 1 hts gX5_enough_X5_tell rfl rfl rfl (by decide +kernel) ⟨Nat.le_of_ble_eq_true rfl, Nat.le_of_ble_eq_true rfl⟩) noXB (fun _ _ _ => trivial) hK hP hD hS hAq 4 0 (T := TX5) (N := 7) rfl rfl rfl hl.1 rfl (Nat.le_of_ble_eq_true rfl) dX5_enough_12 ⟨Nat.le_of_ble_eq_true rfl, Nat.le_of_ble_eq_true rfl⟩ [0, 1] rfl rfl [x 0, x 7] rfl (fun _ => rfl) (fun _ => rfl) (fun u H locs hok hP hD hS => ?_)
    have he : enough_e σ a0.toInt = 0 := by unfold enough_e; (try simp only [Int.toNat_natCast]); (repeat' split) <;> omega
    exact fin_i hx hb hr hlk hS hP hD τ trivial (by rw [he]; first | done | ((try simp only [Int.toNat_natCast]); first | done | rfl)) (by rw [he]; (try simp only [Int.toNat_natCast]); exact eqW.rf _) dX5_enough_15
set_option maxHeartbeats 400000 in
set_option maxRecDepth 100000 in
theorem c_X6_enough (l : Launch) (G : GT) (sz : Nat) (b : Nat → Nat) (ζ : Nat → Nat) (vv : Int64) (tl : Nat → Int32) (σ : Sg) (F : Nat → Int32) (a0 : Int32) (hI : Inv σ) (hd0 : σ 0 ≤ 9999) : MI (S := Nat → Int32) l G noX yX6_enough wsX6_enough ({ frames := 8, cells := 0, slots := 0, locals := 181 } : Room) [.ref (b 0), .int a0] ([mO b ζ vv, (b 4, .inl (G.2.1, 7, .inl tl)), (b 1, .inl (G.2.1, 46, .inl (nF σ))), (b 3, .inl (G.2.1, 46, .inl F))]) sz (fun _ => True) (fun u => rs (enough_e σ a0.toInt) (nI (fstN (enQ σ a0.toInt.toNat) 100))) (fun u => [mO b ζ vv, (b 4, .inl (G.2.1, 7, .inl (ts tl (enough_e σ a0.toInt)))), (b 1, .inl (G.2.1, 46, .inl (nF σ))), (b 3, .inl (G.2.1, 46, .inl u))]) := by
  refine MI_enter (cc := cX6_enough) (maxL := 3) (ret := (some .int)) (by decide) rfl (Nat.le_of_ble_eq_true rfl) ?_
  intro p e s m below meth c A ls H hx hb hr hlk hml hown hts hAq hS hP hK hD hX hl hnm
  have hown : s.vm.findClass RX6 = some m.cls := hown
  have hl : lv_has ls 3 [(0, .ref (b 0)), (1, .int a0)] := hl
  obtain ⟨⟨i1, i2, i3, i4, i5⟩, ip⟩ := id hI
  refine lv_iload_n hx hb dX6_enough_0 rfl (lv_at hl 1 rfl) ?_
  refine callSI (rest := []) (wn := fun u => [mO b ζ vv, (b 4, .inl (G.2.1, 7, .inl tl)), (b 1, .inl (G.2.1, 46, .inl (nF σ))), (b 3, .inl (G.2.1, 46, .inl F))]) ⟨hx, hb, hml, hown, hts⟩ (c_X6_isSoon l G H.size a0) (va_cwS 1 hts gX6_enough_X6_isSoon rfl rfl rfl (by decide +kernel) ⟨Nat.le_of_ble_eq_true rfl, Nat.le_of_ble_eq_true rfl⟩) noXB (fun _ _ _ => trivial) hK hP hD hS hAq rfl hl.1 rfl (Nat.le_of_ble_eq_true rfl) dX6_enough_1 ⟨Nat.le_of_ble_eq_true rfl, Nat.le_of_ble_eq_true rfl⟩ [] rfl rfl [] rfl (fun _ => rfl) (fun _ => rfl) (fun u H locs hok hP hD hS => ?_)
  refine z_if_ne hx hb (tgt := 13) dX6_enough_4 (by decide) (fun c_1 => ?_) (fun c_1 => ?_)
  · obtain ⟨n0, hn0, rfl⟩ := nI_of_rg (n := 60) (x := a0) ⟨by omega, by omega⟩
    have hT0 := nI_T (a := n0) (by omega)
    refine lv_aload_n hx hb dX6_enough_13 rfl (lv_at hl 0 rfl) ?_
    refine callVV (rest := []) (wn := fun u => [mO b ζ vv, (b 4, .inl (G.2.1, 7, .inl tl)), (b 1, .inl (G.2.1, 46, .inl (nF σ))), (b 3, .inl (G.2.1, 46, .inl (nF σ)))]) ⟨hx, hb, hml, hown, hts⟩ (c_X6_setsAside l G H.size b ζ vv σ F) (cwV 0 hts gX6_enough_X6_setsAside rfl rfl rfl (by decide +kernel) ⟨Nat.le_of_ble_eq_true rfl, Nat.le_of_ble_eq_true rfl⟩) noXB (fun _ _ _ => trivial) hK hP hD hS hAq 5 0 (T := TX6) (N := 18) rfl rfl rfl hl.1 rfl (Nat.le_of_ble_eq_true rfl) dX6_enough_14 ⟨Nat.le_of_ble_eq_true rfl, Nat.le_of_ble_eq_true rfl⟩ [0, 2, 3] rfl rfl [b 0, b 1, b 3] rfl (fun _ => rfl) (fun _ => rfl) (fun u H locs hok hP hD hS => ?_)
    refine lv_iconst (v := nI 0) hx hb dX6_enough_17 rfl ?_
    refine lv_istore_n (lv' := [(2, .int (nI 0)), (0, .ref (b 0)), (1, .int (nI n0))]) hx hb dX6_enough_18 rfl hl (by decide) rfl (fun ls hl => ?_)
    refine W_loop1 (I := fun (g : Nat) => g ≤ 100 ∧ NoQ (enQ σ n0) g) (wd := fun (g : Nat) => [mO b ζ vv, (b 4, .inl (G.2.1, 7, .inl tl)), (b 1, .inl (G.2.1, 46, .inl (nF σ))), (b 3, .inl (G.2.1, 46, .inl (nF σ)))]) (lv := fun (g : Nat) => [(2, .int (nI g)), (0, .ref (b 0)), (1, .int (nI n0))]) (μ := fun (g : Nat) => 100 - g) ?_ 0 ⟨by omega, NoQ_0⟩ hP hD hS (lv_sub hl [0, 1, 2] rfl)
    intro g H locs ls hI0 hP hD hS hl ih
    obtain ⟨hk, hno⟩ := hI0
    refine lv_iload_n hx hb dX6_enough_19 rfl (lv_at hl 0 rfl) ?_
    refine lv_bipush (v := nI 99) hx hb dX6_enough_20 rfl ?_
    refine n_icmp_gt hx hb (by omega) (by omega) (tgt := 55) dX6_enough_22 (by decide) (fun c_2 => ?_) (fun c_2 => ?_)
    · have hk5 : g = 100 := by omega
      subst hk5
      refine lv_aload_n hx hb dX6_enough_55 rfl (lv_at hl 1 rfl) ?_
      refine lv_iconst (v := nI 3) hx hb dX6_enough_56 rfl ?_
      refine callVI (rest := []) (wn := fun u => [mO b ζ vv, (b 4, .inl (G.2.1, 7, .inl (tk tl 3))), (b 1, .inl (G.2.1, 46, .inl (nF σ))), (b 3, .inl (G.2.1, 46, .inl (nF σ)))]) ⟨hx, hb, hml, hown, hts⟩ (c_X6_no l G H.size b ζ vv tl 3 (by omega)) (cwV 1 hts gX6_enough_X6_no rfl rfl rfl (by decide +kernel) ⟨Nat.le_of_ble_eq_true rfl, Nat.le_of_ble_eq_true rfl⟩) noXB (fun _ _ _ => trivial) hK hP hD hS hAq 5 0 (T := TX6) (N := 18) rfl rfl rfl hl.1 rfl (Nat.le_of_ble_eq_true rfl) dX6_enough_57 ⟨Nat.le_of_ble_eq_true rfl, Nat.le_of_ble_eq_true rfl⟩ [0, 1] rfl rfl [b 0, b 4] rfl (fun _ => rfl) (fun _ => rfl) (fun u H locs hok hP hD hS => ?_)
      have hf : fstN (enQ σ n0) 100 = 100 := fst_none hno
      have he : enough_e σ (nI n0).toInt = 3 := by unfold enough_e; (try simp only [hT0, Int.toNat_natCast]); rw [if_pos (by omega), hf]; first | rw [if_pos (by omega)] | rw [if_neg (by omega)]
      exact fin_i hx hb hr hlk hS hP hD (nF σ) trivial (by rw [he]; first | done | ((try simp only [hT0, Int.toNat_natCast]); first | done | rfl)) (by rw [he]; (try simp only [hT0, Int.toNat_natCast]); exact eqW.rf _) dX6_enough_60
    · have hIu : Inv (un σ 2 g) := Inv.un2 hI (by omega)
      have hE0 : un σ 2 g 0 = σ 0 := un_n (by decide)
      have hE4 : un σ 2 g 4 = σ 4 := un_n (by decide)
      have hEm := days_4 hIu n0
      have hEc : daysN n0 (un σ 2 g) 4 ≤ 9999 := (days_Inv hIu n0).1.2.2.2.1
      refine lv_aload_n hx hb dX6_enough_25 rfl (lv_at hl 1 rfl) ?_
      refine n_get (C := RX6) (T := TX6) (N := 18) hx hb hts (fun _ h => List.mem_cons_of_mem _ (List.mem_append_right _ h)) hown hK hP 0 rfl rfl 0 (by decide) (List.mem_of_getElem? (i := 1) rfl) rfl (.ref (b 1)) rfl dX6_enough_26 ?_
      refine lv_iconst (v := nI 2) hx hb dX6_enough_29 rfl ?_
      refine lv_iload_n hx hb dX6_enough_30 rfl (lv_at hl 0 rfl) ?_
      refine n_iast hx hb hK hP hD hS 2 (wn := [mO b ζ vv, (b 4, .inl (G.2.1, 7, .inl tl)), (b 1, .inl (G.2.1, 46, .inl (nF (un σ 2 g)))), (b 3, .inl (G.2.1, 46, .inl (nF σ)))]) rfl (by omega) (by omega) (by rw [nF_un]; rfl) dX6_enough_31 (fun H locs hP hD hS => ?_)
      refine lv_aload_n hx hb dX6_enough_32 rfl (lv_at hl 1 rfl) ?_
      refine lv_iconst (v := nI 4) hx hb dX6_enough_33 rfl ?_
      refine lv_iload_n hx hb dX6_enough_34 rfl (lv_at hl 2 rfl) ?_
      refine callVI (rest := []) (wn := fun u => [mO b ζ vv, (b 4, .inl (G.2.1, 7, .inl tl)), (b 1, .inl (G.2.1, 46, .inl (nF σ))), (b 3, .inl (G.2.1, 46, .inl (nF σ)))]) ⟨hx, hb, hml, hown, hts⟩ (c_X6_thenAt l G H.size b ζ vv σ (un σ 2 g) 4 n0 hIu (by omega) (by omega)) (cwV 2 hts gX6_enough_X6_thenAt rfl rfl rfl (by decide +kernel) ⟨Nat.le_of_ble_eq_true rfl, Nat.le_of_ble_eq_true rfl⟩) noXB (fun _ _ _ => trivial) hK hP hD hS hAq 5 0 (T := TX6) (N := 18) rfl rfl rfl hl.1 rfl (Nat.le_of_ble_eq_true rfl) dX6_enough_35 ⟨Nat.le_of_ble_eq_true rfl, Nat.le_of_ble_eq_true rfl⟩ [0, 2, 3] rfl rfl [b 0, b 1, b 3] rfl (fun _ => rfl) (fun _ => rfl) (fun u H locs hok hP hD hS => ?_)
      refine lv_aload_n hx hb dX6_enough_38 rfl (lv_at hl 1 rfl) ?_
      refine n_get (C := RX6) (T := TX6) (N := 18) hx hb hts (fun _ h => List.mem_cons_of_mem _ (List.mem_append_right _ h)) hown hK hP 0 rfl rfl 0 (by decide) (List.mem_of_getElem? (i := 1) rfl) rfl (.ref (b 1)) rfl dX6_enough_39 ?_
      refine lv_iconst (v := nI 4) hx hb dX6_enough_42 rfl ?_
      refine n_iald hx hb hK hP 2 (v := (nI (σ 4))) rfl (by omega) (by omega) rfl dX6_enough_43 ?_
      refine n_icmp_ne hx hb (by omega) (by omega) (tgt := 49) dX6_enough_44 (by decide) (fun c_3 => ?_) (fun c_3 => ?_)
      · refine n_iinc (lv' := [(2, .int (nI (g + 1))), (0, .ref (b 0)), (1, .int (nI n0))]) hx hb dX6_enough_49 hl (k := 0) rfl (by decide) rfl (fun ls hl => ?_)
        refine lv_goto (tgt := 19) hx hb dX6_enough_52 (by decide) ?_
        exact ih (g + 1) _ _ _ (by omega) ⟨by omega, NoQ_S hno (decide_eq_false (by omega))⟩ hP hD hS (lv_sub hl [0, 1, 2] rfl)
      · refine lv_iload_n hx hb dX6_enough_47 rfl (lv_at hl 0 rfl) ?_
        have hf : fstN (enQ σ n0) 100 = g := fst_of hno (decide_eq_true (by omega)) (by omega)
        have he : enough_e σ (nI n0).toInt = 7 := by unfold enough_e; (try simp only [hT0, Int.toNat_natCast]); rw [if_pos (by omega), hf]; first | rw [if_pos (by omega)] | rw [if_neg (by omega)]
        exact fin_i hx hb hr hlk hS hP hD (nF σ) trivial (by rw [he]; (try simp only [hT0, Int.toNat_natCast]); rw [hf]; rfl) (by rw [he]; (try simp only [hT0, Int.toNat_natCast]); exact eqW.rf _) dX6_enough_48
  · refine lv_aload_n hx hb dX6_enough_7 rfl (lv_at hl 0 rfl) ?_
    refine lv_iconst (v := nI 0) hx hb dX6_enough_8 rfl ?_
    refine callVI (rest := []) (wn := fun u => [mO b ζ vv, (b 4, .inl (G.2.1, 7, .inl (tk tl 0))), (b 1, .inl (G.2.1, 46, .inl (nF σ))), (b 3, .inl (G.2.1, 46, .inl F))]) ⟨hx, hb, hml, hown, hts⟩ (c_X6_no l G H.size b ζ vv tl 0 (by omega)) (cwV 1 hts gX6_enough_X6_no rfl rfl rfl (by decide +kernel) ⟨Nat.le_of_ble_eq_true rfl, Nat.le_of_ble_eq_true rfl⟩) noXB (fun _ _ _ => trivial) hK hP hD hS hAq 5 0 (T := TX6) (N := 18) rfl rfl rfl hl.1 rfl (Nat.le_of_ble_eq_true rfl) dX6_enough_9 ⟨Nat.le_of_ble_eq_true rfl, Nat.le_of_ble_eq_true rfl⟩ [0, 1] rfl rfl [b 0, b 4] rfl (fun _ => rfl) (fun _ => rfl) (fun u H locs hok hP hD hS => ?_)
    have he : enough_e σ a0.toInt = 0 := by unfold enough_e; (try simp only [Int.toNat_natCast]); (repeat' split) <;> omega
    exact fin_i hx hb hr hlk hS hP hD (F) trivial (by rw [he]; first | done | ((try simp only [Int.toNat_natCast]); first | done | rfl)) (by rw [he]; (try simp only [Int.toNat_natCast]); exact eqW.rf _) dX6_enough_12
set_option maxHeartbeats 400000 in
set_option maxRecDepth 100000 in
theorem c_X5_needs (l : Launch) (G : GT) (sz : Nat) (x hm kp tr : Nat → Nat) (hi : Nat) (tl : Nat → Int32) (σ τ : Sg) (a0 a1 : Int32) (hI : Inv σ) (hd0 : σ 0 ≤ 9999) : MI (S := Sg) l G noX yX5_needs wsX5_needs ({ frames := 5, cells := 0, slots := 0, locals := 113 } : Room) [.ref (x 0), .int a0, .int a1] (([xO x hm kp tr hi, (x 7, .inl (G.2.1, 7, .inl tl))] ++ (wH G hm σ ++ (wH G tr τ)))) sz (fun _ => True) (fun u => rs (needs_e σ a0.toInt a1.toInt) (nI (20 - fstN (neQ σ a0.toInt.toNat a1.toInt.toNat) 21))) (fun u => ([xO x hm kp tr hi, (x 7, .inl (G.2.1, 7, .inl (ts tl (needs_e σ a0.toInt a1.toInt))))] ++ (wH G hm σ ++ (wH G tr u)))) := by
  refine MI_enter (cc := cX5_needs) (maxL := 4) (ret := (some .int)) (by decide) rfl (Nat.le_of_ble_eq_true rfl) ?_
  intro p e s m below meth c A ls H hx hb hr hlk hml hown hts hAq hS hP hK hD hX hl hnm
  have hown : s.vm.findClass RX5 = some m.cls := hown
  have hl : lv_has ls 4 [(0, .ref (x 0)), (1, .int a0), (2, .int a1)] := hl
  obtain ⟨⟨i1, i2, i3, i4, i5⟩, ip⟩ := id hI
  refine lv_aload_n hx hb dX5_needs_0 rfl (lv_at hl 0 rfl) ?_
  refine n_get (C := RX5) (T := TX5) (N := 7) hx hb hts (fun _ h => List.mem_cons_of_mem _ (List.mem_append_left _ (List.mem_append_right _ h))) hown hK hP 0 rfl rfl 0 (by decide) (List.mem_of_getElem? (i := 1) rfl) rfl (.ref (hm 0)) rfl dX5_needs_1 ?_
  refine lv_iload_n hx hb dX5_needs_4 rfl (lv_at hl 1 rfl) ?_
  refine callVI (rest := []) (wn := fun u => ([xO x hm kp tr hi, (x 7, .inl (G.2.1, 7, .inl tl))] ++ (wH G hm σ ++ (wH G tr τ)))) ⟨hx, hb, hml, hown, hts⟩ (c_X0_hasOne l G H.size hm σ a0 (by omega)) (cwV 1 hts gX5_needs_X0_hasOne rfl rfl rfl (by decide +kernel) ⟨Nat.le_of_ble_eq_true rfl, Nat.le_of_ble_eq_true rfl⟩) noXB (fun _ _ _ => trivial) hK hP hD hS hAq 0 0 (T := TX0) (N := 11) rfl rfl rfl hl.1 rfl (Nat.le_of_ble_eq_true rfl) dX5_needs_5 ⟨Nat.le_of_ble_eq_true rfl, Nat.le_of_ble_eq_true rfl⟩ [2, 3, 4, 5, 6, 7] rfl rfl [hm 0, hm 1, hm 2, hm 3, hm 4, hm 5] rfl (fun _ => rfl) (fun _ => rfl) (fun u H locs hok hP hD hS => ?_)
  refine z_if_eq hx hb (tgt := 21) dX5_needs_8 (by decide) (fun c_1 => ?_) (fun c_1 => ?_)
  · refine lv_aload_n hx hb dX5_needs_21 rfl (lv_at hl 0 rfl) ?_
    refine lv_iconst (v := nI 0) hx hb dX5_needs_22 rfl ?_
    refine callVI (rest := []) (wn := fun u => ([xO x hm kp tr hi, (x 7, .inl (G.2.1, 7, .inl (tk tl 0)))] ++ (wH G hm σ ++ (wH G tr τ)))) ⟨hx, hb, hml, hown, hts⟩ (c_X5_tell l G H.size x hm kp tr hi tl 0 (by omega)) (cwV 1 hts gX5_needs_X5_tell rfl rfl rfl (by decide +kernel) ⟨Nat.le_of_ble_eq_true rfl, Nat.le_of_ble_eq_true rfl⟩) noXB (fun _ _ _ => trivial) hK hP hD hS hAq 4 0 (T := TX5) (N := 7) rfl rfl rfl hl.1 rfl (Nat.le_of_ble_eq_true rfl) dX5_needs_23 ⟨Nat.le_of_ble_eq_true rfl, Nat.le_of_ble_eq_true rfl⟩ [0, 1] rfl rfl [x 0, x 7] rfl (fun _ => rfl) (fun _ => rfl) (fun u H locs hok hP hD hS => ?_)
    have he : needs_e σ a0.toInt a1.toInt = 0 := by unfold needs_e; (try simp only [Int.toNat_natCast]); (repeat' split) <;> omega
    exact fin_i hx hb hr hlk hS hP hD τ trivial (by rw [he]; first | done | ((try simp only [Int.toNat_natCast]); first | done | rfl)) (by rw [he]; (try simp only [Int.toNat_natCast]); exact eqW.rf _) dX5_needs_26
  · obtain ⟨k0, hk0, rfl⟩ := nI_of_rg (n := 7) (x := a0) ⟨by omega, by omega⟩
    have hT0 := nI_T (a := k0) (by omega)
    have hp0 : k0 < σ 5 := by omega
    obtain ⟨q00, q01, q02, q03, q04⟩ := ip k0 (by omega)
    refine lv_iload_n hx hb dX5_needs_11 rfl (lv_at hl 2 rfl) ?_
    refine lv_iconst (v := nI 1) hx hb dX5_needs_12 rfl ?_
    refine lv_bipush (v := nI 60) hx hb dX5_needs_13 rfl ?_
    refine callSI (rest := []) (wn := fun u => ([xO x hm kp tr hi, (x 7, .inl (G.2.1, 7, .inl tl))] ++ (wH G hm σ ++ (wH G tr τ)))) ⟨hx, hb, hml, hown, hts⟩ (c_X5_isWithin l G H.size a1 (nI 1) (nI 60)) (va_cwS 3 hts gX5_needs_X5_isWithin rfl rfl rfl (by decide +kernel) ⟨Nat.le_of_ble_eq_true rfl, Nat.le_of_ble_eq_true rfl⟩) noXB (fun _ _ _ => trivial) hK hP hD hS hAq rfl hl.1 rfl (Nat.le_of_ble_eq_true rfl) dX5_needs_15 ⟨Nat.le_of_ble_eq_true rfl, Nat.le_of_ble_eq_true rfl⟩ [] rfl rfl [] rfl (fun _ => rfl) (fun _ => rfl) (fun u H locs hok hP hD hS => ?_)
    refine n_top (y := zI ((1 : Int) ≤ a1.toInt ∧ a1.toInt ≤ 60)) (zI_c (by rw [nI_T (show 1 < 2147483648 by decide), nI_T (show 60 < 2147483648 by decide)]; exact Iff.rfl)) ?_
    refine z_if_ne hx hb (tgt := 27) dX5_needs_18 (by decide) (fun c_2 => ?_) (fun c_2 => ?_)
    · obtain ⟨n1, hn1, rfl⟩ := nI_of_rg (n := 60) (x := a1) ⟨by omega, by omega⟩
      have hT1 := nI_T (a := n1) (by omega)
      refine lv_bipush (v := nI 20) hx hb dX5_needs_27 rfl ?_
      refine lv_istore_n (lv' := [(3, .int (nI 20)), (0, .ref (x 0)), (1, .int (nI k0)), (2, .int (nI n1))]) hx hb dX5_needs_29 rfl hl (by decide) rfl (fun ls hl => ?_)
      refine W_loop2 (I := fun (t : Nat) (τ1 : Sg) => t ≤ 21 ∧ NoQ (neQ σ k0 n1) t) (wd := fun (t : Nat) (τ1 : Sg) => ([xO x hm kp tr hi, (x 7, .inl (G.2.1, 7, .inl tl))] ++ (wH G hm σ ++ (wH G tr τ1)))) (lv := fun (t : Nat) (τ1 : Sg) => [(3, .int (iI (20 - ((t : Nat) : Int)))), (0, .ref (x 0)), (1, .int (nI k0)), (2, .int (nI n1))]) (μ := fun (t : Nat) (τ1 : Sg) => 21 - t) ?_ 0 τ ⟨by omega, NoQ_0⟩ hP hD hS (lv_sub hl [0, 1, 2, 3] rfl)
      intro t τ1 H locs ls hI0 hP hD hS hl ih
      obtain ⟨hk, hno⟩ := hI0
      have hT9 : (iI (20 - ((t : Nat) : Int))).toInt = 20 - ((t : Nat) : Int) := iI_T (by omega) (by omega)
      refine lv_iload_n hx hb dX5_needs_30 rfl (lv_at hl 0 rfl) ?_
      refine r_if_lt hx hb (tgt := 88) dX5_needs_31 (by decide) (fun c_3 => ?_) (fun c_3 => ?_)
      · have hk5 : t = 21 := by omega
        subst hk5
        refine lv_aload_n hx hb dX5_needs_88 rfl (lv_at hl 1 rfl) ?_
        refine lv_iconst (v := nI 3) hx hb dX5_needs_89 rfl ?_
        refine callVI (rest := []) (wn := fun u => ([xO x hm kp tr hi, (x 7, .inl (G.2.1, 7, .inl (tk tl 3)))] ++ (wH G hm σ ++ (wH G tr τ1)))) ⟨hx, hb, hml, hown, hts⟩ (c_X5_tell l G H.size x hm kp tr hi tl 3 (by omega)) (cwV 1 hts gX5_needs_X5_tell rfl rfl rfl (by decide +kernel) ⟨Nat.le_of_ble_eq_true rfl, Nat.le_of_ble_eq_true rfl⟩) noXB (fun _ _ _ => trivial) hK hP hD hS hAq 4 0 (T := TX5) (N := 7) rfl rfl rfl hl.1 rfl (Nat.le_of_ble_eq_true rfl) dX5_needs_90 ⟨Nat.le_of_ble_eq_true rfl, Nat.le_of_ble_eq_true rfl⟩ [0, 1] rfl rfl [x 0, x 7] rfl (fun _ => rfl) (fun _ => rfl) (fun u H locs hok hP hD hS => ?_)
        have hf : fstN (neQ σ k0 n1) 21 = 21 := fst_none hno
        have he : needs_e σ (nI k0).toInt (nI n1).toInt = 3 := by unfold needs_e; (try simp only [hT0, hT1, Int.toNat_natCast]); rw [if_pos (by omega), hf]; first | rw [if_pos (by omega)] | rw [if_neg (by omega)]
        exact fin_i hx hb hr hlk hS hP hD τ1 trivial (by rw [he]; first | done | ((try simp only [hT0, hT1, Int.toNat_natCast]); first | done | rfl)) (by rw [he]; (try simp only [hT0, hT1, Int.toNat_natCast]); exact eqW.rf _) dX5_needs_93
      · have ht20 : t ≤ 20 := by omega
        have hg : iI (20 - ((t : Nat) : Int)) = nI (20 - t) := by rw [iI_nat (by omega)]; congr 1; omega
        rw [hg] at hl
        have hIu : Inv (un σ (pl k0 1) (20 - t)) := Inv.unp hI (by decide) (by omega)
        have hE0 : un σ (pl k0 1) (20 - t) 0 = σ 0 := un_ps (by decide)
        have hEc : daysN n1 (un σ (pl k0 1) (20 - t)) 2 ≤ 99 := (days_Inv hIu n1).1.2.1
        refine lv_aload_n hx hb dX5_needs_34 rfl (lv_at hl 1 rfl) ?_
        refine n_get (C := RX5) (T := TX5) (N := 7) hx hb hts (fun _ h => List.mem_cons_of_mem _ (List.mem_append_left _ (List.mem_append_right _ h))) hown hK hP 0 rfl rfl 2 (by decide) (List.mem_of_getElem? (i := 2) rfl) rfl (.ref (tr 0)) rfl dX5_needs_35 ?_
        refine lv_aload_n hx hb dX5_needs_38 rfl (lv_at hl 1 rfl) ?_
        refine n_get (C := RX5) (T := TX5) (N := 7) hx hb hts (fun _ h => List.mem_cons_of_mem _ (List.mem_append_left _ (List.mem_append_right _ h))) hown hK hP 0 rfl rfl 0 (by decide) (List.mem_of_getElem? (i := 1) rfl) rfl (.ref (hm 0)) rfl dX5_needs_39 ?_
        refine callVV (rest := []) (wn := fun u => ([xO x hm kp tr hi, (x 7, .inl (G.2.1, 7, .inl tl))] ++ (wH G hm σ ++ (wH G tr σ)))) ⟨hx, hb, hml, hown, hts⟩ (c_X0_become l G H.size tr τ1 hm σ) (cwV 1 hts gX5_needs_X0_become rfl rfl rfl (by decide +kernel) ⟨Nat.le_of_ble_eq_true rfl, Nat.le_of_ble_eq_true rfl⟩) noXB (fun _ _ _ => trivial) hK hP hD hS hAq 0 0 (T := TX0) (N := 11) rfl rfl rfl hl.1 rfl (Nat.le_of_ble_eq_true rfl) dX5_needs_42 ⟨Nat.le_of_ble_eq_true rfl, Nat.le_of_ble_eq_true rfl⟩ [8, 9, 10, 11, 12, 13, 2, 3, 4, 5, 6, 7] rfl rfl [tr 0, tr 1, tr 2, tr 3, tr 4, tr 5, hm 0, hm 1, hm 2, hm 3, hm 4, hm 5] rfl (fun _ => rfl) (fun _ => rfl) (fun u H locs hok hP hD hS => ?_)
        refine lv_aload_n hx hb dX5_needs_45 rfl (lv_at hl 1 rfl) ?_
        refine n_get (C := RX5) (T := TX5) (N := 7) hx hb hts (fun _ h => List.mem_cons_of_mem _ (List.mem_append_left _ (List.mem_append_right _ h))) hown hK hP 0 rfl rfl 2 (by decide) (List.mem_of_getElem? (i := 2) rfl) rfl (.ref (tr 0)) rfl dX5_needs_46 ?_
        refine n_get (C := RX0) (T := TX0) (N := 11) hx hb hts (fun _ h => List.mem_cons_of_mem _ (List.mem_append_right _ h)) hown hK hP 8 rfl rfl 7 (by decide) (List.mem_of_getElem? (i := 3) rfl) rfl (.ref (tr 2)) rfl dX5_needs_49 ?_
        refine lv_iload_n hx hb dX5_needs_52 rfl (lv_at hl 2 rfl) ?_
        refine lv_iload_n hx hb dX5_needs_53 rfl (lv_at hl 0 rfl) ?_
        refine n_iast hx hb hK hP hD hS 10 (wn := ([xO x hm kp tr hi, (x 7, .inl (G.2.1, 7, .inl tl))] ++ (wH G hm σ ++ (wH G tr (un σ (pl k0 1) (20 - t)))))) rfl (by omega) (by omega) (congrArg (fun hole_w : va_W => ([xO x hm kp tr hi, (x 7, .inl (G.2.1, 7, .inl tl))] ++ (wH G hm σ ++ (hole_w)))) (wH_p1 G tr σ k0 (20 - t))) dX5_needs_54 (fun H locs hP hD hS => ?_)
        refine lv_aload_n hx hb dX5_needs_55 rfl (lv_at hl 1 rfl) ?_
        refine n_get (C := RX5) (T := TX5) (N := 7) hx hb hts (fun _ h => List.mem_cons_of_mem _ (List.mem_append_left _ (List.mem_append_right _ h))) hown hK hP 0 rfl rfl 2 (by decide) (List.mem_of_getElem? (i := 2) rfl) rfl (.ref (tr 0)) rfl dX5_needs_56 ?_
        refine lv_iload_n hx hb dX5_needs_59 rfl (lv_at hl 3 rfl) ?_
        refine callVV (rest := []) (wn := fun u => ([xO x hm kp tr hi, (x 7, .inl (G.2.1, 7, .inl tl))] ++ (wH G hm σ ++ (wH G tr (daysN n1 (un σ (pl k0 1) (20 - t))))))) ⟨hx, hb, hml, hown, hts⟩ (c_X0_goOn l G H.size tr (un σ (pl k0 1) (20 - t)) n1 hIu (by omega)) (cwV 1 hts gX5_needs_X0_goOn rfl rfl rfl (by decide +kernel) ⟨Nat.le_of_ble_eq_true rfl, Nat.le_of_ble_eq_true rfl⟩) noXB (fun _ _ _ => trivial) hK hP hD hS hAq 0 0 (T := TX0) (N := 11) rfl rfl rfl hl.1 rfl (Nat.le_of_ble_eq_true rfl) dX5_needs_60 ⟨Nat.le_of_ble_eq_true rfl, Nat.le_of_ble_eq_true rfl⟩ [8, 9, 10, 11, 12, 13] rfl rfl [tr 0, tr 1, tr 2, tr 3, tr 4, tr 5] rfl (fun _ => rfl) (fun _ => rfl) (fun u H locs hok hP hD hS => ?_)
        refine lv_aload_n hx hb dX5_needs_63 rfl (lv_at hl 1 rfl) ?_
        refine n_get (C := RX5) (T := TX5) (N := 7) hx hb hts (fun _ h => List.mem_cons_of_mem _ (List.mem_append_left _ (List.mem_append_right _ h))) hown hK hP 0 rfl rfl 2 (by decide) (List.mem_of_getElem? (i := 2) rfl) rfl (.ref (tr 0)) rfl dX5_needs_64 ?_
        refine n_get (C := RX0) (T := TX0) (N := 11) hx hb hts (fun _ h => List.mem_cons_of_mem _ (List.mem_append_right _ h)) hown hK hP 8 rfl rfl 2 (by decide) (List.mem_of_getElem? (i := 4) rfl) rfl (.int (nI ((daysN n1 (un σ (pl k0 1) (20 - t))) 2))) rfl dX5_needs_67 ?_
        refine lv_aload_n hx hb dX5_needs_70 rfl (lv_at hl 1 rfl) ?_
        refine n_get (C := RX5) (T := TX5) (N := 7) hx hb hts (fun _ h => List.mem_cons_of_mem _ (List.mem_append_left _ (List.mem_append_right _ h))) hown hK hP 0 rfl rfl 0 (by decide) (List.mem_of_getElem? (i := 1) rfl) rfl (.ref (hm 0)) rfl dX5_needs_71 ?_
        refine n_get (C := RX0) (T := TX0) (N := 11) hx hb hts (fun _ h => List.mem_cons_of_mem _ (List.mem_append_right _ h)) hown hK hP 2 rfl rfl 2 (by decide) (List.mem_of_getElem? (i := 4) rfl) rfl (.int (nI (σ 2))) rfl dX5_needs_74 ?_
        refine n_icmp_lt hx hb (by omega) (by omega) (tgt := 82) dX5_needs_77 (by decide) (fun c_4 => ?_) (fun c_4 => ?_)
        · refine lv_iinc (v := (iI (20 - ((t + 1 : Nat) : Int)))) (lv' := [(3, .int (iI (20 - ((t + 1 : Nat) : Int)))), (0, .ref (x 0)), (1, .int (nI k0)), (2, .int (nI n1))]) hx hb dX5_needs_82 hl (k := 0) rfl (need_tab t (by omega)) (by decide) rfl (fun ls hl => ?_)
          refine lv_goto (tgt := 30) hx hb dX5_needs_85 (by decide) ?_
          exact ih (t + 1) (daysN n1 (un σ (pl k0 1) (20 - t))) _ _ _ (by omega) ⟨by omega, NoQ_S hno (decide_eq_false (by omega))⟩ hP hD hS (lv_sub hl [0, 1, 2, 3] rfl)
        · refine lv_iload_n hx hb dX5_needs_80 rfl (lv_at hl 0 rfl) ?_
          have hf : fstN (neQ σ k0 n1) 21 = t := fst_of hno (decide_eq_true (by omega)) (by omega)
          have he : needs_e σ (nI k0).toInt (nI n1).toInt = 7 := by unfold needs_e; (try simp only [hT0, hT1, Int.toNat_natCast]); rw [if_pos (by omega), hf]; first | rw [if_pos (by omega)] | rw [if_neg (by omega)]
          exact fin_i hx hb hr hlk hS hP hD (daysN n1 (un σ (pl k0 1) (20 - t))) trivial (by rw [he]; (try simp only [hT0, hT1, Int.toNat_natCast]); rw [hf]; rfl) (by rw [he]; (try simp only [hT0, hT1, Int.toNat_natCast]); exact eqW.rf _) dX5_needs_81
    · refine lv_aload_n hx hb dX5_needs_21 rfl (lv_at hl 0 rfl) ?_
      refine lv_iconst (v := nI 0) hx hb dX5_needs_22 rfl ?_
      refine callVI (rest := []) (wn := fun u => ([xO x hm kp tr hi, (x 7, .inl (G.2.1, 7, .inl (tk tl 0)))] ++ (wH G hm σ ++ (wH G tr τ)))) ⟨hx, hb, hml, hown, hts⟩ (c_X5_tell l G H.size x hm kp tr hi tl 0 (by omega)) (cwV 1 hts gX5_needs_X5_tell rfl rfl rfl (by decide +kernel) ⟨Nat.le_of_ble_eq_true rfl, Nat.le_of_ble_eq_true rfl⟩) noXB (fun _ _ _ => trivial) hK hP hD hS hAq 4 0 (T := TX5) (N := 7) rfl rfl rfl hl.1 rfl (Nat.le_of_ble_eq_true rfl) dX5_needs_23 ⟨Nat.le_of_ble_eq_true rfl, Nat.le_of_ble_eq_true rfl⟩ [0, 1] rfl rfl [x 0, x 7] rfl (fun _ => rfl) (fun _ => rfl) (fun u H locs hok hP hD hS => ?_)
      have he : needs_e σ (nI k0).toInt a1.toInt = 0 := by unfold needs_e; (try simp only [hT0, Int.toNat_natCast]); (repeat' split) <;> omega
      exact fin_i hx hb hr hlk hS hP hD τ trivial (by rw [he]; first | done | ((try simp only [hT0, Int.toNat_natCast]); first | done | rfl)) (by rw [he]; (try simp only [hT0, Int.toNat_natCast]); exact eqW.rf _) dX5_needs_26
set_option maxHeartbeats 400000 in
set_option maxRecDepth 100000 in
theorem c_X6_needs (l : Launch) (G : GT) (sz : Nat) (b : Nat → Nat) (ζ : Nat → Nat) (vv : Int64) (tl : Nat → Int32) (σ : Sg) (F : Nat → Int32) (a0 a1 : Int32) (hI : Inv σ) (hd0 : σ 0 ≤ 9999) : MI (S := Nat → Int32) l G noX yX6_needs wsX6_needs ({ frames := 8, cells := 0, slots := 0, locals := 181 } : Room) [.ref (b 0), .int a0, .int a1] ([mO b ζ vv, (b 4, .inl (G.2.1, 7, .inl tl)), (b 1, .inl (G.2.1, 46, .inl (nF σ))), (b 3, .inl (G.2.1, 46, .inl F))]) sz (fun _ => True) (fun u => rs (needs_e σ a0.toInt a1.toInt) (nI (20 - fstN (neQ σ a0.toInt.toNat a1.toInt.toNat) 21))) (fun u => [mO b ζ vv, (b 4, .inl (G.2.1, 7, .inl (ts tl (needs_e σ a0.toInt a1.toInt)))), (b 1, .inl (G.2.1, 46, .inl (nF σ))), (b 3, .inl (G.2.1, 46, .inl u))]) := by
  refine MI_enter (cc := cX6_needs) (maxL := 4) (ret := (some .int)) (by decide) rfl (Nat.le_of_ble_eq_true rfl) ?_
  intro p e s m below meth c A ls H hx hb hr hlk hml hown hts hAq hS hP hK hD hX hl hnm
  have hown : s.vm.findClass RX6 = some m.cls := hown
  have hl : lv_has ls 4 [(0, .ref (b 0)), (1, .int a0), (2, .int a1)] := hl
  obtain ⟨⟨i1, i2, i3, i4, i5⟩, ip⟩ := id hI
  refine lv_aload_n hx hb dX6_needs_0 rfl (lv_at hl 0 rfl) ?_
  refine lv_iload_n hx hb dX6_needs_1 rfl (lv_at hl 1 rfl) ?_
  refine callVI (rest := []) (wn := fun u => [mO b ζ vv, (b 4, .inl (G.2.1, 7, .inl tl)), (b 1, .inl (G.2.1, 46, .inl (nF σ))), (b 3, .inl (G.2.1, 46, .inl F))]) ⟨hx, hb, hml, hown, hts⟩ (c_X6_isPerson l G H.size b ζ vv σ a0 (by omega)) (cwV 1 hts gX6_needs_X6_isPerson rfl rfl rfl (by decide +kernel) ⟨Nat.le_of_ble_eq_true rfl, Nat.le_of_ble_eq_true rfl⟩) noXB (fun _ _ _ => trivial) hK hP hD hS hAq 5 0 (T := TX6) (N := 18) rfl rfl rfl hl.1 rfl (Nat.le_of_ble_eq_true rfl) dX6_needs_2 ⟨Nat.le_of_ble_eq_true rfl, Nat.le_of_ble_eq_true rfl⟩ [0, 2] rfl rfl [b 0, b 1] rfl (fun _ => rfl) (fun _ => rfl) (fun u H locs hok hP hD hS => ?_)
  refine z_if_eq hx hb (tgt := 15) dX6_needs_5 (by decide) (fun c_1 => ?_) (fun c_1 => ?_)
  · refine lv_aload_n hx hb dX6_needs_15 rfl (lv_at hl 0 rfl) ?_
    refine lv_iconst (v := nI 0) hx hb dX6_needs_16 rfl ?_
    refine callVI (rest := []) (wn := fun u => [mO b ζ vv, (b 4, .inl (G.2.1, 7, .inl (tk tl 0))), (b 1, .inl (G.2.1, 46, .inl (nF σ))), (b 3, .inl (G.2.1, 46, .inl F))]) ⟨hx, hb, hml, hown, hts⟩ (c_X6_no l G H.size b ζ vv tl 0 (by omega)) (cwV 1 hts gX6_needs_X6_no rfl rfl rfl (by decide +kernel) ⟨Nat.le_of_ble_eq_true rfl, Nat.le_of_ble_eq_true rfl⟩) noXB (fun _ _ _ => trivial) hK hP hD hS hAq 5 0 (T := TX6) (N := 18) rfl rfl rfl hl.1 rfl (Nat.le_of_ble_eq_true rfl) dX6_needs_17 ⟨Nat.le_of_ble_eq_true rfl, Nat.le_of_ble_eq_true rfl⟩ [0, 1] rfl rfl [b 0, b 4] rfl (fun _ => rfl) (fun _ => rfl) (fun u H locs hok hP hD hS => ?_)
    have he : needs_e σ a0.toInt a1.toInt = 0 := by unfold needs_e; (try simp only [Int.toNat_natCast]); (repeat' split) <;> omega
    exact fin_i hx hb hr hlk hS hP hD (F) trivial (by rw [he]; first | done | ((try simp only [Int.toNat_natCast]); first | done | rfl)) (by rw [he]; (try simp only [Int.toNat_natCast]); exact eqW.rf _) dX6_needs_20
  · obtain ⟨k0, hk0, rfl⟩ := nI_of_rg (n := 7) (x := a0) ⟨by omega, by omega⟩
    have hT0 := nI_T (a := k0) (by omega)
    have hp0 : k0 < σ 5 := by omega
    obtain ⟨q00, q01, q02, q03, q04⟩ := ip k0 (by omega)
    refine lv_iload_n hx hb dX6_needs_8 rfl (lv_at hl 2 rfl) ?_
    refine callSI (rest := []) (wn := fun u => [mO b ζ vv, (b 4, .inl (G.2.1, 7, .inl tl)), (b 1, .inl (G.2.1, 46, .inl (nF σ))), (b 3, .inl (G.2.1, 46, .inl F))]) ⟨hx, hb, hml, hown, hts⟩ (c_X6_isSoon l G H.size a1) (va_cwS 1 hts gX6_needs_X6_isSoon rfl rfl rfl (by decide +kernel) ⟨Nat.le_of_ble_eq_true rfl, Nat.le_of_ble_eq_true rfl⟩) noXB (fun _ _ _ => trivial) hK hP hD hS hAq rfl hl.1 rfl (Nat.le_of_ble_eq_true rfl) dX6_needs_9 ⟨Nat.le_of_ble_eq_true rfl, Nat.le_of_ble_eq_true rfl⟩ [] rfl rfl [] rfl (fun _ => rfl) (fun _ => rfl) (fun u H locs hok hP hD hS => ?_)
    refine z_if_ne hx hb (tgt := 21) dX6_needs_12 (by decide) (fun c_2 => ?_) (fun c_2 => ?_)
    · obtain ⟨n1, hn1, rfl⟩ := nI_of_rg (n := 60) (x := a1) ⟨by omega, by omega⟩
      have hT1 := nI_T (a := n1) (by omega)
      refine lv_aload_n hx hb dX6_needs_21 rfl (lv_at hl 0 rfl) ?_
      refine callVV (rest := []) (wn := fun u => [mO b ζ vv, (b 4, .inl (G.2.1, 7, .inl tl)), (b 1, .inl (G.2.1, 46, .inl (nF σ))), (b 3, .inl (G.2.1, 46, .inl (nF σ)))]) ⟨hx, hb, hml, hown, hts⟩ (c_X6_setsAside l G H.size b ζ vv σ F) (cwV 0 hts gX6_needs_X6_setsAside rfl rfl rfl (by decide +kernel) ⟨Nat.le_of_ble_eq_true rfl, Nat.le_of_ble_eq_true rfl⟩) noXB (fun _ _ _ => trivial) hK hP hD hS hAq 5 0 (T := TX6) (N := 18) rfl rfl rfl hl.1 rfl (Nat.le_of_ble_eq_true rfl) dX6_needs_22 ⟨Nat.le_of_ble_eq_true rfl, Nat.le_of_ble_eq_true rfl⟩ [0, 2, 3] rfl rfl [b 0, b 1, b 3] rfl (fun _ => rfl) (fun _ => rfl) (fun u H locs hok hP hD hS => ?_)
      refine lv_bipush (v := nI 20) hx hb dX6_needs_25 rfl ?_
      refine lv_istore_n (lv' := [(3, .int (nI 20)), (0, .ref (b 0)), (1, .int (nI k0)), (2, .int (nI n1))]) hx hb dX6_needs_27 rfl hl (by decide) rfl (fun ls hl => ?_)
      refine W_loop1 (I := fun (t : Nat) => t ≤ 21 ∧ NoQ (neQ σ k0 n1) t) (wd := fun (t : Nat) => [mO b ζ vv, (b 4, .inl (G.2.1, 7, .inl tl)), (b 1, .inl (G.2.1, 46, .inl (nF σ))), (b 3, .inl (G.2.1, 46, .inl (nF σ)))]) (lv := fun (t : Nat) => [(3, .int (iI (20 - ((t : Nat) : Int)))), (0, .ref (b 0)), (1, .int (nI k0)), (2, .int (nI n1))]) (μ := fun (t : Nat) => 21 - t) ?_ 0 ⟨by omega, NoQ_0⟩ hP hD hS (lv_sub hl [0, 1, 2, 3] rfl)
      intro t H locs ls hI0 hP hD hS hl ih
      obtain ⟨hk, hno⟩ := hI0
      have hT9 : (iI (20 - ((t : Nat) : Int))).toInt = 20 - ((t : Nat) : Int) := iI_T (by omega) (by omega)
      refine lv_iload_n hx hb dX6_needs_28 rfl (lv_at hl 0 rfl) ?_
      refine r_if_lt hx hb (tgt := 62) dX6_needs_29 (by decide) (fun c_3 => ?_) (fun c_3 => ?_)
      · have hk5 : t = 21 := by omega
        subst hk5
        refine lv_aload_n hx hb dX6_needs_62 rfl (lv_at hl 1 rfl) ?_
        refine lv_iconst (v := nI 3) hx hb dX6_needs_63 rfl ?_
        refine callVI (rest := []) (wn := fun u => [mO b ζ vv, (b 4, .inl (G.2.1, 7, .inl (tk tl 3))), (b 1, .inl (G.2.1, 46, .inl (nF σ))), (b 3, .inl (G.2.1, 46, .inl (nF σ)))]) ⟨hx, hb, hml, hown, hts⟩ (c_X6_no l G H.size b ζ vv tl 3 (by omega)) (cwV 1 hts gX6_needs_X6_no rfl rfl rfl (by decide +kernel) ⟨Nat.le_of_ble_eq_true rfl, Nat.le_of_ble_eq_true rfl⟩) noXB (fun _ _ _ => trivial) hK hP hD hS hAq 5 0 (T := TX6) (N := 18) rfl rfl rfl hl.1 rfl (Nat.le_of_ble_eq_true rfl) dX6_needs_64 ⟨Nat.le_of_ble_eq_true rfl, Nat.le_of_ble_eq_true rfl⟩ [0, 1] rfl rfl [b 0, b 4] rfl (fun _ => rfl) (fun _ => rfl) (fun u H locs hok hP hD hS => ?_)
        have hf : fstN (neQ σ k0 n1) 21 = 21 := fst_none hno
        have he : needs_e σ (nI k0).toInt (nI n1).toInt = 3 := by unfold needs_e; (try simp only [hT0, hT1, Int.toNat_natCast]); rw [if_pos (by omega), hf]; first | rw [if_pos (by omega)] | rw [if_neg (by omega)]
        exact fin_i hx hb hr hlk hS hP hD (nF σ) trivial (by rw [he]; first | done | ((try simp only [hT0, hT1, Int.toNat_natCast]); first | done | rfl)) (by rw [he]; (try simp only [hT0, hT1, Int.toNat_natCast]); exact eqW.rf _) dX6_needs_67
      · have ht20 : t ≤ 20 := by omega
        have hg : iI (20 - ((t : Nat) : Int)) = nI (20 - t) := by rw [iI_nat (by omega)]; congr 1; omega
        rw [hg] at hl
        have hIu : Inv (un σ (pl k0 1) (20 - t)) := Inv.unp hI (by decide) (by omega)
        have hE0 : un σ (pl k0 1) (20 - t) 0 = σ 0 := un_ps (by decide)
        have hEc : daysN n1 (un σ (pl k0 1) (20 - t)) 2 ≤ 99 := (days_Inv hIu n1).1.2.1
        refine lv_aload_n hx hb dX6_needs_32 rfl (lv_at hl 1 rfl) ?_
        refine lv_iload_n hx hb dX6_needs_33 rfl (lv_at hl 2 rfl) ?_
        refine lv_iconst (v := nI 1) hx hb dX6_needs_34 rfl ?_
        refine lv_iload_n hx hb dX6_needs_35 rfl (lv_at hl 0 rfl) ?_
        refine callVV (rest := []) (wn := fun u => [mO b ζ vv, (b 4, .inl (G.2.1, 7, .inl tl)), (b 1, .inl (G.2.1, 46, .inl (nF (un σ (pl k0 1) (20 - t))))), (b 3, .inl (G.2.1, 46, .inl (nF σ)))]) ⟨hx, hb, hml, hown, hts⟩ (c_X6_puts l G H.size b ζ vv σ k0 1 (20 - t) (by omega) (by omega)) (cwV 3 hts gX6_needs_X6_puts rfl rfl rfl (by decide +kernel) ⟨Nat.le_of_ble_eq_true rfl, Nat.le_of_ble_eq_true rfl⟩) noXB (fun _ _ _ => trivial) hK hP hD hS hAq 5 0 (T := TX6) (N := 18) rfl rfl rfl hl.1 rfl (Nat.le_of_ble_eq_true rfl) dX6_needs_36 ⟨Nat.le_of_ble_eq_true rfl, Nat.le_of_ble_eq_true rfl⟩ [0, 2] rfl rfl [b 0, b 1] rfl (fun _ => rfl) (fun _ => rfl) (fun u H locs hok hP hD hS => ?_)
        refine lv_aload_n hx hb dX6_needs_39 rfl (lv_at hl 1 rfl) ?_
        refine lv_iconst (v := nI 2) hx hb dX6_needs_40 rfl ?_
        refine lv_iload_n hx hb dX6_needs_41 rfl (lv_at hl 3 rfl) ?_
        refine callVI (rest := []) (wn := fun u => [mO b ζ vv, (b 4, .inl (G.2.1, 7, .inl tl)), (b 1, .inl (G.2.1, 46, .inl (nF σ))), (b 3, .inl (G.2.1, 46, .inl (nF σ)))]) ⟨hx, hb, hml, hown, hts⟩ (c_X6_thenAt l G H.size b ζ vv σ (un σ (pl k0 1) (20 - t)) 2 n1 hIu (by omega) (by omega)) (cwV 2 hts gX6_needs_X6_thenAt rfl rfl rfl (by decide +kernel) ⟨Nat.le_of_ble_eq_true rfl, Nat.le_of_ble_eq_true rfl⟩) noXB (fun _ _ _ => trivial) hK hP hD hS hAq 5 0 (T := TX6) (N := 18) rfl rfl rfl hl.1 rfl (Nat.le_of_ble_eq_true rfl) dX6_needs_42 ⟨Nat.le_of_ble_eq_true rfl, Nat.le_of_ble_eq_true rfl⟩ [0, 2, 3] rfl rfl [b 0, b 1, b 3] rfl (fun _ => rfl) (fun _ => rfl) (fun u H locs hok hP hD hS => ?_)
        refine lv_aload_n hx hb dX6_needs_45 rfl (lv_at hl 1 rfl) ?_
        refine n_get (C := RX6) (T := TX6) (N := 18) hx hb hts (fun _ h => List.mem_cons_of_mem _ (List.mem_append_right _ h)) hown hK hP 0 rfl rfl 0 (by decide) (List.mem_of_getElem? (i := 1) rfl) rfl (.ref (b 1)) rfl dX6_needs_46 ?_
        refine lv_iconst (v := nI 2) hx hb dX6_needs_49 rfl ?_
        refine n_iald hx hb hK hP 2 (v := (nI (σ 2))) rfl (by omega) (by omega) rfl dX6_needs_50 ?_
        refine n_icmp_lt hx hb (by omega) (by omega) (tgt := 56) dX6_needs_51 (by decide) (fun c_4 => ?_) (fun c_4 => ?_)
        · refine lv_iinc (v := (iI (20 - ((t + 1 : Nat) : Int)))) (lv' := [(3, .int (iI (20 - ((t + 1 : Nat) : Int)))), (0, .ref (b 0)), (1, .int (nI k0)), (2, .int (nI n1))]) hx hb dX6_needs_56 hl (k := 0) rfl (need_tab t (by omega)) (by decide) rfl (fun ls hl => ?_)
          refine lv_goto (tgt := 28) hx hb dX6_needs_59 (by decide) ?_
          exact ih (t + 1) _ _ _ (by omega) ⟨by omega, NoQ_S hno (decide_eq_false (by omega))⟩ hP hD hS (lv_sub hl [0, 1, 2, 3] rfl)
        · refine lv_iload_n hx hb dX6_needs_54 rfl (lv_at hl 0 rfl) ?_
          have hf : fstN (neQ σ k0 n1) 21 = t := fst_of hno (decide_eq_true (by omega)) (by omega)
          have he : needs_e σ (nI k0).toInt (nI n1).toInt = 7 := by unfold needs_e; (try simp only [hT0, hT1, Int.toNat_natCast]); rw [if_pos (by omega), hf]; first | rw [if_pos (by omega)] | rw [if_neg (by omega)]
          exact fin_i hx hb hr hlk hS hP hD (nF σ) trivial (by rw [he]; (try simp only [hT0, hT1, Int.toNat_natCast]); rw [hf]; rfl) (by rw [he]; (try simp only [hT0, hT1, Int.toNat_natCast]); exact eqW.rf _) dX6_needs_55
    · refine lv_aload_n hx hb dX6_needs_15 rfl (lv_at hl 0 rfl) ?_
      refine lv_iconst (v := nI 0) hx hb dX6_needs_16 rfl ?_
      refine callVI (rest := []) (wn := fun u => [mO b ζ vv, (b 4, .inl (G.2.1, 7, .inl (tk tl 0))), (b 1, .inl (G.2.1, 46, .inl (nF σ))), (b 3, .inl (G.2.1, 46, .inl F))]) ⟨hx, hb, hml, hown, hts⟩ (c_X6_no l G H.size b ζ vv tl 0 (by omega)) (cwV 1 hts gX6_needs_X6_no rfl rfl rfl (by decide +kernel) ⟨Nat.le_of_ble_eq_true rfl, Nat.le_of_ble_eq_true rfl⟩) noXB (fun _ _ _ => trivial) hK hP hD hS hAq 5 0 (T := TX6) (N := 18) rfl rfl rfl hl.1 rfl (Nat.le_of_ble_eq_true rfl) dX6_needs_17 ⟨Nat.le_of_ble_eq_true rfl, Nat.le_of_ble_eq_true rfl⟩ [0, 1] rfl rfl [b 0, b 4] rfl (fun _ => rfl) (fun _ => rfl) (fun u H locs hok hP hD hS => ?_)
      have he : needs_e σ (nI k0).toInt a1.toInt = 0 := by unfold needs_e; (try simp only [hT0, Int.toNat_natCast]); (repeat' split) <;> omega
      exact fin_i hx hb hr hlk hS hP hD (F) trivial (by rw [he]; first | done | ((try simp only [hT0, Int.toNat_natCast]); first | done | rfl)) (by rw [he]; (try simp only [hT0, Int.toNat_natCast]); exact eqW.rf _) dX6_needs_20
