set_option maxHeartbeats 400000 in
set_option maxRecDepth 100000 in
theorem c_X5_tell (l : Launch) (G : GT) (sz : Nat) (x hm kp tr : Nat → Nat) (hi : Nat) (tl : Nat → Int32) (w : Nat) (hw : w < 7) : MI (S := Unit) l G noX yX5_tell wsX5_tell ({ frames := 1, cells := 0, slots := 0, locals := 22 } : Room) [.ref (x 0), .int (nI w)] ([xO x hm kp tr hi, (x 7, .inl (G.2.1, 7, .inl tl))]) sz (fun _ => True) (fun _ => fnd w) (fun _ => [xO x hm kp tr hi, (x 7, .inl (G.2.1, 7, .inl (tk tl w)))]) := by
  refine MI_enter (cc := cX5_tell) (maxL := 2) (ret := (some .int)) (by decide) rfl (Nat.le_of_ble_eq_true rfl) ?_
  intro p e s m below meth c A ls H hx hb hr hlk hml hown hts hAq hS hP hK hD hX hl hnm
  have hown : s.vm.findClass RX5 = some m.cls := hown
  have hl : lv_has ls 2 [(0, .ref (x 0)), (1, .int (nI w))] := hl
  refine lv_iload_n hx hb dX5_tell_0 rfl (lv_at hl 1 rfl) ?_
  refine lv_iconst (v := nI 0) hx hb dX5_tell_1 rfl ?_
  refine lv_bipush (v := nI 6) hx hb dX5_tell_2 rfl ?_
  refine callSI (rest := []) (wn := fun u => [xO x hm kp tr hi, (x 7, .inl (G.2.1, 7, .inl tl))]) ⟨hx, hb, hml, hown, hts⟩ (c_X5_isWithin l G H.size (nI w) (nI 0) (nI 6)) (va_cwS 3 hts gX5_tell_X5_isWithin rfl rfl rfl (by decide +kernel) ⟨Nat.le_of_ble_eq_true rfl, Nat.le_of_ble_eq_true rfl⟩) noXB (fun _ _ _ => trivial) hK hP hD hS hAq rfl hl.1 rfl (Nat.le_of_ble_eq_true rfl) dX5_tell_4 ⟨Nat.le_of_ble_eq_true rfl, Nat.le_of_ble_eq_true rfl⟩ [] rfl rfl [] rfl (fun _ => rfl) (fun _ => rfl) (fun u H locs hok hP hD hS => ?_)
  refine n_top (y := zI ((0 : Int) ≤ (nI w).toInt ∧ (nI w).toInt ≤ 6)) (zI_c (by rw [nI_T (show 0 < 2147483648 by decide), nI_T (show 6 < 2147483648 by decide)]; exact Iff.rfl)) ?_
  refine z_if_eq hx hb (tgt := 20) dX5_tell_7 (by decide) (fun c_1 => ?_) (fun c_1 => ?_)
  · rw [nI_T (by omega)] at c_1
    omega
  · refine lv_aload_n hx hb dX5_tell_10 rfl (lv_at hl 0 rfl) ?_
    refine n_get (C := RX5) (T := TX5) (N := 7) hx hb hts (fun _ h => List.mem_cons_of_mem _ (List.mem_append_right _ h)) hown hK hP 0 rfl rfl 5 (by decide) (List.mem_of_getElem? (i := 1) rfl) rfl (.ref (x 7)) rfl dX5_tell_11 ?_
    refine lv_iload_n hx hb dX5_tell_14 rfl (lv_at hl 1 rfl) ?_
    refine lv_dup2_11 hx hb dX5_tell_15 rfl rfl ?_
    refine n_iald hx hb hK hP 1 (v := (tl w)) rfl (by omega) (by omega) rfl dX5_tell_16 ?_
    refine lv_iconst (v := nI 1) hx hb dX5_tell_17 rfl ?_
    refine lv_iadd hx hb dX5_tell_18 ?_
    refine n_iast hx hb hK hP hD hS 1 (wn := [xO x hm kp tr hi, (x 7, .inl (G.2.1, 7, .inl (upd tl w ((tl w) + (nI 1)))))]) rfl (by omega) (by omega) rfl dX5_tell_19 (fun H locs hP hD hS => ?_)
    refine lv_ldc (v := (-1000000001)) hx hb hown (hts _ (List.mem_of_getElem? (i := 2) rfl)) dX5_tell_20 ?_
    refine lv_iload_n hx hb dX5_tell_22 rfl (lv_at hl 1 rfl) ?_
    refine lv_isub hx hb dX5_tell_23 ?_
    exact fin_i hx hb hr hlk hS hP hD () trivial rfl (eqW.rf _) dX5_tell_24
set_option maxHeartbeats 400000 in
set_option maxRecDepth 100000 in
theorem c_X6_no (l : Launch) (G : GT) (sz : Nat) (b : Nat → Nat) (ζ : Nat → Nat) (vv : Int64) (tl : Nat → Int32) (w : Nat) (hw : w < 7) : MI (S := Unit) l G noX yX6_no wsX6_no ({ frames := 0, cells := 0, slots := 0, locals := 0 } : Room) [.ref (b 0), .int (nI w)] ([mO b ζ vv, (b 4, .inl (G.2.1, 7, .inl tl))]) sz (fun _ => True) (fun _ => fnd w) (fun _ => [mO b ζ vv, (b 4, .inl (G.2.1, 7, .inl (tk tl w)))]) := by
  refine MI_enter (cc := cX6_no) (maxL := 2) (ret := (some .int)) (by decide) rfl (Nat.le_of_ble_eq_true rfl) ?_
  intro p e s m below meth c A ls H hx hb hr hlk hml hown hts hAq hS hP hK hD hX hl hnm
  have hown : s.vm.findClass RX6 = some m.cls := hown
  have hl : lv_has ls 2 [(0, .ref (b 0)), (1, .int (nI w))] := hl
  refine lv_aload_n hx hb dX6_no_0 rfl (lv_at hl 0 rfl) ?_
  refine n_get (C := RX6) (T := TX6) (N := 18) hx hb hts (fun _ h => List.mem_cons_of_mem _ (List.mem_append_right _ h)) hown hK hP 0 rfl rfl 4 (by decide) (List.mem_of_getElem? (i := 1) rfl) rfl (.ref (b 4)) rfl dX6_no_1 ?_
  refine lv_iload_n hx hb dX6_no_4 rfl (lv_at hl 1 rfl) ?_
  refine lv_dup2_11 hx hb dX6_no_5 rfl rfl ?_
  refine n_iald hx hb hK hP 1 (v := (tl w)) rfl (by omega) (by omega) rfl dX6_no_6 ?_
  refine lv_iconst (v := nI 1) hx hb dX6_no_7 rfl ?_
  refine lv_iadd hx hb dX6_no_8 ?_
  refine n_iast hx hb hK hP hD hS 1 (wn := [mO b ζ vv, (b 4, .inl (G.2.1, 7, .inl (upd tl w ((tl w) + (nI 1)))))]) rfl (by omega) (by omega) rfl dX6_no_9 (fun H locs hP hD hS => ?_)
  refine lv_ldc (v := (-1000000001)) hx hb hown (hts _ (List.mem_of_getElem? (i := 2) rfl)) dX6_no_10 ?_
  refine lv_iload_n hx hb dX6_no_12 rfl (lv_at hl 1 rfl) ?_
  refine lv_isub hx hb dX6_no_13 ?_
  exact fin_i hx hb hr hlk hS hP hD () trivial rfl (eqW.rf _) dX6_no_14
set_option maxHeartbeats 400000 in
set_option maxRecDepth 100000 in
theorem c_X5_put (l : Launch) (G : GT) (sz : Nat) (ra : Nat) (g : Nat → Nat) (i v : Nat) (hi : i < 8) : MI (S := Unit) l G noX yX5_put wsX5_put ({ frames := 0, cells := 0, slots := 0, locals := 0 } : Room) [.ref ra, .int (nI i), .int (nI v)] ([(ra, .inl (G.2.1, 8, .inl (nF g)))]) sz (fun _ => True) (fun _ => nI (g i)) (fun _ => [(ra, .inl (G.2.1, 8, .inl (nF (un g i v))))]) := by
  refine MI_enter (cc := cX5_put) (maxL := 4) (ret := (some .int)) (by decide) rfl (Nat.le_of_ble_eq_true rfl) ?_
  intro p e s m below meth c A ls H hx hb hr hlk hml hown hts hAq hS hP hK hD hX hl hnm
  have hown : s.vm.findClass RX5 = some m.cls := hown
  have hl : lv_has ls 4 [(0, .ref ra), (1, .int (nI i)), (2, .int (nI v))] := hl
  refine lv_iload_n hx hb dX5_put_0 rfl (lv_at hl 1 rfl) ?_
  refine n_if_lt hx hb (by omega) (tgt := 10) dX5_put_1 (by decide) (fun c_1 => ?_) (fun c_1 => ?_)
  · omega
  · refine lv_iload_n hx hb dX5_put_4 rfl (lv_at hl 1 rfl) ?_
    refine lv_aload_n hx hb dX5_put_5 rfl (lv_at hl 0 rfl) ?_
    refine n_alen hx hb hK hP 0 0 rfl rfl dX5_put_6 ?_
    refine n_icmp_lt hx hb (by omega) (by omega) (tgt := 12) dX5_put_7 (by decide) (fun c_2 => ?_) (fun c_2 => ?_)
    · refine lv_aload_n hx hb dX5_put_12 rfl (lv_at hl 0 rfl) ?_
      refine lv_iload_n hx hb dX5_put_13 rfl (lv_at hl 1 rfl) ?_
      refine n_iald hx hb hK hP 0 (v := (nI (g i))) rfl (by omega) (by omega) rfl dX5_put_14 ?_
      refine lv_istore_n (lv' := [(3, .int (nI (g i))), (0, .ref ra), (1, .int (nI i)), (2, .int (nI v))]) hx hb dX5_put_15 rfl hl (by decide) rfl (fun ls hl => ?_)
      refine lv_aload_n hx hb dX5_put_16 rfl (lv_at hl 1 rfl) ?_
      refine lv_iload_n hx hb dX5_put_17 rfl (lv_at hl 2 rfl) ?_
      refine lv_iload_n hx hb dX5_put_18 rfl (lv_at hl 3 rfl) ?_
      refine n_iast hx hb hK hP hD hS 0 (wn := [(ra, .inl (G.2.1, 8, .inl (nF (un g i v))))]) rfl (by omega) (by omega) (by rw [nF_un]; rfl) dX5_put_19 (fun H locs hP hD hS => ?_)
      refine lv_iload_n hx hb dX5_put_20 rfl (lv_at hl 0 rfl) ?_
      exact fin_i hx hb hr hlk hS hP hD () trivial rfl (eqW.rf _) dX5_put_21
    · omega
set_option maxHeartbeats 400000 in
set_option maxRecDepth 100000 in
theorem c_X5_house (l : Launch) (G : GT) (sz : Nat) (x hm kp tr : Nat → Nat) (hi : Nat) (tl : Nat → Int32) (σ : Sg) (a0 a1 : Int32) (hI : Inv σ) (hd0 : σ 0 ≤ 9999) : MI (S := Unit) l G noX yX5_house wsX5_house ({ frames := 2, cells := 0, slots := 0, locals := 43 } : Room) [.ref (x 0), .int a0, .int a1] (([xO x hm kp tr hi, (x 7, .inl (G.2.1, 7, .inl tl))] ++ (wH G hm σ))) sz (fun _ => True) (fun _ => rs (house_e a0.toInt a1.toInt) (nI (σ (1 + a0.toInt.toNat)))) (fun _ => ([xO x hm kp tr hi, (x 7, .inl (G.2.1, 7, .inl (ts tl (house_e a0.toInt a1.toInt))))] ++ (wH G hm (hs (house_e a0.toInt a1.toInt) (un σ (1 + a0.toInt.toNat) a1.toInt.toNat) σ)))) := by
  refine MI_enter (cc := cX5_house) (maxL := 4) (ret := (some .int)) (by decide) rfl (Nat.le_of_ble_eq_true rfl) ?_
  intro p e s m below meth c A ls H hx hb hr hlk hml hown hts hAq hS hP hK hD hX hl hnm
  have hown : s.vm.findClass RX5 = some m.cls := hown
  have hl : lv_has ls 4 [(0, .ref (x 0)), (1, .int a0), (2, .int a1)] := hl
  obtain ⟨⟨i1, i2, i3, i4, i5⟩, ip⟩ := id hI
  refine lv_iload_n hx hb dX5_house_0 rfl (lv_at hl 1 rfl) ?_
  by_cases hsr : (0 : Int) ≤ a0.toInt ∧ a0.toInt ≤ 2
  · obtain ⟨w0, hw0, rfl⟩ := nI_of_rg (n := 2) (x := a0) ⟨by omega, by omega⟩
    have hTw0 := nI_T (a := w0) (by omega)
    rcases (show w0 = 0 ∨ w0 = 1 ∨ w0 = 2 by omega) with rfl | rfl | rfl
    · refine n_tableIn (a := 0) rfl hx hb (off := 27) (tgt := 28) dX5_house_1 (by decide) (by decide) (by decide) (by decide) ?_
      refine lv_iload_n hx hb dX5_house_28 rfl (lv_at hl 2 rfl) ?_
      refine lv_iconst (v := nI 0) hx hb dX5_house_29 rfl ?_
      refine lv_sipush (v := nI 999) hx hb dX5_house_30 rfl ?_
      refine callSI (rest := []) (wn := fun u => ([xO x hm kp tr hi, (x 7, .inl (G.2.1, 7, .inl tl))] ++ (wH G hm σ))) ⟨hx, hb, hml, hown, hts⟩ (c_X5_isWithin l G H.size a1 (nI 0) (nI 999)) (va_cwS 3 hts gX5_house_X5_isWithin rfl rfl rfl (by decide +kernel) ⟨Nat.le_of_ble_eq_true rfl, Nat.le_of_ble_eq_true rfl⟩) noXB (fun _ _ _ => trivial) hK hP hD hS hAq rfl hl.1 rfl (Nat.le_of_ble_eq_true rfl) dX5_house_33 ⟨Nat.le_of_ble_eq_true rfl, Nat.le_of_ble_eq_true rfl⟩ [] rfl rfl [] rfl (fun _ => rfl) (fun _ => rfl) (fun u H locs hok hP hD hS => ?_)
      refine n_top (y := zI ((0 : Int) ≤ a1.toInt ∧ a1.toInt ≤ 999)) (zI_c (by rw [nI_T (show 0 < 2147483648 by decide), nI_T (show 999 < 2147483648 by decide)]; exact Iff.rfl)) ?_
      refine z_if_ne hx hb (tgt := 45) dX5_house_36 (by decide) (fun c_1 => ?_) (fun c_1 => ?_)
      · obtain ⟨v1, hv1, rfl⟩ := nI_of_rg (n := 999) (x := a1) ⟨by omega, by omega⟩
        have hT1 := nI_T (a := v1) (by omega)
        refine lv_aload_n hx hb dX5_house_45 rfl (lv_at hl 0 rfl) ?_
        refine n_get (C := RX5) (T := TX5) (N := 7) hx hb hts (fun _ h => List.mem_cons_of_mem _ (List.mem_append_left _ (List.mem_append_right _ h))) hown hK hP 0 rfl rfl 0 (by decide) (List.mem_of_getElem? (i := 1) rfl) rfl (.ref (hm 0)) rfl dX5_house_46 ?_
        refine n_get (C := RX0) (T := TX0) (N := 11) hx hb hts (fun _ h => List.mem_cons_of_mem _ (List.mem_append_right _ h)) hown hK hP 2 rfl rfl 1 (by decide) (List.mem_of_getElem? (i := 2) rfl) rfl (.int (nI (σ 1))) rfl dX5_house_49 ?_
        refine lv_istore_n (lv' := [(3, .int (nI (σ 1))), (0, .ref (x 0)), (1, .int (nI 0)), (2, .int (nI v1))]) hx hb dX5_house_52 rfl hl (by decide) rfl (fun ls hl => ?_)
        refine lv_aload_n hx hb dX5_house_53 rfl (lv_at hl 1 rfl) ?_
        refine n_get (C := RX5) (T := TX5) (N := 7) hx hb hts (fun _ h => List.mem_cons_of_mem _ (List.mem_append_left _ (List.mem_append_right _ h))) hown hK hP 0 rfl rfl 0 (by decide) (List.mem_of_getElem? (i := 1) rfl) rfl (.ref (hm 0)) rfl dX5_house_54 ?_
        refine lv_iload_n hx hb dX5_house_57 rfl (lv_at hl 3 rfl) ?_
        refine n_put (C := RX0) (T := TX0) (N := 11) hx hb hts (fun _ h => List.mem_cons_of_mem _ (List.mem_append_right _ h)) tyX0 tyX0_ok nmX0 hown hK hP hD hS 2 rfl rfl 1 (by decide) (List.mem_of_getElem? (i := 2) rfl) rfl rfl (ty := .int) (v := .int (nI v1)) rfl rfl rfl (Nat.le_of_ble_eq_true rfl) (wn := ([xO x hm kp tr hi, (x 7, .inl (G.2.1, 7, .inl tl))] ++ (wH G hm (un σ 1 v1)))) (congrArg (fun hole_w : va_W => ([xO x hm kp tr hi, (x 7, .inl (G.2.1, 7, .inl tl))] ++ (hole_w))) (wH_f1 G hm σ v1)) dX5_house_58 (fun H locs hP hD hS => ?_)
        refine lv_iload_n hx hb dX5_house_61 rfl (lv_at hl 0 rfl) ?_
        have he : house_e (nI 0).toInt (nI v1).toInt = 7 := by unfold house_e; (try simp only [hTw0, hT1, Int.toNat_natCast]); (repeat' split) <;> omega
        exact fin_i hx hb hr hlk hS hP hD () trivial (by rw [he]; first | done | ((try simp only [hTw0, hT1, Int.toNat_natCast]); first | done | rfl)) (by rw [he]; (try simp only [hTw0, hT1, Int.toNat_natCast]); exact eqW.rf _) dX5_house_62
      · refine lv_aload_n hx hb dX5_house_39 rfl (lv_at hl 0 rfl) ?_
        refine lv_iconst (v := nI 0) hx hb dX5_house_40 rfl ?_
        refine callVI (rest := []) (wn := fun u => ([xO x hm kp tr hi, (x 7, .inl (G.2.1, 7, .inl (tk tl 0)))] ++ (wH G hm σ))) ⟨hx, hb, hml, hown, hts⟩ (c_X5_tell l G H.size x hm kp tr hi tl 0 (by omega)) (cwV 1 hts gX5_house_X5_tell rfl rfl rfl (by decide +kernel) ⟨Nat.le_of_ble_eq_true rfl, Nat.le_of_ble_eq_true rfl⟩) noXB (fun _ _ _ => trivial) hK hP hD hS hAq 4 0 (T := TX5) (N := 7) rfl rfl rfl hl.1 rfl (Nat.le_of_ble_eq_true rfl) dX5_house_41 ⟨Nat.le_of_ble_eq_true rfl, Nat.le_of_ble_eq_true rfl⟩ [0, 1] rfl rfl [x 0, x 7] rfl (fun _ => rfl) (fun _ => rfl) (fun u H locs hok hP hD hS => ?_)
        have he : house_e (nI 0).toInt a1.toInt = 0 := by unfold house_e; (try simp only [hTw0, Int.toNat_natCast]); (repeat' split) <;> omega
        exact fin_i hx hb hr hlk hS hP hD () trivial (by rw [he]; first | done | ((try simp only [hTw0, Int.toNat_natCast]); first | done | rfl)) (by rw [he]; (try simp only [hTw0, Int.toNat_natCast]); exact eqW.rf _) dX5_house_44
    · refine n_tableIn (a := 1) rfl hx hb (off := 62) (tgt := 63) dX5_house_1 (by decide) (by decide) (by decide) (by decide) ?_
      refine lv_iload_n hx hb dX5_house_63 rfl (lv_at hl 2 rfl) ?_
      refine lv_iconst (v := nI 0) hx hb dX5_house_64 rfl ?_
      refine lv_bipush (v := nI 99) hx hb dX5_house_65 rfl ?_
      refine callSI (rest := []) (wn := fun u => ([xO x hm kp tr hi, (x 7, .inl (G.2.1, 7, .inl tl))] ++ (wH G hm σ))) ⟨hx, hb, hml, hown, hts⟩ (c_X5_isWithin l G H.size a1 (nI 0) (nI 99)) (va_cwS 3 hts gX5_house_X5_isWithin rfl rfl rfl (by decide +kernel) ⟨Nat.le_of_ble_eq_true rfl, Nat.le_of_ble_eq_true rfl⟩) noXB (fun _ _ _ => trivial) hK hP hD hS hAq rfl hl.1 rfl (Nat.le_of_ble_eq_true rfl) dX5_house_67 ⟨Nat.le_of_ble_eq_true rfl, Nat.le_of_ble_eq_true rfl⟩ [] rfl rfl [] rfl (fun _ => rfl) (fun _ => rfl) (fun u H locs hok hP hD hS => ?_)
      refine n_top (y := zI ((0 : Int) ≤ a1.toInt ∧ a1.toInt ≤ 99)) (zI_c (by rw [nI_T (show 0 < 2147483648 by decide), nI_T (show 99 < 2147483648 by decide)]; exact Iff.rfl)) ?_
      refine z_if_ne hx hb (tgt := 79) dX5_house_70 (by decide) (fun c_2 => ?_) (fun c_2 => ?_)
      · obtain ⟨v1, hv1, rfl⟩ := nI_of_rg (n := 99) (x := a1) ⟨by omega, by omega⟩
        have hT1 := nI_T (a := v1) (by omega)
        refine lv_aload_n hx hb dX5_house_79 rfl (lv_at hl 0 rfl) ?_
        refine n_get (C := RX5) (T := TX5) (N := 7) hx hb hts (fun _ h => List.mem_cons_of_mem _ (List.mem_append_left _ (List.mem_append_right _ h))) hown hK hP 0 rfl rfl 0 (by decide) (List.mem_of_getElem? (i := 1) rfl) rfl (.ref (hm 0)) rfl dX5_house_80 ?_
        refine n_get (C := RX0) (T := TX0) (N := 11) hx hb hts (fun _ h => List.mem_cons_of_mem _ (List.mem_append_right _ h)) hown hK hP 2 rfl rfl 2 (by decide) (List.mem_of_getElem? (i := 3) rfl) rfl (.int (nI (σ 2))) rfl dX5_house_83 ?_
        refine lv_istore_n (lv' := [(3, .int (nI (σ 2))), (0, .ref (x 0)), (1, .int (nI 1)), (2, .int (nI v1))]) hx hb dX5_house_86 rfl hl (by decide) rfl (fun ls hl => ?_)
        refine lv_aload_n hx hb dX5_house_87 rfl (lv_at hl 1 rfl) ?_
        refine n_get (C := RX5) (T := TX5) (N := 7) hx hb hts (fun _ h => List.mem_cons_of_mem _ (List.mem_append_left _ (List.mem_append_right _ h))) hown hK hP 0 rfl rfl 0 (by decide) (List.mem_of_getElem? (i := 1) rfl) rfl (.ref (hm 0)) rfl dX5_house_88 ?_
        refine lv_iload_n hx hb dX5_house_91 rfl (lv_at hl 3 rfl) ?_
        refine n_put (C := RX0) (T := TX0) (N := 11) hx hb hts (fun _ h => List.mem_cons_of_mem _ (List.mem_append_right _ h)) tyX0 tyX0_ok nmX0 hown hK hP hD hS 2 rfl rfl 2 (by decide) (List.mem_of_getElem? (i := 3) rfl) rfl rfl (ty := .int) (v := .int (nI v1)) rfl rfl rfl (Nat.le_of_ble_eq_true rfl) (wn := ([xO x hm kp tr hi, (x 7, .inl (G.2.1, 7, .inl tl))] ++ (wH G hm (un σ 2 v1)))) (congrArg (fun hole_w : va_W => ([xO x hm kp tr hi, (x 7, .inl (G.2.1, 7, .inl tl))] ++ (hole_w))) (wH_f2 G hm σ v1)) dX5_house_92 (fun H locs hP hD hS => ?_)
        refine lv_iload_n hx hb dX5_house_95 rfl (lv_at hl 0 rfl) ?_
        have he : house_e (nI 1).toInt (nI v1).toInt = 7 := by unfold house_e; (try simp only [hTw0, hT1, Int.toNat_natCast]); (repeat' split) <;> omega
        exact fin_i hx hb hr hlk hS hP hD () trivial (by rw [he]; first | done | ((try simp only [hTw0, hT1, Int.toNat_natCast]); first | done | rfl)) (by rw [he]; (try simp only [hTw0, hT1, Int.toNat_natCast]); exact eqW.rf _) dX5_house_96
      · refine lv_aload_n hx hb dX5_house_73 rfl (lv_at hl 0 rfl) ?_
        refine lv_iconst (v := nI 0) hx hb dX5_house_74 rfl ?_
        refine callVI (rest := []) (wn := fun u => ([xO x hm kp tr hi, (x 7, .inl (G.2.1, 7, .inl (tk tl 0)))] ++ (wH G hm σ))) ⟨hx, hb, hml, hown, hts⟩ (c_X5_tell l G H.size x hm kp tr hi tl 0 (by omega)) (cwV 1 hts gX5_house_X5_tell rfl rfl rfl (by decide +kernel) ⟨Nat.le_of_ble_eq_true rfl, Nat.le_of_ble_eq_true rfl⟩) noXB (fun _ _ _ => trivial) hK hP hD hS hAq 4 0 (T := TX5) (N := 7) rfl rfl rfl hl.1 rfl (Nat.le_of_ble_eq_true rfl) dX5_house_75 ⟨Nat.le_of_ble_eq_true rfl, Nat.le_of_ble_eq_true rfl⟩ [0, 1] rfl rfl [x 0, x 7] rfl (fun _ => rfl) (fun _ => rfl) (fun u H locs hok hP hD hS => ?_)
        have he : house_e (nI 1).toInt a1.toInt = 0 := by unfold house_e; (try simp only [hTw0, Int.toNat_natCast]); (repeat' split) <;> omega
        exact fin_i hx hb hr hlk hS hP hD () trivial (by rw [he]; first | done | ((try simp only [hTw0, Int.toNat_natCast]); first | done | rfl)) (by rw [he]; (try simp only [hTw0, Int.toNat_natCast]); exact eqW.rf _) dX5_house_78
    · refine n_tableIn (a := 2) rfl hx hb (off := 96) (tgt := 97) dX5_house_1 (by decide) (by decide) (by decide) (by decide) ?_
      refine lv_iload_n hx hb dX5_house_97 rfl (lv_at hl 2 rfl) ?_
      refine lv_iconst (v := nI 0) hx hb dX5_house_98 rfl ?_
      refine lv_ldc (v := 99999999) hx hb hown (hts _ (List.mem_of_getElem? (i := 4) rfl)) dX5_house_99 ?_
      refine n_top (y := nI 99999999) rfl ?_
      refine callSI (rest := []) (wn := fun u => ([xO x hm kp tr hi, (x 7, .inl (G.2.1, 7, .inl tl))] ++ (wH G hm σ))) ⟨hx, hb, hml, hown, hts⟩ (c_X5_isWithin l G H.size a1 (nI 0) (nI 99999999)) (va_cwS 3 hts gX5_house_X5_isWithin rfl rfl rfl (by decide +kernel) ⟨Nat.le_of_ble_eq_true rfl, Nat.le_of_ble_eq_true rfl⟩) noXB (fun _ _ _ => trivial) hK hP hD hS hAq rfl hl.1 rfl (Nat.le_of_ble_eq_true rfl) dX5_house_101 ⟨Nat.le_of_ble_eq_true rfl, Nat.le_of_ble_eq_true rfl⟩ [] rfl rfl [] rfl (fun _ => rfl) (fun _ => rfl) (fun u H locs hok hP hD hS => ?_)
      refine n_top (y := zI ((0 : Int) ≤ a1.toInt ∧ a1.toInt ≤ 99999999)) (zI_c (by rw [nI_T (show 0 < 2147483648 by decide), nI_T (show 99999999 < 2147483648 by decide)]; exact Iff.rfl)) ?_
      refine z_if_ne hx hb (tgt := 113) dX5_house_104 (by decide) (fun c_3 => ?_) (fun c_3 => ?_)
      · obtain ⟨v1, hv1, rfl⟩ := nI_of_rg (n := 99999999) (x := a1) ⟨by omega, by omega⟩
        have hT1 := nI_T (a := v1) (by omega)
        refine lv_aload_n hx hb dX5_house_113 rfl (lv_at hl 0 rfl) ?_
        refine n_get (C := RX5) (T := TX5) (N := 7) hx hb hts (fun _ h => List.mem_cons_of_mem _ (List.mem_append_left _ (List.mem_append_right _ h))) hown hK hP 0 rfl rfl 0 (by decide) (List.mem_of_getElem? (i := 1) rfl) rfl (.ref (hm 0)) rfl dX5_house_114 ?_
        refine n_get (C := RX0) (T := TX0) (N := 11) hx hb hts (fun _ h => List.mem_cons_of_mem _ (List.mem_append_right _ h)) hown hK hP 2 rfl rfl 3 (by decide) (List.mem_of_getElem? (i := 5) rfl) rfl (.int (nI (σ 3))) rfl dX5_house_117 ?_
        refine lv_istore_n (lv' := [(3, .int (nI (σ 3))), (0, .ref (x 0)), (1, .int (nI 2)), (2, .int (nI v1))]) hx hb dX5_house_120 rfl hl (by decide) rfl (fun ls hl => ?_)
        refine lv_aload_n hx hb dX5_house_121 rfl (lv_at hl 1 rfl) ?_
        refine n_get (C := RX5) (T := TX5) (N := 7) hx hb hts (fun _ h => List.mem_cons_of_mem _ (List.mem_append_left _ (List.mem_append_right _ h))) hown hK hP 0 rfl rfl 0 (by decide) (List.mem_of_getElem? (i := 1) rfl) rfl (.ref (hm 0)) rfl dX5_house_122 ?_
        refine lv_iload_n hx hb dX5_house_125 rfl (lv_at hl 3 rfl) ?_
        refine n_put (C := RX0) (T := TX0) (N := 11) hx hb hts (fun _ h => List.mem_cons_of_mem _ (List.mem_append_right _ h)) tyX0 tyX0_ok nmX0 hown hK hP hD hS 2 rfl rfl 3 (by decide) (List.mem_of_getElem? (i := 5) rfl) rfl rfl (ty := .int) (v := .int (nI v1)) rfl rfl rfl (Nat.le_of_ble_eq_true rfl) (wn := ([xO x hm kp tr hi, (x 7, .inl (G.2.1, 7, .inl tl))] ++ (wH G hm (un σ 3 v1)))) (congrArg (fun hole_w : va_W => ([xO x hm kp tr hi, (x 7, .inl (G.2.1, 7, .inl tl))] ++ (hole_w))) (wH_f3 G hm σ v1)) dX5_house_126 (fun H locs hP hD hS => ?_)
        refine lv_iload_n hx hb dX5_house_129 rfl (lv_at hl 0 rfl) ?_
        have he : house_e (nI 2).toInt (nI v1).toInt = 7 := by unfold house_e; (try simp only [hTw0, hT1, Int.toNat_natCast]); (repeat' split) <;> omega
        exact fin_i hx hb hr hlk hS hP hD () trivial (by rw [he]; first | done | ((try simp only [hTw0, hT1, Int.toNat_natCast]); first | done | rfl)) (by rw [he]; (try simp only [hTw0, hT1, Int.toNat_natCast]); exact eqW.rf _) dX5_house_130
      · refine lv_aload_n hx hb dX5_house_107 rfl (lv_at hl 0 rfl) ?_
        refine lv_iconst (v := nI 0) hx hb dX5_house_108 rfl ?_
        refine callVI (rest := []) (wn := fun u => ([xO x hm kp tr hi, (x 7, .inl (G.2.1, 7, .inl (tk tl 0)))] ++ (wH G hm σ))) ⟨hx, hb, hml, hown, hts⟩ (c_X5_tell l G H.size x hm kp tr hi tl 0 (by omega)) (cwV 1 hts gX5_house_X5_tell rfl rfl rfl (by decide +kernel) ⟨Nat.le_of_ble_eq_true rfl, Nat.le_of_ble_eq_true rfl⟩) noXB (fun _ _ _ => trivial) hK hP hD hS hAq 4 0 (T := TX5) (N := 7) rfl rfl rfl hl.1 rfl (Nat.le_of_ble_eq_true rfl) dX5_house_109 ⟨Nat.le_of_ble_eq_true rfl, Nat.le_of_ble_eq_true rfl⟩ [0, 1] rfl rfl [x 0, x 7] rfl (fun _ => rfl) (fun _ => rfl) (fun u H locs hok hP hD hS => ?_)
        have he : house_e (nI 2).toInt a1.toInt = 0 := by unfold house_e; (try simp only [hTw0, Int.toNat_natCast]); (repeat' split) <;> omega
        exact fin_i hx hb hr hlk hS hP hD () trivial (by rw [he]; first | done | ((try simp only [hTw0, Int.toNat_natCast]); first | done | rfl)) (by rw [he]; (try simp only [hTw0, Int.toNat_natCast]); exact eqW.rf _) dX5_house_112
  · refine lv_tableOut hx hb (tgt := 131) dX5_house_1 (by omega) (by decide) ?_
    refine lv_aload_n hx hb dX5_house_131 rfl (lv_at hl 0 rfl) ?_
    refine lv_iconst (v := nI 0) hx hb dX5_house_132 rfl ?_
    refine callVI (rest := []) (wn := fun u => ([xO x hm kp tr hi, (x 7, .inl (G.2.1, 7, .inl (tk tl 0)))] ++ (wH G hm σ))) ⟨hx, hb, hml, hown, hts⟩ (c_X5_tell l G H.size x hm kp tr hi tl 0 (by omega)) (cwV 1 hts gX5_house_X5_tell rfl rfl rfl (by decide +kernel) ⟨Nat.le_of_ble_eq_true rfl, Nat.le_of_ble_eq_true rfl⟩) noXB (fun _ _ _ => trivial) hK hP hD hS hAq 4 0 (T := TX5) (N := 7) rfl rfl rfl hl.1 rfl (Nat.le_of_ble_eq_true rfl) dX5_house_133 ⟨Nat.le_of_ble_eq_true rfl, Nat.le_of_ble_eq_true rfl⟩ [0, 1] rfl rfl [x 0, x 7] rfl (fun _ => rfl) (fun _ => rfl) (fun u H locs hok hP hD hS => ?_)
    have he : house_e a0.toInt a1.toInt = 0 := by unfold house_e; (try simp only [Int.toNat_natCast]); (repeat' split) <;> omega
    exact fin_i hx hb hr hlk hS hP hD () trivial (by rw [he]; first | done | ((try simp only [Int.toNat_natCast]); first | done | rfl)) (by rw [he]; (try simp only [Int.toNat_natCast]); exact eqW.rf _) dX5_house_136
set_option maxHeartbeats 400000 in
set_option maxRecDepth 100000 in
theorem c_X6_house (l : Launch) (G : GT) (sz : Nat) (b : Nat → Nat) (ζ : Nat → Nat) (vv : Int64) (tl : Nat → Int32) (σ : Sg) (a0 a1 : Int32) (hI : Inv σ) (hd0 : σ 0 ≤ 9999) : MI (S := Unit) l G noX yX6_house wsX6_house ({ frames := 1, cells := 0, slots := 0, locals := 22 } : Room) [.ref (b 0), .int a0, .int a1] ([mO b ζ vv, (b 4, .inl (G.2.1, 7, .inl tl)), (b 1, .inl (G.2.1, 46, .inl (nF σ)))]) sz (fun _ => True) (fun _ => rs (house_e a0.toInt a1.toInt) (nI (σ (1 + a0.toInt.toNat)))) (fun _ => [mO b ζ vv, (b 4, .inl (G.2.1, 7, .inl (ts tl (house_e a0.toInt a1.toInt)))), (b 1, .inl (G.2.1, 46, .inl (nF (hs (house_e a0.toInt a1.toInt) (un σ (1 + a0.toInt.toNat) a1.toInt.toNat) σ))))]) := by
  refine MI_enter (cc := cX6_house) (maxL := 4) (ret := (some .int)) (by decide) rfl (Nat.le_of_ble_eq_true rfl) ?_
  intro p e s m below meth c A ls H hx hb hr hlk hml hown hts hAq hS hP hK hD hX hl hnm
  have hown : s.vm.findClass RX6 = some m.cls := hown
  have hl : lv_has ls 4 [(0, .ref (b 0)), (1, .int a0), (2, .int a1)] := hl
  obtain ⟨⟨i1, i2, i3, i4, i5⟩, ip⟩ := id hI
  refine lv_iload_n hx hb dX6_house_0 rfl (lv_at hl 1 rfl) ?_
  refine lv_iconst (v := nI 0) hx hb dX6_house_1 rfl ?_
  refine lv_iconst (v := nI 2) hx hb dX6_house_2 rfl ?_
  refine callSI (rest := []) (wn := fun u => [mO b ζ vv, (b 4, .inl (G.2.1, 7, .inl tl)), (b 1, .inl (G.2.1, 46, .inl (nF σ)))]) ⟨hx, hb, hml, hown, hts⟩ (c_X6_in1 l G H.size a0 (nI 0) (nI 2)) (va_cwS 3 hts gX6_house_X6_in1 rfl rfl rfl (by decide +kernel) ⟨Nat.le_of_ble_eq_true rfl, Nat.le_of_ble_eq_true rfl⟩) noXB (fun _ _ _ => trivial) hK hP hD hS hAq rfl hl.1 rfl (Nat.le_of_ble_eq_true rfl) dX6_house_3 ⟨Nat.le_of_ble_eq_true rfl, Nat.le_of_ble_eq_true rfl⟩ [] rfl rfl [] rfl (fun _ => rfl) (fun _ => rfl) (fun u H locs hok hP hD hS => ?_)
  refine n_top (y := zI ((0 : Int) ≤ a0.toInt ∧ a0.toInt ≤ 2)) (zI_c (by rw [nI_T (show 0 < 2147483648 by decide), nI_T (show 2 < 2147483648 by decide)]; exact Iff.rfl)) ?_
  refine z_if_eq hx hb (tgt := 39) dX6_house_6 (by decide) (fun c_1 => ?_) (fun c_1 => ?_)
  · refine lv_aload_n hx hb dX6_house_39 rfl (lv_at hl 0 rfl) ?_
    refine lv_iconst (v := nI 0) hx hb dX6_house_40 rfl ?_
    refine callVI (rest := []) (wn := fun u => [mO b ζ vv, (b 4, .inl (G.2.1, 7, .inl (tk tl 0))), (b 1, .inl (G.2.1, 46, .inl (nF σ)))]) ⟨hx, hb, hml, hown, hts⟩ (c_X6_no l G H.size b ζ vv tl 0 (by omega)) (cwV 1 hts gX6_house_X6_no rfl rfl rfl (by decide +kernel) ⟨Nat.le_of_ble_eq_true rfl, Nat.le_of_ble_eq_true rfl⟩) noXB (fun _ _ _ => trivial) hK hP hD hS hAq 5 0 (T := TX6) (N := 18) rfl rfl rfl hl.1 rfl (Nat.le_of_ble_eq_true rfl) dX6_house_41 ⟨Nat.le_of_ble_eq_true rfl, Nat.le_of_ble_eq_true rfl⟩ [0, 1] rfl rfl [b 0, b 4] rfl (fun _ => rfl) (fun _ => rfl) (fun u H locs hok hP hD hS => ?_)
    have he : house_e a0.toInt a1.toInt = 0 := by unfold house_e; (try simp only [Int.toNat_natCast]); (repeat' split) <;> omega
    exact fin_i hx hb hr hlk hS hP hD () trivial (by rw [he]; first | done | ((try simp only [Int.toNat_natCast]); first | done | rfl)) (by rw [he]; (try simp only [Int.toNat_natCast]); exact eqW.rf _) dX6_house_44
  · obtain ⟨w0, hw0, rfl⟩ := nI_of_rg (n := 2) (x := a0) ⟨by omega, by omega⟩
    have hT0 := nI_T (a := w0) (by omega)
    refine lv_iload_n hx hb dX6_house_9 rfl (lv_at hl 2 rfl) ?_
    refine lv_iconst (v := nI 0) hx hb dX6_house_10 rfl ?_
    refine lv_iload_n hx hb dX6_house_11 rfl (lv_at hl 1 rfl) ?_
    refine n_if_ne hx hb (by omega) (tgt := 21) dX6_house_12 (by decide) (fun c_2 => ?_) (fun c_2 => ?_)
    · refine lv_iload_n hx hb dX6_house_21 rfl (lv_at hl 1 rfl) ?_
      refine lv_iconst (v := nI 1) hx hb dX6_house_22 rfl ?_
      refine n_icmp_ne hx hb (by omega) (by omega) (tgt := 31) dX6_house_23 (by decide) (fun c_3 => ?_) (fun c_3 => ?_)
      · refine lv_ldc (v := 99999999) hx hb hown (hts _ (List.mem_of_getElem? (i := 1) rfl)) dX6_house_31 ?_
        refine n_top (y := nI 99999999) rfl ?_
        refine callSI (rest := []) (wn := fun u => [mO b ζ vv, (b 4, .inl (G.2.1, 7, .inl tl)), (b 1, .inl (G.2.1, 46, .inl (nF σ)))]) ⟨hx, hb, hml, hown, hts⟩ (c_X6_in1 l G H.size a1 (nI 0) (nI 99999999)) (va_cwS 3 hts gX6_house_X6_in1 rfl rfl rfl (by decide +kernel) ⟨Nat.le_of_ble_eq_true rfl, Nat.le_of_ble_eq_true rfl⟩) noXB (fun _ _ _ => trivial) hK hP hD hS hAq rfl hl.1 rfl (Nat.le_of_ble_eq_true rfl) dX6_house_33 ⟨Nat.le_of_ble_eq_true rfl, Nat.le_of_ble_eq_true rfl⟩ [] rfl rfl [] rfl (fun _ => rfl) (fun _ => rfl) (fun u H locs hok hP hD hS => ?_)
        refine n_top (y := zI ((0 : Int) ≤ a1.toInt ∧ a1.toInt ≤ 99999999)) (zI_c (by rw [nI_T (show 0 < 2147483648 by decide), nI_T (show 99999999 < 2147483648 by decide)]; exact Iff.rfl)) ?_
        refine z_if_ne hx hb (tgt := 45) dX6_house_36 (by decide) (fun c_4 => ?_) (fun c_4 => ?_)
        · obtain ⟨v1, hv1, rfl⟩ := nI_of_rg (n := 99999999) (x := a1) ⟨by omega, by omega⟩
          have hT1 := nI_T (a := v1) (by omega)
          refine lv_aload_n hx hb dX6_house_45 rfl (lv_at hl 0 rfl) ?_
          refine n_get (C := RX6) (T := TX6) (N := 18) hx hb hts (fun _ h => List.mem_cons_of_mem _ (List.mem_append_right _ h)) hown hK hP 0 rfl rfl 0 (by decide) (List.mem_of_getElem? (i := 2) rfl) rfl (.ref (b 1)) rfl dX6_house_46 ?_
          refine lv_iconst (v := nI 1) hx hb dX6_house_49 rfl ?_
          refine lv_iload_n hx hb dX6_house_50 rfl (lv_at hl 1 rfl) ?_
          refine n_iadd hx hb dX6_house_51 ?_
          refine n_iald hx hb hK hP 2 (v := (nI (σ (1 + w0)))) rfl (by omega) (by omega) rfl dX6_house_52 ?_
          refine lv_istore_n (lv' := [(3, .int (nI (σ (1 + w0)))), (0, .ref (b 0)), (1, .int (nI w0)), (2, .int (nI v1))]) hx hb dX6_house_53 rfl hl (by decide) rfl (fun ls hl => ?_)
          refine lv_aload_n hx hb dX6_house_54 rfl (lv_at hl 1 rfl) ?_
          refine n_get (C := RX6) (T := TX6) (N := 18) hx hb hts (fun _ h => List.mem_cons_of_mem _ (List.mem_append_right _ h)) hown hK hP 0 rfl rfl 0 (by decide) (List.mem_of_getElem? (i := 2) rfl) rfl (.ref (b 1)) rfl dX6_house_55 ?_
          refine lv_iconst (v := nI 1) hx hb dX6_house_58 rfl ?_
          refine lv_iload_n hx hb dX6_house_59 rfl (lv_at hl 2 rfl) ?_
          refine n_iadd hx hb dX6_house_60 ?_
          refine lv_iload_n hx hb dX6_house_61 rfl (lv_at hl 3 rfl) ?_
          refine n_iast hx hb hK hP hD hS 2 (wn := [mO b ζ vv, (b 4, .inl (G.2.1, 7, .inl tl)), (b 1, .inl (G.2.1, 46, .inl (nF (un σ (1 + w0) v1))))]) rfl (by omega) (by omega) (by rw [nF_un]; rfl) dX6_house_62 (fun H locs hP hD hS => ?_)
          refine lv_iload_n hx hb dX6_house_63 rfl (lv_at hl 0 rfl) ?_
          have he : house_e (nI w0).toInt (nI v1).toInt = 7 := by unfold house_e; (try simp only [hT0, hT1, Int.toNat_natCast]); (repeat' split) <;> omega
          exact fin_i hx hb hr hlk hS hP hD () trivial (by rw [he]; first | done | ((try simp only [hT0, hT1, Int.toNat_natCast]); first | done | rfl)) (by rw [he]; (try simp only [hT0, hT1, Int.toNat_natCast]); exact eqW.rf _) dX6_house_64
        · refine lv_aload_n hx hb dX6_house_39 rfl (lv_at hl 0 rfl) ?_
          refine lv_iconst (v := nI 0) hx hb dX6_house_40 rfl ?_
          refine callVI (rest := []) (wn := fun u => [mO b ζ vv, (b 4, .inl (G.2.1, 7, .inl (tk tl 0))), (b 1, .inl (G.2.1, 46, .inl (nF σ)))]) ⟨hx, hb, hml, hown, hts⟩ (c_X6_no l G H.size b ζ vv tl 0 (by omega)) (cwV 1 hts gX6_house_X6_no rfl rfl rfl (by decide +kernel) ⟨Nat.le_of_ble_eq_true rfl, Nat.le_of_ble_eq_true rfl⟩) noXB (fun _ _ _ => trivial) hK hP hD hS hAq 5 0 (T := TX6) (N := 18) rfl rfl rfl hl.1 rfl (Nat.le_of_ble_eq_true rfl) dX6_house_41 ⟨Nat.le_of_ble_eq_true rfl, Nat.le_of_ble_eq_true rfl⟩ [0, 1] rfl rfl [b 0, b 4] rfl (fun _ => rfl) (fun _ => rfl) (fun u H locs hok hP hD hS => ?_)
          have he : house_e (nI w0).toInt a1.toInt = 0 := by unfold house_e; (try simp only [hT0, Int.toNat_natCast]); (repeat' split) <;> omega
          exact fin_i hx hb hr hlk hS hP hD () trivial (by rw [he]; first | done | ((try simp only [hT0, Int.toNat_natCast]); first | done | rfl)) (by rw [he]; (try simp only [hT0, Int.toNat_natCast]); exact eqW.rf _) dX6_house_44
      · refine lv_bipush (v := nI 99) hx hb dX6_house_26 rfl ?_
        refine lv_goto (tgt := 33) hx hb dX6_house_28 (by decide) ?_
        refine callSI (rest := []) (wn := fun u => [mO b ζ vv, (b 4, .inl (G.2.1, 7, .inl tl)), (b 1, .inl (G.2.1, 46, .inl (nF σ)))]) ⟨hx, hb, hml, hown, hts⟩ (c_X6_in1 l G H.size a1 (nI 0) (nI 99)) (va_cwS 3 hts gX6_house_X6_in1 rfl rfl rfl (by decide +kernel) ⟨Nat.le_of_ble_eq_true rfl, Nat.le_of_ble_eq_true rfl⟩) noXB (fun _ _ _ => trivial) hK hP hD hS hAq rfl hl.1 rfl (Nat.le_of_ble_eq_true rfl) dX6_house_33 ⟨Nat.le_of_ble_eq_true rfl, Nat.le_of_ble_eq_true rfl⟩ [] rfl rfl [] rfl (fun _ => rfl) (fun _ => rfl) (fun u H locs hok hP hD hS => ?_)
        refine n_top (y := zI ((0 : Int) ≤ a1.toInt ∧ a1.toInt ≤ 99)) (zI_c (by rw [nI_T (show 0 < 2147483648 by decide), nI_T (show 99 < 2147483648 by decide)]; exact Iff.rfl)) ?_
        refine z_if_ne hx hb (tgt := 45) dX6_house_36 (by decide) (fun c_5 => ?_) (fun c_5 => ?_)
        · obtain ⟨v1, hv1, rfl⟩ := nI_of_rg (n := 99999999) (x := a1) ⟨by omega, by omega⟩
          have hT1 := nI_T (a := v1) (by omega)
          refine lv_aload_n hx hb dX6_house_45 rfl (lv_at hl 0 rfl) ?_
          refine n_get (C := RX6) (T := TX6) (N := 18) hx hb hts (fun _ h => List.mem_cons_of_mem _ (List.mem_append_right _ h)) hown hK hP 0 rfl rfl 0 (by decide) (List.mem_of_getElem? (i := 2) rfl) rfl (.ref (b 1)) rfl dX6_house_46 ?_
          refine lv_iconst (v := nI 1) hx hb dX6_house_49 rfl ?_
          refine lv_iload_n hx hb dX6_house_50 rfl (lv_at hl 1 rfl) ?_
          refine n_iadd hx hb dX6_house_51 ?_
          refine n_iald hx hb hK hP 2 (v := (nI (σ (1 + w0)))) rfl (by omega) (by omega) rfl dX6_house_52 ?_
          refine lv_istore_n (lv' := [(3, .int (nI (σ (1 + w0)))), (0, .ref (b 0)), (1, .int (nI w0)), (2, .int (nI v1))]) hx hb dX6_house_53 rfl hl (by decide) rfl (fun ls hl => ?_)
          refine lv_aload_n hx hb dX6_house_54 rfl (lv_at hl 1 rfl) ?_
          refine n_get (C := RX6) (T := TX6) (N := 18) hx hb hts (fun _ h => List.mem_cons_of_mem _ (List.mem_append_right _ h)) hown hK hP 0 rfl rfl 0 (by decide) (List.mem_of_getElem? (i := 2) rfl) rfl (.ref (b 1)) rfl dX6_house_55 ?_
          refine lv_iconst (v := nI 1) hx hb dX6_house_58 rfl ?_
          refine lv_iload_n hx hb dX6_house_59 rfl (lv_at hl 2 rfl) ?_
          refine n_iadd hx hb dX6_house_60 ?_
          refine lv_iload_n hx hb dX6_house_61 rfl (lv_at hl 3 rfl) ?_
          refine n_iast hx hb hK hP hD hS 2 (wn := [mO b ζ vv, (b 4, .inl (G.2.1, 7, .inl tl)), (b 1, .inl (G.2.1, 46, .inl (nF (un σ (1 + w0) v1))))]) rfl (by omega) (by omega) (by rw [nF_un]; rfl) dX6_house_62 (fun H locs hP hD hS => ?_)
          refine lv_iload_n hx hb dX6_house_63 rfl (lv_at hl 0 rfl) ?_
          have he : house_e (nI w0).toInt (nI v1).toInt = 7 := by unfold house_e; (try simp only [hT0, hT1, Int.toNat_natCast]); (repeat' split) <;> omega
          exact fin_i hx hb hr hlk hS hP hD () trivial (by rw [he]; first | done | ((try simp only [hT0, hT1, Int.toNat_natCast]); first | done | rfl)) (by rw [he]; (try simp only [hT0, hT1, Int.toNat_natCast]); exact eqW.rf _) dX6_house_64
        · refine lv_aload_n hx hb dX6_house_39 rfl (lv_at hl 0 rfl) ?_
          refine lv_iconst (v := nI 0) hx hb dX6_house_40 rfl ?_
          refine callVI (rest := []) (wn := fun u => [mO b ζ vv, (b 4, .inl (G.2.1, 7, .inl (tk tl 0))), (b 1, .inl (G.2.1, 46, .inl (nF σ)))]) ⟨hx, hb, hml, hown, hts⟩ (c_X6_no l G H.size b ζ vv tl 0 (by omega)) (cwV 1 hts gX6_house_X6_no rfl rfl rfl (by decide +kernel) ⟨Nat.le_of_ble_eq_true rfl, Nat.le_of_ble_eq_true rfl⟩) noXB (fun _ _ _ => trivial) hK hP hD hS hAq 5 0 (T := TX6) (N := 18) rfl rfl rfl hl.1 rfl (Nat.le_of_ble_eq_true rfl) dX6_house_41 ⟨Nat.le_of_ble_eq_true rfl, Nat.le_of_ble_eq_true rfl⟩ [0, 1] rfl rfl [b 0, b 4] rfl (fun _ => rfl) (fun _ => rfl) (fun u H locs hok hP hD hS => ?_)
          have he : house_e (nI w0).toInt a1.toInt = 0 := by unfold house_e; (try simp only [hT0, Int.toNat_natCast]); (repeat' split) <;> omega
          exact fin_i hx hb hr hlk hS hP hD () trivial (by rw [he]; first | done | ((try simp only [hT0, Int.toNat_natCast]); first | done | rfl)) (by rw [he]; (try simp only [hT0, Int.toNat_natCast]); exact eqW.rf _) dX6_house_44
    · refine lv_sipush (v := nI 999) hx hb dX6_house_15 rfl ?_
      refine lv_goto (tgt := 33) hx hb dX6_house_18 (by decide) ?_
      refine callSI (rest := []) (wn := fun u => [mO b ζ vv, (b 4, .inl (G.2.1, 7, .inl tl)), (b 1, .inl (G.2.1, 46, .inl (nF σ)))]) ⟨hx, hb, hml, hown, hts⟩ (c_X6_in1 l G H.size a1 (nI 0) (nI 999)) (va_cwS 3 hts gX6_house_X6_in1 rfl rfl rfl (by decide +kernel) ⟨Nat.le_of_ble_eq_true rfl, Nat.le_of_ble_eq_true rfl⟩) noXB (fun _ _ _ => trivial) hK hP hD hS hAq rfl hl.1 rfl (Nat.le_of_ble_eq_true rfl) dX6_house_33 ⟨Nat.le_of_ble_eq_true rfl, Nat.le_of_ble_eq_true rfl⟩ [] rfl rfl [] rfl (fun _ => rfl) (fun _ => rfl) (fun u H locs hok hP hD hS => ?_)
      refine n_top (y := zI ((0 : Int) ≤ a1.toInt ∧ a1.toInt ≤ 999)) (zI_c (by rw [nI_T (show 0 < 2147483648 by decide), nI_T (show 999 < 2147483648 by decide)]; exact Iff.rfl)) ?_
      refine z_if_ne hx hb (tgt := 45) dX6_house_36 (by decide) (fun c_6 => ?_) (fun c_6 => ?_)
      · obtain ⟨v1, hv1, rfl⟩ := nI_of_rg (n := 99999999) (x := a1) ⟨by omega, by omega⟩
        have hT1 := nI_T (a := v1) (by omega)
        refine lv_aload_n hx hb dX6_house_45 rfl (lv_at hl 0 rfl) ?_
        refine n_get (C := RX6) (T := TX6) (N := 18) hx hb hts (fun _ h => List.mem_cons_of_mem _ (List.mem_append_right _ h)) hown hK hP 0 rfl rfl 0 (by decide) (List.mem_of_getElem? (i := 2) rfl) rfl (.ref (b 1)) rfl dX6_house_46 ?_
        refine lv_iconst (v := nI 1) hx hb dX6_house_49 rfl ?_
        refine lv_iload_n hx hb dX6_house_50 rfl (lv_at hl 1 rfl) ?_
        refine n_iadd hx hb dX6_house_51 ?_
        refine n_iald hx hb hK hP 2 (v := (nI (σ (1 + w0)))) rfl (by omega) (by omega) rfl dX6_house_52 ?_
        refine lv_istore_n (lv' := [(3, .int (nI (σ (1 + w0)))), (0, .ref (b 0)), (1, .int (nI w0)), (2, .int (nI v1))]) hx hb dX6_house_53 rfl hl (by decide) rfl (fun ls hl => ?_)
        refine lv_aload_n hx hb dX6_house_54 rfl (lv_at hl 1 rfl) ?_
        refine n_get (C := RX6) (T := TX6) (N := 18) hx hb hts (fun _ h => List.mem_cons_of_mem _ (List.mem_append_right _ h)) hown hK hP 0 rfl rfl 0 (by decide) (List.mem_of_getElem? (i := 2) rfl) rfl (.ref (b 1)) rfl dX6_house_55 ?_
        refine lv_iconst (v := nI 1) hx hb dX6_house_58 rfl ?_
        refine lv_iload_n hx hb dX6_house_59 rfl (lv_at hl 2 rfl) ?_
        refine n_iadd hx hb dX6_house_60 ?_
        refine lv_iload_n hx hb dX6_house_61 rfl (lv_at hl 3 rfl) ?_
        refine n_iast hx hb hK hP hD hS 2 (wn := [mO b ζ vv, (b 4, .inl (G.2.1, 7, .inl tl)), (b 1, .inl (G.2.1, 46, .inl (nF (un σ (1 + w0) v1))))]) rfl (by omega) (by omega) (by rw [nF_un]; rfl) dX6_house_62 (fun H locs hP hD hS => ?_)
        refine lv_iload_n hx hb dX6_house_63 rfl (lv_at hl 0 rfl) ?_
        have he : house_e (nI w0).toInt (nI v1).toInt = 7 := by unfold house_e; (try simp only [hT0, hT1, Int.toNat_natCast]); (repeat' split) <;> omega
        exact fin_i hx hb hr hlk hS hP hD () trivial (by rw [he]; first | done | ((try simp only [hT0, hT1, Int.toNat_natCast]); first | done | rfl)) (by rw [he]; (try simp only [hT0, hT1, Int.toNat_natCast]); exact eqW.rf _) dX6_house_64
      · refine lv_aload_n hx hb dX6_house_39 rfl (lv_at hl 0 rfl) ?_
        refine lv_iconst (v := nI 0) hx hb dX6_house_40 rfl ?_
        refine callVI (rest := []) (wn := fun u => [mO b ζ vv, (b 4, .inl (G.2.1, 7, .inl (tk tl 0))), (b 1, .inl (G.2.1, 46, .inl (nF σ)))]) ⟨hx, hb, hml, hown, hts⟩ (c_X6_no l G H.size b ζ vv tl 0 (by omega)) (cwV 1 hts gX6_house_X6_no rfl rfl rfl (by decide +kernel) ⟨Nat.le_of_ble_eq_true rfl, Nat.le_of_ble_eq_true rfl⟩) noXB (fun _ _ _ => trivial) hK hP hD hS hAq 5 0 (T := TX6) (N := 18) rfl rfl rfl hl.1 rfl (Nat.le_of_ble_eq_true rfl) dX6_house_41 ⟨Nat.le_of_ble_eq_true rfl, Nat.le_of_ble_eq_true rfl⟩ [0, 1] rfl rfl [b 0, b 4] rfl (fun _ => rfl) (fun _ => rfl) (fun u H locs hok hP hD hS => ?_)
        have he : house_e (nI w0).toInt a1.toInt = 0 := by unfold house_e; (try simp only [hT0, Int.toNat_natCast]); (repeat' split) <;> omega
        exact fin_i hx hb hr hlk hS hP hD () trivial (by rw [he]; first | done | ((try simp only [hT0, Int.toNat_natCast]); first | done | rfl)) (by rw [he]; (try simp only [hT0, Int.toNat_natCast]); exact eqW.rf _) dX6_house_44
set_option maxHeartbeats 400000 in
set_option maxRecDepth 100000 in
theorem c_X5_now (l : Launch) (G : GT) (sz : Nat) (x hm kp tr : Nat → Nat) (hi : Nat) (tl : Nat → Int32) (σ : Sg) (a0 : Int32) (hI : Inv σ) (hd0 : σ 0 ≤ 9999) : MI (S := Unit) l G noX yX5_now wsX5_now ({ frames := 2, cells := 0, slots := 0, locals := 43 } : Room) [.ref (x 0), .int a0] (([xO x hm kp tr hi, (x 7, .inl (G.2.1, 7, .inl tl))] ++ (wH G hm σ))) sz (fun _ => True) (fun _ => rs (now_e a0.toInt) (nI (now_v σ a0.toInt.toNat))) (fun _ => ([xO x hm kp tr hi, (x 7, .inl (G.2.1, 7, .inl (ts tl (now_e a0.toInt))))] ++ (wH G hm σ))) := by
  refine MI_enter (cc := cX5_now) (maxL := 2) (ret := (some .int)) (by decide) rfl (Nat.le_of_ble_eq_true rfl) ?_
  intro p e s m below meth c A ls H hx hb hr hlk hml hown hts hAq hS hP hK hD hX hl hnm
  have hown : s.vm.findClass RX5 = some m.cls := hown
  have hl : lv_has ls 2 [(0, .ref (x 0)), (1, .int a0)] := hl
  obtain ⟨⟨i1, i2, i3, i4, i5⟩, ip⟩ := id hI
  refine lv_iload_n hx hb dX5_now_0 rfl (lv_at hl 1 rfl) ?_
  by_cases hsr : (0 : Int) ≤ a0.toInt ∧ a0.toInt ≤ 6
  · obtain ⟨w0, hw0, rfl⟩ := nI_of_rg (n := 6) (x := a0) ⟨by omega, by omega⟩
    have hTw0 := nI_T (a := w0) (by omega)
    rcases (show w0 = 0 ∨ w0 = 1 ∨ w0 = 2 ∨ w0 = 3 ∨ w0 = 4 ∨ w0 = 5 ∨ w0 = 6 by omega) with rfl | rfl | rfl | rfl | rfl | rfl | rfl
    · refine n_tableIn (a := 0) rfl hx hb (off := 43) (tgt := 44) dX5_now_1 (by decide) (by decide) (by decide) (by decide) ?_
      refine lv_aload_n hx hb dX5_now_44 rfl (lv_at hl 0 rfl) ?_
      refine n_get (C := RX5) (T := TX5) (N := 7) hx hb hts (fun _ h => List.mem_cons_of_mem _ (List.mem_append_left _ (List.mem_append_right _ h))) hown hK hP 0 rfl rfl 0 (by decide) (List.mem_of_getElem? (i := 1) rfl) rfl (.ref (hm 0)) rfl dX5_now_45 ?_
      refine n_get (C := RX0) (T := TX0) (N := 11) hx hb hts (fun _ h => List.mem_cons_of_mem _ (List.mem_append_right _ h)) hown hK hP 2 rfl rfl 0 (by decide) (List.mem_of_getElem? (i := 2) rfl) rfl (.int (nI (σ 0))) rfl dX5_now_48 ?_
      have he : now_e (nI 0).toInt = 7 := by unfold now_e; (try simp only [hTw0, Int.toNat_natCast]); (repeat' split) <;> omega
      exact fin_i hx hb hr hlk hS hP hD () trivial (by rw [he]; first | done | ((try simp only [hTw0, Int.toNat_natCast]); first | done | rfl)) (by rw [he]; (try simp only [hTw0, Int.toNat_natCast]); exact eqW.rf _) dX5_now_51
    · refine n_tableIn (a := 1) rfl hx hb (off := 51) (tgt := 52) dX5_now_1 (by decide) (by decide) (by decide) (by decide) ?_
      refine lv_aload_n hx hb dX5_now_52 rfl (lv_at hl 0 rfl) ?_
      refine n_get (C := RX5) (T := TX5) (N := 7) hx hb hts (fun _ h => List.mem_cons_of_mem _ (List.mem_append_left _ (List.mem_append_right _ h))) hown hK hP 0 rfl rfl 0 (by decide) (List.mem_of_getElem? (i := 1) rfl) rfl (.ref (hm 0)) rfl dX5_now_53 ?_
      refine n_get (C := RX0) (T := TX0) (N := 11) hx hb hts (fun _ h => List.mem_cons_of_mem _ (List.mem_append_right _ h)) hown hK hP 2 rfl rfl 1 (by decide) (List.mem_of_getElem? (i := 3) rfl) rfl (.int (nI (σ 1))) rfl dX5_now_56 ?_
      have he : now_e (nI 1).toInt = 7 := by unfold now_e; (try simp only [hTw0, Int.toNat_natCast]); (repeat' split) <;> omega
      exact fin_i hx hb hr hlk hS hP hD () trivial (by rw [he]; first | done | ((try simp only [hTw0, Int.toNat_natCast]); first | done | rfl)) (by rw [he]; (try simp only [hTw0, Int.toNat_natCast]); exact eqW.rf _) dX5_now_59
    · refine n_tableIn (a := 2) rfl hx hb (off := 59) (tgt := 60) dX5_now_1 (by decide) (by decide) (by decide) (by decide) ?_
      refine lv_aload_n hx hb dX5_now_60 rfl (lv_at hl 0 rfl) ?_
      refine n_get (C := RX5) (T := TX5) (N := 7) hx hb hts (fun _ h => List.mem_cons_of_mem _ (List.mem_append_left _ (List.mem_append_right _ h))) hown hK hP 0 rfl rfl 0 (by decide) (List.mem_of_getElem? (i := 1) rfl) rfl (.ref (hm 0)) rfl dX5_now_61 ?_
      refine n_get (C := RX0) (T := TX0) (N := 11) hx hb hts (fun _ h => List.mem_cons_of_mem _ (List.mem_append_right _ h)) hown hK hP 2 rfl rfl 2 (by decide) (List.mem_of_getElem? (i := 4) rfl) rfl (.int (nI (σ 2))) rfl dX5_now_64 ?_
      have he : now_e (nI 2).toInt = 7 := by unfold now_e; (try simp only [hTw0, Int.toNat_natCast]); (repeat' split) <;> omega
      exact fin_i hx hb hr hlk hS hP hD () trivial (by rw [he]; first | done | ((try simp only [hTw0, Int.toNat_natCast]); first | done | rfl)) (by rw [he]; (try simp only [hTw0, Int.toNat_natCast]); exact eqW.rf _) dX5_now_67
    · refine n_tableIn (a := 3) rfl hx hb (off := 67) (tgt := 68) dX5_now_1 (by decide) (by decide) (by decide) (by decide) ?_
      refine lv_aload_n hx hb dX5_now_68 rfl (lv_at hl 0 rfl) ?_
      refine n_get (C := RX5) (T := TX5) (N := 7) hx hb hts (fun _ h => List.mem_cons_of_mem _ (List.mem_append_left _ (List.mem_append_right _ h))) hown hK hP 0 rfl rfl 0 (by decide) (List.mem_of_getElem? (i := 1) rfl) rfl (.ref (hm 0)) rfl dX5_now_69 ?_
      refine n_get (C := RX0) (T := TX0) (N := 11) hx hb hts (fun _ h => List.mem_cons_of_mem _ (List.mem_append_right _ h)) hown hK hP 2 rfl rfl 3 (by decide) (List.mem_of_getElem? (i := 5) rfl) rfl (.int (nI (σ 3))) rfl dX5_now_72 ?_
      have he : now_e (nI 3).toInt = 7 := by unfold now_e; (try simp only [hTw0, Int.toNat_natCast]); (repeat' split) <;> omega
      exact fin_i hx hb hr hlk hS hP hD () trivial (by rw [he]; first | done | ((try simp only [hTw0, Int.toNat_natCast]); first | done | rfl)) (by rw [he]; (try simp only [hTw0, Int.toNat_natCast]); exact eqW.rf _) dX5_now_75
    · refine n_tableIn (a := 4) rfl hx hb (off := 75) (tgt := 76) dX5_now_1 (by decide) (by decide) (by decide) (by decide) ?_
      refine lv_aload_n hx hb dX5_now_76 rfl (lv_at hl 0 rfl) ?_
      refine n_get (C := RX5) (T := TX5) (N := 7) hx hb hts (fun _ h => List.mem_cons_of_mem _ (List.mem_append_left _ (List.mem_append_right _ h))) hown hK hP 0 rfl rfl 0 (by decide) (List.mem_of_getElem? (i := 1) rfl) rfl (.ref (hm 0)) rfl dX5_now_77 ?_
      refine n_get (C := RX0) (T := TX0) (N := 11) hx hb hts (fun _ h => List.mem_cons_of_mem _ (List.mem_append_right _ h)) hown hK hP 2 rfl rfl 4 (by decide) (List.mem_of_getElem? (i := 6) rfl) rfl (.int (nI (σ 4))) rfl dX5_now_80 ?_
      have he : now_e (nI 4).toInt = 7 := by unfold now_e; (try simp only [hTw0, Int.toNat_natCast]); (repeat' split) <;> omega
      exact fin_i hx hb hr hlk hS hP hD () trivial (by rw [he]; first | done | ((try simp only [hTw0, Int.toNat_natCast]); first | done | rfl)) (by rw [he]; (try simp only [hTw0, Int.toNat_natCast]); exact eqW.rf _) dX5_now_83
    · refine n_tableIn (a := 5) rfl hx hb (off := 83) (tgt := 84) dX5_now_1 (by decide) (by decide) (by decide) (by decide) ?_
      refine lv_aload_n hx hb dX5_now_84 rfl (lv_at hl 0 rfl) ?_
      refine n_get (C := RX5) (T := TX5) (N := 7) hx hb hts (fun _ h => List.mem_cons_of_mem _ (List.mem_append_left _ (List.mem_append_right _ h))) hown hK hP 0 rfl rfl 0 (by decide) (List.mem_of_getElem? (i := 1) rfl) rfl (.ref (hm 0)) rfl dX5_now_85 ?_
      refine callVI (rest := []) (wn := fun u => ([xO x hm kp tr hi, (x 7, .inl (G.2.1, 7, .inl tl))] ++ (wH G hm σ))) ⟨hx, hb, hml, hown, hts⟩ (c_X0_watchedSet l G H.size hm σ hI) (cwV 0 hts gX5_now_X0_watchedSet rfl rfl rfl (by decide +kernel) ⟨Nat.le_of_ble_eq_true rfl, Nat.le_of_ble_eq_true rfl⟩) noXB (fun _ _ _ => trivial) hK hP hD hS hAq 0 0 (T := TX0) (N := 11) rfl rfl rfl hl.1 rfl (Nat.le_of_ble_eq_true rfl) dX5_now_88 ⟨Nat.le_of_ble_eq_true rfl, Nat.le_of_ble_eq_true rfl⟩ [2, 3, 4, 5, 6, 7] rfl rfl [hm 0, hm 1, hm 2, hm 3, hm 4, hm 5] rfl (fun _ => rfl) (fun _ => rfl) (fun u H locs hok hP hD hS => ?_)
      have he : now_e (nI 5).toInt = 7 := by unfold now_e; (try simp only [hTw0, Int.toNat_natCast]); (repeat' split) <;> omega
      exact fin_i hx hb hr hlk hS hP hD () trivial (by rw [he]; first | done | ((try simp only [hTw0, Int.toNat_natCast]); first | done | rfl)) (by rw [he]; (try simp only [hTw0, Int.toNat_natCast]); exact eqW.rf _) dX5_now_91
    · refine n_tableIn (a := 6) rfl hx hb (off := 91) (tgt := 92) dX5_now_1 (by decide) (by decide) (by decide) (by decide) ?_
      refine lv_aload_n hx hb dX5_now_92 rfl (lv_at hl 0 rfl) ?_
      refine n_get (C := RX5) (T := TX5) (N := 7) hx hb hts (fun _ h => List.mem_cons_of_mem _ (List.mem_append_left _ (List.mem_append_right _ h))) hown hK hP 0 rfl rfl 0 (by decide) (List.mem_of_getElem? (i := 1) rfl) rfl (.ref (hm 0)) rfl dX5_now_93 ?_
      refine callVI (rest := []) (wn := fun u => ([xO x hm kp tr hi, (x 7, .inl (G.2.1, 7, .inl tl))] ++ (wH G hm σ))) ⟨hx, hb, hml, hown, hts⟩ (c_X0_brokeTogether l G H.size hm σ hI) (cwV 0 hts gX5_now_X0_brokeTogether rfl rfl rfl (by decide +kernel) ⟨Nat.le_of_ble_eq_true rfl, Nat.le_of_ble_eq_true rfl⟩) noXB (fun _ _ _ => trivial) hK hP hD hS hAq 0 0 (T := TX0) (N := 11) rfl rfl rfl hl.1 rfl (Nat.le_of_ble_eq_true rfl) dX5_now_96 ⟨Nat.le_of_ble_eq_true rfl, Nat.le_of_ble_eq_true rfl⟩ [2, 3, 4, 5, 6, 7] rfl rfl [hm 0, hm 1, hm 2, hm 3, hm 4, hm 5] rfl (fun _ => rfl) (fun _ => rfl) (fun u H locs hok hP hD hS => ?_)
      have he : now_e (nI 6).toInt = 7 := by unfold now_e; (try simp only [hTw0, Int.toNat_natCast]); (repeat' split) <;> omega
      exact fin_i hx hb hr hlk hS hP hD () trivial (by rw [he]; first | done | ((try simp only [hTw0, Int.toNat_natCast]); first | done | rfl)) (by rw [he]; (try simp only [hTw0, Int.toNat_natCast]); exact eqW.rf _) dX5_now_99
  · refine lv_tableOut hx hb (tgt := 100) dX5_now_1 (by omega) (by decide) ?_
    refine lv_aload_n hx hb dX5_now_100 rfl (lv_at hl 0 rfl) ?_
    refine lv_iconst (v := nI 0) hx hb dX5_now_101 rfl ?_
    refine callVI (rest := []) (wn := fun u => ([xO x hm kp tr hi, (x 7, .inl (G.2.1, 7, .inl (tk tl 0)))] ++ (wH G hm σ))) ⟨hx, hb, hml, hown, hts⟩ (c_X5_tell l G H.size x hm kp tr hi tl 0 (by omega)) (cwV 1 hts gX5_now_X5_tell rfl rfl rfl (by decide +kernel) ⟨Nat.le_of_ble_eq_true rfl, Nat.le_of_ble_eq_true rfl⟩) noXB (fun _ _ _ => trivial) hK hP hD hS hAq 4 0 (T := TX5) (N := 7) rfl rfl rfl hl.1 rfl (Nat.le_of_ble_eq_true rfl) dX5_now_102 ⟨Nat.le_of_ble_eq_true rfl, Nat.le_of_ble_eq_true rfl⟩ [0, 1] rfl rfl [x 0, x 7] rfl (fun _ => rfl) (fun _ => rfl) (fun u H locs hok hP hD hS => ?_)
    have he : now_e a0.toInt = 0 := by unfold now_e; (try simp only [Int.toNat_natCast]); (repeat' split) <;> omega
    exact fin_i hx hb hr hlk hS hP hD () trivial (by rw [he]; first | done | ((try simp only [Int.toNat_natCast]); first | done | rfl)) (by rw [he]; (try simp only [Int.toNat_natCast]); exact eqW.rf _) dX5_now_105
set_option maxHeartbeats 400000 in
set_option maxRecDepth 100000 in
theorem c_X6_now (l : Launch) (G : GT) (sz : Nat) (b : Nat → Nat) (ζ : Nat → Nat) (vv : Int64) (tl : Nat → Int32) (σ : Sg) (a0 : Int32) (hI : Inv σ) (hd0 : σ 0 ≤ 9999) : MI (S := Unit) l G noX yX6_now wsX6_now ({ frames := 2, cells := 0, slots := 0, locals := 45 } : Room) [.ref (b 0), .int a0] ([mO b ζ vv, (b 4, .inl (G.2.1, 7, .inl tl)), (b 1, .inl (G.2.1, 46, .inl (nF σ)))]) sz (fun _ => True) (fun _ => rs (now_e a0.toInt) (nI (now_v σ a0.toInt.toNat))) (fun _ => [mO b ζ vv, (b 4, .inl (G.2.1, 7, .inl (ts tl (now_e a0.toInt)))), (b 1, .inl (G.2.1, 46, .inl (nF σ)))]) := by
  refine MI_enter (cc := cX6_now) (maxL := 2) (ret := (some .int)) (by decide) rfl (Nat.le_of_ble_eq_true rfl) ?_
  intro p e s m below meth c A ls H hx hb hr hlk hml hown hts hAq hS hP hK hD hX hl hnm
  have hown : s.vm.findClass RX6 = some m.cls := hown
  have hl : lv_has ls 2 [(0, .ref (b 0)), (1, .int a0)] := hl
  obtain ⟨⟨i1, i2, i3, i4, i5⟩, ip⟩ := id hI
  refine lv_iload_n hx hb dX6_now_0 rfl (lv_at hl 1 rfl) ?_
  refine lv_iconst (v := nI 0) hx hb dX6_now_1 rfl ?_
  refine lv_bipush (v := nI 6) hx hb dX6_now_2 rfl ?_
  refine callSI (rest := []) (wn := fun u => [mO b ζ vv, (b 4, .inl (G.2.1, 7, .inl tl)), (b 1, .inl (G.2.1, 46, .inl (nF σ)))]) ⟨hx, hb, hml, hown, hts⟩ (c_X6_in1 l G H.size a0 (nI 0) (nI 6)) (va_cwS 3 hts gX6_now_X6_in1 rfl rfl rfl (by decide +kernel) ⟨Nat.le_of_ble_eq_true rfl, Nat.le_of_ble_eq_true rfl⟩) noXB (fun _ _ _ => trivial) hK hP hD hS hAq rfl hl.1 rfl (Nat.le_of_ble_eq_true rfl) dX6_now_4 ⟨Nat.le_of_ble_eq_true rfl, Nat.le_of_ble_eq_true rfl⟩ [] rfl rfl [] rfl (fun _ => rfl) (fun _ => rfl) (fun u H locs hok hP hD hS => ?_)
  refine n_top (y := zI ((0 : Int) ≤ a0.toInt ∧ a0.toInt ≤ 6)) (zI_c (by rw [nI_T (show 0 < 2147483648 by decide), nI_T (show 6 < 2147483648 by decide)]; exact Iff.rfl)) ?_
  refine z_if_ne hx hb (tgt := 16) dX6_now_7 (by decide) (fun c_1 => ?_) (fun c_1 => ?_)
  · obtain ⟨w0, hw0, rfl⟩ := nI_of_rg (n := 6) (x := a0) ⟨by omega, by omega⟩
    have hT0 := nI_T (a := w0) (by omega)
    refine lv_iload_n hx hb dX6_now_16 rfl (lv_at hl 1 rfl) ?_
    refine lv_iconst (v := nI 5) hx hb dX6_now_17 rfl ?_
    refine n_icmp_ge hx hb (by omega) (by omega) (tgt := 30) dX6_now_18 (by decide) (fun c_2 => ?_) (fun c_2 => ?_)
    · refine lv_iload_n hx hb dX6_now_30 rfl (lv_at hl 1 rfl) ?_
      refine lv_iconst (v := nI 5) hx hb dX6_now_31 rfl ?_
      refine n_icmp_ne hx hb (by omega) (by omega) (tgt := 42) dX6_now_32 (by decide) (fun c_3 => ?_) (fun c_3 => ?_)
      · refine lv_aload_n hx hb dX6_now_42 rfl (lv_at hl 0 rfl) ?_
        refine lv_iconst (v := nI 4) hx hb dX6_now_43 rfl ?_
        refine callVI (rest := []) (wn := fun u => [mO b ζ vv, (b 4, .inl (G.2.1, 7, .inl tl)), (b 1, .inl (G.2.1, 46, .inl (nF σ)))]) ⟨hx, hb, hml, hown, hts⟩ (c_X6_sumOf l G H.size b ζ vv σ 4 hI (by omega)) (cwV 1 hts gX6_now_X6_sumOf rfl rfl rfl (by decide +kernel) ⟨Nat.le_of_ble_eq_true rfl, Nat.le_of_ble_eq_true rfl⟩) noXB (fun _ _ _ => trivial) hK hP hD hS hAq 5 0 (T := TX6) (N := 18) rfl rfl rfl hl.1 rfl (Nat.le_of_ble_eq_true rfl) dX6_now_44 ⟨Nat.le_of_ble_eq_true rfl, Nat.le_of_ble_eq_true rfl⟩ [0, 2] rfl rfl [b 0, b 1] rfl (fun _ => rfl) (fun _ => rfl) (fun u H locs hok hP hD hS => ?_)
        have he : now_e (nI w0).toInt = 7 := by unfold now_e; (try simp only [hT0, Int.toNat_natCast]); (repeat' split) <;> omega
        exact fin_i hx hb hr hlk hS hP hD () trivial (by rw [he]; (try simp only [hT0, Int.toNat_natCast]); show nI _ = nI (now_v _ _); unfold now_v; refine congrArg nI ?_; (repeat' split) <;> first | rfl | omega) (by rw [he]; (try simp only [hT0, Int.toNat_natCast]); exact eqW.rf _) dX6_now_47
      · refine lv_aload_n hx hb dX6_now_35 rfl (lv_at hl 0 rfl) ?_
        refine callVI (rest := []) (wn := fun u => [mO b ζ vv, (b 4, .inl (G.2.1, 7, .inl tl)), (b 1, .inl (G.2.1, 46, .inl (nF σ)))]) ⟨hx, hb, hml, hown, hts⟩ (c_X6_watchedOnes l G H.size b ζ vv σ hI) (cwV 0 hts gX6_now_X6_watchedOnes rfl rfl rfl (by decide +kernel) ⟨Nat.le_of_ble_eq_true rfl, Nat.le_of_ble_eq_true rfl⟩) noXB (fun _ _ _ => trivial) hK hP hD hS hAq 5 0 (T := TX6) (N := 18) rfl rfl rfl hl.1 rfl (Nat.le_of_ble_eq_true rfl) dX6_now_36 ⟨Nat.le_of_ble_eq_true rfl, Nat.le_of_ble_eq_true rfl⟩ [0, 2] rfl rfl [b 0, b 1] rfl (fun _ => rfl) (fun _ => rfl) (fun u H locs hok hP hD hS => ?_)
        refine lv_goto (tgt := 47) hx hb dX6_now_39 (by decide) ?_
        have he : now_e (nI w0).toInt = 7 := by unfold now_e; (try simp only [hT0, Int.toNat_natCast]); (repeat' split) <;> omega
        exact fin_i hx hb hr hlk hS hP hD () trivial (by rw [he]; (try simp only [hT0, Int.toNat_natCast]); show nI _ = nI (now_v _ _); unfold now_v; refine congrArg nI ?_; (repeat' split) <;> first | rfl | omega) (by rw [he]; (try simp only [hT0, Int.toNat_natCast]); exact eqW.rf _) dX6_now_47
    · refine lv_aload_n hx hb dX6_now_21 rfl (lv_at hl 0 rfl) ?_
      refine n_get (C := RX6) (T := TX6) (N := 18) hx hb hts (fun _ h => List.mem_cons_of_mem _ (List.mem_append_right _ h)) hown hK hP 0 rfl rfl 0 (by decide) (List.mem_of_getElem? (i := 1) rfl) rfl (.ref (b 1)) rfl dX6_now_22 ?_
      refine lv_iload_n hx hb dX6_now_25 rfl (lv_at hl 1 rfl) ?_
      refine n_iald hx hb hK hP 2 (v := (nI (σ w0))) rfl (by omega) (by omega) rfl dX6_now_26 ?_
      refine lv_goto (tgt := 47) hx hb dX6_now_27 (by decide) ?_
      have he : now_e (nI w0).toInt = 7 := by unfold now_e; (try simp only [hT0, Int.toNat_natCast]); (repeat' split) <;> omega
      exact fin_i hx hb hr hlk hS hP hD () trivial (by rw [he]; (try simp only [hT0, Int.toNat_natCast]); show nI _ = nI (now_v _ _); unfold now_v; refine congrArg nI ?_; (repeat' split) <;> first | rfl | omega) (by rw [he]; (try simp only [hT0, Int.toNat_natCast]); exact eqW.rf _) dX6_now_47
  · refine lv_aload_n hx hb dX6_now_10 rfl (lv_at hl 0 rfl) ?_
    refine lv_iconst (v := nI 0) hx hb dX6_now_11 rfl ?_
    refine callVI (rest := []) (wn := fun u => [mO b ζ vv, (b 4, .inl (G.2.1, 7, .inl (tk tl 0))), (b 1, .inl (G.2.1, 46, .inl (nF σ)))]) ⟨hx, hb, hml, hown, hts⟩ (c_X6_no l G H.size b ζ vv tl 0 (by omega)) (cwV 1 hts gX6_now_X6_no rfl rfl rfl (by decide +kernel) ⟨Nat.le_of_ble_eq_true rfl, Nat.le_of_ble_eq_true rfl⟩) noXB (fun _ _ _ => trivial) hK hP hD hS hAq 5 0 (T := TX6) (N := 18) rfl rfl rfl hl.1 rfl (Nat.le_of_ble_eq_true rfl) dX6_now_12 ⟨Nat.le_of_ble_eq_true rfl, Nat.le_of_ble_eq_true rfl⟩ [0, 1] rfl rfl [b 0, b 4] rfl (fun _ => rfl) (fun _ => rfl) (fun u H locs hok hP hD hS => ?_)
    have he : now_e a0.toInt = 0 := by unfold now_e; (try simp only [Int.toNat_natCast]); (repeat' split) <;> omega
    exact fin_i hx hb hr hlk hS hP hD () trivial (by rw [he]; first | done | ((try simp only [Int.toNat_natCast]); first | done | rfl)) (by rw [he]; (try simp only [Int.toNat_natCast]); exact eqW.rf _) dX6_now_15
set_option maxHeartbeats 400000 in
set_option maxRecDepth 100000 in
theorem c_X5_person (l : Launch) (G : GT) (sz : Nat) (x hm kp tr : Nat → Nat) (hi : Nat) (tl : Nat → Int32) (σ : Sg) (a0 : Int32) (hI : Inv σ) (hd0 : σ 0 ≤ 9999) : MI (S := Unit) l G noX yX5_person wsX5_person ({ frames := 2, cells := 0, slots := 0, locals := 43 } : Room) [.ref (x 0), .int a0] (([xO x hm kp tr hi, (x 7, .inl (G.2.1, 7, .inl tl))] ++ (wH G hm σ))) sz (fun _ => True) (fun _ => rs (person_e σ a0.toInt) (nI (σ 5))) (fun _ => ([xO x hm kp tr hi, (x 7, .inl (G.2.1, 7, .inl (ts tl (person_e σ a0.toInt))))] ++ (wH G hm (hs (person_e σ a0.toInt) (addN σ a0.toInt.toNat) σ)))) := by
  refine MI_enter (cc := cX5_person) (maxL := 2) (ret := (some .int)) (by decide) rfl (Nat.le_of_ble_eq_true rfl) ?_
  intro p e s m below meth c A ls H hx hb hr hlk hml hown hts hAq hS hP hK hD hX hl hnm
  have hown : s.vm.findClass RX5 = some m.cls := hown
  have hl : lv_has ls 2 [(0, .ref (x 0)), (1, .int a0)] := hl
  obtain ⟨⟨i1, i2, i3, i4, i5⟩, ip⟩ := id hI
  refine lv_iload_n hx hb dX5_person_0 rfl (lv_at hl 1 rfl) ?_
  refine callSI (rest := []) (wn := fun u => ([xO x hm kp tr hi, (x 7, .inl (G.2.1, 7, .inl tl))] ++ (wH G hm σ))) ⟨hx, hb, hml, hown, hts⟩ (c_X2_isOne l G H.size a0) (va_cwS 1 hts gX5_person_X2_isOne rfl rfl rfl (by decide +kernel) ⟨Nat.le_of_ble_eq_true rfl, Nat.le_of_ble_eq_true rfl⟩) noXB (fun _ _ _ => trivial) hK hP hD hS hAq rfl hl.1 rfl (Nat.le_of_ble_eq_true rfl) dX5_person_1 ⟨Nat.le_of_ble_eq_true rfl, Nat.le_of_ble_eq_true rfl⟩ [] rfl rfl [] rfl (fun _ => rfl) (fun _ => rfl) (fun u H locs hok hP hD hS => ?_)
  refine z_if_ne hx hb (tgt := 13) dX5_person_4 (by decide) (fun c_1 => ?_) (fun c_1 => ?_)
  · obtain ⟨w0, hw0, rfl⟩ := nI_of_rg (n := 5) (x := a0) ⟨by omega, by omega⟩
    have hT0 := nI_T (a := w0) (by omega)
    refine lv_aload_n hx hb dX5_person_13 rfl (lv_at hl 0 rfl) ?_
    refine n_get (C := RX5) (T := TX5) (N := 7) hx hb hts (fun _ h => List.mem_cons_of_mem _ (List.mem_append_left _ (List.mem_append_right _ h))) hown hK hP 0 rfl rfl 0 (by decide) (List.mem_of_getElem? (i := 1) rfl) rfl (.ref (hm 0)) rfl dX5_person_14 ?_
    refine callVI (rest := []) (wn := fun u => ([xO x hm kp tr hi, (x 7, .inl (G.2.1, 7, .inl tl))] ++ (wH G hm σ))) ⟨hx, hb, hml, hown, hts⟩ (c_X0_isFull l G H.size hm σ (by omega)) (cwV 0 hts gX5_person_X0_isFull rfl rfl rfl (by decide +kernel) ⟨Nat.le_of_ble_eq_true rfl, Nat.le_of_ble_eq_true rfl⟩) noXB (fun _ _ _ => trivial) hK hP hD hS hAq 0 0 (T := TX0) (N := 11) rfl rfl rfl hl.1 rfl (Nat.le_of_ble_eq_true rfl) dX5_person_17 ⟨Nat.le_of_ble_eq_true rfl, Nat.le_of_ble_eq_true rfl⟩ [2, 3, 4, 5, 6, 7] rfl rfl [hm 0, hm 1, hm 2, hm 3, hm 4, hm 5] rfl (fun _ => rfl) (fun _ => rfl) (fun u H locs hok hP hD hS => ?_)
    refine z_if_eq hx hb (tgt := 29) dX5_person_20 (by decide) (fun c_2 => ?_) (fun c_2 => ?_)
    · refine lv_aload_n hx hb dX5_person_29 rfl (lv_at hl 0 rfl) ?_
      refine n_get (C := RX5) (T := TX5) (N := 7) hx hb hts (fun _ h => List.mem_cons_of_mem _ (List.mem_append_left _ (List.mem_append_right _ h))) hown hK hP 0 rfl rfl 0 (by decide) (List.mem_of_getElem? (i := 1) rfl) rfl (.ref (hm 0)) rfl dX5_person_30 ?_
      refine lv_iload_n hx hb dX5_person_33 rfl (lv_at hl 1 rfl) ?_
      refine callVI (rest := []) (wn := fun u => ([xO x hm kp tr hi, (x 7, .inl (G.2.1, 7, .inl tl))] ++ (wH G hm (if σ 5 < 8 then addN σ w0 else σ)))) ⟨hx, hb, hml, hown, hts⟩ (c_X0_addOne l G H.size hm σ w0 (by omega)) (cwV 1 hts gX5_person_X0_addOne rfl rfl rfl (by decide +kernel) ⟨Nat.le_of_ble_eq_true rfl, Nat.le_of_ble_eq_true rfl⟩) noXB (fun _ _ _ => trivial) hK hP hD hS hAq 0 0 (T := TX0) (N := 11) rfl rfl rfl hl.1 rfl (Nat.le_of_ble_eq_true rfl) dX5_person_34 ⟨Nat.le_of_ble_eq_true rfl, Nat.le_of_ble_eq_true rfl⟩ [2, 3, 4, 5, 6, 7] rfl rfl [hm 0, hm 1, hm 2, hm 3, hm 4, hm 5] rfl (fun _ => rfl) (fun _ => rfl) (fun u H locs hok hP hD hS => ?_)
      have he : person_e σ (nI w0).toInt = 7 := by unfold person_e; (try simp only [hT0, Int.toNat_natCast]); (repeat' split) <;> omega
      exact fin_i hx hb hr hlk hS hP hD () trivial (by rw [he, if_pos (by omega)]; rfl) (by rw [he, if_pos (by omega)]; (try simp only [hT0, Int.toNat_natCast]); exact eqW.rf _) dX5_person_37
    · refine lv_aload_n hx hb dX5_person_23 rfl (lv_at hl 0 rfl) ?_
      refine lv_iconst (v := nI 1) hx hb dX5_person_24 rfl ?_
      refine callVI (rest := []) (wn := fun u => ([xO x hm kp tr hi, (x 7, .inl (G.2.1, 7, .inl (tk tl 1)))] ++ (wH G hm σ))) ⟨hx, hb, hml, hown, hts⟩ (c_X5_tell l G H.size x hm kp tr hi tl 1 (by omega)) (cwV 1 hts gX5_person_X5_tell rfl rfl rfl (by decide +kernel) ⟨Nat.le_of_ble_eq_true rfl, Nat.le_of_ble_eq_true rfl⟩) noXB (fun _ _ _ => trivial) hK hP hD hS hAq 4 0 (T := TX5) (N := 7) rfl rfl rfl hl.1 rfl (Nat.le_of_ble_eq_true rfl) dX5_person_25 ⟨Nat.le_of_ble_eq_true rfl, Nat.le_of_ble_eq_true rfl⟩ [0, 1] rfl rfl [x 0, x 7] rfl (fun _ => rfl) (fun _ => rfl) (fun u H locs hok hP hD hS => ?_)
      have he : person_e σ (nI w0).toInt = 1 := by unfold person_e; (try simp only [hT0, Int.toNat_natCast]); (repeat' split) <;> omega
      exact fin_i hx hb hr hlk hS hP hD () trivial (by rw [he]; first | done | ((try simp only [hT0, Int.toNat_natCast]); first | done | rfl)) (by rw [he]; (try simp only [hT0, Int.toNat_natCast]); exact eqW.rf _) dX5_person_28
  · refine lv_aload_n hx hb dX5_person_7 rfl (lv_at hl 0 rfl) ?_
    refine lv_iconst (v := nI 0) hx hb dX5_person_8 rfl ?_
    refine callVI (rest := []) (wn := fun u => ([xO x hm kp tr hi, (x 7, .inl (G.2.1, 7, .inl (tk tl 0)))] ++ (wH G hm σ))) ⟨hx, hb, hml, hown, hts⟩ (c_X5_tell l G H.size x hm kp tr hi tl 0 (by omega)) (cwV 1 hts gX5_person_X5_tell rfl rfl rfl (by decide +kernel) ⟨Nat.le_of_ble_eq_true rfl, Nat.le_of_ble_eq_true rfl⟩) noXB (fun _ _ _ => trivial) hK hP hD hS hAq 4 0 (T := TX5) (N := 7) rfl rfl rfl hl.1 rfl (Nat.le_of_ble_eq_true rfl) dX5_person_9 ⟨Nat.le_of_ble_eq_true rfl, Nat.le_of_ble_eq_true rfl⟩ [0, 1] rfl rfl [x 0, x 7] rfl (fun _ => rfl) (fun _ => rfl) (fun u H locs hok hP hD hS => ?_)
    have he : person_e σ a0.toInt = 0 := by unfold person_e; (try simp only [Int.toNat_natCast]); (repeat' split) <;> omega
    exact fin_i hx hb hr hlk hS hP hD () trivial (by rw [he]; first | done | ((try simp only [Int.toNat_natCast]); first | done | rfl)) (by rw [he]; (try simp only [Int.toNat_natCast]); exact eqW.rf _) dX5_person_12
set_option maxHeartbeats 400000 in
set_option maxRecDepth 100000 in
theorem c_X6_person (l : Launch) (G : GT) (sz : Nat) (b : Nat → Nat) (ζ : Nat → Nat) (vv : Int64) (tl : Nat → Int32) (σ : Sg) (a0 : Int32) (hI : Inv σ) (hd0 : σ 0 ≤ 9999) : MI (S := Unit) l G noX yX6_person wsX6_person ({ frames := 2, cells := 0, slots := 0, locals := 45 } : Room) [.ref (b 0), .int a0] ([mO b ζ vv, (b 4, .inl (G.2.1, 7, .inl tl)), (b 1, .inl (G.2.1, 46, .inl (nF σ)))]) sz (fun _ => True) (fun _ => rs (person_e σ a0.toInt) (nI (σ 5))) (fun _ => [mO b ζ vv, (b 4, .inl (G.2.1, 7, .inl (ts tl (person_e σ a0.toInt)))), (b 1, .inl (G.2.1, 46, .inl (nF (hs (person_e σ a0.toInt) (addN σ a0.toInt.toNat) σ))))]) := by
  refine MI_enter (cc := cX6_person) (maxL := 2) (ret := (some .int)) (by decide) rfl (Nat.le_of_ble_eq_true rfl) ?_
  intro p e s m below meth c A ls H hx hb hr hlk hml hown hts hAq hS hP hK hD hX hl hnm
  have hown : s.vm.findClass RX6 = some m.cls := hown
  have hl : lv_has ls 2 [(0, .ref (b 0)), (1, .int a0)] := hl
  obtain ⟨⟨i1, i2, i3, i4, i5⟩, ip⟩ := id hI
  refine lv_iload_n hx hb dX6_person_0 rfl (lv_at hl 1 rfl) ?_
  refine lv_iconst (v := nI 0) hx hb dX6_person_1 rfl ?_
  refine lv_iconst (v := nI 5) hx hb dX6_person_2 rfl ?_
  refine callSI (rest := []) (wn := fun u => [mO b ζ vv, (b 4, .inl (G.2.1, 7, .inl tl)), (b 1, .inl (G.2.1, 46, .inl (nF σ)))]) ⟨hx, hb, hml, hown, hts⟩ (c_X6_in1 l G H.size a0 (nI 0) (nI 5)) (va_cwS 3 hts gX6_person_X6_in1 rfl rfl rfl (by decide +kernel) ⟨Nat.le_of_ble_eq_true rfl, Nat.le_of_ble_eq_true rfl⟩) noXB (fun _ _ _ => trivial) hK hP hD hS hAq rfl hl.1 rfl (Nat.le_of_ble_eq_true rfl) dX6_person_3 ⟨Nat.le_of_ble_eq_true rfl, Nat.le_of_ble_eq_true rfl⟩ [] rfl rfl [] rfl (fun _ => rfl) (fun _ => rfl) (fun u H locs hok hP hD hS => ?_)
  refine n_top (y := zI ((0 : Int) ≤ a0.toInt ∧ a0.toInt ≤ 5)) (zI_c (by rw [nI_T (show 0 < 2147483648 by decide), nI_T (show 5 < 2147483648 by decide)]; exact Iff.rfl)) ?_
  refine z_if_ne hx hb (tgt := 15) dX6_person_6 (by decide) (fun c_1 => ?_) (fun c_1 => ?_)
  · obtain ⟨w0, hw0, rfl⟩ := nI_of_rg (n := 5) (x := a0) ⟨by omega, by omega⟩
    have hT0 := nI_T (a := w0) (by omega)
    refine lv_aload_n hx hb dX6_person_15 rfl (lv_at hl 0 rfl) ?_
    refine n_get (C := RX6) (T := TX6) (N := 18) hx hb hts (fun _ h => List.mem_cons_of_mem _ (List.mem_append_right _ h)) hown hK hP 0 rfl rfl 0 (by decide) (List.mem_of_getElem? (i := 1) rfl) rfl (.ref (b 1)) rfl dX6_person_16 ?_
    refine lv_iconst (v := nI 5) hx hb dX6_person_19 rfl ?_
    refine n_iald hx hb hK hP 2 (v := (nI (σ 5))) rfl (by omega) (by omega) rfl dX6_person_20 ?_
    refine lv_bipush (v := nI 8) hx hb dX6_person_21 rfl ?_
    refine n_icmp_ne hx hb (by omega) (by omega) (tgt := 32) dX6_person_23 (by decide) (fun c_2 => ?_) (fun c_2 => ?_)
    · refine lv_aload_n hx hb dX6_person_32 rfl (lv_at hl 0 rfl) ?_
      refine lv_iload_n hx hb dX6_person_33 rfl (lv_at hl 1 rfl) ?_
      refine callVV (rest := []) (wn := fun u => [mO b ζ vv, (b 4, .inl (G.2.1, 7, .inl tl)), (b 1, .inl (G.2.1, 46, .inl (nF (addN σ w0))))]) ⟨hx, hb, hml, hown, hts⟩ (c_X6_addsPerson l G H.size b ζ vv σ w0 (by omega)) (cwV 1 hts gX6_person_X6_addsPerson rfl rfl rfl (by decide +kernel) ⟨Nat.le_of_ble_eq_true rfl, Nat.le_of_ble_eq_true rfl⟩) noXB (fun _ _ _ => trivial) hK hP hD hS hAq 5 0 (T := TX6) (N := 18) rfl rfl rfl hl.1 rfl (Nat.le_of_ble_eq_true rfl) dX6_person_34 ⟨Nat.le_of_ble_eq_true rfl, Nat.le_of_ble_eq_true rfl⟩ [0, 2] rfl rfl [b 0, b 1] rfl (fun _ => rfl) (fun _ => rfl) (fun u H locs hok hP hD hS => ?_)
      refine lv_aload_n hx hb dX6_person_37 rfl (lv_at hl 0 rfl) ?_
      refine n_get (C := RX6) (T := TX6) (N := 18) hx hb hts (fun _ h => List.mem_cons_of_mem _ (List.mem_append_right _ h)) hown hK hP 0 rfl rfl 0 (by decide) (List.mem_of_getElem? (i := 1) rfl) rfl (.ref (b 1)) rfl dX6_person_38 ?_
      refine lv_iconst (v := nI 5) hx hb dX6_person_41 rfl ?_
      refine n_iald hx hb hK hP 2 (v := (nI ((addN σ w0) 5))) rfl (by omega) (by omega) rfl dX6_person_42 ?_
      refine n_top (y := nI (σ 5 + 1)) (congrArg nI (by rw [add_at (by decide)]; rfl)) ?_
      refine lv_iconst (v := nI 1) hx hb dX6_person_43 rfl ?_
      refine n_isub hx hb (by omega) dX6_person_44 ?_
      have he : person_e σ (nI w0).toInt = 7 := by unfold person_e; (try simp only [hT0, Int.toNat_natCast]); (repeat' split) <;> omega
      exact fin_i hx hb hr hlk hS hP hD () trivial (by rw [he]; show nI _ = nI _; congr 1) (by rw [he]; (try simp only [hT0, Int.toNat_natCast]); exact eqW.rf _) dX6_person_45
    · refine lv_aload_n hx hb dX6_person_26 rfl (lv_at hl 0 rfl) ?_
      refine lv_iconst (v := nI 1) hx hb dX6_person_27 rfl ?_
      refine callVI (rest := []) (wn := fun u => [mO b ζ vv, (b 4, .inl (G.2.1, 7, .inl (tk tl 1))), (b 1, .inl (G.2.1, 46, .inl (nF σ)))]) ⟨hx, hb, hml, hown, hts⟩ (c_X6_no l G H.size b ζ vv tl 1 (by omega)) (cwV 1 hts gX6_person_X6_no rfl rfl rfl (by decide +kernel) ⟨Nat.le_of_ble_eq_true rfl, Nat.le_of_ble_eq_true rfl⟩) noXB (fun _ _ _ => trivial) hK hP hD hS hAq 5 0 (T := TX6) (N := 18) rfl rfl rfl hl.1 rfl (Nat.le_of_ble_eq_true rfl) dX6_person_28 ⟨Nat.le_of_ble_eq_true rfl, Nat.le_of_ble_eq_true rfl⟩ [0, 1] rfl rfl [b 0, b 4] rfl (fun _ => rfl) (fun _ => rfl) (fun u H locs hok hP hD hS => ?_)
      have he : person_e σ (nI w0).toInt = 1 := by unfold person_e; (try simp only [hT0, Int.toNat_natCast]); (repeat' split) <;> omega
      exact fin_i hx hb hr hlk hS hP hD () trivial (by rw [he]; first | done | ((try simp only [hT0, Int.toNat_natCast]); first | done | rfl)) (by rw [he]; (try simp only [hT0, Int.toNat_natCast]); exact eqW.rf _) dX6_person_31
  · refine lv_aload_n hx hb dX6_person_9 rfl (lv_at hl 0 rfl) ?_
    refine lv_iconst (v := nI 0) hx hb dX6_person_10 rfl ?_
    refine callVI (rest := []) (wn := fun u => [mO b ζ vv, (b 4, .inl (G.2.1, 7, .inl (tk tl 0))), (b 1, .inl (G.2.1, 46, .inl (nF σ)))]) ⟨hx, hb, hml, hown, hts⟩ (c_X6_no l G H.size b ζ vv tl 0 (by omega)) (cwV 1 hts gX6_person_X6_no rfl rfl rfl (by decide +kernel) ⟨Nat.le_of_ble_eq_true rfl, Nat.le_of_ble_eq_true rfl⟩) noXB (fun _ _ _ => trivial) hK hP hD hS hAq 5 0 (T := TX6) (N := 18) rfl rfl rfl hl.1 rfl (Nat.le_of_ble_eq_true rfl) dX6_person_11 ⟨Nat.le_of_ble_eq_true rfl, Nat.le_of_ble_eq_true rfl⟩ [0, 1] rfl rfl [b 0, b 4] rfl (fun _ => rfl) (fun _ => rfl) (fun u H locs hok hP hD hS => ?_)
    have he : person_e σ a0.toInt = 0 := by unfold person_e; (try simp only [Int.toNat_natCast]); (repeat' split) <;> omega
    exact fin_i hx hb hr hlk hS hP hD () trivial (by rw [he]; first | done | ((try simp only [Int.toNat_natCast]); first | done | rfl)) (by rw [he]; (try simp only [Int.toNat_natCast]); exact eqW.rf _) dX6_person_14
set_option maxHeartbeats 400000 in
set_option maxRecDepth 100000 in
theorem c_X5_of (l : Launch) (G : GT) (sz : Nat) (x hm kp tr : Nat → Nat) (hi : Nat) (tl : Nat → Int32) (σ : Sg) (a0 a1 : Int32) (hI : Inv σ) (hd0 : σ 0 ≤ 9999) : MI (S := Unit) l G noX yX5_of wsX5_of ({ frames := 3, cells := 0, slots := 0, locals := 65 } : Room) [.ref (x 0), .int a0, .int a1] (([xO x hm kp tr hi, (x 7, .inl (G.2.1, 7, .inl tl))] ++ (wH G hm σ))) sz (fun _ => True) (fun _ => rs (of_e σ a0.toInt a1.toInt) (nI (of_v σ a0.toInt.toNat a1.toInt.toNat))) (fun _ => ([xO x hm kp tr hi, (x 7, .inl (G.2.1, 7, .inl (ts tl (of_e σ a0.toInt a1.toInt))))] ++ (wH G hm σ))) := by
  refine MI_enter (cc := cX5_of) (maxL := 3) (ret := (some .int)) (by decide) rfl (Nat.le_of_ble_eq_true rfl) ?_
  intro p e s m below meth c A ls H hx hb hr hlk hml hown hts hAq hS hP hK hD hX hl hnm
  have hown : s.vm.findClass RX5 = some m.cls := hown
  have hl : lv_has ls 3 [(0, .ref (x 0)), (1, .int a0), (2, .int a1)] := hl
  obtain ⟨⟨i1, i2, i3, i4, i5⟩, ip⟩ := id hI
  refine lv_aload_n hx hb dX5_of_0 rfl (lv_at hl 0 rfl) ?_
  refine n_get (C := RX5) (T := TX5) (N := 7) hx hb hts (fun _ h => List.mem_cons_of_mem _ (List.mem_append_left _ (List.mem_append_right _ h))) hown hK hP 0 rfl rfl 0 (by decide) (List.mem_of_getElem? (i := 1) rfl) rfl (.ref (hm 0)) rfl dX5_of_1 ?_
  refine lv_iload_n hx hb dX5_of_4 rfl (lv_at hl 1 rfl) ?_
  refine callVI (rest := []) (wn := fun u => ([xO x hm kp tr hi, (x 7, .inl (G.2.1, 7, .inl tl))] ++ (wH G hm σ))) ⟨hx, hb, hml, hown, hts⟩ (c_X0_hasOne l G H.size hm σ a0 (by omega)) (cwV 1 hts gX5_of_X0_hasOne rfl rfl rfl (by decide +kernel) ⟨Nat.le_of_ble_eq_true rfl, Nat.le_of_ble_eq_true rfl⟩) noXB (fun _ _ _ => trivial) hK hP hD hS hAq 0 0 (T := TX0) (N := 11) rfl rfl rfl hl.1 rfl (Nat.le_of_ble_eq_true rfl) dX5_of_5 ⟨Nat.le_of_ble_eq_true rfl, Nat.le_of_ble_eq_true rfl⟩ [2, 3, 4, 5, 6, 7] rfl rfl [hm 0, hm 1, hm 2, hm 3, hm 4, hm 5] rfl (fun _ => rfl) (fun _ => rfl) (fun u H locs hok hP hD hS => ?_)
  refine z_if_ne hx hb (tgt := 17) dX5_of_8 (by decide) (fun c_1 => ?_) (fun c_1 => ?_)
  · obtain ⟨k0, hk0, rfl⟩ := nI_of_rg (n := 7) (x := a0) ⟨by omega, by omega⟩
    have hT0 := nI_T (a := k0) (by omega)
    have hp0 : k0 < σ 5 := by omega
    obtain ⟨q00, q01, q02, q03, q04⟩ := ip k0 (by omega)
    refine lv_iload_n hx hb dX5_of_17 rfl (lv_at hl 2 rfl) ?_
    by_cases hsr : (0 : Int) ≤ a1.toInt ∧ a1.toInt ≤ 5
    · obtain ⟨w1, hw1, rfl⟩ := nI_of_rg (n := 5) (x := a1) ⟨by omega, by omega⟩
      have hTw1 := nI_T (a := w1) (by omega)
      rcases (show w1 = 0 ∨ w1 = 1 ∨ w1 = 2 ∨ w1 = 3 ∨ w1 = 4 ∨ w1 = 5 by omega) with rfl | rfl | rfl | rfl | rfl | rfl
      · refine n_tableIn (a := 0) rfl hx hb (off := 38) (tgt := 56) dX5_of_18 (by decide) (by decide) (by decide) (by decide) ?_
        refine lv_aload_n hx hb dX5_of_56 rfl (lv_at hl 0 rfl) ?_
        refine n_get (C := RX5) (T := TX5) (N := 7) hx hb hts (fun _ h => List.mem_cons_of_mem _ (List.mem_append_left _ (List.mem_append_right _ h))) hown hK hP 0 rfl rfl 0 (by decide) (List.mem_of_getElem? (i := 1) rfl) rfl (.ref (hm 0)) rfl dX5_of_57 ?_
        refine n_get (C := RX0) (T := TX0) (N := 11) hx hb hts (fun _ h => List.mem_cons_of_mem _ (List.mem_append_right _ h)) hown hK hP 2 rfl rfl 6 (by decide) (List.mem_of_getElem? (i := 2) rfl) rfl (.ref (hm 1)) rfl dX5_of_60 ?_
        refine lv_iload_n hx hb dX5_of_63 rfl (lv_at hl 1 rfl) ?_
        refine n_iald hx hb hK hP 3 (v := (nI (σ (pl k0 0)))) rfl (by omega) (by omega) rfl dX5_of_64 ?_
        have he : of_e σ (nI k0).toInt (nI 0).toInt = 7 := by unfold of_e; (try simp only [hT0, hTw1, Int.toNat_natCast]); (repeat' split) <;> omega
        exact fin_i hx hb hr hlk hS hP hD () trivial (by rw [he]; (try simp only [hT0, hTw1, Int.toNat_natCast]); show nI _ = nI (of_v _ _ _); unfold of_v; refine congrArg nI ?_; (repeat' split) <;> first | rfl | omega) (by rw [he]; (try simp only [hT0, hTw1, Int.toNat_natCast]); exact eqW.rf _) dX5_of_65
      · refine n_tableIn (a := 1) rfl hx hb (off := 48) (tgt := 66) dX5_of_18 (by decide) (by decide) (by decide) (by decide) ?_
        refine lv_aload_n hx hb dX5_of_66 rfl (lv_at hl 0 rfl) ?_
        refine n_get (C := RX5) (T := TX5) (N := 7) hx hb hts (fun _ h => List.mem_cons_of_mem _ (List.mem_append_left _ (List.mem_append_right _ h))) hown hK hP 0 rfl rfl 0 (by decide) (List.mem_of_getElem? (i := 1) rfl) rfl (.ref (hm 0)) rfl dX5_of_67 ?_
        refine n_get (C := RX0) (T := TX0) (N := 11) hx hb hts (fun _ h => List.mem_cons_of_mem _ (List.mem_append_right _ h)) hown hK hP 2 rfl rfl 7 (by decide) (List.mem_of_getElem? (i := 3) rfl) rfl (.ref (hm 2)) rfl dX5_of_70 ?_
        refine lv_iload_n hx hb dX5_of_73 rfl (lv_at hl 1 rfl) ?_
        refine n_iald hx hb hK hP 4 (v := (nI (σ (pl k0 1)))) rfl (by omega) (by omega) rfl dX5_of_74 ?_
        have he : of_e σ (nI k0).toInt (nI 1).toInt = 7 := by unfold of_e; (try simp only [hT0, hTw1, Int.toNat_natCast]); (repeat' split) <;> omega
        exact fin_i hx hb hr hlk hS hP hD () trivial (by rw [he]; (try simp only [hT0, hTw1, Int.toNat_natCast]); show nI _ = nI (of_v _ _ _); unfold of_v; refine congrArg nI ?_; (repeat' split) <;> first | rfl | omega) (by rw [he]; (try simp only [hT0, hTw1, Int.toNat_natCast]); exact eqW.rf _) dX5_of_75
      · refine n_tableIn (a := 2) rfl hx hb (off := 58) (tgt := 76) dX5_of_18 (by decide) (by decide) (by decide) (by decide) ?_
        refine lv_aload_n hx hb dX5_of_76 rfl (lv_at hl 0 rfl) ?_
        refine n_get (C := RX5) (T := TX5) (N := 7) hx hb hts (fun _ h => List.mem_cons_of_mem _ (List.mem_append_left _ (List.mem_append_right _ h))) hown hK hP 0 rfl rfl 0 (by decide) (List.mem_of_getElem? (i := 1) rfl) rfl (.ref (hm 0)) rfl dX5_of_77 ?_
        refine n_get (C := RX0) (T := TX0) (N := 11) hx hb hts (fun _ h => List.mem_cons_of_mem _ (List.mem_append_right _ h)) hown hK hP 2 rfl rfl 8 (by decide) (List.mem_of_getElem? (i := 4) rfl) rfl (.ref (hm 3)) rfl dX5_of_80 ?_
        refine lv_iload_n hx hb dX5_of_83 rfl (lv_at hl 1 rfl) ?_
        refine n_iald hx hb hK hP 5 (v := (nI (σ (pl k0 2)))) rfl (by omega) (by omega) rfl dX5_of_84 ?_
        have he : of_e σ (nI k0).toInt (nI 2).toInt = 7 := by unfold of_e; (try simp only [hT0, hTw1, Int.toNat_natCast]); (repeat' split) <;> omega
        exact fin_i hx hb hr hlk hS hP hD () trivial (by rw [he]; (try simp only [hT0, hTw1, Int.toNat_natCast]); show nI _ = nI (of_v _ _ _); unfold of_v; refine congrArg nI ?_; (repeat' split) <;> first | rfl | omega) (by rw [he]; (try simp only [hT0, hTw1, Int.toNat_natCast]); exact eqW.rf _) dX5_of_85
      · refine n_tableIn (a := 3) rfl hx hb (off := 68) (tgt := 86) dX5_of_18 (by decide) (by decide) (by decide) (by decide) ?_
        refine lv_aload_n hx hb dX5_of_86 rfl (lv_at hl 0 rfl) ?_
        refine n_get (C := RX5) (T := TX5) (N := 7) hx hb hts (fun _ h => List.mem_cons_of_mem _ (List.mem_append_left _ (List.mem_append_right _ h))) hown hK hP 0 rfl rfl 0 (by decide) (List.mem_of_getElem? (i := 1) rfl) rfl (.ref (hm 0)) rfl dX5_of_87 ?_
        refine n_get (C := RX0) (T := TX0) (N := 11) hx hb hts (fun _ h => List.mem_cons_of_mem _ (List.mem_append_right _ h)) hown hK hP 2 rfl rfl 9 (by decide) (List.mem_of_getElem? (i := 5) rfl) rfl (.ref (hm 4)) rfl dX5_of_90 ?_
        refine lv_iload_n hx hb dX5_of_93 rfl (lv_at hl 1 rfl) ?_
        refine n_iald hx hb hK hP 6 (v := (nI (σ (pl k0 3)))) rfl (by omega) (by omega) rfl dX5_of_94 ?_
        have he : of_e σ (nI k0).toInt (nI 3).toInt = 7 := by unfold of_e; (try simp only [hT0, hTw1, Int.toNat_natCast]); (repeat' split) <;> omega
        exact fin_i hx hb hr hlk hS hP hD () trivial (by rw [he]; (try simp only [hT0, hTw1, Int.toNat_natCast]); show nI _ = nI (of_v _ _ _); unfold of_v; refine congrArg nI ?_; (repeat' split) <;> first | rfl | omega) (by rw [he]; (try simp only [hT0, hTw1, Int.toNat_natCast]); exact eqW.rf _) dX5_of_95
      · refine n_tableIn (a := 4) rfl hx hb (off := 78) (tgt := 96) dX5_of_18 (by decide) (by decide) (by decide) (by decide) ?_
        refine lv_aload_n hx hb dX5_of_96 rfl (lv_at hl 0 rfl) ?_
        refine n_get (C := RX5) (T := TX5) (N := 7) hx hb hts (fun _ h => List.mem_cons_of_mem _ (List.mem_append_left _ (List.mem_append_right _ h))) hown hK hP 0 rfl rfl 0 (by decide) (List.mem_of_getElem? (i := 1) rfl) rfl (.ref (hm 0)) rfl dX5_of_97 ?_
        refine n_get (C := RX0) (T := TX0) (N := 11) hx hb hts (fun _ h => List.mem_cons_of_mem _ (List.mem_append_right _ h)) hown hK hP 2 rfl rfl 10 (by decide) (List.mem_of_getElem? (i := 6) rfl) rfl (.ref (hm 5)) rfl dX5_of_100 ?_
        refine lv_iload_n hx hb dX5_of_103 rfl (lv_at hl 1 rfl) ?_
        refine n_iald hx hb hK hP 7 (v := (nI (σ (pl k0 4)))) rfl (by omega) (by omega) rfl dX5_of_104 ?_
        have he : of_e σ (nI k0).toInt (nI 4).toInt = 7 := by unfold of_e; (try simp only [hT0, hTw1, Int.toNat_natCast]); (repeat' split) <;> omega
        exact fin_i hx hb hr hlk hS hP hD () trivial (by rw [he]; (try simp only [hT0, hTw1, Int.toNat_natCast]); show nI _ = nI (of_v _ _ _); unfold of_v; refine congrArg nI ?_; (repeat' split) <;> first | rfl | omega) (by rw [he]; (try simp only [hT0, hTw1, Int.toNat_natCast]); exact eqW.rf _) dX5_of_105
      · refine n_tableIn (a := 5) rfl hx hb (off := 88) (tgt := 106) dX5_of_18 (by decide) (by decide) (by decide) (by decide) ?_
        refine lv_aload_n hx hb dX5_of_106 rfl (lv_at hl 0 rfl) ?_
        refine n_get (C := RX5) (T := TX5) (N := 7) hx hb hts (fun _ h => List.mem_cons_of_mem _ (List.mem_append_left _ (List.mem_append_right _ h))) hown hK hP 0 rfl rfl 0 (by decide) (List.mem_of_getElem? (i := 1) rfl) rfl (.ref (hm 0)) rfl dX5_of_107 ?_
        refine lv_iload_n hx hb dX5_of_110 rfl (lv_at hl 1 rfl) ?_
        refine callVI (rest := []) (wn := fun u => ([xO x hm kp tr hi, (x 7, .inl (G.2.1, 7, .inl tl))] ++ (wH G hm σ))) ⟨hx, hb, hml, hown, hts⟩ (c_X0_wantsOf l G H.size hm σ k0 hI (by omega) (by omega)) (cwV 1 hts gX5_of_X0_wantsOf rfl rfl rfl (by decide +kernel) ⟨Nat.le_of_ble_eq_true rfl, Nat.le_of_ble_eq_true rfl⟩) noXB (fun _ _ _ => trivial) hK hP hD hS hAq 0 0 (T := TX0) (N := 11) rfl rfl rfl hl.1 rfl (Nat.le_of_ble_eq_true rfl) dX5_of_111 ⟨Nat.le_of_ble_eq_true rfl, Nat.le_of_ble_eq_true rfl⟩ [2, 3, 4, 5, 6, 7] rfl rfl [hm 0, hm 1, hm 2, hm 3, hm 4, hm 5] rfl (fun _ => rfl) (fun _ => rfl) (fun u H locs hok hP hD hS => ?_)
        have he : of_e σ (nI k0).toInt (nI 5).toInt = 7 := by unfold of_e; (try simp only [hT0, hTw1, Int.toNat_natCast]); (repeat' split) <;> omega
        exact fin_i hx hb hr hlk hS hP hD () trivial (by rw [he]; (try simp only [hT0, hTw1, Int.toNat_natCast]); show nI _ = nI (of_v _ _ _); unfold of_v; refine congrArg nI ?_; (repeat' split) <;> first | rfl | omega) (by rw [he]; (try simp only [hT0, hTw1, Int.toNat_natCast]); exact eqW.rf _) dX5_of_114
    · refine lv_tableOut hx hb (tgt := 115) dX5_of_18 (by omega) (by decide) ?_
      refine lv_aload_n hx hb dX5_of_115 rfl (lv_at hl 0 rfl) ?_
      refine lv_iconst (v := nI 0) hx hb dX5_of_116 rfl ?_
      refine callVI (rest := []) (wn := fun u => ([xO x hm kp tr hi, (x 7, .inl (G.2.1, 7, .inl (tk tl 0)))] ++ (wH G hm σ))) ⟨hx, hb, hml, hown, hts⟩ (c_X5_tell l G H.size x hm kp tr hi tl 0 (by omega)) (cwV 1 hts gX5_of_X5_tell rfl rfl rfl (by decide +kernel) ⟨Nat.le_of_ble_eq_true rfl, Nat.le_of_ble_eq_true rfl⟩) noXB (fun _ _ _ => trivial) hK hP hD hS hAq 4 0 (T := TX5) (N := 7) rfl rfl rfl hl.1 rfl (Nat.le_of_ble_eq_true rfl) dX5_of_117 ⟨Nat.le_of_ble_eq_true rfl, Nat.le_of_ble_eq_true rfl⟩ [0, 1] rfl rfl [x 0, x 7] rfl (fun _ => rfl) (fun _ => rfl) (fun u H locs hok hP hD hS => ?_)
      have he : of_e σ (nI k0).toInt a1.toInt = 0 := by unfold of_e; (try simp only [hT0, Int.toNat_natCast]); (repeat' split) <;> omega
      exact fin_i hx hb hr hlk hS hP hD () trivial (by rw [he]; first | done | ((try simp only [hT0, Int.toNat_natCast]); first | done | rfl)) (by rw [he]; (try simp only [hT0, Int.toNat_natCast]); exact eqW.rf _) dX5_of_120
  · refine lv_aload_n hx hb dX5_of_11 rfl (lv_at hl 0 rfl) ?_
    refine lv_iconst (v := nI 0) hx hb dX5_of_12 rfl ?_
    refine callVI (rest := []) (wn := fun u => ([xO x hm kp tr hi, (x 7, .inl (G.2.1, 7, .inl (tk tl 0)))] ++ (wH G hm σ))) ⟨hx, hb, hml, hown, hts⟩ (c_X5_tell l G H.size x hm kp tr hi tl 0 (by omega)) (cwV 1 hts gX5_of_X5_tell rfl rfl rfl (by decide +kernel) ⟨Nat.le_of_ble_eq_true rfl, Nat.le_of_ble_eq_true rfl⟩) noXB (fun _ _ _ => trivial) hK hP hD hS hAq 4 0 (T := TX5) (N := 7) rfl rfl rfl hl.1 rfl (Nat.le_of_ble_eq_true rfl) dX5_of_13 ⟨Nat.le_of_ble_eq_true rfl, Nat.le_of_ble_eq_true rfl⟩ [0, 1] rfl rfl [x 0, x 7] rfl (fun _ => rfl) (fun _ => rfl) (fun u H locs hok hP hD hS => ?_)
    have he : of_e σ a0.toInt a1.toInt = 0 := by unfold of_e; (try simp only [Int.toNat_natCast]); (repeat' split) <;> omega
    exact fin_i hx hb hr hlk hS hP hD () trivial (by rw [he]; first | done | ((try simp only [Int.toNat_natCast]); first | done | rfl)) (by rw [he]; (try simp only [Int.toNat_natCast]); exact eqW.rf _) dX5_of_16
set_option maxHeartbeats 400000 in
set_option maxRecDepth 100000 in
theorem c_X6_of (l : Launch) (G : GT) (sz : Nat) (b : Nat → Nat) (ζ : Nat → Nat) (vv : Int64) (tl : Nat → Int32) (σ : Sg) (a0 a1 : Int32) (hI : Inv σ) (hd0 : σ 0 ≤ 9999) : MI (S := Unit) l G noX yX6_of wsX6_of ({ frames := 2, cells := 0, slots := 0, locals := 46 } : Room) [.ref (b 0), .int a0, .int a1] ([mO b ζ vv, (b 4, .inl (G.2.1, 7, .inl tl)), (b 1, .inl (G.2.1, 46, .inl (nF σ)))]) sz (fun _ => True) (fun _ => rs (of_e σ a0.toInt a1.toInt) (nI (of_v σ a0.toInt.toNat a1.toInt.toNat))) (fun _ => [mO b ζ vv, (b 4, .inl (G.2.1, 7, .inl (ts tl (of_e σ a0.toInt a1.toInt)))), (b 1, .inl (G.2.1, 46, .inl (nF σ)))]) := by
  refine MI_enter (cc := cX6_of) (maxL := 3) (ret := (some .int)) (by decide) rfl (Nat.le_of_ble_eq_true rfl) ?_
  intro p e s m below meth c A ls H hx hb hr hlk hml hown hts hAq hS hP hK hD hX hl hnm
  have hown : s.vm.findClass RX6 = some m.cls := hown
  have hl : lv_has ls 3 [(0, .ref (b 0)), (1, .int a0), (2, .int a1)] := hl
  obtain ⟨⟨i1, i2, i3, i4, i5⟩, ip⟩ := id hI
  refine lv_aload_n hx hb dX6_of_0 rfl (lv_at hl 0 rfl) ?_
  refine lv_iload_n hx hb dX6_of_1 rfl (lv_at hl 1 rfl) ?_
  refine callVI (rest := []) (wn := fun u => [mO b ζ vv, (b 4, .inl (G.2.1, 7, .inl tl)), (b 1, .inl (G.2.1, 46, .inl (nF σ)))]) ⟨hx, hb, hml, hown, hts⟩ (c_X6_isPerson l G H.size b ζ vv σ a0 (by omega)) (cwV 1 hts gX6_of_X6_isPerson rfl rfl rfl (by decide +kernel) ⟨Nat.le_of_ble_eq_true rfl, Nat.le_of_ble_eq_true rfl⟩) noXB (fun _ _ _ => trivial) hK hP hD hS hAq 5 0 (T := TX6) (N := 18) rfl rfl rfl hl.1 rfl (Nat.le_of_ble_eq_true rfl) dX6_of_2 ⟨Nat.le_of_ble_eq_true rfl, Nat.le_of_ble_eq_true rfl⟩ [0, 2] rfl rfl [b 0, b 1] rfl (fun _ => rfl) (fun _ => rfl) (fun u H locs hok hP hD hS => ?_)
  refine z_if_eq hx hb (tgt := 17) dX6_of_5 (by decide) (fun c_1 => ?_) (fun c_1 => ?_)
  · refine lv_aload_n hx hb dX6_of_17 rfl (lv_at hl 0 rfl) ?_
    refine lv_iconst (v := nI 0) hx hb dX6_of_18 rfl ?_
    refine callVI (rest := []) (wn := fun u => [mO b ζ vv, (b 4, .inl (G.2.1, 7, .inl (tk tl 0))), (b 1, .inl (G.2.1, 46, .inl (nF σ)))]) ⟨hx, hb, hml, hown, hts⟩ (c_X6_no l G H.size b ζ vv tl 0 (by omega)) (cwV 1 hts gX6_of_X6_no rfl rfl rfl (by decide +kernel) ⟨Nat.le_of_ble_eq_true rfl, Nat.le_of_ble_eq_true rfl⟩) noXB (fun _ _ _ => trivial) hK hP hD hS hAq 5 0 (T := TX6) (N := 18) rfl rfl rfl hl.1 rfl (Nat.le_of_ble_eq_true rfl) dX6_of_19 ⟨Nat.le_of_ble_eq_true rfl, Nat.le_of_ble_eq_true rfl⟩ [0, 1] rfl rfl [b 0, b 4] rfl (fun _ => rfl) (fun _ => rfl) (fun u H locs hok hP hD hS => ?_)
    have he : of_e σ a0.toInt a1.toInt = 0 := by unfold of_e; (try simp only [Int.toNat_natCast]); (repeat' split) <;> omega
    exact fin_i hx hb hr hlk hS hP hD () trivial (by rw [he]; first | done | ((try simp only [Int.toNat_natCast]); first | done | rfl)) (by rw [he]; (try simp only [Int.toNat_natCast]); exact eqW.rf _) dX6_of_22
  · obtain ⟨k0, hk0, rfl⟩ := nI_of_rg (n := 7) (x := a0) ⟨by omega, by omega⟩
    have hT0 := nI_T (a := k0) (by omega)
    have hp0 : k0 < σ 5 := by omega
    obtain ⟨q00, q01, q02, q03, q04⟩ := ip k0 (by omega)
    refine lv_iload_n hx hb dX6_of_8 rfl (lv_at hl 2 rfl) ?_
    refine lv_iconst (v := nI 0) hx hb dX6_of_9 rfl ?_
    refine lv_iconst (v := nI 5) hx hb dX6_of_10 rfl ?_
    refine callSI (rest := []) (wn := fun u => [mO b ζ vv, (b 4, .inl (G.2.1, 7, .inl tl)), (b 1, .inl (G.2.1, 46, .inl (nF σ)))]) ⟨hx, hb, hml, hown, hts⟩ (c_X6_in1 l G H.size a1 (nI 0) (nI 5)) (va_cwS 3 hts gX6_of_X6_in1 rfl rfl rfl (by decide +kernel) ⟨Nat.le_of_ble_eq_true rfl, Nat.le_of_ble_eq_true rfl⟩) noXB (fun _ _ _ => trivial) hK hP hD hS hAq rfl hl.1 rfl (Nat.le_of_ble_eq_true rfl) dX6_of_11 ⟨Nat.le_of_ble_eq_true rfl, Nat.le_of_ble_eq_true rfl⟩ [] rfl rfl [] rfl (fun _ => rfl) (fun _ => rfl) (fun u H locs hok hP hD hS => ?_)
    refine n_top (y := zI ((0 : Int) ≤ a1.toInt ∧ a1.toInt ≤ 5)) (zI_c (by rw [nI_T (show 0 < 2147483648 by decide), nI_T (show 5 < 2147483648 by decide)]; exact Iff.rfl)) ?_
    refine z_if_ne hx hb (tgt := 23) dX6_of_14 (by decide) (fun c_2 => ?_) (fun c_2 => ?_)
    · obtain ⟨w1, hw1, rfl⟩ := nI_of_rg (n := 5) (x := a1) ⟨by omega, by omega⟩
      have hT1 := nI_T (a := w1) (by omega)
      refine lv_iload_n hx hb dX6_of_23 rfl (lv_at hl 2 rfl) ?_
      refine lv_iconst (v := nI 5) hx hb dX6_of_24 rfl ?_
      refine n_icmp_ge hx hb (by omega) (by omega) (tgt := 37) dX6_of_25 (by decide) (fun c_3 => ?_) (fun c_3 => ?_)
      · refine lv_aload_n hx hb dX6_of_37 rfl (lv_at hl 0 rfl) ?_
        refine lv_iload_n hx hb dX6_of_38 rfl (lv_at hl 1 rfl) ?_
        refine callVI (rest := []) (wn := fun u => [mO b ζ vv, (b 4, .inl (G.2.1, 7, .inl tl)), (b 1, .inl (G.2.1, 46, .inl (nF σ)))]) ⟨hx, hb, hml, hown, hts⟩ (c_X6_wantsOf l G H.size b ζ vv σ k0 hI (by omega) (by omega)) (cwV 1 hts gX6_of_X6_wantsOf rfl rfl rfl (by decide +kernel) ⟨Nat.le_of_ble_eq_true rfl, Nat.le_of_ble_eq_true rfl⟩) noXB (fun _ _ _ => trivial) hK hP hD hS hAq 5 0 (T := TX6) (N := 18) rfl rfl rfl hl.1 rfl (Nat.le_of_ble_eq_true rfl) dX6_of_39 ⟨Nat.le_of_ble_eq_true rfl, Nat.le_of_ble_eq_true rfl⟩ [0, 2] rfl rfl [b 0, b 1] rfl (fun _ => rfl) (fun _ => rfl) (fun u H locs hok hP hD hS => ?_)
        have he : of_e σ (nI k0).toInt (nI w1).toInt = 7 := by unfold of_e; (try simp only [hT0, hT1, Int.toNat_natCast]); (repeat' split) <;> omega
        exact fin_i hx hb hr hlk hS hP hD () trivial (by rw [he]; (try simp only [hT0, hT1, Int.toNat_natCast]); show nI _ = nI (of_v _ _ _); unfold of_v; refine congrArg nI ?_; (repeat' split) <;> first | rfl | omega) (by rw [he]; (try simp only [hT0, hT1, Int.toNat_natCast]); exact eqW.rf _) dX6_of_42
      · refine lv_aload_n hx hb dX6_of_28 rfl (lv_at hl 0 rfl) ?_
        refine lv_iload_n hx hb dX6_of_29 rfl (lv_at hl 1 rfl) ?_
        refine lv_iload_n hx hb dX6_of_30 rfl (lv_at hl 2 rfl) ?_
        refine callVI (rest := []) (wn := fun u => [mO b ζ vv, (b 4, .inl (G.2.1, 7, .inl tl)), (b 1, .inl (G.2.1, 46, .inl (nF σ)))]) ⟨hx, hb, hml, hown, hts⟩ (c_X6_get l G H.size b ζ vv σ k0 w1 (by omega) (by omega)) (cwV 2 hts gX6_of_X6_get rfl rfl rfl (by decide +kernel) ⟨Nat.le_of_ble_eq_true rfl, Nat.le_of_ble_eq_true rfl⟩) noXB (fun _ _ _ => trivial) hK hP hD hS hAq 5 0 (T := TX6) (N := 18) rfl rfl rfl hl.1 rfl (Nat.le_of_ble_eq_true rfl) dX6_of_31 ⟨Nat.le_of_ble_eq_true rfl, Nat.le_of_ble_eq_true rfl⟩ [0, 2] rfl rfl [b 0, b 1] rfl (fun _ => rfl) (fun _ => rfl) (fun u H locs hok hP hD hS => ?_)
        refine lv_goto (tgt := 42) hx hb dX6_of_34 (by decide) ?_
        have he : of_e σ (nI k0).toInt (nI w1).toInt = 7 := by unfold of_e; (try simp only [hT0, hT1, Int.toNat_natCast]); (repeat' split) <;> omega
        exact fin_i hx hb hr hlk hS hP hD () trivial (by rw [he]; (try simp only [hT0, hT1, Int.toNat_natCast]); show nI _ = nI (of_v _ _ _); unfold of_v; refine congrArg nI ?_; (repeat' split) <;> first | rfl | omega) (by rw [he]; (try simp only [hT0, hT1, Int.toNat_natCast]); exact eqW.rf _) dX6_of_42
    · refine lv_aload_n hx hb dX6_of_17 rfl (lv_at hl 0 rfl) ?_
      refine lv_iconst (v := nI 0) hx hb dX6_of_18 rfl ?_
      refine callVI (rest := []) (wn := fun u => [mO b ζ vv, (b 4, .inl (G.2.1, 7, .inl (tk tl 0))), (b 1, .inl (G.2.1, 46, .inl (nF σ)))]) ⟨hx, hb, hml, hown, hts⟩ (c_X6_no l G H.size b ζ vv tl 0 (by omega)) (cwV 1 hts gX6_of_X6_no rfl rfl rfl (by decide +kernel) ⟨Nat.le_of_ble_eq_true rfl, Nat.le_of_ble_eq_true rfl⟩) noXB (fun _ _ _ => trivial) hK hP hD hS hAq 5 0 (T := TX6) (N := 18) rfl rfl rfl hl.1 rfl (Nat.le_of_ble_eq_true rfl) dX6_of_19 ⟨Nat.le_of_ble_eq_true rfl, Nat.le_of_ble_eq_true rfl⟩ [0, 1] rfl rfl [b 0, b 4] rfl (fun _ => rfl) (fun _ => rfl) (fun u H locs hok hP hD hS => ?_)
      have he : of_e σ (nI k0).toInt a1.toInt = 0 := by unfold of_e; (try simp only [hT0, Int.toNat_natCast]); (repeat' split) <;> omega
      exact fin_i hx hb hr hlk hS hP hD () trivial (by rw [he]; first | done | ((try simp only [hT0, Int.toNat_natCast]); first | done | rfl)) (by rw [he]; (try simp only [hT0, Int.toNat_natCast]); exact eqW.rf _) dX6_of_22
set_option maxHeartbeats 400000 in
set_option maxRecDepth 100000 in
theorem c_X5_says (l : Launch) (G : GT) (sz : Nat) (x hm kp tr : Nat → Nat) (hi : Nat) (tl : Nat → Int32) (σ : Sg) (a0 a1 a2 : Int32) (hI : Inv σ) (hd0 : σ 0 ≤ 9999) : MI (S := Unit) l G noX yX5_says wsX5_says ({ frames := 2, cells := 0, slots := 0, locals := 43 } : Room) [.ref (x 0), .int a0, .int a1, .int a2] (([xO x hm kp tr hi, (x 7, .inl (G.2.1, 7, .inl tl))] ++ (wH G hm σ))) sz (fun _ => True) (fun _ => rs (says_e σ a0.toInt a1.toInt a2.toInt) (nI (says_v σ a0.toInt.toNat a1.toInt.toNat a2.toInt.toNat))) (fun _ => ([xO x hm kp tr hi, (x 7, .inl (G.2.1, 7, .inl (ts tl (says_e σ a0.toInt a1.toInt a2.toInt))))] ++ (wH G hm σ))) := by
  refine MI_enter (cc := cX5_says) (maxL := 5) (ret := (some .int)) (by decide) rfl (Nat.le_of_ble_eq_true rfl) ?_
  intro p e s m below meth c A ls H hx hb hr hlk hml hown hts hAq hS hP hK hD hX hl hnm
  have hown : s.vm.findClass RX5 = some m.cls := hown
  have hl : lv_has ls 5 [(0, .ref (x 0)), (1, .int a0), (2, .int a1), (3, .int a2)] := hl
  obtain ⟨⟨i1, i2, i3, i4, i5⟩, ip⟩ := id hI
  refine lv_aload_n hx hb dX5_says_0 rfl (lv_at hl 0 rfl) ?_
  refine n_get (C := RX5) (T := TX5) (N := 7) hx hb hts (fun _ h => List.mem_cons_of_mem _ (List.mem_append_left _ (List.mem_append_right _ h))) hown hK hP 0 rfl rfl 0 (by decide) (List.mem_of_getElem? (i := 1) rfl) rfl (.ref (hm 0)) rfl dX5_says_1 ?_
  refine lv_iload_n hx hb dX5_says_4 rfl (lv_at hl 1 rfl) ?_
  refine callVI (rest := []) (wn := fun u => ([xO x hm kp tr hi, (x 7, .inl (G.2.1, 7, .inl tl))] ++ (wH G hm σ))) ⟨hx, hb, hml, hown, hts⟩ (c_X0_hasOne l G H.size hm σ a0 (by omega)) (cwV 1 hts gX5_says_X0_hasOne rfl rfl rfl (by decide +kernel) ⟨Nat.le_of_ble_eq_true rfl, Nat.le_of_ble_eq_true rfl⟩) noXB (fun _ _ _ => trivial) hK hP hD hS hAq 0 0 (T := TX0) (N := 11) rfl rfl rfl hl.1 rfl (Nat.le_of_ble_eq_true rfl) dX5_says_5 ⟨Nat.le_of_ble_eq_true rfl, Nat.le_of_ble_eq_true rfl⟩ [2, 3, 4, 5, 6, 7] rfl rfl [hm 0, hm 1, hm 2, hm 3, hm 4, hm 5] rfl (fun _ => rfl) (fun _ => rfl) (fun u H locs hok hP hD hS => ?_)
  refine z_if_ne hx hb (tgt := 17) dX5_says_8 (by decide) (fun c_1 => ?_) (fun c_1 => ?_)
  · obtain ⟨k0, hk0, rfl⟩ := nI_of_rg (n := 7) (x := a0) ⟨by omega, by omega⟩
    have hT0 := nI_T (a := k0) (by omega)
    have hp0 : k0 < σ 5 := by omega
    obtain ⟨q00, q01, q02, q03, q04⟩ := ip k0 (by omega)
    refine lv_iload_n hx hb dX5_says_17 rfl (lv_at hl 2 rfl) ?_
    refine lv_iconst (v := nI 0) hx hb dX5_says_18 rfl ?_
    refine lv_iconst (v := nI 1) hx hb dX5_says_19 rfl ?_
    refine callSI (rest := []) (wn := fun u => ([xO x hm kp tr hi, (x 7, .inl (G.2.1, 7, .inl tl))] ++ (wH G hm σ))) ⟨hx, hb, hml, hown, hts⟩ (c_X5_isWithin l G H.size a1 (nI 0) (nI 1)) (va_cwS 3 hts gX5_says_X5_isWithin rfl rfl rfl (by decide +kernel) ⟨Nat.le_of_ble_eq_true rfl, Nat.le_of_ble_eq_true rfl⟩) noXB (fun _ _ _ => trivial) hK hP hD hS hAq rfl hl.1 rfl (Nat.le_of_ble_eq_true rfl) dX5_says_20 ⟨Nat.le_of_ble_eq_true rfl, Nat.le_of_ble_eq_true rfl⟩ [] rfl rfl [] rfl (fun _ => rfl) (fun _ => rfl) (fun u H locs hok hP hD hS => ?_)
    refine n_top (y := zI ((0 : Int) ≤ a1.toInt ∧ a1.toInt ≤ 1)) (zI_c (by rw [nI_T (show 0 < 2147483648 by decide), nI_T (show 1 < 2147483648 by decide)]; exact Iff.rfl)) ?_
    refine z_if_ne hx hb (tgt := 32) dX5_says_23 (by decide) (fun c_2 => ?_) (fun c_2 => ?_)
    · obtain ⟨w1, hw1, rfl⟩ := nI_of_rg (n := 1) (x := a1) ⟨by omega, by omega⟩
      have hT1 := nI_T (a := w1) (by omega)
      refine lv_iload_n hx hb dX5_says_32 rfl (lv_at hl 3 rfl) ?_
      refine lv_iconst (v := nI 0) hx hb dX5_says_33 rfl ?_
      refine lv_sipush (v := nI 999) hx hb dX5_says_34 rfl ?_
      refine callSI (rest := []) (wn := fun u => ([xO x hm kp tr hi, (x 7, .inl (G.2.1, 7, .inl tl))] ++ (wH G hm σ))) ⟨hx, hb, hml, hown, hts⟩ (c_X5_isWithin l G H.size a2 (nI 0) (nI 999)) (va_cwS 3 hts gX5_says_X5_isWithin rfl rfl rfl (by decide +kernel) ⟨Nat.le_of_ble_eq_true rfl, Nat.le_of_ble_eq_true rfl⟩) noXB (fun _ _ _ => trivial) hK hP hD hS hAq rfl hl.1 rfl (Nat.le_of_ble_eq_true rfl) dX5_says_37 ⟨Nat.le_of_ble_eq_true rfl, Nat.le_of_ble_eq_true rfl⟩ [] rfl rfl [] rfl (fun _ => rfl) (fun _ => rfl) (fun u H locs hok hP hD hS => ?_)
      refine n_top (y := zI ((0 : Int) ≤ a2.toInt ∧ a2.toInt ≤ 999)) (zI_c (by rw [nI_T (show 0 < 2147483648 by decide), nI_T (show 999 < 2147483648 by decide)]; exact Iff.rfl)) ?_
      refine z_if_ne hx hb (tgt := 49) dX5_says_40 (by decide) (fun c_3 => ?_) (fun c_3 => ?_)
      · obtain ⟨n2, hn2, rfl⟩ := nI_of_rg (n := 999) (x := a2) ⟨by omega, by omega⟩
        have hT2 := nI_T (a := n2) (by omega)
        have he0 := @entersK_le (σ (pl k0 0)) (σ (pl k0 2)) n2 (by omega) (by omega)
        refine lv_aload_n hx hb dX5_says_49 rfl (lv_at hl 0 rfl) ?_
        refine n_get (C := RX5) (T := TX5) (N := 7) hx hb hts (fun _ h => List.mem_cons_of_mem _ (List.mem_append_left _ (List.mem_append_right _ h))) hown hK hP 0 rfl rfl 0 (by decide) (List.mem_of_getElem? (i := 1) rfl) rfl (.ref (hm 0)) rfl dX5_says_50 ?_
        refine n_get (C := RX0) (T := TX0) (N := 11) hx hb hts (fun _ h => List.mem_cons_of_mem _ (List.mem_append_right _ h)) hown hK hP 2 rfl rfl 6 (by decide) (List.mem_of_getElem? (i := 2) rfl) rfl (.ref (hm 1)) rfl dX5_says_53 ?_
        refine lv_iload_n hx hb dX5_says_56 rfl (lv_at hl 1 rfl) ?_
        refine n_iald hx hb hK hP 3 (v := (nI (σ (pl k0 0)))) rfl (by omega) (by omega) rfl dX5_says_57 ?_
        refine lv_aload_n hx hb dX5_says_58 rfl (lv_at hl 0 rfl) ?_
        refine n_get (C := RX5) (T := TX5) (N := 7) hx hb hts (fun _ h => List.mem_cons_of_mem _ (List.mem_append_left _ (List.mem_append_right _ h))) hown hK hP 0 rfl rfl 0 (by decide) (List.mem_of_getElem? (i := 1) rfl) rfl (.ref (hm 0)) rfl dX5_says_59 ?_
        refine n_get (C := RX0) (T := TX0) (N := 11) hx hb hts (fun _ h => List.mem_cons_of_mem _ (List.mem_append_right _ h)) hown hK hP 2 rfl rfl 8 (by decide) (List.mem_of_getElem? (i := 3) rfl) rfl (.ref (hm 3)) rfl dX5_says_62 ?_
        refine lv_iload_n hx hb dX5_says_65 rfl (lv_at hl 1 rfl) ?_
        refine n_iald hx hb hK hP 5 (v := (nI (σ (pl k0 2)))) rfl (by omega) (by omega) rfl dX5_says_66 ?_
        refine lv_iload_n hx hb dX5_says_67 rfl (lv_at hl 3 rfl) ?_
        refine callSI (rest := []) (wn := fun u => ([xO x hm kp tr hi, (x 7, .inl (G.2.1, 7, .inl tl))] ++ (wH G hm σ))) ⟨hx, hb, hml, hown, hts⟩ (c_X2_enters l G H.size (σ (pl k0 0)) (σ (pl k0 2)) n2 (by omega) (by omega)) (va_cwS 3 hts gX5_says_X2_enters rfl rfl rfl (by decide +kernel) ⟨Nat.le_of_ble_eq_true rfl, Nat.le_of_ble_eq_true rfl⟩) noXB (fun _ _ _ => trivial) hK hP hD hS hAq rfl hl.1 rfl (Nat.le_of_ble_eq_true rfl) dX5_says_68 ⟨Nat.le_of_ble_eq_true rfl, Nat.le_of_ble_eq_true rfl⟩ [] rfl rfl [] rfl (fun _ => rfl) (fun _ => rfl) (fun u H locs hok hP hD hS => ?_)
        refine lv_istore (lv' := [(4, .int (nI (entersK (σ (pl k0 0)) (σ (pl k0 2)) n2))), (0, .ref (x 0)), (1, .int (nI k0)), (2, .int (nI w1)), (3, .int (nI n2))]) hx hb dX5_says_71 hl (by decide) rfl (fun ls hl => ?_)
        refine lv_iload_n hx hb dX5_says_73 rfl (lv_at hl 3 rfl) ?_
        refine n_if_ne hx hb (by omega) (tgt := 82) dX5_says_74 (by decide) (fun c_4 => ?_) (fun c_4 => ?_)
        · refine lv_aload_n hx hb dX5_says_82 rfl (lv_at hl 1 rfl) ?_
          refine n_get (C := RX5) (T := TX5) (N := 7) hx hb hts (fun _ h => List.mem_cons_of_mem _ (List.mem_append_left _ (List.mem_append_right _ h))) hown hK hP 0 rfl rfl 0 (by decide) (List.mem_of_getElem? (i := 1) rfl) rfl (.ref (hm 0)) rfl dX5_says_83 ?_
          refine n_get (C := RX0) (T := TX0) (N := 11) hx hb hts (fun _ h => List.mem_cons_of_mem _ (List.mem_append_right _ h)) hown hK hP 2 rfl rfl 6 (by decide) (List.mem_of_getElem? (i := 2) rfl) rfl (.ref (hm 1)) rfl dX5_says_86 ?_
          refine lv_iload_n hx hb dX5_says_89 rfl (lv_at hl 2 rfl) ?_
          refine n_iald hx hb hK hP 3 (v := (nI (σ (pl k0 0)))) rfl (by omega) (by omega) rfl dX5_says_90 ?_
          refine lv_iload_n hx hb dX5_says_91 rfl (lv_at hl 4 rfl) ?_
          refine lv_iload hx hb dX5_says_92 (lv_at hl 0 rfl) ?_
          refine callSI (rest := []) (wn := fun u => ([xO x hm kp tr hi, (x 7, .inl (G.2.1, 7, .inl tl))] ++ (wH G hm σ))) ⟨hx, hb, hml, hown, hts⟩ (c_X2_watchDays l G H.size (σ (pl k0 0)) n2 (entersK (σ (pl k0 0)) (σ (pl k0 2)) n2) (by omega) (by omega) (by omega)) (va_cwS 3 hts gX5_says_X2_watchDays rfl rfl rfl (by decide +kernel) ⟨Nat.le_of_ble_eq_true rfl, Nat.le_of_ble_eq_true rfl⟩) noXB (fun _ _ _ => trivial) hK hP hD hS hAq rfl hl.1 rfl (Nat.le_of_ble_eq_true rfl) dX5_says_94 ⟨Nat.le_of_ble_eq_true rfl, Nat.le_of_ble_eq_true rfl⟩ [] rfl rfl [] rfl (fun _ => rfl) (fun _ => rfl) (fun u H locs hok hP hD hS => ?_)
          have he : says_e σ (nI k0).toInt (nI w1).toInt (nI n2).toInt = 7 := by unfold says_e; (try simp only [hT0, hT1, hT2, Int.toNat_natCast]); (repeat' split) <;> omega
          exact fin_i hx hb hr hlk hS hP hD () trivial (by rw [he]; (try simp only [hT0, hT1, hT2, Int.toNat_natCast]); show nI _ = nI (says_v _ _ _ _); unfold says_v; refine congrArg nI ?_; first | (rw [if_pos (by omega)]; rfl) | (rw [if_neg (by omega)]; rfl)) (by rw [he]; (try simp only [hT0, hT1, hT2, Int.toNat_natCast]); exact eqW.rf _) dX5_says_97
        · refine lv_iload hx hb dX5_says_77 (lv_at hl 0 rfl) ?_
          refine lv_goto (tgt := 97) hx hb dX5_says_79 (by decide) ?_
          have he : says_e σ (nI k0).toInt (nI w1).toInt (nI n2).toInt = 7 := by unfold says_e; (try simp only [hT0, hT1, hT2, Int.toNat_natCast]); (repeat' split) <;> omega
          exact fin_i hx hb hr hlk hS hP hD () trivial (by rw [he]; (try simp only [hT0, hT1, hT2, Int.toNat_natCast]); show nI _ = nI (says_v _ _ _ _); unfold says_v; refine congrArg nI ?_; first | (rw [if_pos (by omega)]; rfl) | (rw [if_neg (by omega)]; rfl)) (by rw [he]; (try simp only [hT0, hT1, hT2, Int.toNat_natCast]); exact eqW.rf _) dX5_says_97
      · refine lv_aload_n hx hb dX5_says_43 rfl (lv_at hl 0 rfl) ?_
        refine lv_iconst (v := nI 0) hx hb dX5_says_44 rfl ?_
        refine callVI (rest := []) (wn := fun u => ([xO x hm kp tr hi, (x 7, .inl (G.2.1, 7, .inl (tk tl 0)))] ++ (wH G hm σ))) ⟨hx, hb, hml, hown, hts⟩ (c_X5_tell l G H.size x hm kp tr hi tl 0 (by omega)) (cwV 1 hts gX5_says_X5_tell rfl rfl rfl (by decide +kernel) ⟨Nat.le_of_ble_eq_true rfl, Nat.le_of_ble_eq_true rfl⟩) noXB (fun _ _ _ => trivial) hK hP hD hS hAq 4 0 (T := TX5) (N := 7) rfl rfl rfl hl.1 rfl (Nat.le_of_ble_eq_true rfl) dX5_says_45 ⟨Nat.le_of_ble_eq_true rfl, Nat.le_of_ble_eq_true rfl⟩ [0, 1] rfl rfl [x 0, x 7] rfl (fun _ => rfl) (fun _ => rfl) (fun u H locs hok hP hD hS => ?_)
        have he : says_e σ (nI k0).toInt (nI w1).toInt a2.toInt = 0 := by unfold says_e; (try simp only [hT0, hT1, Int.toNat_natCast]); (repeat' split) <;> omega
        exact fin_i hx hb hr hlk hS hP hD () trivial (by rw [he]; first | done | ((try simp only [hT0, hT1, Int.toNat_natCast]); first | done | rfl)) (by rw [he]; (try simp only [hT0, hT1, Int.toNat_natCast]); exact eqW.rf _) dX5_says_48
    · refine lv_aload_n hx hb dX5_says_26 rfl (lv_at hl 0 rfl) ?_
      refine lv_iconst (v := nI 0) hx hb dX5_says_27 rfl ?_
      refine callVI (rest := []) (wn := fun u => ([xO x hm kp tr hi, (x 7, .inl (G.2.1, 7, .inl (tk tl 0)))] ++ (wH G hm σ))) ⟨hx, hb, hml, hown, hts⟩ (c_X5_tell l G H.size x hm kp tr hi tl 0 (by omega)) (cwV 1 hts gX5_says_X5_tell rfl rfl rfl (by decide +kernel) ⟨Nat.le_of_ble_eq_true rfl, Nat.le_of_ble_eq_true rfl⟩) noXB (fun _ _ _ => trivial) hK hP hD hS hAq 4 0 (T := TX5) (N := 7) rfl rfl rfl hl.1 rfl (Nat.le_of_ble_eq_true rfl) dX5_says_28 ⟨Nat.le_of_ble_eq_true rfl, Nat.le_of_ble_eq_true rfl⟩ [0, 1] rfl rfl [x 0, x 7] rfl (fun _ => rfl) (fun _ => rfl) (fun u H locs hok hP hD hS => ?_)
      have he : says_e σ (nI k0).toInt a1.toInt a2.toInt = 0 := by unfold says_e; (try simp only [hT0, Int.toNat_natCast]); (repeat' split) <;> omega
      exact fin_i hx hb hr hlk hS hP hD () trivial (by rw [he]; first | done | ((try simp only [hT0, Int.toNat_natCast]); first | done | rfl)) (by rw [he]; (try simp only [hT0, Int.toNat_natCast]); exact eqW.rf _) dX5_says_31
  · refine lv_aload_n hx hb dX5_says_11 rfl (lv_at hl 0 rfl) ?_
    refine lv_iconst (v := nI 0) hx hb dX5_says_12 rfl ?_
    refine callVI (rest := []) (wn := fun u => ([xO x hm kp tr hi, (x 7, .inl (G.2.1, 7, .inl (tk tl 0)))] ++ (wH G hm σ))) ⟨hx, hb, hml, hown, hts⟩ (c_X5_tell l G H.size x hm kp tr hi tl 0 (by omega)) (cwV 1 hts gX5_says_X5_tell rfl rfl rfl (by decide +kernel) ⟨Nat.le_of_ble_eq_true rfl, Nat.le_of_ble_eq_true rfl⟩) noXB (fun _ _ _ => trivial) hK hP hD hS hAq 4 0 (T := TX5) (N := 7) rfl rfl rfl hl.1 rfl (Nat.le_of_ble_eq_true rfl) dX5_says_13 ⟨Nat.le_of_ble_eq_true rfl, Nat.le_of_ble_eq_true rfl⟩ [0, 1] rfl rfl [x 0, x 7] rfl (fun _ => rfl) (fun _ => rfl) (fun u H locs hok hP hD hS => ?_)
    have he : says_e σ a0.toInt a1.toInt a2.toInt = 0 := by unfold says_e; (try simp only [Int.toNat_natCast]); (repeat' split) <;> omega
    exact fin_i hx hb hr hlk hS hP hD () trivial (by rw [he]; first | done | ((try simp only [Int.toNat_natCast]); first | done | rfl)) (by rw [he]; (try simp only [Int.toNat_natCast]); exact eqW.rf _) dX5_says_16
set_option maxHeartbeats 400000 in
set_option maxRecDepth 100000 in
theorem c_X6_says (l : Launch) (G : GT) (sz : Nat) (b : Nat → Nat) (ζ : Nat → Nat) (vv : Int64) (tl : Nat → Int32) (σ : Sg) (a0 a1 a2 : Int32) (hI : Inv σ) (hd0 : σ 0 ≤ 9999) : MI (S := Unit) l G noX yX6_says wsX6_says ({ frames := 3, cells := 0, slots := 0, locals := 68 } : Room) [.ref (b 0), .int a0, .int a1, .int a2] ([mO b ζ vv, (b 4, .inl (G.2.1, 7, .inl tl)), (b 1, .inl (G.2.1, 46, .inl (nF σ)))]) sz (fun _ => True) (fun _ => rs (says_e σ a0.toInt a1.toInt a2.toInt) (nI (says_v σ a0.toInt.toNat a1.toInt.toNat a2.toInt.toNat))) (fun _ => [mO b ζ vv, (b 4, .inl (G.2.1, 7, .inl (ts tl (says_e σ a0.toInt a1.toInt a2.toInt)))), (b 1, .inl (G.2.1, 46, .inl (nF σ)))]) := by
  refine MI_enter (cc := cX6_says) (maxL := 4) (ret := (some .int)) (by decide) rfl (Nat.le_of_ble_eq_true rfl) ?_
  intro p e s m below meth c A ls H hx hb hr hlk hml hown hts hAq hS hP hK hD hX hl hnm
  have hown : s.vm.findClass RX6 = some m.cls := hown
  have hl : lv_has ls 4 [(0, .ref (b 0)), (1, .int a0), (2, .int a1), (3, .int a2)] := hl
  obtain ⟨⟨i1, i2, i3, i4, i5⟩, ip⟩ := id hI
  refine lv_aload_n hx hb dX6_says_0 rfl (lv_at hl 0 rfl) ?_
  refine lv_iload_n hx hb dX6_says_1 rfl (lv_at hl 1 rfl) ?_
  refine callVI (rest := []) (wn := fun u => [mO b ζ vv, (b 4, .inl (G.2.1, 7, .inl tl)), (b 1, .inl (G.2.1, 46, .inl (nF σ)))]) ⟨hx, hb, hml, hown, hts⟩ (c_X6_isPerson l G H.size b ζ vv σ a0 (by omega)) (cwV 1 hts gX6_says_X6_isPerson rfl rfl rfl (by decide +kernel) ⟨Nat.le_of_ble_eq_true rfl, Nat.le_of_ble_eq_true rfl⟩) noXB (fun _ _ _ => trivial) hK hP hD hS hAq 5 0 (T := TX6) (N := 18) rfl rfl rfl hl.1 rfl (Nat.le_of_ble_eq_true rfl) dX6_says_2 ⟨Nat.le_of_ble_eq_true rfl, Nat.le_of_ble_eq_true rfl⟩ [0, 2] rfl rfl [b 0, b 1] rfl (fun _ => rfl) (fun _ => rfl) (fun u H locs hok hP hD hS => ?_)
  refine z_if_eq hx hb (tgt := 28) dX6_says_5 (by decide) (fun c_1 => ?_) (fun c_1 => ?_)
  · refine lv_aload_n hx hb dX6_says_28 rfl (lv_at hl 0 rfl) ?_
    refine lv_iconst (v := nI 0) hx hb dX6_says_29 rfl ?_
    refine callVI (rest := []) (wn := fun u => [mO b ζ vv, (b 4, .inl (G.2.1, 7, .inl (tk tl 0))), (b 1, .inl (G.2.1, 46, .inl (nF σ)))]) ⟨hx, hb, hml, hown, hts⟩ (c_X6_no l G H.size b ζ vv tl 0 (by omega)) (cwV 1 hts gX6_says_X6_no rfl rfl rfl (by decide +kernel) ⟨Nat.le_of_ble_eq_true rfl, Nat.le_of_ble_eq_true rfl⟩) noXB (fun _ _ _ => trivial) hK hP hD hS hAq 5 0 (T := TX6) (N := 18) rfl rfl rfl hl.1 rfl (Nat.le_of_ble_eq_true rfl) dX6_says_30 ⟨Nat.le_of_ble_eq_true rfl, Nat.le_of_ble_eq_true rfl⟩ [0, 1] rfl rfl [b 0, b 4] rfl (fun _ => rfl) (fun _ => rfl) (fun u H locs hok hP hD hS => ?_)
    have he : says_e σ a0.toInt a1.toInt a2.toInt = 0 := by unfold says_e; (try simp only [Int.toNat_natCast]); (repeat' split) <;> omega
    exact fin_i hx hb hr hlk hS hP hD () trivial (by rw [he]; first | done | ((try simp only [Int.toNat_natCast]); first | done | rfl)) (by rw [he]; (try simp only [Int.toNat_natCast]); exact eqW.rf _) dX6_says_33
  · obtain ⟨k0, hk0, rfl⟩ := nI_of_rg (n := 7) (x := a0) ⟨by omega, by omega⟩
    have hT0 := nI_T (a := k0) (by omega)
    have hp0 : k0 < σ 5 := by omega
    obtain ⟨q00, q01, q02, q03, q04⟩ := ip k0 (by omega)
    refine lv_iload_n hx hb dX6_says_8 rfl (lv_at hl 2 rfl) ?_
    refine lv_iconst (v := nI 0) hx hb dX6_says_9 rfl ?_
    refine lv_iconst (v := nI 1) hx hb dX6_says_10 rfl ?_
    refine callSI (rest := []) (wn := fun u => [mO b ζ vv, (b 4, .inl (G.2.1, 7, .inl tl)), (b 1, .inl (G.2.1, 46, .inl (nF σ)))]) ⟨hx, hb, hml, hown, hts⟩ (c_X6_in1 l G H.size a1 (nI 0) (nI 1)) (va_cwS 3 hts gX6_says_X6_in1 rfl rfl rfl (by decide +kernel) ⟨Nat.le_of_ble_eq_true rfl, Nat.le_of_ble_eq_true rfl⟩) noXB (fun _ _ _ => trivial) hK hP hD hS hAq rfl hl.1 rfl (Nat.le_of_ble_eq_true rfl) dX6_says_11 ⟨Nat.le_of_ble_eq_true rfl, Nat.le_of_ble_eq_true rfl⟩ [] rfl rfl [] rfl (fun _ => rfl) (fun _ => rfl) (fun u H locs hok hP hD hS => ?_)
    refine n_top (y := zI ((0 : Int) ≤ a1.toInt ∧ a1.toInt ≤ 1)) (zI_c (by rw [nI_T (show 0 < 2147483648 by decide), nI_T (show 1 < 2147483648 by decide)]; exact Iff.rfl)) ?_
    refine z_if_eq hx hb (tgt := 28) dX6_says_14 (by decide) (fun c_2 => ?_) (fun c_2 => ?_)
    · refine lv_aload_n hx hb dX6_says_28 rfl (lv_at hl 0 rfl) ?_
      refine lv_iconst (v := nI 0) hx hb dX6_says_29 rfl ?_
      refine callVI (rest := []) (wn := fun u => [mO b ζ vv, (b 4, .inl (G.2.1, 7, .inl (tk tl 0))), (b 1, .inl (G.2.1, 46, .inl (nF σ)))]) ⟨hx, hb, hml, hown, hts⟩ (c_X6_no l G H.size b ζ vv tl 0 (by omega)) (cwV 1 hts gX6_says_X6_no rfl rfl rfl (by decide +kernel) ⟨Nat.le_of_ble_eq_true rfl, Nat.le_of_ble_eq_true rfl⟩) noXB (fun _ _ _ => trivial) hK hP hD hS hAq 5 0 (T := TX6) (N := 18) rfl rfl rfl hl.1 rfl (Nat.le_of_ble_eq_true rfl) dX6_says_30 ⟨Nat.le_of_ble_eq_true rfl, Nat.le_of_ble_eq_true rfl⟩ [0, 1] rfl rfl [b 0, b 4] rfl (fun _ => rfl) (fun _ => rfl) (fun u H locs hok hP hD hS => ?_)
      have he : says_e σ (nI k0).toInt a1.toInt a2.toInt = 0 := by unfold says_e; (try simp only [hT0, Int.toNat_natCast]); (repeat' split) <;> omega
      exact fin_i hx hb hr hlk hS hP hD () trivial (by rw [he]; first | done | ((try simp only [hT0, Int.toNat_natCast]); first | done | rfl)) (by rw [he]; (try simp only [hT0, Int.toNat_natCast]); exact eqW.rf _) dX6_says_33
    · obtain ⟨w1, hw1, rfl⟩ := nI_of_rg (n := 1) (x := a1) ⟨by omega, by omega⟩
      have hT1 := nI_T (a := w1) (by omega)
      refine lv_iload_n hx hb dX6_says_17 rfl (lv_at hl 3 rfl) ?_
      refine lv_iconst (v := nI 0) hx hb dX6_says_18 rfl ?_
      refine lv_sipush (v := nI 999) hx hb dX6_says_19 rfl ?_
      refine callSI (rest := []) (wn := fun u => [mO b ζ vv, (b 4, .inl (G.2.1, 7, .inl tl)), (b 1, .inl (G.2.1, 46, .inl (nF σ)))]) ⟨hx, hb, hml, hown, hts⟩ (c_X6_in1 l G H.size a2 (nI 0) (nI 999)) (va_cwS 3 hts gX6_says_X6_in1 rfl rfl rfl (by decide +kernel) ⟨Nat.le_of_ble_eq_true rfl, Nat.le_of_ble_eq_true rfl⟩) noXB (fun _ _ _ => trivial) hK hP hD hS hAq rfl hl.1 rfl (Nat.le_of_ble_eq_true rfl) dX6_says_22 ⟨Nat.le_of_ble_eq_true rfl, Nat.le_of_ble_eq_true rfl⟩ [] rfl rfl [] rfl (fun _ => rfl) (fun _ => rfl) (fun u H locs hok hP hD hS => ?_)
      refine n_top (y := zI ((0 : Int) ≤ a2.toInt ∧ a2.toInt ≤ 999)) (zI_c (by rw [nI_T (show 0 < 2147483648 by decide), nI_T (show 999 < 2147483648 by decide)]; exact Iff.rfl)) ?_
      refine z_if_ne hx hb (tgt := 34) dX6_says_25 (by decide) (fun c_3 => ?_) (fun c_3 => ?_)
      · obtain ⟨n2, hn2, rfl⟩ := nI_of_rg (n := 999) (x := a2) ⟨by omega, by omega⟩
        have hT2 := nI_T (a := n2) (by omega)
        have he0 := @entersK_le (σ (pl k0 0)) (σ (pl k0 2)) n2 (by omega) (by omega)
        refine lv_iload_n hx hb dX6_says_34 rfl (lv_at hl 2 rfl) ?_
        refine n_if_ne hx hb (by omega) (tgt := 47) dX6_says_35 (by decide) (fun c_4 => ?_) (fun c_4 => ?_)
        · refine lv_aload_n hx hb dX6_says_47 rfl (lv_at hl 0 rfl) ?_
          refine lv_iload_n hx hb dX6_says_48 rfl (lv_at hl 1 rfl) ?_
          refine lv_iload_n hx hb dX6_says_49 rfl (lv_at hl 3 rfl) ?_
          refine callVI (rest := []) (wn := fun u => [mO b ζ vv, (b 4, .inl (G.2.1, 7, .inl tl)), (b 1, .inl (G.2.1, 46, .inl (nF σ)))]) ⟨hx, hb, hml, hown, hts⟩ (c_X6_isWatchedFor l G H.size b ζ vv σ k0 n2 (by omega) (by omega) (by omega) (by omega)) (cwV 2 hts gX6_says_X6_isWatchedFor rfl rfl rfl (by decide +kernel) ⟨Nat.le_of_ble_eq_true rfl, Nat.le_of_ble_eq_true rfl⟩) noXB (fun _ _ _ => trivial) hK hP hD hS hAq 5 0 (T := TX6) (N := 18) rfl rfl rfl hl.1 rfl (Nat.le_of_ble_eq_true rfl) dX6_says_50 ⟨Nat.le_of_ble_eq_true rfl, Nat.le_of_ble_eq_true rfl⟩ [0, 2] rfl rfl [b 0, b 1] rfl (fun _ => rfl) (fun _ => rfl) (fun u H locs hok hP hD hS => ?_)
          have he : says_e σ (nI k0).toInt (nI w1).toInt (nI n2).toInt = 7 := by unfold says_e; (try simp only [hT0, hT1, hT2, Int.toNat_natCast]); (repeat' split) <;> omega
          exact fin_i hx hb hr hlk hS hP hD () trivial (by rw [he]; (try simp only [hT0, hT1, hT2, Int.toNat_natCast]); show nI _ = nI (says_v _ _ _ _); unfold says_v; refine congrArg nI ?_; first | (rw [if_pos (by omega)]; rfl) | (rw [if_neg (by omega)]; rfl)) (by rw [he]; (try simp only [hT0, hT1, hT2, Int.toNat_natCast]); exact eqW.rf _) dX6_says_53
        · refine lv_aload_n hx hb dX6_says_38 rfl (lv_at hl 0 rfl) ?_
          refine lv_iload_n hx hb dX6_says_39 rfl (lv_at hl 1 rfl) ?_
          refine lv_iload_n hx hb dX6_says_40 rfl (lv_at hl 3 rfl) ?_
          refine callVI (rest := []) (wn := fun u => [mO b ζ vv, (b 4, .inl (G.2.1, 7, .inl tl)), (b 1, .inl (G.2.1, 46, .inl (nF σ)))]) ⟨hx, hb, hml, hown, hts⟩ (c_X6_entersOf l G H.size b ζ vv σ k0 n2 (by omega) (by omega) (by omega)) (cwV 2 hts gX6_says_X6_entersOf rfl rfl rfl (by decide +kernel) ⟨Nat.le_of_ble_eq_true rfl, Nat.le_of_ble_eq_true rfl⟩) noXB (fun _ _ _ => trivial) hK hP hD hS hAq 5 0 (T := TX6) (N := 18) rfl rfl rfl hl.1 rfl (Nat.le_of_ble_eq_true rfl) dX6_says_41 ⟨Nat.le_of_ble_eq_true rfl, Nat.le_of_ble_eq_true rfl⟩ [0, 2] rfl rfl [b 0, b 1] rfl (fun _ => rfl) (fun _ => rfl) (fun u H locs hok hP hD hS => ?_)
          refine lv_goto (tgt := 53) hx hb dX6_says_44 (by decide) ?_
          have he : says_e σ (nI k0).toInt (nI w1).toInt (nI n2).toInt = 7 := by unfold says_e; (try simp only [hT0, hT1, hT2, Int.toNat_natCast]); (repeat' split) <;> omega
          exact fin_i hx hb hr hlk hS hP hD () trivial (by rw [he]; (try simp only [hT0, hT1, hT2, Int.toNat_natCast]); show nI _ = nI (says_v _ _ _ _); unfold says_v; refine congrArg nI ?_; first | (rw [if_pos (by omega)]; rfl) | (rw [if_neg (by omega)]; rfl)) (by rw [he]; (try simp only [hT0, hT1, hT2, Int.toNat_natCast]); exact eqW.rf _) dX6_says_53
      · refine lv_aload_n hx hb dX6_says_28 rfl (lv_at hl 0 rfl) ?_
        refine lv_iconst (v := nI 0) hx hb dX6_says_29 rfl ?_
        refine callVI (rest := []) (wn := fun u => [mO b ζ vv, (b 4, .inl (G.2.1, 7, .inl (tk tl 0))), (b 1, .inl (G.2.1, 46, .inl (nF σ)))]) ⟨hx, hb, hml, hown, hts⟩ (c_X6_no l G H.size b ζ vv tl 0 (by omega)) (cwV 1 hts gX6_says_X6_no rfl rfl rfl (by decide +kernel) ⟨Nat.le_of_ble_eq_true rfl, Nat.le_of_ble_eq_true rfl⟩) noXB (fun _ _ _ => trivial) hK hP hD hS hAq 5 0 (T := TX6) (N := 18) rfl rfl rfl hl.1 rfl (Nat.le_of_ble_eq_true rfl) dX6_says_30 ⟨Nat.le_of_ble_eq_true rfl, Nat.le_of_ble_eq_true rfl⟩ [0, 1] rfl rfl [b 0, b 4] rfl (fun _ => rfl) (fun _ => rfl) (fun u H locs hok hP hD hS => ?_)
        have he : says_e σ (nI k0).toInt (nI w1).toInt a2.toInt = 0 := by unfold says_e; (try simp only [hT0, hT1, Int.toNat_natCast]); (repeat' split) <;> omega
        exact fin_i hx hb hr hlk hS hP hD () trivial (by rw [he]; first | done | ((try simp only [hT0, hT1, Int.toNat_natCast]); first | done | rfl)) (by rw [he]; (try simp only [hT0, hT1, Int.toNat_natCast]); exact eqW.rf _) dX6_says_33
set_option maxHeartbeats 400000 in
set_option maxRecDepth 100000 in
theorem c_X5_set (l : Launch) (G : GT) (sz : Nat) (x hm kp tr : Nat → Nat) (hi : Nat) (tl : Nat → Int32) (σ : Sg) (a0 a1 a2 : Int32) (hI : Inv σ) (hd0 : σ 0 ≤ 9999) : MI (S := Unit) l G noX yX5_set wsX5_set ({ frames := 2, cells := 0, slots := 0, locals := 43 } : Room) [.ref (x 0), .int a0, .int a1, .int a2] (([xO x hm kp tr hi, (x 7, .inl (G.2.1, 7, .inl tl))] ++ (wH G hm σ))) sz (fun _ => True) (fun _ => rs (set_e σ a0.toInt a1.toInt a2.toInt) (nI (σ (pl a0.toInt.toNat a1.toInt.toNat)))) (fun _ => ([xO x hm kp tr hi, (x 7, .inl (G.2.1, 7, .inl (ts tl (set_e σ a0.toInt a1.toInt a2.toInt))))] ++ (wH G hm (hs (set_e σ a0.toInt a1.toInt a2.toInt) (un σ (pl a0.toInt.toNat a1.toInt.toNat) a2.toInt.toNat) σ)))) := by
  refine MI_enter (cc := cX5_set) (maxL := 4) (ret := (some .int)) (by decide) rfl (Nat.le_of_ble_eq_true rfl) ?_
  intro p e s m below meth c A ls H hx hb hr hlk hml hown hts hAq hS hP hK hD hX hl hnm
  have hown : s.vm.findClass RX5 = some m.cls := hown
  have hl : lv_has ls 4 [(0, .ref (x 0)), (1, .int a0), (2, .int a1), (3, .int a2)] := hl
  obtain ⟨⟨i1, i2, i3, i4, i5⟩, ip⟩ := id hI
  refine lv_aload_n hx hb dX5_set_0 rfl (lv_at hl 0 rfl) ?_
  refine n_get (C := RX5) (T := TX5) (N := 7) hx hb hts (fun _ h => List.mem_cons_of_mem _ (List.mem_append_left _ (List.mem_append_right _ h))) hown hK hP 0 rfl rfl 0 (by decide) (List.mem_of_getElem? (i := 1) rfl) rfl (.ref (hm 0)) rfl dX5_set_1 ?_
  refine lv_iload_n hx hb dX5_set_4 rfl (lv_at hl 1 rfl) ?_
  refine callVI (rest := []) (wn := fun u => ([xO x hm kp tr hi, (x 7, .inl (G.2.1, 7, .inl tl))] ++ (wH G hm σ))) ⟨hx, hb, hml, hown, hts⟩ (c_X0_hasOne l G H.size hm σ a0 (by omega)) (cwV 1 hts gX5_set_X0_hasOne rfl rfl rfl (by decide +kernel) ⟨Nat.le_of_ble_eq_true rfl, Nat.le_of_ble_eq_true rfl⟩) noXB (fun _ _ _ => trivial) hK hP hD hS hAq 0 0 (T := TX0) (N := 11) rfl rfl rfl hl.1 rfl (Nat.le_of_ble_eq_true rfl) dX5_set_5 ⟨Nat.le_of_ble_eq_true rfl, Nat.le_of_ble_eq_true rfl⟩ [2, 3, 4, 5, 6, 7] rfl rfl [hm 0, hm 1, hm 2, hm 3, hm 4, hm 5] rfl (fun _ => rfl) (fun _ => rfl) (fun u H locs hok hP hD hS => ?_)
  refine z_if_ne hx hb (tgt := 17) dX5_set_8 (by decide) (fun c_1 => ?_) (fun c_1 => ?_)
  · obtain ⟨k0, hk0, rfl⟩ := nI_of_rg (n := 7) (x := a0) ⟨by omega, by omega⟩
    have hT0 := nI_T (a := k0) (by omega)
    have hp0 : k0 < σ 5 := by omega
    obtain ⟨q00, q01, q02, q03, q04⟩ := ip k0 (by omega)
    refine lv_iload_n hx hb dX5_set_17 rfl (lv_at hl 2 rfl) ?_
    by_cases hsr : (1 : Int) ≤ a1.toInt ∧ a1.toInt ≤ 4
    · obtain ⟨w1, hw1, rfl⟩ := nI_of_rg (n := 4) (x := a1) ⟨by omega, by omega⟩
      have hTw1 := nI_T (a := w1) (by omega)
      rcases (show w1 = 1 ∨ w1 = 2 ∨ w1 = 3 ∨ w1 = 4 by omega) with rfl | rfl | rfl | rfl
      · refine n_tableIn (a := 1) rfl hx hb (off := 30) (tgt := 48) dX5_set_18 (by decide) (by decide) (by decide) (by decide) ?_
        refine lv_iload_n hx hb dX5_set_48 rfl (lv_at hl 3 rfl) ?_
        refine lv_iconst (v := nI 0) hx hb dX5_set_49 rfl ?_
        refine lv_bipush (v := nI 20) hx hb dX5_set_50 rfl ?_
        refine callSI (rest := []) (wn := fun u => ([xO x hm kp tr hi, (x 7, .inl (G.2.1, 7, .inl tl))] ++ (wH G hm σ))) ⟨hx, hb, hml, hown, hts⟩ (c_X5_isWithin l G H.size a2 (nI 0) (nI 20)) (va_cwS 3 hts gX5_set_X5_isWithin rfl rfl rfl (by decide +kernel) ⟨Nat.le_of_ble_eq_true rfl, Nat.le_of_ble_eq_true rfl⟩) noXB (fun _ _ _ => trivial) hK hP hD hS hAq rfl hl.1 rfl (Nat.le_of_ble_eq_true rfl) dX5_set_52 ⟨Nat.le_of_ble_eq_true rfl, Nat.le_of_ble_eq_true rfl⟩ [] rfl rfl [] rfl (fun _ => rfl) (fun _ => rfl) (fun u H locs hok hP hD hS => ?_)
        refine n_top (y := zI ((0 : Int) ≤ a2.toInt ∧ a2.toInt ≤ 20)) (zI_c (by rw [nI_T (show 0 < 2147483648 by decide), nI_T (show 20 < 2147483648 by decide)]; exact Iff.rfl)) ?_
        refine z_if_eq hx hb (tgt := 73) dX5_set_55 (by decide) (fun c_2 => ?_) (fun c_2 => ?_)
        · refine lv_aload_n hx hb dX5_set_73 rfl (lv_at hl 0 rfl) ?_
          refine lv_iconst (v := nI 0) hx hb dX5_set_74 rfl ?_
          refine callVI (rest := []) (wn := fun u => ([xO x hm kp tr hi, (x 7, .inl (G.2.1, 7, .inl (tk tl 0)))] ++ (wH G hm σ))) ⟨hx, hb, hml, hown, hts⟩ (c_X5_tell l G H.size x hm kp tr hi tl 0 (by omega)) (cwV 1 hts gX5_set_X5_tell rfl rfl rfl (by decide +kernel) ⟨Nat.le_of_ble_eq_true rfl, Nat.le_of_ble_eq_true rfl⟩) noXB (fun _ _ _ => trivial) hK hP hD hS hAq 4 0 (T := TX5) (N := 7) rfl rfl rfl hl.1 rfl (Nat.le_of_ble_eq_true rfl) dX5_set_75 ⟨Nat.le_of_ble_eq_true rfl, Nat.le_of_ble_eq_true rfl⟩ [0, 1] rfl rfl [x 0, x 7] rfl (fun _ => rfl) (fun _ => rfl) (fun u H locs hok hP hD hS => ?_)
          have he : set_e σ (nI k0).toInt (nI 1).toInt a2.toInt = 0 := by unfold set_e; (try simp only [hT0, hTw1, Int.toNat_natCast]); (repeat' split) <;> omega
          exact fin_i hx hb hr hlk hS hP hD () trivial (by rw [he]; first | done | ((try simp only [hT0, hTw1, Int.toNat_natCast]); first | done | rfl)) (by rw [he]; (try simp only [hT0, hTw1, Int.toNat_natCast]); exact eqW.rf _) dX5_set_78
        · obtain ⟨v2, hv2, rfl⟩ := nI_of_rg (n := 20) (x := a2) ⟨by omega, by omega⟩
          have hT2 := nI_T (a := v2) (by omega)
          refine lv_aload_n hx hb dX5_set_58 rfl (lv_at hl 0 rfl) ?_
          refine n_get (C := RX5) (T := TX5) (N := 7) hx hb hts (fun _ h => List.mem_cons_of_mem _ (List.mem_append_left _ (List.mem_append_right _ h))) hown hK hP 0 rfl rfl 0 (by decide) (List.mem_of_getElem? (i := 1) rfl) rfl (.ref (hm 0)) rfl dX5_set_59 ?_
          refine n_get (C := RX0) (T := TX0) (N := 11) hx hb hts (fun _ h => List.mem_cons_of_mem _ (List.mem_append_right _ h)) hown hK hP 2 rfl rfl 7 (by decide) (List.mem_of_getElem? (i := 2) rfl) rfl (.ref (hm 2)) rfl dX5_set_62 ?_
          refine lv_iload_n hx hb dX5_set_65 rfl (lv_at hl 1 rfl) ?_
          refine lv_iload_n hx hb dX5_set_66 rfl (lv_at hl 3 rfl) ?_
          refine callSI (rest := []) (wn := fun u => ([xO x hm kp tr hi, (x 7, .inl (G.2.1, 7, .inl tl))] ++ (wH G hm (un σ (pl k0 1) v2)))) ⟨hx, hb, hml, hown, hts⟩ (c_X5_put l G H.size (hm 2) (hA σ 1) k0 v2 (by omega)) (va_cwS 3 hts gX5_set_X5_put rfl rfl rfl (by decide +kernel) ⟨Nat.le_of_ble_eq_true rfl, Nat.le_of_ble_eq_true rfl⟩) noXB (fun _ _ _ => trivial) hK hP hD hS hAq rfl hl.1 rfl (Nat.le_of_ble_eq_true rfl) dX5_set_67 ⟨Nat.le_of_ble_eq_true rfl, Nat.le_of_ble_eq_true rfl⟩ [4] rfl rfl [hm 2] rfl (fun _ => rfl) (fun _ => (congrArg (fun hole_w : va_W => ([xO x hm kp tr hi, (x 7, .inl (G.2.1, 7, .inl tl))] ++ (hole_w))) (wH_v1 G hm σ k0 v2))) (fun u H locs hok hP hD hS => ?_)
          refine lv_goto (tgt := 78) hx hb dX5_set_70 (by decide) ?_
          have he : set_e σ (nI k0).toInt (nI 1).toInt (nI v2).toInt = 7 := by unfold set_e; (try simp only [hT0, hTw1, hT2, Int.toNat_natCast]); (repeat' split) <;> omega
          exact fin_i hx hb hr hlk hS hP hD () trivial (by rw [he]; first | done | ((try simp only [hT0, hTw1, hT2, Int.toNat_natCast]); first | done | rfl)) (by rw [he]; (try simp only [hT0, hTw1, hT2, Int.toNat_natCast]); exact eqW.rf _) dX5_set_78
      · refine n_tableIn (a := 2) rfl hx hb (off := 61) (tgt := 79) dX5_set_18 (by decide) (by decide) (by decide) (by decide) ?_
        refine lv_iload_n hx hb dX5_set_79 rfl (lv_at hl 3 rfl) ?_
        refine lv_iconst (v := nI 0) hx hb dX5_set_80 rfl ?_
        refine lv_bipush (v := nI 99) hx hb dX5_set_81 rfl ?_
        refine callSI (rest := []) (wn := fun u => ([xO x hm kp tr hi, (x 7, .inl (G.2.1, 7, .inl tl))] ++ (wH G hm σ))) ⟨hx, hb, hml, hown, hts⟩ (c_X5_isWithin l G H.size a2 (nI 0) (nI 99)) (va_cwS 3 hts gX5_set_X5_isWithin rfl rfl rfl (by decide +kernel) ⟨Nat.le_of_ble_eq_true rfl, Nat.le_of_ble_eq_true rfl⟩) noXB (fun _ _ _ => trivial) hK hP hD hS hAq rfl hl.1 rfl (Nat.le_of_ble_eq_true rfl) dX5_set_83 ⟨Nat.le_of_ble_eq_true rfl, Nat.le_of_ble_eq_true rfl⟩ [] rfl rfl [] rfl (fun _ => rfl) (fun _ => rfl) (fun u H locs hok hP hD hS => ?_)
        refine n_top (y := zI ((0 : Int) ≤ a2.toInt ∧ a2.toInt ≤ 99)) (zI_c (by rw [nI_T (show 0 < 2147483648 by decide), nI_T (show 99 < 2147483648 by decide)]; exact Iff.rfl)) ?_
        refine z_if_eq hx hb (tgt := 104) dX5_set_86 (by decide) (fun c_3 => ?_) (fun c_3 => ?_)
        · refine lv_aload_n hx hb dX5_set_104 rfl (lv_at hl 0 rfl) ?_
          refine lv_iconst (v := nI 0) hx hb dX5_set_105 rfl ?_
          refine callVI (rest := []) (wn := fun u => ([xO x hm kp tr hi, (x 7, .inl (G.2.1, 7, .inl (tk tl 0)))] ++ (wH G hm σ))) ⟨hx, hb, hml, hown, hts⟩ (c_X5_tell l G H.size x hm kp tr hi tl 0 (by omega)) (cwV 1 hts gX5_set_X5_tell rfl rfl rfl (by decide +kernel) ⟨Nat.le_of_ble_eq_true rfl, Nat.le_of_ble_eq_true rfl⟩) noXB (fun _ _ _ => trivial) hK hP hD hS hAq 4 0 (T := TX5) (N := 7) rfl rfl rfl hl.1 rfl (Nat.le_of_ble_eq_true rfl) dX5_set_106 ⟨Nat.le_of_ble_eq_true rfl, Nat.le_of_ble_eq_true rfl⟩ [0, 1] rfl rfl [x 0, x 7] rfl (fun _ => rfl) (fun _ => rfl) (fun u H locs hok hP hD hS => ?_)
          have he : set_e σ (nI k0).toInt (nI 2).toInt a2.toInt = 0 := by unfold set_e; (try simp only [hT0, hTw1, Int.toNat_natCast]); (repeat' split) <;> omega
          exact fin_i hx hb hr hlk hS hP hD () trivial (by rw [he]; first | done | ((try simp only [hT0, hTw1, Int.toNat_natCast]); first | done | rfl)) (by rw [he]; (try simp only [hT0, hTw1, Int.toNat_natCast]); exact eqW.rf _) dX5_set_109
        · obtain ⟨v2, hv2, rfl⟩ := nI_of_rg (n := 99) (x := a2) ⟨by omega, by omega⟩
          have hT2 := nI_T (a := v2) (by omega)
          refine lv_aload_n hx hb dX5_set_89 rfl (lv_at hl 0 rfl) ?_
          refine n_get (C := RX5) (T := TX5) (N := 7) hx hb hts (fun _ h => List.mem_cons_of_mem _ (List.mem_append_left _ (List.mem_append_right _ h))) hown hK hP 0 rfl rfl 0 (by decide) (List.mem_of_getElem? (i := 1) rfl) rfl (.ref (hm 0)) rfl dX5_set_90 ?_
          refine n_get (C := RX0) (T := TX0) (N := 11) hx hb hts (fun _ h => List.mem_cons_of_mem _ (List.mem_append_right _ h)) hown hK hP 2 rfl rfl 8 (by decide) (List.mem_of_getElem? (i := 3) rfl) rfl (.ref (hm 3)) rfl dX5_set_93 ?_
          refine lv_iload_n hx hb dX5_set_96 rfl (lv_at hl 1 rfl) ?_
          refine lv_iload_n hx hb dX5_set_97 rfl (lv_at hl 3 rfl) ?_
          refine callSI (rest := []) (wn := fun u => ([xO x hm kp tr hi, (x 7, .inl (G.2.1, 7, .inl tl))] ++ (wH G hm (un σ (pl k0 2) v2)))) ⟨hx, hb, hml, hown, hts⟩ (c_X5_put l G H.size (hm 3) (hA σ 2) k0 v2 (by omega)) (va_cwS 3 hts gX5_set_X5_put rfl rfl rfl (by decide +kernel) ⟨Nat.le_of_ble_eq_true rfl, Nat.le_of_ble_eq_true rfl⟩) noXB (fun _ _ _ => trivial) hK hP hD hS hAq rfl hl.1 rfl (Nat.le_of_ble_eq_true rfl) dX5_set_98 ⟨Nat.le_of_ble_eq_true rfl, Nat.le_of_ble_eq_true rfl⟩ [5] rfl rfl [hm 3] rfl (fun _ => rfl) (fun _ => (congrArg (fun hole_w : va_W => ([xO x hm kp tr hi, (x 7, .inl (G.2.1, 7, .inl tl))] ++ (hole_w))) (wH_v2 G hm σ k0 v2))) (fun u H locs hok hP hD hS => ?_)
          refine lv_goto (tgt := 109) hx hb dX5_set_101 (by decide) ?_
          have he : set_e σ (nI k0).toInt (nI 2).toInt (nI v2).toInt = 7 := by unfold set_e; (try simp only [hT0, hTw1, hT2, Int.toNat_natCast]); (repeat' split) <;> omega
          exact fin_i hx hb hr hlk hS hP hD () trivial (by rw [he]; first | done | ((try simp only [hT0, hTw1, hT2, Int.toNat_natCast]); first | done | rfl)) (by rw [he]; (try simp only [hT0, hTw1, hT2, Int.toNat_natCast]); exact eqW.rf _) dX5_set_109
      · refine n_tableIn (a := 3) rfl hx hb (off := 92) (tgt := 110) dX5_set_18 (by decide) (by decide) (by decide) (by decide) ?_
        refine lv_iload_n hx hb dX5_set_110 rfl (lv_at hl 3 rfl) ?_
        refine lv_iconst (v := nI 0) hx hb dX5_set_111 rfl ?_
        refine lv_bipush (v := nI 99) hx hb dX5_set_112 rfl ?_
        refine callSI (rest := []) (wn := fun u => ([xO x hm kp tr hi, (x 7, .inl (G.2.1, 7, .inl tl))] ++ (wH G hm σ))) ⟨hx, hb, hml, hown, hts⟩ (c_X5_isWithin l G H.size a2 (nI 0) (nI 99)) (va_cwS 3 hts gX5_set_X5_isWithin rfl rfl rfl (by decide +kernel) ⟨Nat.le_of_ble_eq_true rfl, Nat.le_of_ble_eq_true rfl⟩) noXB (fun _ _ _ => trivial) hK hP hD hS hAq rfl hl.1 rfl (Nat.le_of_ble_eq_true rfl) dX5_set_114 ⟨Nat.le_of_ble_eq_true rfl, Nat.le_of_ble_eq_true rfl⟩ [] rfl rfl [] rfl (fun _ => rfl) (fun _ => rfl) (fun u H locs hok hP hD hS => ?_)
        refine n_top (y := zI ((0 : Int) ≤ a2.toInt ∧ a2.toInt ≤ 99)) (zI_c (by rw [nI_T (show 0 < 2147483648 by decide), nI_T (show 99 < 2147483648 by decide)]; exact Iff.rfl)) ?_
        refine z_if_eq hx hb (tgt := 135) dX5_set_117 (by decide) (fun c_4 => ?_) (fun c_4 => ?_)
        · refine lv_aload_n hx hb dX5_set_135 rfl (lv_at hl 0 rfl) ?_
          refine lv_iconst (v := nI 0) hx hb dX5_set_136 rfl ?_
          refine callVI (rest := []) (wn := fun u => ([xO x hm kp tr hi, (x 7, .inl (G.2.1, 7, .inl (tk tl 0)))] ++ (wH G hm σ))) ⟨hx, hb, hml, hown, hts⟩ (c_X5_tell l G H.size x hm kp tr hi tl 0 (by omega)) (cwV 1 hts gX5_set_X5_tell rfl rfl rfl (by decide +kernel) ⟨Nat.le_of_ble_eq_true rfl, Nat.le_of_ble_eq_true rfl⟩) noXB (fun _ _ _ => trivial) hK hP hD hS hAq 4 0 (T := TX5) (N := 7) rfl rfl rfl hl.1 rfl (Nat.le_of_ble_eq_true rfl) dX5_set_137 ⟨Nat.le_of_ble_eq_true rfl, Nat.le_of_ble_eq_true rfl⟩ [0, 1] rfl rfl [x 0, x 7] rfl (fun _ => rfl) (fun _ => rfl) (fun u H locs hok hP hD hS => ?_)
          have he : set_e σ (nI k0).toInt (nI 3).toInt a2.toInt = 0 := by unfold set_e; (try simp only [hT0, hTw1, Int.toNat_natCast]); (repeat' split) <;> omega
          exact fin_i hx hb hr hlk hS hP hD () trivial (by rw [he]; first | done | ((try simp only [hT0, hTw1, Int.toNat_natCast]); first | done | rfl)) (by rw [he]; (try simp only [hT0, hTw1, Int.toNat_natCast]); exact eqW.rf _) dX5_set_140
        · obtain ⟨v2, hv2, rfl⟩ := nI_of_rg (n := 99) (x := a2) ⟨by omega, by omega⟩
          have hT2 := nI_T (a := v2) (by omega)
          refine lv_aload_n hx hb dX5_set_120 rfl (lv_at hl 0 rfl) ?_
          refine n_get (C := RX5) (T := TX5) (N := 7) hx hb hts (fun _ h => List.mem_cons_of_mem _ (List.mem_append_left _ (List.mem_append_right _ h))) hown hK hP 0 rfl rfl 0 (by decide) (List.mem_of_getElem? (i := 1) rfl) rfl (.ref (hm 0)) rfl dX5_set_121 ?_
          refine n_get (C := RX0) (T := TX0) (N := 11) hx hb hts (fun _ h => List.mem_cons_of_mem _ (List.mem_append_right _ h)) hown hK hP 2 rfl rfl 9 (by decide) (List.mem_of_getElem? (i := 4) rfl) rfl (.ref (hm 4)) rfl dX5_set_124 ?_
          refine lv_iload_n hx hb dX5_set_127 rfl (lv_at hl 1 rfl) ?_
          refine lv_iload_n hx hb dX5_set_128 rfl (lv_at hl 3 rfl) ?_
          refine callSI (rest := []) (wn := fun u => ([xO x hm kp tr hi, (x 7, .inl (G.2.1, 7, .inl tl))] ++ (wH G hm (un σ (pl k0 3) v2)))) ⟨hx, hb, hml, hown, hts⟩ (c_X5_put l G H.size (hm 4) (hA σ 3) k0 v2 (by omega)) (va_cwS 3 hts gX5_set_X5_put rfl rfl rfl (by decide +kernel) ⟨Nat.le_of_ble_eq_true rfl, Nat.le_of_ble_eq_true rfl⟩) noXB (fun _ _ _ => trivial) hK hP hD hS hAq rfl hl.1 rfl (Nat.le_of_ble_eq_true rfl) dX5_set_129 ⟨Nat.le_of_ble_eq_true rfl, Nat.le_of_ble_eq_true rfl⟩ [6] rfl rfl [hm 4] rfl (fun _ => rfl) (fun _ => (congrArg (fun hole_w : va_W => ([xO x hm kp tr hi, (x 7, .inl (G.2.1, 7, .inl tl))] ++ (hole_w))) (wH_v3 G hm σ k0 v2))) (fun u H locs hok hP hD hS => ?_)
          refine lv_goto (tgt := 140) hx hb dX5_set_132 (by decide) ?_
          have he : set_e σ (nI k0).toInt (nI 3).toInt (nI v2).toInt = 7 := by unfold set_e; (try simp only [hT0, hTw1, hT2, Int.toNat_natCast]); (repeat' split) <;> omega
          exact fin_i hx hb hr hlk hS hP hD () trivial (by rw [he]; first | done | ((try simp only [hT0, hTw1, hT2, Int.toNat_natCast]); first | done | rfl)) (by rw [he]; (try simp only [hT0, hTw1, hT2, Int.toNat_natCast]); exact eqW.rf _) dX5_set_140
      · refine n_tableIn (a := 4) rfl hx hb (off := 123) (tgt := 141) dX5_set_18 (by decide) (by decide) (by decide) (by decide) ?_
        refine lv_iload_n hx hb dX5_set_141 rfl (lv_at hl 3 rfl) ?_
        refine lv_iconst (v := nI 0) hx hb dX5_set_142 rfl ?_
        refine lv_ldc (v := 99999) hx hb hown (hts _ (List.mem_of_getElem? (i := 5) rfl)) dX5_set_143 ?_
        refine n_top (y := nI 99999) rfl ?_
        refine callSI (rest := []) (wn := fun u => ([xO x hm kp tr hi, (x 7, .inl (G.2.1, 7, .inl tl))] ++ (wH G hm σ))) ⟨hx, hb, hml, hown, hts⟩ (c_X5_isWithin l G H.size a2 (nI 0) (nI 99999)) (va_cwS 3 hts gX5_set_X5_isWithin rfl rfl rfl (by decide +kernel) ⟨Nat.le_of_ble_eq_true rfl, Nat.le_of_ble_eq_true rfl⟩) noXB (fun _ _ _ => trivial) hK hP hD hS hAq rfl hl.1 rfl (Nat.le_of_ble_eq_true rfl) dX5_set_145 ⟨Nat.le_of_ble_eq_true rfl, Nat.le_of_ble_eq_true rfl⟩ [] rfl rfl [] rfl (fun _ => rfl) (fun _ => rfl) (fun u H locs hok hP hD hS => ?_)
        refine n_top (y := zI ((0 : Int) ≤ a2.toInt ∧ a2.toInt ≤ 99999)) (zI_c (by rw [nI_T (show 0 < 2147483648 by decide), nI_T (show 99999 < 2147483648 by decide)]; exact Iff.rfl)) ?_
        refine z_if_eq hx hb (tgt := 166) dX5_set_148 (by decide) (fun c_5 => ?_) (fun c_5 => ?_)
        · refine lv_aload_n hx hb dX5_set_166 rfl (lv_at hl 0 rfl) ?_
          refine lv_iconst (v := nI 0) hx hb dX5_set_167 rfl ?_
          refine callVI (rest := []) (wn := fun u => ([xO x hm kp tr hi, (x 7, .inl (G.2.1, 7, .inl (tk tl 0)))] ++ (wH G hm σ))) ⟨hx, hb, hml, hown, hts⟩ (c_X5_tell l G H.size x hm kp tr hi tl 0 (by omega)) (cwV 1 hts gX5_set_X5_tell rfl rfl rfl (by decide +kernel) ⟨Nat.le_of_ble_eq_true rfl, Nat.le_of_ble_eq_true rfl⟩) noXB (fun _ _ _ => trivial) hK hP hD hS hAq 4 0 (T := TX5) (N := 7) rfl rfl rfl hl.1 rfl (Nat.le_of_ble_eq_true rfl) dX5_set_168 ⟨Nat.le_of_ble_eq_true rfl, Nat.le_of_ble_eq_true rfl⟩ [0, 1] rfl rfl [x 0, x 7] rfl (fun _ => rfl) (fun _ => rfl) (fun u H locs hok hP hD hS => ?_)
          have he : set_e σ (nI k0).toInt (nI 4).toInt a2.toInt = 0 := by unfold set_e; (try simp only [hT0, hTw1, Int.toNat_natCast]); (repeat' split) <;> omega
          exact fin_i hx hb hr hlk hS hP hD () trivial (by rw [he]; first | done | ((try simp only [hT0, hTw1, Int.toNat_natCast]); first | done | rfl)) (by rw [he]; (try simp only [hT0, hTw1, Int.toNat_natCast]); exact eqW.rf _) dX5_set_171
        · obtain ⟨v2, hv2, rfl⟩ := nI_of_rg (n := 99999) (x := a2) ⟨by omega, by omega⟩
          have hT2 := nI_T (a := v2) (by omega)
          refine lv_aload_n hx hb dX5_set_151 rfl (lv_at hl 0 rfl) ?_
          refine n_get (C := RX5) (T := TX5) (N := 7) hx hb hts (fun _ h => List.mem_cons_of_mem _ (List.mem_append_left _ (List.mem_append_right _ h))) hown hK hP 0 rfl rfl 0 (by decide) (List.mem_of_getElem? (i := 1) rfl) rfl (.ref (hm 0)) rfl dX5_set_152 ?_
          refine n_get (C := RX0) (T := TX0) (N := 11) hx hb hts (fun _ h => List.mem_cons_of_mem _ (List.mem_append_right _ h)) hown hK hP 2 rfl rfl 10 (by decide) (List.mem_of_getElem? (i := 6) rfl) rfl (.ref (hm 5)) rfl dX5_set_155 ?_
          refine lv_iload_n hx hb dX5_set_158 rfl (lv_at hl 1 rfl) ?_
          refine lv_iload_n hx hb dX5_set_159 rfl (lv_at hl 3 rfl) ?_
          refine callSI (rest := []) (wn := fun u => ([xO x hm kp tr hi, (x 7, .inl (G.2.1, 7, .inl tl))] ++ (wH G hm (un σ (pl k0 4) v2)))) ⟨hx, hb, hml, hown, hts⟩ (c_X5_put l G H.size (hm 5) (hA σ 4) k0 v2 (by omega)) (va_cwS 3 hts gX5_set_X5_put rfl rfl rfl (by decide +kernel) ⟨Nat.le_of_ble_eq_true rfl, Nat.le_of_ble_eq_true rfl⟩) noXB (fun _ _ _ => trivial) hK hP hD hS hAq rfl hl.1 rfl (Nat.le_of_ble_eq_true rfl) dX5_set_160 ⟨Nat.le_of_ble_eq_true rfl, Nat.le_of_ble_eq_true rfl⟩ [7] rfl rfl [hm 5] rfl (fun _ => rfl) (fun _ => (congrArg (fun hole_w : va_W => ([xO x hm kp tr hi, (x 7, .inl (G.2.1, 7, .inl tl))] ++ (hole_w))) (wH_v4 G hm σ k0 v2))) (fun u H locs hok hP hD hS => ?_)
          refine lv_goto (tgt := 171) hx hb dX5_set_163 (by decide) ?_
          have he : set_e σ (nI k0).toInt (nI 4).toInt (nI v2).toInt = 7 := by unfold set_e; (try simp only [hT0, hTw1, hT2, Int.toNat_natCast]); (repeat' split) <;> omega
          exact fin_i hx hb hr hlk hS hP hD () trivial (by rw [he]; first | done | ((try simp only [hT0, hTw1, hT2, Int.toNat_natCast]); first | done | rfl)) (by rw [he]; (try simp only [hT0, hTw1, hT2, Int.toNat_natCast]); exact eqW.rf _) dX5_set_171
    · refine lv_tableOut hx hb (tgt := 172) dX5_set_18 (by omega) (by decide) ?_
      refine lv_aload_n hx hb dX5_set_172 rfl (lv_at hl 0 rfl) ?_
      refine lv_iconst (v := nI 0) hx hb dX5_set_173 rfl ?_
      refine callVI (rest := []) (wn := fun u => ([xO x hm kp tr hi, (x 7, .inl (G.2.1, 7, .inl (tk tl 0)))] ++ (wH G hm σ))) ⟨hx, hb, hml, hown, hts⟩ (c_X5_tell l G H.size x hm kp tr hi tl 0 (by omega)) (cwV 1 hts gX5_set_X5_tell rfl rfl rfl (by decide +kernel) ⟨Nat.le_of_ble_eq_true rfl, Nat.le_of_ble_eq_true rfl⟩) noXB (fun _ _ _ => trivial) hK hP hD hS hAq 4 0 (T := TX5) (N := 7) rfl rfl rfl hl.1 rfl (Nat.le_of_ble_eq_true rfl) dX5_set_174 ⟨Nat.le_of_ble_eq_true rfl, Nat.le_of_ble_eq_true rfl⟩ [0, 1] rfl rfl [x 0, x 7] rfl (fun _ => rfl) (fun _ => rfl) (fun u H locs hok hP hD hS => ?_)
      have he : set_e σ (nI k0).toInt a1.toInt a2.toInt = 0 := by unfold set_e; (try simp only [hT0, Int.toNat_natCast]); (repeat' split) <;> omega
      exact fin_i hx hb hr hlk hS hP hD () trivial (by rw [he]; first | done | ((try simp only [hT0, Int.toNat_natCast]); first | done | rfl)) (by rw [he]; (try simp only [hT0, Int.toNat_natCast]); exact eqW.rf _) dX5_set_177
  · refine lv_aload_n hx hb dX5_set_11 rfl (lv_at hl 0 rfl) ?_
    refine lv_iconst (v := nI 0) hx hb dX5_set_12 rfl ?_
    refine callVI (rest := []) (wn := fun u => ([xO x hm kp tr hi, (x 7, .inl (G.2.1, 7, .inl (tk tl 0)))] ++ (wH G hm σ))) ⟨hx, hb, hml, hown, hts⟩ (c_X5_tell l G H.size x hm kp tr hi tl 0 (by omega)) (cwV 1 hts gX5_set_X5_tell rfl rfl rfl (by decide +kernel) ⟨Nat.le_of_ble_eq_true rfl, Nat.le_of_ble_eq_true rfl⟩) noXB (fun _ _ _ => trivial) hK hP hD hS hAq 4 0 (T := TX5) (N := 7) rfl rfl rfl hl.1 rfl (Nat.le_of_ble_eq_true rfl) dX5_set_13 ⟨Nat.le_of_ble_eq_true rfl, Nat.le_of_ble_eq_true rfl⟩ [0, 1] rfl rfl [x 0, x 7] rfl (fun _ => rfl) (fun _ => rfl) (fun u H locs hok hP hD hS => ?_)
    have he : set_e σ a0.toInt a1.toInt a2.toInt = 0 := by unfold set_e; (try simp only [Int.toNat_natCast]); (repeat' split) <;> omega
    exact fin_i hx hb hr hlk hS hP hD () trivial (by rw [he]; first | done | ((try simp only [Int.toNat_natCast]); first | done | rfl)) (by rw [he]; (try simp only [Int.toNat_natCast]); exact eqW.rf _) dX5_set_16
set_option maxHeartbeats 400000 in
set_option maxRecDepth 100000 in
theorem c_X6_set (l : Launch) (G : GT) (sz : Nat) (b : Nat → Nat) (ζ : Nat → Nat) (vv : Int64) (tl : Nat → Int32) (σ : Sg) (a0 a1 a2 : Int32) (hI : Inv σ) (hd0 : σ 0 ≤ 9999) : MI (S := Unit) l G noX yX6_set wsX6_set ({ frames := 2, cells := 0, slots := 0, locals := 43 } : Room) [.ref (b 0), .int a0, .int a1, .int a2] ([mO b ζ vv, (b 4, .inl (G.2.1, 7, .inl tl)), (b 1, .inl (G.2.1, 46, .inl (nF σ)))]) sz (fun _ => True) (fun _ => rs (set_e σ a0.toInt a1.toInt a2.toInt) (nI (σ (pl a0.toInt.toNat a1.toInt.toNat)))) (fun _ => [mO b ζ vv, (b 4, .inl (G.2.1, 7, .inl (ts tl (set_e σ a0.toInt a1.toInt a2.toInt)))), (b 1, .inl (G.2.1, 46, .inl (nF (hs (set_e σ a0.toInt a1.toInt a2.toInt) (un σ (pl a0.toInt.toNat a1.toInt.toNat) a2.toInt.toNat) σ))))]) := by
  refine MI_enter (cc := cX6_set) (maxL := 6) (ret := (some .int)) (by decide) rfl (Nat.le_of_ble_eq_true rfl) ?_
  intro p e s m below meth c A ls H hx hb hr hlk hml hown hts hAq hS hP hK hD hX hl hnm
  have hown : s.vm.findClass RX6 = some m.cls := hown
  have hl : lv_has ls 6 [(0, .ref (b 0)), (1, .int a0), (2, .int a1), (3, .int a2)] := hl
  obtain ⟨⟨i1, i2, i3, i4, i5⟩, ip⟩ := id hI
  refine lv_iload_n hx hb dX6_set_0 rfl (lv_at hl 2 rfl) ?_
  refine lv_iconst (v := nI 1) hx hb dX6_set_1 rfl ?_
  refine r_icmp_ne hx hb (tgt := 10) dX6_set_2 (by decide) (fun c_1 => ?_) (fun c_1 => ?_)
  · rw [nI_T (by omega)] at c_1
    refine lv_iload_n hx hb dX6_set_10 rfl (lv_at hl 2 rfl) ?_
    refine lv_iconst (v := nI 4) hx hb dX6_set_11 rfl ?_
    refine r_icmp_ne hx hb (tgt := 20) dX6_set_12 (by decide) (fun c_2 => ?_) (fun c_2 => ?_)
    · rw [nI_T (by omega)] at c_2
      refine lv_bipush (v := nI 99) hx hb dX6_set_20 rfl ?_
      refine lv_istore (lv' := [(4, .int (nI 99)), (0, .ref (b 0)), (1, .int a0), (2, .int a1), (3, .int a2)]) hx hb dX6_set_22 hl (by decide) rfl (fun ls hl => ?_)
      refine lv_aload_n hx hb dX6_set_24 rfl (lv_at hl 1 rfl) ?_
      refine lv_iload_n hx hb dX6_set_25 rfl (lv_at hl 2 rfl) ?_
      refine callVI (rest := []) (wn := fun u => [mO b ζ vv, (b 4, .inl (G.2.1, 7, .inl tl)), (b 1, .inl (G.2.1, 46, .inl (nF σ)))]) ⟨hx, hb, hml, hown, hts⟩ (c_X6_isPerson l G H.size b ζ vv σ a0 (by omega)) (cwV 1 hts gX6_set_X6_isPerson rfl rfl rfl (by decide +kernel) ⟨Nat.le_of_ble_eq_true rfl, Nat.le_of_ble_eq_true rfl⟩) noXB (fun _ _ _ => trivial) hK hP hD hS hAq 5 0 (T := TX6) (N := 18) rfl rfl rfl hl.1 rfl (Nat.le_of_ble_eq_true rfl) dX6_set_26 ⟨Nat.le_of_ble_eq_true rfl, Nat.le_of_ble_eq_true rfl⟩ [0, 2] rfl rfl [b 0, b 1] rfl (fun _ => rfl) (fun _ => rfl) (fun u H locs hok hP hD hS => ?_)
      refine z_if_eq hx hb (tgt := 51) dX6_set_29 (by decide) (fun c_3 => ?_) (fun c_3 => ?_)
      · refine lv_aload_n hx hb dX6_set_51 rfl (lv_at hl 1 rfl) ?_
        refine lv_iconst (v := nI 0) hx hb dX6_set_52 rfl ?_
        refine callVI (rest := []) (wn := fun u => [mO b ζ vv, (b 4, .inl (G.2.1, 7, .inl (tk tl 0))), (b 1, .inl (G.2.1, 46, .inl (nF σ)))]) ⟨hx, hb, hml, hown, hts⟩ (c_X6_no l G H.size b ζ vv tl 0 (by omega)) (cwV 1 hts gX6_set_X6_no rfl rfl rfl (by decide +kernel) ⟨Nat.le_of_ble_eq_true rfl, Nat.le_of_ble_eq_true rfl⟩) noXB (fun _ _ _ => trivial) hK hP hD hS hAq 5 0 (T := TX6) (N := 18) rfl rfl rfl hl.1 rfl (Nat.le_of_ble_eq_true rfl) dX6_set_53 ⟨Nat.le_of_ble_eq_true rfl, Nat.le_of_ble_eq_true rfl⟩ [0, 1] rfl rfl [b 0, b 4] rfl (fun _ => rfl) (fun _ => rfl) (fun u H locs hok hP hD hS => ?_)
        have he : set_e σ a0.toInt a1.toInt a2.toInt = 0 := by unfold set_e; (try simp only [Int.toNat_natCast]); (repeat' split) <;> omega
        exact fin_i hx hb hr hlk hS hP hD () trivial (by rw [he]; first | done | ((try simp only [Int.toNat_natCast]); first | done | rfl)) (by rw [he]; (try simp only [Int.toNat_natCast]); exact eqW.rf _) dX6_set_56
      · obtain ⟨k0, hk0, rfl⟩ := nI_of_rg (n := 7) (x := a0) ⟨by omega, by omega⟩
        have hT0 := nI_T (a := k0) (by omega)
        have hp0 : k0 < σ 5 := by omega
        obtain ⟨q00, q01, q02, q03, q04⟩ := ip k0 (by omega)
        refine lv_iload_n hx hb dX6_set_32 rfl (lv_at hl 3 rfl) ?_
        refine lv_iconst (v := nI 1) hx hb dX6_set_33 rfl ?_
        refine lv_iconst (v := nI 4) hx hb dX6_set_34 rfl ?_
        refine callSI (rest := []) (wn := fun u => [mO b ζ vv, (b 4, .inl (G.2.1, 7, .inl tl)), (b 1, .inl (G.2.1, 46, .inl (nF σ)))]) ⟨hx, hb, hml, hown, hts⟩ (c_X6_in1 l G H.size a1 (nI 1) (nI 4)) (va_cwS 3 hts gX6_set_X6_in1 rfl rfl rfl (by decide +kernel) ⟨Nat.le_of_ble_eq_true rfl, Nat.le_of_ble_eq_true rfl⟩) noXB (fun _ _ _ => trivial) hK hP hD hS hAq rfl hl.1 rfl (Nat.le_of_ble_eq_true rfl) dX6_set_35 ⟨Nat.le_of_ble_eq_true rfl, Nat.le_of_ble_eq_true rfl⟩ [] rfl rfl [] rfl (fun _ => rfl) (fun _ => rfl) (fun u H locs hok hP hD hS => ?_)
        refine n_top (y := zI ((1 : Int) ≤ a1.toInt ∧ a1.toInt ≤ 4)) (zI_c (by rw [nI_T (show 1 < 2147483648 by decide), nI_T (show 4 < 2147483648 by decide)]; exact Iff.rfl)) ?_
        refine z_if_eq hx hb (tgt := 51) dX6_set_38 (by decide) (fun c_4 => ?_) (fun c_4 => ?_)
        · refine lv_aload_n hx hb dX6_set_51 rfl (lv_at hl 1 rfl) ?_
          refine lv_iconst (v := nI 0) hx hb dX6_set_52 rfl ?_
          refine callVI (rest := []) (wn := fun u => [mO b ζ vv, (b 4, .inl (G.2.1, 7, .inl (tk tl 0))), (b 1, .inl (G.2.1, 46, .inl (nF σ)))]) ⟨hx, hb, hml, hown, hts⟩ (c_X6_no l G H.size b ζ vv tl 0 (by omega)) (cwV 1 hts gX6_set_X6_no rfl rfl rfl (by decide +kernel) ⟨Nat.le_of_ble_eq_true rfl, Nat.le_of_ble_eq_true rfl⟩) noXB (fun _ _ _ => trivial) hK hP hD hS hAq 5 0 (T := TX6) (N := 18) rfl rfl rfl hl.1 rfl (Nat.le_of_ble_eq_true rfl) dX6_set_53 ⟨Nat.le_of_ble_eq_true rfl, Nat.le_of_ble_eq_true rfl⟩ [0, 1] rfl rfl [b 0, b 4] rfl (fun _ => rfl) (fun _ => rfl) (fun u H locs hok hP hD hS => ?_)
          have he : set_e σ (nI k0).toInt a1.toInt a2.toInt = 0 := by unfold set_e; (try simp only [hT0, Int.toNat_natCast]); (repeat' split) <;> omega
          exact fin_i hx hb hr hlk hS hP hD () trivial (by rw [he]; first | done | ((try simp only [hT0, Int.toNat_natCast]); first | done | rfl)) (by rw [he]; (try simp only [hT0, Int.toNat_natCast]); exact eqW.rf _) dX6_set_56
        · obtain ⟨w1, hw1, rfl⟩ := nI_of_rg (n := 4) (x := a1) ⟨by omega, by omega⟩
          have hT1 := nI_T (a := w1) (by omega)
          refine lv_iload_n hx hb dX6_set_41 rfl (lv_at hl 4 rfl) ?_
          refine lv_iconst (v := nI 0) hx hb dX6_set_42 rfl ?_
          refine lv_iload hx hb dX6_set_43 (lv_at hl 0 rfl) ?_
          refine callSI (rest := []) (wn := fun u => [mO b ζ vv, (b 4, .inl (G.2.1, 7, .inl tl)), (b 1, .inl (G.2.1, 46, .inl (nF σ)))]) ⟨hx, hb, hml, hown, hts⟩ (c_X6_in1 l G H.size a2 (nI 0) (nI 99)) (va_cwS 3 hts gX6_set_X6_in1 rfl rfl rfl (by decide +kernel) ⟨Nat.le_of_ble_eq_true rfl, Nat.le_of_ble_eq_true rfl⟩) noXB (fun _ _ _ => trivial) hK hP hD hS hAq rfl hl.1 rfl (Nat.le_of_ble_eq_true rfl) dX6_set_45 ⟨Nat.le_of_ble_eq_true rfl, Nat.le_of_ble_eq_true rfl⟩ [] rfl rfl [] rfl (fun _ => rfl) (fun _ => rfl) (fun u H locs hok hP hD hS => ?_)
          refine n_top (y := zI ((0 : Int) ≤ a2.toInt ∧ a2.toInt ≤ 99)) (zI_c (by rw [nI_T (show 0 < 2147483648 by decide), nI_T (show 99 < 2147483648 by decide)]; exact Iff.rfl)) ?_
          refine z_if_ne hx hb (tgt := 57) dX6_set_48 (by decide) (fun c_5 => ?_) (fun c_5 => ?_)
          · obtain ⟨v2, hv2, rfl⟩ := nI_of_rg (n := 99999) (x := a2) ⟨by omega, by omega⟩
            have hT2 := nI_T (a := v2) (by omega)
            refine lv_aload_n hx hb dX6_set_57 rfl (lv_at hl 1 rfl) ?_
            refine lv_iload_n hx hb dX6_set_58 rfl (lv_at hl 2 rfl) ?_
            refine lv_iload_n hx hb dX6_set_59 rfl (lv_at hl 3 rfl) ?_
            refine callVI (rest := []) (wn := fun u => [mO b ζ vv, (b 4, .inl (G.2.1, 7, .inl tl)), (b 1, .inl (G.2.1, 46, .inl (nF σ)))]) ⟨hx, hb, hml, hown, hts⟩ (c_X6_get l G H.size b ζ vv σ k0 w1 (by omega) (by omega)) (cwV 2 hts gX6_set_X6_get rfl rfl rfl (by decide +kernel) ⟨Nat.le_of_ble_eq_true rfl, Nat.le_of_ble_eq_true rfl⟩) noXB (fun _ _ _ => trivial) hK hP hD hS hAq 5 0 (T := TX6) (N := 18) rfl rfl rfl hl.1 rfl (Nat.le_of_ble_eq_true rfl) dX6_set_60 ⟨Nat.le_of_ble_eq_true rfl, Nat.le_of_ble_eq_true rfl⟩ [0, 2] rfl rfl [b 0, b 1] rfl (fun _ => rfl) (fun _ => rfl) (fun u H locs hok hP hD hS => ?_)
            refine lv_istore (lv' := [(5, .int (nI (σ (pl k0 w1)))), (4, .int (nI 99)), (0, .ref (b 0)), (1, .int (nI k0)), (2, .int (nI w1)), (3, .int (nI v2))]) hx hb dX6_set_63 hl (by decide) rfl (fun ls hl => ?_)
            refine lv_aload_n hx hb dX6_set_65 rfl (lv_at hl 2 rfl) ?_
            refine lv_iload_n hx hb dX6_set_66 rfl (lv_at hl 3 rfl) ?_
            refine lv_iload_n hx hb dX6_set_67 rfl (lv_at hl 4 rfl) ?_
            refine lv_iload_n hx hb dX6_set_68 rfl (lv_at hl 5 rfl) ?_
            refine callVV (rest := []) (wn := fun u => [mO b ζ vv, (b 4, .inl (G.2.1, 7, .inl tl)), (b 1, .inl (G.2.1, 46, .inl (nF (un σ (pl k0 w1) v2))))]) ⟨hx, hb, hml, hown, hts⟩ (c_X6_puts l G H.size b ζ vv σ k0 w1 v2 (by omega) (by omega)) (cwV 3 hts gX6_set_X6_puts rfl rfl rfl (by decide +kernel) ⟨Nat.le_of_ble_eq_true rfl, Nat.le_of_ble_eq_true rfl⟩) noXB (fun _ _ _ => trivial) hK hP hD hS hAq 5 0 (T := TX6) (N := 18) rfl rfl rfl hl.1 rfl (Nat.le_of_ble_eq_true rfl) dX6_set_69 ⟨Nat.le_of_ble_eq_true rfl, Nat.le_of_ble_eq_true rfl⟩ [0, 2] rfl rfl [b 0, b 1] rfl (fun _ => rfl) (fun _ => rfl) (fun u H locs hok hP hD hS => ?_)
            refine lv_iload hx hb dX6_set_72 (lv_at hl 0 rfl) ?_
            have he : set_e σ (nI k0).toInt (nI w1).toInt (nI v2).toInt = 7 := by unfold set_e; (try simp only [hT0, hT1, hT2, Int.toNat_natCast]); (repeat' split) <;> omega
            exact fin_i hx hb hr hlk hS hP hD () trivial (by rw [he]; first | done | ((try simp only [hT0, hT1, hT2, Int.toNat_natCast]); first | done | rfl)) (by rw [he]; (try simp only [hT0, hT1, hT2, Int.toNat_natCast]); exact eqW.rf _) dX6_set_74
          · refine lv_aload_n hx hb dX6_set_51 rfl (lv_at hl 1 rfl) ?_
            refine lv_iconst (v := nI 0) hx hb dX6_set_52 rfl ?_
            refine callVI (rest := []) (wn := fun u => [mO b ζ vv, (b 4, .inl (G.2.1, 7, .inl (tk tl 0))), (b 1, .inl (G.2.1, 46, .inl (nF σ)))]) ⟨hx, hb, hml, hown, hts⟩ (c_X6_no l G H.size b ζ vv tl 0 (by omega)) (cwV 1 hts gX6_set_X6_no rfl rfl rfl (by decide +kernel) ⟨Nat.le_of_ble_eq_true rfl, Nat.le_of_ble_eq_true rfl⟩) noXB (fun _ _ _ => trivial) hK hP hD hS hAq 5 0 (T := TX6) (N := 18) rfl rfl rfl hl.1 rfl (Nat.le_of_ble_eq_true rfl) dX6_set_53 ⟨Nat.le_of_ble_eq_true rfl, Nat.le_of_ble_eq_true rfl⟩ [0, 1] rfl rfl [b 0, b 4] rfl (fun _ => rfl) (fun _ => rfl) (fun u H locs hok hP hD hS => ?_)
            have he : set_e σ (nI k0).toInt (nI w1).toInt a2.toInt = 0 := by unfold set_e; (try simp only [hT0, hT1, Int.toNat_natCast]); (repeat' split) <;> omega
            exact fin_i hx hb hr hlk hS hP hD () trivial (by rw [he]; first | done | ((try simp only [hT0, hT1, Int.toNat_natCast]); first | done | rfl)) (by rw [he]; (try simp only [hT0, hT1, Int.toNat_natCast]); exact eqW.rf _) dX6_set_56
    · rw [nI_T (by omega)] at c_2
      refine lv_ldc (v := 99999) hx hb hown (hts _ (List.mem_of_getElem? (i := 1) rfl)) dX6_set_15 ?_
      refine n_top (y := nI 99999) rfl ?_
      refine lv_goto (tgt := 22) hx hb dX6_set_17 (by decide) ?_
      refine lv_istore (lv' := [(4, .int (nI 99999)), (0, .ref (b 0)), (1, .int a0), (2, .int a1), (3, .int a2)]) hx hb dX6_set_22 hl (by decide) rfl (fun ls hl => ?_)
      refine lv_aload_n hx hb dX6_set_24 rfl (lv_at hl 1 rfl) ?_
      refine lv_iload_n hx hb dX6_set_25 rfl (lv_at hl 2 rfl) ?_
      refine callVI (rest := []) (wn := fun u => [mO b ζ vv, (b 4, .inl (G.2.1, 7, .inl tl)), (b 1, .inl (G.2.1, 46, .inl (nF σ)))]) ⟨hx, hb, hml, hown, hts⟩ (c_X6_isPerson l G H.size b ζ vv σ a0 (by omega)) (cwV 1 hts gX6_set_X6_isPerson rfl rfl rfl (by decide +kernel) ⟨Nat.le_of_ble_eq_true rfl, Nat.le_of_ble_eq_true rfl⟩) noXB (fun _ _ _ => trivial) hK hP hD hS hAq 5 0 (T := TX6) (N := 18) rfl rfl rfl hl.1 rfl (Nat.le_of_ble_eq_true rfl) dX6_set_26 ⟨Nat.le_of_ble_eq_true rfl, Nat.le_of_ble_eq_true rfl⟩ [0, 2] rfl rfl [b 0, b 1] rfl (fun _ => rfl) (fun _ => rfl) (fun u H locs hok hP hD hS => ?_)
      refine z_if_eq hx hb (tgt := 51) dX6_set_29 (by decide) (fun c_6 => ?_) (fun c_6 => ?_)
      · refine lv_aload_n hx hb dX6_set_51 rfl (lv_at hl 1 rfl) ?_
        refine lv_iconst (v := nI 0) hx hb dX6_set_52 rfl ?_
        refine callVI (rest := []) (wn := fun u => [mO b ζ vv, (b 4, .inl (G.2.1, 7, .inl (tk tl 0))), (b 1, .inl (G.2.1, 46, .inl (nF σ)))]) ⟨hx, hb, hml, hown, hts⟩ (c_X6_no l G H.size b ζ vv tl 0 (by omega)) (cwV 1 hts gX6_set_X6_no rfl rfl rfl (by decide +kernel) ⟨Nat.le_of_ble_eq_true rfl, Nat.le_of_ble_eq_true rfl⟩) noXB (fun _ _ _ => trivial) hK hP hD hS hAq 5 0 (T := TX6) (N := 18) rfl rfl rfl hl.1 rfl (Nat.le_of_ble_eq_true rfl) dX6_set_53 ⟨Nat.le_of_ble_eq_true rfl, Nat.le_of_ble_eq_true rfl⟩ [0, 1] rfl rfl [b 0, b 4] rfl (fun _ => rfl) (fun _ => rfl) (fun u H locs hok hP hD hS => ?_)
        have he : set_e σ a0.toInt a1.toInt a2.toInt = 0 := by unfold set_e; (try simp only [Int.toNat_natCast]); (repeat' split) <;> omega
        exact fin_i hx hb hr hlk hS hP hD () trivial (by rw [he]; first | done | ((try simp only [Int.toNat_natCast]); first | done | rfl)) (by rw [he]; (try simp only [Int.toNat_natCast]); exact eqW.rf _) dX6_set_56
      · obtain ⟨k0, hk0, rfl⟩ := nI_of_rg (n := 7) (x := a0) ⟨by omega, by omega⟩
        have hT0 := nI_T (a := k0) (by omega)
        have hp0 : k0 < σ 5 := by omega
        obtain ⟨q00, q01, q02, q03, q04⟩ := ip k0 (by omega)
        refine lv_iload_n hx hb dX6_set_32 rfl (lv_at hl 3 rfl) ?_
        refine lv_iconst (v := nI 1) hx hb dX6_set_33 rfl ?_
        refine lv_iconst (v := nI 4) hx hb dX6_set_34 rfl ?_
        refine callSI (rest := []) (wn := fun u => [mO b ζ vv, (b 4, .inl (G.2.1, 7, .inl tl)), (b 1, .inl (G.2.1, 46, .inl (nF σ)))]) ⟨hx, hb, hml, hown, hts⟩ (c_X6_in1 l G H.size a1 (nI 1) (nI 4)) (va_cwS 3 hts gX6_set_X6_in1 rfl rfl rfl (by decide +kernel) ⟨Nat.le_of_ble_eq_true rfl, Nat.le_of_ble_eq_true rfl⟩) noXB (fun _ _ _ => trivial) hK hP hD hS hAq rfl hl.1 rfl (Nat.le_of_ble_eq_true rfl) dX6_set_35 ⟨Nat.le_of_ble_eq_true rfl, Nat.le_of_ble_eq_true rfl⟩ [] rfl rfl [] rfl (fun _ => rfl) (fun _ => rfl) (fun u H locs hok hP hD hS => ?_)
        refine n_top (y := zI ((1 : Int) ≤ a1.toInt ∧ a1.toInt ≤ 4)) (zI_c (by rw [nI_T (show 1 < 2147483648 by decide), nI_T (show 4 < 2147483648 by decide)]; exact Iff.rfl)) ?_
        refine z_if_eq hx hb (tgt := 51) dX6_set_38 (by decide) (fun c_7 => ?_) (fun c_7 => ?_)
        · refine lv_aload_n hx hb dX6_set_51 rfl (lv_at hl 1 rfl) ?_
          refine lv_iconst (v := nI 0) hx hb dX6_set_52 rfl ?_
          refine callVI (rest := []) (wn := fun u => [mO b ζ vv, (b 4, .inl (G.2.1, 7, .inl (tk tl 0))), (b 1, .inl (G.2.1, 46, .inl (nF σ)))]) ⟨hx, hb, hml, hown, hts⟩ (c_X6_no l G H.size b ζ vv tl 0 (by omega)) (cwV 1 hts gX6_set_X6_no rfl rfl rfl (by decide +kernel) ⟨Nat.le_of_ble_eq_true rfl, Nat.le_of_ble_eq_true rfl⟩) noXB (fun _ _ _ => trivial) hK hP hD hS hAq 5 0 (T := TX6) (N := 18) rfl rfl rfl hl.1 rfl (Nat.le_of_ble_eq_true rfl) dX6_set_53 ⟨Nat.le_of_ble_eq_true rfl, Nat.le_of_ble_eq_true rfl⟩ [0, 1] rfl rfl [b 0, b 4] rfl (fun _ => rfl) (fun _ => rfl) (fun u H locs hok hP hD hS => ?_)
          have he : set_e σ (nI k0).toInt a1.toInt a2.toInt = 0 := by unfold set_e; (try simp only [hT0, Int.toNat_natCast]); (repeat' split) <;> omega
          exact fin_i hx hb hr hlk hS hP hD () trivial (by rw [he]; first | done | ((try simp only [hT0, Int.toNat_natCast]); first | done | rfl)) (by rw [he]; (try simp only [hT0, Int.toNat_natCast]); exact eqW.rf _) dX6_set_56
        · obtain ⟨w1, hw1, rfl⟩ := nI_of_rg (n := 4) (x := a1) ⟨by omega, by omega⟩
          have hT1 := nI_T (a := w1) (by omega)
          refine lv_iload_n hx hb dX6_set_41 rfl (lv_at hl 4 rfl) ?_
          refine lv_iconst (v := nI 0) hx hb dX6_set_42 rfl ?_
          refine lv_iload hx hb dX6_set_43 (lv_at hl 0 rfl) ?_
          refine callSI (rest := []) (wn := fun u => [mO b ζ vv, (b 4, .inl (G.2.1, 7, .inl tl)), (b 1, .inl (G.2.1, 46, .inl (nF σ)))]) ⟨hx, hb, hml, hown, hts⟩ (c_X6_in1 l G H.size a2 (nI 0) (nI 99999)) (va_cwS 3 hts gX6_set_X6_in1 rfl rfl rfl (by decide +kernel) ⟨Nat.le_of_ble_eq_true rfl, Nat.le_of_ble_eq_true rfl⟩) noXB (fun _ _ _ => trivial) hK hP hD hS hAq rfl hl.1 rfl (Nat.le_of_ble_eq_true rfl) dX6_set_45 ⟨Nat.le_of_ble_eq_true rfl, Nat.le_of_ble_eq_true rfl⟩ [] rfl rfl [] rfl (fun _ => rfl) (fun _ => rfl) (fun u H locs hok hP hD hS => ?_)
          refine n_top (y := zI ((0 : Int) ≤ a2.toInt ∧ a2.toInt ≤ 99999)) (zI_c (by rw [nI_T (show 0 < 2147483648 by decide), nI_T (show 99999 < 2147483648 by decide)]; exact Iff.rfl)) ?_
          refine z_if_ne hx hb (tgt := 57) dX6_set_48 (by decide) (fun c_8 => ?_) (fun c_8 => ?_)
          · obtain ⟨v2, hv2, rfl⟩ := nI_of_rg (n := 99999) (x := a2) ⟨by omega, by omega⟩
            have hT2 := nI_T (a := v2) (by omega)
            refine lv_aload_n hx hb dX6_set_57 rfl (lv_at hl 1 rfl) ?_
            refine lv_iload_n hx hb dX6_set_58 rfl (lv_at hl 2 rfl) ?_
            refine lv_iload_n hx hb dX6_set_59 rfl (lv_at hl 3 rfl) ?_
            refine callVI (rest := []) (wn := fun u => [mO b ζ vv, (b 4, .inl (G.2.1, 7, .inl tl)), (b 1, .inl (G.2.1, 46, .inl (nF σ)))]) ⟨hx, hb, hml, hown, hts⟩ (c_X6_get l G H.size b ζ vv σ k0 w1 (by omega) (by omega)) (cwV 2 hts gX6_set_X6_get rfl rfl rfl (by decide +kernel) ⟨Nat.le_of_ble_eq_true rfl, Nat.le_of_ble_eq_true rfl⟩) noXB (fun _ _ _ => trivial) hK hP hD hS hAq 5 0 (T := TX6) (N := 18) rfl rfl rfl hl.1 rfl (Nat.le_of_ble_eq_true rfl) dX6_set_60 ⟨Nat.le_of_ble_eq_true rfl, Nat.le_of_ble_eq_true rfl⟩ [0, 2] rfl rfl [b 0, b 1] rfl (fun _ => rfl) (fun _ => rfl) (fun u H locs hok hP hD hS => ?_)
            refine lv_istore (lv' := [(5, .int (nI (σ (pl k0 w1)))), (4, .int (nI 99999)), (0, .ref (b 0)), (1, .int (nI k0)), (2, .int (nI w1)), (3, .int (nI v2))]) hx hb dX6_set_63 hl (by decide) rfl (fun ls hl => ?_)
            refine lv_aload_n hx hb dX6_set_65 rfl (lv_at hl 2 rfl) ?_
            refine lv_iload_n hx hb dX6_set_66 rfl (lv_at hl 3 rfl) ?_
            refine lv_iload_n hx hb dX6_set_67 rfl (lv_at hl 4 rfl) ?_
            refine lv_iload_n hx hb dX6_set_68 rfl (lv_at hl 5 rfl) ?_
            refine callVV (rest := []) (wn := fun u => [mO b ζ vv, (b 4, .inl (G.2.1, 7, .inl tl)), (b 1, .inl (G.2.1, 46, .inl (nF (un σ (pl k0 w1) v2))))]) ⟨hx, hb, hml, hown, hts⟩ (c_X6_puts l G H.size b ζ vv σ k0 w1 v2 (by omega) (by omega)) (cwV 3 hts gX6_set_X6_puts rfl rfl rfl (by decide +kernel) ⟨Nat.le_of_ble_eq_true rfl, Nat.le_of_ble_eq_true rfl⟩) noXB (fun _ _ _ => trivial) hK hP hD hS hAq 5 0 (T := TX6) (N := 18) rfl rfl rfl hl.1 rfl (Nat.le_of_ble_eq_true rfl) dX6_set_69 ⟨Nat.le_of_ble_eq_true rfl, Nat.le_of_ble_eq_true rfl⟩ [0, 2] rfl rfl [b 0, b 1] rfl (fun _ => rfl) (fun _ => rfl) (fun u H locs hok hP hD hS => ?_)
            refine lv_iload hx hb dX6_set_72 (lv_at hl 0 rfl) ?_
            have he : set_e σ (nI k0).toInt (nI w1).toInt (nI v2).toInt = 7 := by unfold set_e; (try simp only [hT0, hT1, hT2, Int.toNat_natCast]); (repeat' split) <;> omega
            exact fin_i hx hb hr hlk hS hP hD () trivial (by rw [he]; first | done | ((try simp only [hT0, hT1, hT2, Int.toNat_natCast]); first | done | rfl)) (by rw [he]; (try simp only [hT0, hT1, hT2, Int.toNat_natCast]); exact eqW.rf _) dX6_set_74
          · refine lv_aload_n hx hb dX6_set_51 rfl (lv_at hl 1 rfl) ?_
            refine lv_iconst (v := nI 0) hx hb dX6_set_52 rfl ?_
            refine callVI (rest := []) (wn := fun u => [mO b ζ vv, (b 4, .inl (G.2.1, 7, .inl (tk tl 0))), (b 1, .inl (G.2.1, 46, .inl (nF σ)))]) ⟨hx, hb, hml, hown, hts⟩ (c_X6_no l G H.size b ζ vv tl 0 (by omega)) (cwV 1 hts gX6_set_X6_no rfl rfl rfl (by decide +kernel) ⟨Nat.le_of_ble_eq_true rfl, Nat.le_of_ble_eq_true rfl⟩) noXB (fun _ _ _ => trivial) hK hP hD hS hAq 5 0 (T := TX6) (N := 18) rfl rfl rfl hl.1 rfl (Nat.le_of_ble_eq_true rfl) dX6_set_53 ⟨Nat.le_of_ble_eq_true rfl, Nat.le_of_ble_eq_true rfl⟩ [0, 1] rfl rfl [b 0, b 4] rfl (fun _ => rfl) (fun _ => rfl) (fun u H locs hok hP hD hS => ?_)
            have he : set_e σ (nI k0).toInt (nI w1).toInt a2.toInt = 0 := by unfold set_e; (try simp only [hT0, hT1, Int.toNat_natCast]); (repeat' split) <;> omega
            exact fin_i hx hb hr hlk hS hP hD () trivial (by rw [he]; first | done | ((try simp only [hT0, hT1, Int.toNat_natCast]); first | done | rfl)) (by rw [he]; (try simp only [hT0, hT1, Int.toNat_natCast]); exact eqW.rf _) dX6_set_56
  · rw [nI_T (by omega)] at c_1
    refine lv_bipush (v := nI 20) hx hb dX6_set_5 rfl ?_
    refine lv_goto (tgt := 22) hx hb dX6_set_7 (by decide) ?_
    refine lv_istore (lv' := [(4, .int (nI 20)), (0, .ref (b 0)), (1, .int a0), (2, .int a1), (3, .int a2)]) hx hb dX6_set_22 hl (by decide) rfl (fun ls hl => ?_)
    refine lv_aload_n hx hb dX6_set_24 rfl (lv_at hl 1 rfl) ?_
    refine lv_iload_n hx hb dX6_set_25 rfl (lv_at hl 2 rfl) ?_
    refine callVI (rest := []) (wn := fun u => [mO b ζ vv, (b 4, .inl (G.2.1, 7, .inl tl)), (b 1, .inl (G.2.1, 46, .inl (nF σ)))]) ⟨hx, hb, hml, hown, hts⟩ (c_X6_isPerson l G H.size b ζ vv σ a0 (by omega)) (cwV 1 hts gX6_set_X6_isPerson rfl rfl rfl (by decide +kernel) ⟨Nat.le_of_ble_eq_true rfl, Nat.le_of_ble_eq_true rfl⟩) noXB (fun _ _ _ => trivial) hK hP hD hS hAq 5 0 (T := TX6) (N := 18) rfl rfl rfl hl.1 rfl (Nat.le_of_ble_eq_true rfl) dX6_set_26 ⟨Nat.le_of_ble_eq_true rfl, Nat.le_of_ble_eq_true rfl⟩ [0, 2] rfl rfl [b 0, b 1] rfl (fun _ => rfl) (fun _ => rfl) (fun u H locs hok hP hD hS => ?_)
    refine z_if_eq hx hb (tgt := 51) dX6_set_29 (by decide) (fun c_9 => ?_) (fun c_9 => ?_)
    · refine lv_aload_n hx hb dX6_set_51 rfl (lv_at hl 1 rfl) ?_
      refine lv_iconst (v := nI 0) hx hb dX6_set_52 rfl ?_
      refine callVI (rest := []) (wn := fun u => [mO b ζ vv, (b 4, .inl (G.2.1, 7, .inl (tk tl 0))), (b 1, .inl (G.2.1, 46, .inl (nF σ)))]) ⟨hx, hb, hml, hown, hts⟩ (c_X6_no l G H.size b ζ vv tl 0 (by omega)) (cwV 1 hts gX6_set_X6_no rfl rfl rfl (by decide +kernel) ⟨Nat.le_of_ble_eq_true rfl, Nat.le_of_ble_eq_true rfl⟩) noXB (fun _ _ _ => trivial) hK hP hD hS hAq 5 0 (T := TX6) (N := 18) rfl rfl rfl hl.1 rfl (Nat.le_of_ble_eq_true rfl) dX6_set_53 ⟨Nat.le_of_ble_eq_true rfl, Nat.le_of_ble_eq_true rfl⟩ [0, 1] rfl rfl [b 0, b 4] rfl (fun _ => rfl) (fun _ => rfl) (fun u H locs hok hP hD hS => ?_)
      have he : set_e σ a0.toInt a1.toInt a2.toInt = 0 := by unfold set_e; (try simp only [Int.toNat_natCast]); (repeat' split) <;> omega
      exact fin_i hx hb hr hlk hS hP hD () trivial (by rw [he]; first | done | ((try simp only [Int.toNat_natCast]); first | done | rfl)) (by rw [he]; (try simp only [Int.toNat_natCast]); exact eqW.rf _) dX6_set_56
    · obtain ⟨k0, hk0, rfl⟩ := nI_of_rg (n := 7) (x := a0) ⟨by omega, by omega⟩
      have hT0 := nI_T (a := k0) (by omega)
      have hp0 : k0 < σ 5 := by omega
      obtain ⟨q00, q01, q02, q03, q04⟩ := ip k0 (by omega)
      refine lv_iload_n hx hb dX6_set_32 rfl (lv_at hl 3 rfl) ?_
      refine lv_iconst (v := nI 1) hx hb dX6_set_33 rfl ?_
      refine lv_iconst (v := nI 4) hx hb dX6_set_34 rfl ?_
      refine callSI (rest := []) (wn := fun u => [mO b ζ vv, (b 4, .inl (G.2.1, 7, .inl tl)), (b 1, .inl (G.2.1, 46, .inl (nF σ)))]) ⟨hx, hb, hml, hown, hts⟩ (c_X6_in1 l G H.size a1 (nI 1) (nI 4)) (va_cwS 3 hts gX6_set_X6_in1 rfl rfl rfl (by decide +kernel) ⟨Nat.le_of_ble_eq_true rfl, Nat.le_of_ble_eq_true rfl⟩) noXB (fun _ _ _ => trivial) hK hP hD hS hAq rfl hl.1 rfl (Nat.le_of_ble_eq_true rfl) dX6_set_35 ⟨Nat.le_of_ble_eq_true rfl, Nat.le_of_ble_eq_true rfl⟩ [] rfl rfl [] rfl (fun _ => rfl) (fun _ => rfl) (fun u H locs hok hP hD hS => ?_)
      refine n_top (y := zI ((1 : Int) ≤ a1.toInt ∧ a1.toInt ≤ 4)) (zI_c (by rw [nI_T (show 1 < 2147483648 by decide), nI_T (show 4 < 2147483648 by decide)]; exact Iff.rfl)) ?_
      refine z_if_eq hx hb (tgt := 51) dX6_set_38 (by decide) (fun c_10 => ?_) (fun c_10 => ?_)
      · refine lv_aload_n hx hb dX6_set_51 rfl (lv_at hl 1 rfl) ?_
        refine lv_iconst (v := nI 0) hx hb dX6_set_52 rfl ?_
        refine callVI (rest := []) (wn := fun u => [mO b ζ vv, (b 4, .inl (G.2.1, 7, .inl (tk tl 0))), (b 1, .inl (G.2.1, 46, .inl (nF σ)))]) ⟨hx, hb, hml, hown, hts⟩ (c_X6_no l G H.size b ζ vv tl 0 (by omega)) (cwV 1 hts gX6_set_X6_no rfl rfl rfl (by decide +kernel) ⟨Nat.le_of_ble_eq_true rfl, Nat.le_of_ble_eq_true rfl⟩) noXB (fun _ _ _ => trivial) hK hP hD hS hAq 5 0 (T := TX6) (N := 18) rfl rfl rfl hl.1 rfl (Nat.le_of_ble_eq_true rfl) dX6_set_53 ⟨Nat.le_of_ble_eq_true rfl, Nat.le_of_ble_eq_true rfl⟩ [0, 1] rfl rfl [b 0, b 4] rfl (fun _ => rfl) (fun _ => rfl) (fun u H locs hok hP hD hS => ?_)
        have he : set_e σ (nI k0).toInt a1.toInt a2.toInt = 0 := by unfold set_e; (try simp only [hT0, Int.toNat_natCast]); (repeat' split) <;> omega
        exact fin_i hx hb hr hlk hS hP hD () trivial (by rw [he]; first | done | ((try simp only [hT0, Int.toNat_natCast]); first | done | rfl)) (by rw [he]; (try simp only [hT0, Int.toNat_natCast]); exact eqW.rf _) dX6_set_56
      · obtain ⟨w1, hw1, rfl⟩ := nI_of_rg (n := 4) (x := a1) ⟨by omega, by omega⟩
        have hT1 := nI_T (a := w1) (by omega)
        refine lv_iload_n hx hb dX6_set_41 rfl (lv_at hl 4 rfl) ?_
        refine lv_iconst (v := nI 0) hx hb dX6_set_42 rfl ?_
        refine lv_iload hx hb dX6_set_43 (lv_at hl 0 rfl) ?_
        refine callSI (rest := []) (wn := fun u => [mO b ζ vv, (b 4, .inl (G.2.1, 7, .inl tl)), (b 1, .inl (G.2.1, 46, .inl (nF σ)))]) ⟨hx, hb, hml, hown, hts⟩ (c_X6_in1 l G H.size a2 (nI 0) (nI 20)) (va_cwS 3 hts gX6_set_X6_in1 rfl rfl rfl (by decide +kernel) ⟨Nat.le_of_ble_eq_true rfl, Nat.le_of_ble_eq_true rfl⟩) noXB (fun _ _ _ => trivial) hK hP hD hS hAq rfl hl.1 rfl (Nat.le_of_ble_eq_true rfl) dX6_set_45 ⟨Nat.le_of_ble_eq_true rfl, Nat.le_of_ble_eq_true rfl⟩ [] rfl rfl [] rfl (fun _ => rfl) (fun _ => rfl) (fun u H locs hok hP hD hS => ?_)
        refine n_top (y := zI ((0 : Int) ≤ a2.toInt ∧ a2.toInt ≤ 20)) (zI_c (by rw [nI_T (show 0 < 2147483648 by decide), nI_T (show 20 < 2147483648 by decide)]; exact Iff.rfl)) ?_
        refine z_if_ne hx hb (tgt := 57) dX6_set_48 (by decide) (fun c_11 => ?_) (fun c_11 => ?_)
        · obtain ⟨v2, hv2, rfl⟩ := nI_of_rg (n := 99999) (x := a2) ⟨by omega, by omega⟩
          have hT2 := nI_T (a := v2) (by omega)
          refine lv_aload_n hx hb dX6_set_57 rfl (lv_at hl 1 rfl) ?_
          refine lv_iload_n hx hb dX6_set_58 rfl (lv_at hl 2 rfl) ?_
          refine lv_iload_n hx hb dX6_set_59 rfl (lv_at hl 3 rfl) ?_
          refine callVI (rest := []) (wn := fun u => [mO b ζ vv, (b 4, .inl (G.2.1, 7, .inl tl)), (b 1, .inl (G.2.1, 46, .inl (nF σ)))]) ⟨hx, hb, hml, hown, hts⟩ (c_X6_get l G H.size b ζ vv σ k0 w1 (by omega) (by omega)) (cwV 2 hts gX6_set_X6_get rfl rfl rfl (by decide +kernel) ⟨Nat.le_of_ble_eq_true rfl, Nat.le_of_ble_eq_true rfl⟩) noXB (fun _ _ _ => trivial) hK hP hD hS hAq 5 0 (T := TX6) (N := 18) rfl rfl rfl hl.1 rfl (Nat.le_of_ble_eq_true rfl) dX6_set_60 ⟨Nat.le_of_ble_eq_true rfl, Nat.le_of_ble_eq_true rfl⟩ [0, 2] rfl rfl [b 0, b 1] rfl (fun _ => rfl) (fun _ => rfl) (fun u H locs hok hP hD hS => ?_)
          refine lv_istore (lv' := [(5, .int (nI (σ (pl k0 w1)))), (4, .int (nI 20)), (0, .ref (b 0)), (1, .int (nI k0)), (2, .int (nI w1)), (3, .int (nI v2))]) hx hb dX6_set_63 hl (by decide) rfl (fun ls hl => ?_)
          refine lv_aload_n hx hb dX6_set_65 rfl (lv_at hl 2 rfl) ?_
          refine lv_iload_n hx hb dX6_set_66 rfl (lv_at hl 3 rfl) ?_
          refine lv_iload_n hx hb dX6_set_67 rfl (lv_at hl 4 rfl) ?_
          refine lv_iload_n hx hb dX6_set_68 rfl (lv_at hl 5 rfl) ?_
          refine callVV (rest := []) (wn := fun u => [mO b ζ vv, (b 4, .inl (G.2.1, 7, .inl tl)), (b 1, .inl (G.2.1, 46, .inl (nF (un σ (pl k0 w1) v2))))]) ⟨hx, hb, hml, hown, hts⟩ (c_X6_puts l G H.size b ζ vv σ k0 w1 v2 (by omega) (by omega)) (cwV 3 hts gX6_set_X6_puts rfl rfl rfl (by decide +kernel) ⟨Nat.le_of_ble_eq_true rfl, Nat.le_of_ble_eq_true rfl⟩) noXB (fun _ _ _ => trivial) hK hP hD hS hAq 5 0 (T := TX6) (N := 18) rfl rfl rfl hl.1 rfl (Nat.le_of_ble_eq_true rfl) dX6_set_69 ⟨Nat.le_of_ble_eq_true rfl, Nat.le_of_ble_eq_true rfl⟩ [0, 2] rfl rfl [b 0, b 1] rfl (fun _ => rfl) (fun _ => rfl) (fun u H locs hok hP hD hS => ?_)
          refine lv_iload hx hb dX6_set_72 (lv_at hl 0 rfl) ?_
          have he : set_e σ (nI k0).toInt (nI w1).toInt (nI v2).toInt = 7 := by unfold set_e; (try simp only [hT0, hT1, hT2, Int.toNat_natCast]); (repeat' split) <;> omega
          exact fin_i hx hb hr hlk hS hP hD () trivial (by rw [he]; first | done | ((try simp only [hT0, hT1, hT2, Int.toNat_natCast]); first | done | rfl)) (by rw [he]; (try simp only [hT0, hT1, hT2, Int.toNat_natCast]); exact eqW.rf _) dX6_set_74
        · refine lv_aload_n hx hb dX6_set_51 rfl (lv_at hl 1 rfl) ?_
          refine lv_iconst (v := nI 0) hx hb dX6_set_52 rfl ?_
          refine callVI (rest := []) (wn := fun u => [mO b ζ vv, (b 4, .inl (G.2.1, 7, .inl (tk tl 0))), (b 1, .inl (G.2.1, 46, .inl (nF σ)))]) ⟨hx, hb, hml, hown, hts⟩ (c_X6_no l G H.size b ζ vv tl 0 (by omega)) (cwV 1 hts gX6_set_X6_no rfl rfl rfl (by decide +kernel) ⟨Nat.le_of_ble_eq_true rfl, Nat.le_of_ble_eq_true rfl⟩) noXB (fun _ _ _ => trivial) hK hP hD hS hAq 5 0 (T := TX6) (N := 18) rfl rfl rfl hl.1 rfl (Nat.le_of_ble_eq_true rfl) dX6_set_53 ⟨Nat.le_of_ble_eq_true rfl, Nat.le_of_ble_eq_true rfl⟩ [0, 1] rfl rfl [b 0, b 4] rfl (fun _ => rfl) (fun _ => rfl) (fun u H locs hok hP hD hS => ?_)
          have he : set_e σ (nI k0).toInt (nI w1).toInt a2.toInt = 0 := by unfold set_e; (try simp only [hT0, hT1, Int.toNat_natCast]); (repeat' split) <;> omega
          exact fin_i hx hb hr hlk hS hP hD () trivial (by rw [he]; first | done | ((try simp only [hT0, hT1, Int.toNat_natCast]); first | done | rfl)) (by rw [he]; (try simp only [hT0, hT1, Int.toNat_natCast]); exact eqW.rf _) dX6_set_56
set_option maxHeartbeats 400000 in
set_option maxRecDepth 100000 in
theorem c_X5_turn (l : Launch) (G : GT) (sz : Nat) (x hm kp tr : Nat → Nat) (hi : Nat) (tl : Nat → Int32) (σ : Sg) (a0 a1 : Int32) (hI : Inv σ) (hd0 : σ 0 ≤ 9999) : MI (S := Unit) l G noX yX5_turn wsX5_turn ({ frames := 2, cells := 0, slots := 0, locals := 43 } : Room) [.ref (x 0), .int a0, .int a1] (([xO x hm kp tr hi, (x 7, .inl (G.2.1, 7, .inl tl))] ++ (wH G hm σ))) sz (fun _ => True) (fun _ => rs (turn_e σ a0.toInt a1.toInt) (nI (σ (pl a0.toInt.toNat 0)))) (fun _ => ([xO x hm kp tr hi, (x 7, .inl (G.2.1, 7, .inl (ts tl (turn_e σ a0.toInt a1.toInt))))] ++ (wH G hm (hs (turn_e σ a0.toInt a1.toInt) (un σ (pl a0.toInt.toNat 0) a1.toInt.toNat) σ)))) := by
  refine MI_enter (cc := cX5_turn) (maxL := 3) (ret := (some .int)) (by decide) rfl (Nat.le_of_ble_eq_true rfl) ?_
  intro p e s m below meth c A ls H hx hb hr hlk hml hown hts hAq hS hP hK hD hX hl hnm
  have hown : s.vm.findClass RX5 = some m.cls := hown
  have hl : lv_has ls 3 [(0, .ref (x 0)), (1, .int a0), (2, .int a1)] := hl
  obtain ⟨⟨i1, i2, i3, i4, i5⟩, ip⟩ := id hI
  refine lv_aload_n hx hb dX5_turn_0 rfl (lv_at hl 0 rfl) ?_
  refine n_get (C := RX5) (T := TX5) (N := 7) hx hb hts (fun _ h => List.mem_cons_of_mem _ (List.mem_append_left _ (List.mem_append_right _ h))) hown hK hP 0 rfl rfl 0 (by decide) (List.mem_of_getElem? (i := 1) rfl) rfl (.ref (hm 0)) rfl dX5_turn_1 ?_
  refine lv_iload_n hx hb dX5_turn_4 rfl (lv_at hl 1 rfl) ?_
  refine callVI (rest := []) (wn := fun u => ([xO x hm kp tr hi, (x 7, .inl (G.2.1, 7, .inl tl))] ++ (wH G hm σ))) ⟨hx, hb, hml, hown, hts⟩ (c_X0_hasOne l G H.size hm σ a0 (by omega)) (cwV 1 hts gX5_turn_X0_hasOne rfl rfl rfl (by decide +kernel) ⟨Nat.le_of_ble_eq_true rfl, Nat.le_of_ble_eq_true rfl⟩) noXB (fun _ _ _ => trivial) hK hP hD hS hAq 0 0 (T := TX0) (N := 11) rfl rfl rfl hl.1 rfl (Nat.le_of_ble_eq_true rfl) dX5_turn_5 ⟨Nat.le_of_ble_eq_true rfl, Nat.le_of_ble_eq_true rfl⟩ [2, 3, 4, 5, 6, 7] rfl rfl [hm 0, hm 1, hm 2, hm 3, hm 4, hm 5] rfl (fun _ => rfl) (fun _ => rfl) (fun u H locs hok hP hD hS => ?_)
  refine z_if_eq hx hb (tgt := 18) dX5_turn_8 (by decide) (fun c_1 => ?_) (fun c_1 => ?_)
  · refine lv_aload_n hx hb dX5_turn_18 rfl (lv_at hl 0 rfl) ?_
    refine lv_iconst (v := nI 0) hx hb dX5_turn_19 rfl ?_
    refine callVI (rest := []) (wn := fun u => ([xO x hm kp tr hi, (x 7, .inl (G.2.1, 7, .inl (tk tl 0)))] ++ (wH G hm σ))) ⟨hx, hb, hml, hown, hts⟩ (c_X5_tell l G H.size x hm kp tr hi tl 0 (by omega)) (cwV 1 hts gX5_turn_X5_tell rfl rfl rfl (by decide +kernel) ⟨Nat.le_of_ble_eq_true rfl, Nat.le_of_ble_eq_true rfl⟩) noXB (fun _ _ _ => trivial) hK hP hD hS hAq 4 0 (T := TX5) (N := 7) rfl rfl rfl hl.1 rfl (Nat.le_of_ble_eq_true rfl) dX5_turn_20 ⟨Nat.le_of_ble_eq_true rfl, Nat.le_of_ble_eq_true rfl⟩ [0, 1] rfl rfl [x 0, x 7] rfl (fun _ => rfl) (fun _ => rfl) (fun u H locs hok hP hD hS => ?_)
    have he : turn_e σ a0.toInt a1.toInt = 0 := by unfold turn_e; (try simp only [Int.toNat_natCast]); (repeat' split) <;> omega
    exact fin_i hx hb hr hlk hS hP hD () trivial (by rw [he]; first | done | ((try simp only [Int.toNat_natCast]); first | done | rfl)) (by rw [he]; (try simp only [Int.toNat_natCast]); exact eqW.rf _) dX5_turn_23
  · obtain ⟨k0, hk0, rfl⟩ := nI_of_rg (n := 7) (x := a0) ⟨by omega, by omega⟩
    have hT0 := nI_T (a := k0) (by omega)
    have hp0 : k0 < σ 5 := by omega
    obtain ⟨q00, q01, q02, q03, q04⟩ := ip k0 (by omega)
    refine lv_iload_n hx hb dX5_turn_11 rfl (lv_at hl 2 rfl) ?_
    refine callSI (rest := []) (wn := fun u => ([xO x hm kp tr hi, (x 7, .inl (G.2.1, 7, .inl tl))] ++ (wH G hm σ))) ⟨hx, hb, hml, hown, hts⟩ (c_X2_isOne l G H.size a1) (va_cwS 1 hts gX5_turn_X2_isOne rfl rfl rfl (by decide +kernel) ⟨Nat.le_of_ble_eq_true rfl, Nat.le_of_ble_eq_true rfl⟩) noXB (fun _ _ _ => trivial) hK hP hD hS hAq rfl hl.1 rfl (Nat.le_of_ble_eq_true rfl) dX5_turn_12 ⟨Nat.le_of_ble_eq_true rfl, Nat.le_of_ble_eq_true rfl⟩ [] rfl rfl [] rfl (fun _ => rfl) (fun _ => rfl) (fun u H locs hok hP hD hS => ?_)
    refine z_if_ne hx hb (tgt := 24) dX5_turn_15 (by decide) (fun c_2 => ?_) (fun c_2 => ?_)
    · obtain ⟨w1, hw1, rfl⟩ := nI_of_rg (n := 5) (x := a1) ⟨by omega, by omega⟩
      have hT1 := nI_T (a := w1) (by omega)
      refine lv_aload_n hx hb dX5_turn_24 rfl (lv_at hl 0 rfl) ?_
      refine n_get (C := RX5) (T := TX5) (N := 7) hx hb hts (fun _ h => List.mem_cons_of_mem _ (List.mem_append_left _ (List.mem_append_right _ h))) hown hK hP 0 rfl rfl 0 (by decide) (List.mem_of_getElem? (i := 1) rfl) rfl (.ref (hm 0)) rfl dX5_turn_25 ?_
      refine n_get (C := RX0) (T := TX0) (N := 11) hx hb hts (fun _ h => List.mem_cons_of_mem _ (List.mem_append_right _ h)) hown hK hP 2 rfl rfl 6 (by decide) (List.mem_of_getElem? (i := 2) rfl) rfl (.ref (hm 1)) rfl dX5_turn_28 ?_
      refine lv_iload_n hx hb dX5_turn_31 rfl (lv_at hl 1 rfl) ?_
      refine lv_iload_n hx hb dX5_turn_32 rfl (lv_at hl 2 rfl) ?_
      refine callSI (rest := []) (wn := fun u => ([xO x hm kp tr hi, (x 7, .inl (G.2.1, 7, .inl tl))] ++ (wH G hm (un σ (pl k0 0) w1)))) ⟨hx, hb, hml, hown, hts⟩ (c_X5_put l G H.size (hm 1) (hA σ 0) k0 w1 (by omega)) (va_cwS 3 hts gX5_turn_X5_put rfl rfl rfl (by decide +kernel) ⟨Nat.le_of_ble_eq_true rfl, Nat.le_of_ble_eq_true rfl⟩) noXB (fun _ _ _ => trivial) hK hP hD hS hAq rfl hl.1 rfl (Nat.le_of_ble_eq_true rfl) dX5_turn_33 ⟨Nat.le_of_ble_eq_true rfl, Nat.le_of_ble_eq_true rfl⟩ [3] rfl rfl [hm 1] rfl (fun _ => rfl) (fun _ => (congrArg (fun hole_w : va_W => ([xO x hm kp tr hi, (x 7, .inl (G.2.1, 7, .inl tl))] ++ (hole_w))) (wH_v0 G hm σ k0 w1))) (fun u H locs hok hP hD hS => ?_)
      have he : turn_e σ (nI k0).toInt (nI w1).toInt = 7 := by unfold turn_e; (try simp only [hT0, hT1, Int.toNat_natCast]); (repeat' split) <;> omega
      exact fin_i hx hb hr hlk hS hP hD () trivial (by rw [he]; first | done | ((try simp only [hT0, hT1, Int.toNat_natCast]); first | done | rfl)) (by rw [he]; (try simp only [hT0, hT1, Int.toNat_natCast]); exact eqW.rf _) dX5_turn_36
    · refine lv_aload_n hx hb dX5_turn_18 rfl (lv_at hl 0 rfl) ?_
      refine lv_iconst (v := nI 0) hx hb dX5_turn_19 rfl ?_
      refine callVI (rest := []) (wn := fun u => ([xO x hm kp tr hi, (x 7, .inl (G.2.1, 7, .inl (tk tl 0)))] ++ (wH G hm σ))) ⟨hx, hb, hml, hown, hts⟩ (c_X5_tell l G H.size x hm kp tr hi tl 0 (by omega)) (cwV 1 hts gX5_turn_X5_tell rfl rfl rfl (by decide +kernel) ⟨Nat.le_of_ble_eq_true rfl, Nat.le_of_ble_eq_true rfl⟩) noXB (fun _ _ _ => trivial) hK hP hD hS hAq 4 0 (T := TX5) (N := 7) rfl rfl rfl hl.1 rfl (Nat.le_of_ble_eq_true rfl) dX5_turn_20 ⟨Nat.le_of_ble_eq_true rfl, Nat.le_of_ble_eq_true rfl⟩ [0, 1] rfl rfl [x 0, x 7] rfl (fun _ => rfl) (fun _ => rfl) (fun u H locs hok hP hD hS => ?_)
      have he : turn_e σ (nI k0).toInt a1.toInt = 0 := by unfold turn_e; (try simp only [hT0, Int.toNat_natCast]); (repeat' split) <;> omega
      exact fin_i hx hb hr hlk hS hP hD () trivial (by rw [he]; first | done | ((try simp only [hT0, Int.toNat_natCast]); first | done | rfl)) (by rw [he]; (try simp only [hT0, Int.toNat_natCast]); exact eqW.rf _) dX5_turn_23
set_option maxHeartbeats 400000 in
set_option maxRecDepth 100000 in
theorem c_X6_turn (l : Launch) (G : GT) (sz : Nat) (b : Nat → Nat) (ζ : Nat → Nat) (vv : Int64) (tl : Nat → Int32) (σ : Sg) (a0 a1 : Int32) (hI : Inv σ) (hd0 : σ 0 ≤ 9999) : MI (S := Unit) l G noX yX6_turn wsX6_turn ({ frames := 2, cells := 0, slots := 0, locals := 43 } : Room) [.ref (b 0), .int a0, .int a1] ([mO b ζ vv, (b 4, .inl (G.2.1, 7, .inl tl)), (b 1, .inl (G.2.1, 46, .inl (nF σ)))]) sz (fun _ => True) (fun _ => rs (turn_e σ a0.toInt a1.toInt) (nI (σ (pl a0.toInt.toNat 0)))) (fun _ => [mO b ζ vv, (b 4, .inl (G.2.1, 7, .inl (ts tl (turn_e σ a0.toInt a1.toInt)))), (b 1, .inl (G.2.1, 46, .inl (nF (hs (turn_e σ a0.toInt a1.toInt) (un σ (pl a0.toInt.toNat 0) a1.toInt.toNat) σ))))]) := by
  refine MI_enter (cc := cX6_turn) (maxL := 4) (ret := (some .int)) (by decide) rfl (Nat.le_of_ble_eq_true rfl) ?_
  intro p e s m below meth c A ls H hx hb hr hlk hml hown hts hAq hS hP hK hD hX hl hnm
  have hown : s.vm.findClass RX6 = some m.cls := hown
  have hl : lv_has ls 4 [(0, .ref (b 0)), (1, .int a0), (2, .int a1)] := hl
  obtain ⟨⟨i1, i2, i3, i4, i5⟩, ip⟩ := id hI
  refine lv_aload_n hx hb dX6_turn_0 rfl (lv_at hl 0 rfl) ?_
  refine lv_iload_n hx hb dX6_turn_1 rfl (lv_at hl 1 rfl) ?_
  refine callVI (rest := []) (wn := fun u => [mO b ζ vv, (b 4, .inl (G.2.1, 7, .inl tl)), (b 1, .inl (G.2.1, 46, .inl (nF σ)))]) ⟨hx, hb, hml, hown, hts⟩ (c_X6_isPerson l G H.size b ζ vv σ a0 (by omega)) (cwV 1 hts gX6_turn_X6_isPerson rfl rfl rfl (by decide +kernel) ⟨Nat.le_of_ble_eq_true rfl, Nat.le_of_ble_eq_true rfl⟩) noXB (fun _ _ _ => trivial) hK hP hD hS hAq 5 0 (T := TX6) (N := 18) rfl rfl rfl hl.1 rfl (Nat.le_of_ble_eq_true rfl) dX6_turn_2 ⟨Nat.le_of_ble_eq_true rfl, Nat.le_of_ble_eq_true rfl⟩ [0, 2] rfl rfl [b 0, b 1] rfl (fun _ => rfl) (fun _ => rfl) (fun u H locs hok hP hD hS => ?_)
  refine z_if_eq hx hb (tgt := 17) dX6_turn_5 (by decide) (fun c_1 => ?_) (fun c_1 => ?_)
  · refine lv_aload_n hx hb dX6_turn_17 rfl (lv_at hl 0 rfl) ?_
    refine lv_iconst (v := nI 0) hx hb dX6_turn_18 rfl ?_
    refine callVI (rest := []) (wn := fun u => [mO b ζ vv, (b 4, .inl (G.2.1, 7, .inl (tk tl 0))), (b 1, .inl (G.2.1, 46, .inl (nF σ)))]) ⟨hx, hb, hml, hown, hts⟩ (c_X6_no l G H.size b ζ vv tl 0 (by omega)) (cwV 1 hts gX6_turn_X6_no rfl rfl rfl (by decide +kernel) ⟨Nat.le_of_ble_eq_true rfl, Nat.le_of_ble_eq_true rfl⟩) noXB (fun _ _ _ => trivial) hK hP hD hS hAq 5 0 (T := TX6) (N := 18) rfl rfl rfl hl.1 rfl (Nat.le_of_ble_eq_true rfl) dX6_turn_19 ⟨Nat.le_of_ble_eq_true rfl, Nat.le_of_ble_eq_true rfl⟩ [0, 1] rfl rfl [b 0, b 4] rfl (fun _ => rfl) (fun _ => rfl) (fun u H locs hok hP hD hS => ?_)
    have he : turn_e σ a0.toInt a1.toInt = 0 := by unfold turn_e; (try simp only [Int.toNat_natCast]); (repeat' split) <;> omega
    exact fin_i hx hb hr hlk hS hP hD () trivial (by rw [he]; first | done | ((try simp only [Int.toNat_natCast]); first | done | rfl)) (by rw [he]; (try simp only [Int.toNat_natCast]); exact eqW.rf _) dX6_turn_22
  · obtain ⟨k0, hk0, rfl⟩ := nI_of_rg (n := 7) (x := a0) ⟨by omega, by omega⟩
    have hT0 := nI_T (a := k0) (by omega)
    have hp0 : k0 < σ 5 := by omega
    obtain ⟨q00, q01, q02, q03, q04⟩ := ip k0 (by omega)
    refine lv_iload_n hx hb dX6_turn_8 rfl (lv_at hl 2 rfl) ?_
    refine lv_iconst (v := nI 0) hx hb dX6_turn_9 rfl ?_
    refine lv_iconst (v := nI 5) hx hb dX6_turn_10 rfl ?_
    refine callSI (rest := []) (wn := fun u => [mO b ζ vv, (b 4, .inl (G.2.1, 7, .inl tl)), (b 1, .inl (G.2.1, 46, .inl (nF σ)))]) ⟨hx, hb, hml, hown, hts⟩ (c_X6_in1 l G H.size a1 (nI 0) (nI 5)) (va_cwS 3 hts gX6_turn_X6_in1 rfl rfl rfl (by decide +kernel) ⟨Nat.le_of_ble_eq_true rfl, Nat.le_of_ble_eq_true rfl⟩) noXB (fun _ _ _ => trivial) hK hP hD hS hAq rfl hl.1 rfl (Nat.le_of_ble_eq_true rfl) dX6_turn_11 ⟨Nat.le_of_ble_eq_true rfl, Nat.le_of_ble_eq_true rfl⟩ [] rfl rfl [] rfl (fun _ => rfl) (fun _ => rfl) (fun u H locs hok hP hD hS => ?_)
    refine n_top (y := zI ((0 : Int) ≤ a1.toInt ∧ a1.toInt ≤ 5)) (zI_c (by rw [nI_T (show 0 < 2147483648 by decide), nI_T (show 5 < 2147483648 by decide)]; exact Iff.rfl)) ?_
    refine z_if_ne hx hb (tgt := 23) dX6_turn_14 (by decide) (fun c_2 => ?_) (fun c_2 => ?_)
    · obtain ⟨w1, hw1, rfl⟩ := nI_of_rg (n := 5) (x := a1) ⟨by omega, by omega⟩
      have hT1 := nI_T (a := w1) (by omega)
      refine lv_aload_n hx hb dX6_turn_23 rfl (lv_at hl 0 rfl) ?_
      refine lv_iload_n hx hb dX6_turn_24 rfl (lv_at hl 1 rfl) ?_
      refine lv_iconst (v := nI 0) hx hb dX6_turn_25 rfl ?_
      refine callVI (rest := []) (wn := fun u => [mO b ζ vv, (b 4, .inl (G.2.1, 7, .inl tl)), (b 1, .inl (G.2.1, 46, .inl (nF σ)))]) ⟨hx, hb, hml, hown, hts⟩ (c_X6_get l G H.size b ζ vv σ k0 0 (by omega) (by omega)) (cwV 2 hts gX6_turn_X6_get rfl rfl rfl (by decide +kernel) ⟨Nat.le_of_ble_eq_true rfl, Nat.le_of_ble_eq_true rfl⟩) noXB (fun _ _ _ => trivial) hK hP hD hS hAq 5 0 (T := TX6) (N := 18) rfl rfl rfl hl.1 rfl (Nat.le_of_ble_eq_true rfl) dX6_turn_26 ⟨Nat.le_of_ble_eq_true rfl, Nat.le_of_ble_eq_true rfl⟩ [0, 2] rfl rfl [b 0, b 1] rfl (fun _ => rfl) (fun _ => rfl) (fun u H locs hok hP hD hS => ?_)
      refine lv_istore_n (lv' := [(3, .int (nI (σ (pl k0 0)))), (0, .ref (b 0)), (1, .int (nI k0)), (2, .int (nI w1))]) hx hb dX6_turn_29 rfl hl (by decide) rfl (fun ls hl => ?_)
      refine lv_aload_n hx hb dX6_turn_30 rfl (lv_at hl 1 rfl) ?_
      refine lv_iload_n hx hb dX6_turn_31 rfl (lv_at hl 2 rfl) ?_
      refine lv_iconst (v := nI 0) hx hb dX6_turn_32 rfl ?_
      refine lv_iload_n hx hb dX6_turn_33 rfl (lv_at hl 3 rfl) ?_
      refine callVV (rest := []) (wn := fun u => [mO b ζ vv, (b 4, .inl (G.2.1, 7, .inl tl)), (b 1, .inl (G.2.1, 46, .inl (nF (un σ (pl k0 0) w1))))]) ⟨hx, hb, hml, hown, hts⟩ (c_X6_puts l G H.size b ζ vv σ k0 0 w1 (by omega) (by omega)) (cwV 3 hts gX6_turn_X6_puts rfl rfl rfl (by decide +kernel) ⟨Nat.le_of_ble_eq_true rfl, Nat.le_of_ble_eq_true rfl⟩) noXB (fun _ _ _ => trivial) hK hP hD hS hAq 5 0 (T := TX6) (N := 18) rfl rfl rfl hl.1 rfl (Nat.le_of_ble_eq_true rfl) dX6_turn_34 ⟨Nat.le_of_ble_eq_true rfl, Nat.le_of_ble_eq_true rfl⟩ [0, 2] rfl rfl [b 0, b 1] rfl (fun _ => rfl) (fun _ => rfl) (fun u H locs hok hP hD hS => ?_)
      refine lv_iload_n hx hb dX6_turn_37 rfl (lv_at hl 0 rfl) ?_
      have he : turn_e σ (nI k0).toInt (nI w1).toInt = 7 := by unfold turn_e; (try simp only [hT0, hT1, Int.toNat_natCast]); (repeat' split) <;> omega
      exact fin_i hx hb hr hlk hS hP hD () trivial (by rw [he]; first | done | ((try simp only [hT0, hT1, Int.toNat_natCast]); first | done | rfl)) (by rw [he]; (try simp only [hT0, hT1, Int.toNat_natCast]); exact eqW.rf _) dX6_turn_38
    · refine lv_aload_n hx hb dX6_turn_17 rfl (lv_at hl 0 rfl) ?_
      refine lv_iconst (v := nI 0) hx hb dX6_turn_18 rfl ?_
      refine callVI (rest := []) (wn := fun u => [mO b ζ vv, (b 4, .inl (G.2.1, 7, .inl (tk tl 0))), (b 1, .inl (G.2.1, 46, .inl (nF σ)))]) ⟨hx, hb, hml, hown, hts⟩ (c_X6_no l G H.size b ζ vv tl 0 (by omega)) (cwV 1 hts gX6_turn_X6_no rfl rfl rfl (by decide +kernel) ⟨Nat.le_of_ble_eq_true rfl, Nat.le_of_ble_eq_true rfl⟩) noXB (fun _ _ _ => trivial) hK hP hD hS hAq 5 0 (T := TX6) (N := 18) rfl rfl rfl hl.1 rfl (Nat.le_of_ble_eq_true rfl) dX6_turn_19 ⟨Nat.le_of_ble_eq_true rfl, Nat.le_of_ble_eq_true rfl⟩ [0, 1] rfl rfl [b 0, b 4] rfl (fun _ => rfl) (fun _ => rfl) (fun u H locs hok hP hD hS => ?_)
      have he : turn_e σ (nI k0).toInt a1.toInt = 0 := by unfold turn_e; (try simp only [hT0, Int.toNat_natCast]); (repeat' split) <;> omega
      exact fin_i hx hb hr hlk hS hP hD () trivial (by rw [he]; first | done | ((try simp only [hT0, Int.toNat_natCast]); first | done | rfl)) (by rw [he]; (try simp only [hT0, Int.toNat_natCast]); exact eqW.rf _) dX6_turn_22
set_option maxHeartbeats 400000 in
set_option maxRecDepth 100000 in
theorem c_X5_swap (l : Launch) (G : GT) (sz : Nat) (x hm kp tr : Nat → Nat) (hi : Nat) (tl : Nat → Int32) (σ : Sg) (a0 a1 : Int32) (hI : Inv σ) (hd0 : σ 0 ≤ 9999) : MI (S := Unit) l G noX yX5_swap wsX5_swap ({ frames := 2, cells := 0, slots := 0, locals := 45 } : Room) [.ref (x 0), .int a0, .int a1] (([xO x hm kp tr hi, (x 7, .inl (G.2.1, 7, .inl tl))] ++ (wH G hm σ))) sz (fun _ => True) (fun _ => rs (swap_e σ a0.toInt a1.toInt) (nI 1)) (fun _ => ([xO x hm kp tr hi, (x 7, .inl (G.2.1, 7, .inl (ts tl (swap_e σ a0.toInt a1.toInt))))] ++ (wH G hm (hs (swap_e σ a0.toInt a1.toInt) (swapN σ a0.toInt.toNat a1.toInt.toNat) σ)))) := by
  refine MI_enter (cc := cX5_swap) (maxL := 3) (ret := (some .int)) (by decide) rfl (Nat.le_of_ble_eq_true rfl) ?_
  intro p e s m below meth c A ls H hx hb hr hlk hml hown hts hAq hS hP hK hD hX hl hnm
  have hown : s.vm.findClass RX5 = some m.cls := hown
  have hl : lv_has ls 3 [(0, .ref (x 0)), (1, .int a0), (2, .int a1)] := hl
  obtain ⟨⟨i1, i2, i3, i4, i5⟩, ip⟩ := id hI
  refine lv_aload_n hx hb dX5_swap_0 rfl (lv_at hl 0 rfl) ?_
  refine n_get (C := RX5) (T := TX5) (N := 7) hx hb hts (fun _ h => List.mem_cons_of_mem _ (List.mem_append_left _ (List.mem_append_right _ h))) hown hK hP 0 rfl rfl 0 (by decide) (List.mem_of_getElem? (i := 1) rfl) rfl (.ref (hm 0)) rfl dX5_swap_1 ?_
  refine lv_iload_n hx hb dX5_swap_4 rfl (lv_at hl 1 rfl) ?_
  refine callVI (rest := []) (wn := fun u => ([xO x hm kp tr hi, (x 7, .inl (G.2.1, 7, .inl tl))] ++ (wH G hm σ))) ⟨hx, hb, hml, hown, hts⟩ (c_X0_hasOne l G H.size hm σ a0 (by omega)) (cwV 1 hts gX5_swap_X0_hasOne rfl rfl rfl (by decide +kernel) ⟨Nat.le_of_ble_eq_true rfl, Nat.le_of_ble_eq_true rfl⟩) noXB (fun _ _ _ => trivial) hK hP hD hS hAq 0 0 (T := TX0) (N := 11) rfl rfl rfl hl.1 rfl (Nat.le_of_ble_eq_true rfl) dX5_swap_5 ⟨Nat.le_of_ble_eq_true rfl, Nat.le_of_ble_eq_true rfl⟩ [2, 3, 4, 5, 6, 7] rfl rfl [hm 0, hm 1, hm 2, hm 3, hm 4, hm 5] rfl (fun _ => rfl) (fun _ => rfl) (fun u H locs hok hP hD hS => ?_)
  refine z_if_eq hx hb (tgt := 27) dX5_swap_8 (by decide) (fun c_1 => ?_) (fun c_1 => ?_)
  · refine lv_aload_n hx hb dX5_swap_27 rfl (lv_at hl 0 rfl) ?_
    refine lv_iconst (v := nI 0) hx hb dX5_swap_28 rfl ?_
    refine callVI (rest := []) (wn := fun u => ([xO x hm kp tr hi, (x 7, .inl (G.2.1, 7, .inl (tk tl 0)))] ++ (wH G hm σ))) ⟨hx, hb, hml, hown, hts⟩ (c_X5_tell l G H.size x hm kp tr hi tl 0 (by omega)) (cwV 1 hts gX5_swap_X5_tell rfl rfl rfl (by decide +kernel) ⟨Nat.le_of_ble_eq_true rfl, Nat.le_of_ble_eq_true rfl⟩) noXB (fun _ _ _ => trivial) hK hP hD hS hAq 4 0 (T := TX5) (N := 7) rfl rfl rfl hl.1 rfl (Nat.le_of_ble_eq_true rfl) dX5_swap_29 ⟨Nat.le_of_ble_eq_true rfl, Nat.le_of_ble_eq_true rfl⟩ [0, 1] rfl rfl [x 0, x 7] rfl (fun _ => rfl) (fun _ => rfl) (fun u H locs hok hP hD hS => ?_)
    have he : swap_e σ a0.toInt a1.toInt = 0 := by unfold swap_e; (try simp only [Int.toNat_natCast]); (repeat' split) <;> omega
    exact fin_i hx hb hr hlk hS hP hD () trivial (by rw [he]; first | done | ((try simp only [Int.toNat_natCast]); first | done | rfl)) (by rw [he]; (try simp only [Int.toNat_natCast]); exact eqW.rf _) dX5_swap_32
  · obtain ⟨k0, hk0, rfl⟩ := nI_of_rg (n := 7) (x := a0) ⟨by omega, by omega⟩
    have hT0 := nI_T (a := k0) (by omega)
    have hp0 : k0 < σ 5 := by omega
    obtain ⟨q00, q01, q02, q03, q04⟩ := ip k0 (by omega)
    refine lv_aload_n hx hb dX5_swap_11 rfl (lv_at hl 0 rfl) ?_
    refine n_get (C := RX5) (T := TX5) (N := 7) hx hb hts (fun _ h => List.mem_cons_of_mem _ (List.mem_append_left _ (List.mem_append_right _ h))) hown hK hP 0 rfl rfl 0 (by decide) (List.mem_of_getElem? (i := 1) rfl) rfl (.ref (hm 0)) rfl dX5_swap_12 ?_
    refine lv_iload_n hx hb dX5_swap_15 rfl (lv_at hl 2 rfl) ?_
    refine callVI (rest := []) (wn := fun u => ([xO x hm kp tr hi, (x 7, .inl (G.2.1, 7, .inl tl))] ++ (wH G hm σ))) ⟨hx, hb, hml, hown, hts⟩ (c_X0_hasOne l G H.size hm σ a1 (by omega)) (cwV 1 hts gX5_swap_X0_hasOne rfl rfl rfl (by decide +kernel) ⟨Nat.le_of_ble_eq_true rfl, Nat.le_of_ble_eq_true rfl⟩) noXB (fun _ _ _ => trivial) hK hP hD hS hAq 0 0 (T := TX0) (N := 11) rfl rfl rfl hl.1 rfl (Nat.le_of_ble_eq_true rfl) dX5_swap_16 ⟨Nat.le_of_ble_eq_true rfl, Nat.le_of_ble_eq_true rfl⟩ [2, 3, 4, 5, 6, 7] rfl rfl [hm 0, hm 1, hm 2, hm 3, hm 4, hm 5] rfl (fun _ => rfl) (fun _ => rfl) (fun u H locs hok hP hD hS => ?_)
    refine z_if_eq hx hb (tgt := 27) dX5_swap_19 (by decide) (fun c_2 => ?_) (fun c_2 => ?_)
    · refine lv_aload_n hx hb dX5_swap_27 rfl (lv_at hl 0 rfl) ?_
      refine lv_iconst (v := nI 0) hx hb dX5_swap_28 rfl ?_
      refine callVI (rest := []) (wn := fun u => ([xO x hm kp tr hi, (x 7, .inl (G.2.1, 7, .inl (tk tl 0)))] ++ (wH G hm σ))) ⟨hx, hb, hml, hown, hts⟩ (c_X5_tell l G H.size x hm kp tr hi tl 0 (by omega)) (cwV 1 hts gX5_swap_X5_tell rfl rfl rfl (by decide +kernel) ⟨Nat.le_of_ble_eq_true rfl, Nat.le_of_ble_eq_true rfl⟩) noXB (fun _ _ _ => trivial) hK hP hD hS hAq 4 0 (T := TX5) (N := 7) rfl rfl rfl hl.1 rfl (Nat.le_of_ble_eq_true rfl) dX5_swap_29 ⟨Nat.le_of_ble_eq_true rfl, Nat.le_of_ble_eq_true rfl⟩ [0, 1] rfl rfl [x 0, x 7] rfl (fun _ => rfl) (fun _ => rfl) (fun u H locs hok hP hD hS => ?_)
      have he : swap_e σ (nI k0).toInt a1.toInt = 0 := by unfold swap_e; (try simp only [hT0, Int.toNat_natCast]); (repeat' split) <;> omega
      exact fin_i hx hb hr hlk hS hP hD () trivial (by rw [he]; first | done | ((try simp only [hT0, Int.toNat_natCast]); first | done | rfl)) (by rw [he]; (try simp only [hT0, Int.toNat_natCast]); exact eqW.rf _) dX5_swap_32
    · obtain ⟨k1, hk1, rfl⟩ := nI_of_rg (n := 7) (x := a1) ⟨by omega, by omega⟩
      have hT1 := nI_T (a := k1) (by omega)
      have hp1 : k1 < σ 5 := by omega
      obtain ⟨q10, q11, q12, q13, q14⟩ := ip k1 (by omega)
      refine lv_iload_n hx hb dX5_swap_22 rfl (lv_at hl 1 rfl) ?_
      refine lv_iload_n hx hb dX5_swap_23 rfl (lv_at hl 2 rfl) ?_
      refine n_icmp_ne hx hb (by omega) (by omega) (tgt := 33) dX5_swap_24 (by decide) (fun c_3 => ?_) (fun c_3 => ?_)
      · refine lv_aload_n hx hb dX5_swap_33 rfl (lv_at hl 0 rfl) ?_
        refine n_get (C := RX5) (T := TX5) (N := 7) hx hb hts (fun _ h => List.mem_cons_of_mem _ (List.mem_append_left _ (List.mem_append_right _ h))) hown hK hP 0 rfl rfl 0 (by decide) (List.mem_of_getElem? (i := 1) rfl) rfl (.ref (hm 0)) rfl dX5_swap_34 ?_
        refine lv_iload_n hx hb dX5_swap_37 rfl (lv_at hl 1 rfl) ?_
        refine lv_iload_n hx hb dX5_swap_38 rfl (lv_at hl 2 rfl) ?_
        refine callVV (rest := []) (wn := fun u => ([xO x hm kp tr hi, (x 7, .inl (G.2.1, 7, .inl tl))] ++ (wH G hm (swapN σ k0 k1)))) ⟨hx, hb, hml, hown, hts⟩ (c_X0_changeNumbers l G H.size hm σ k0 k1 (by omega) (by omega) (by omega)) (cwV 2 hts gX5_swap_X0_changeNumbers rfl rfl rfl (by decide +kernel) ⟨Nat.le_of_ble_eq_true rfl, Nat.le_of_ble_eq_true rfl⟩) noXB (fun _ _ _ => trivial) hK hP hD hS hAq 0 0 (T := TX0) (N := 11) rfl rfl rfl hl.1 rfl (Nat.le_of_ble_eq_true rfl) dX5_swap_39 ⟨Nat.le_of_ble_eq_true rfl, Nat.le_of_ble_eq_true rfl⟩ [2, 3, 4, 5, 6, 7] rfl rfl [hm 0, hm 1, hm 2, hm 3, hm 4, hm 5] rfl (fun _ => rfl) (fun _ => rfl) (fun u H locs hok hP hD hS => ?_)
        refine lv_iconst (v := nI 1) hx hb dX5_swap_42 rfl ?_
        have he : swap_e σ (nI k0).toInt (nI k1).toInt = 7 := by unfold swap_e; (try simp only [hT0, hT1, Int.toNat_natCast]); (repeat' split) <;> omega
        exact fin_i hx hb hr hlk hS hP hD () trivial (by rw [he]; first | done | ((try simp only [hT0, hT1, Int.toNat_natCast]); first | done | rfl)) (by rw [he]; (try simp only [hT0, hT1, Int.toNat_natCast]); exact eqW.rf _) dX5_swap_43
      · refine lv_aload_n hx hb dX5_swap_27 rfl (lv_at hl 0 rfl) ?_
        refine lv_iconst (v := nI 0) hx hb dX5_swap_28 rfl ?_
        refine callVI (rest := []) (wn := fun u => ([xO x hm kp tr hi, (x 7, .inl (G.2.1, 7, .inl (tk tl 0)))] ++ (wH G hm σ))) ⟨hx, hb, hml, hown, hts⟩ (c_X5_tell l G H.size x hm kp tr hi tl 0 (by omega)) (cwV 1 hts gX5_swap_X5_tell rfl rfl rfl (by decide +kernel) ⟨Nat.le_of_ble_eq_true rfl, Nat.le_of_ble_eq_true rfl⟩) noXB (fun _ _ _ => trivial) hK hP hD hS hAq 4 0 (T := TX5) (N := 7) rfl rfl rfl hl.1 rfl (Nat.le_of_ble_eq_true rfl) dX5_swap_29 ⟨Nat.le_of_ble_eq_true rfl, Nat.le_of_ble_eq_true rfl⟩ [0, 1] rfl rfl [x 0, x 7] rfl (fun _ => rfl) (fun _ => rfl) (fun u H locs hok hP hD hS => ?_)
        have he : swap_e σ (nI k0).toInt (nI k1).toInt = 0 := by unfold swap_e; (try simp only [hT0, hT1, Int.toNat_natCast]); (repeat' split) <;> omega
        exact fin_i hx hb hr hlk hS hP hD () trivial (by rw [he]; first | done | ((try simp only [hT0, hT1, Int.toNat_natCast]); first | done | rfl)) (by rw [he]; (try simp only [hT0, hT1, Int.toNat_natCast]); exact eqW.rf _) dX5_swap_32
set_option maxHeartbeats 400000 in
set_option maxRecDepth 100000 in
theorem c_X6_swap (l : Launch) (G : GT) (sz : Nat) (b : Nat → Nat) (ζ : Nat → Nat) (vv : Int64) (tl : Nat → Int32) (σ : Sg) (a0 a1 : Int32) (hI : Inv σ) (hd0 : σ 0 ≤ 9999) : MI (S := Unit) l G noX yX6_swap wsX6_swap ({ frames := 2, cells := 0, slots := 0, locals := 47 } : Room) [.ref (b 0), .int a0, .int a1] ([mO b ζ vv, (b 4, .inl (G.2.1, 7, .inl tl)), (b 1, .inl (G.2.1, 46, .inl (nF σ)))]) sz (fun _ => True) (fun _ => rs (swap_e σ a0.toInt a1.toInt) (nI 1)) (fun _ => [mO b ζ vv, (b 4, .inl (G.2.1, 7, .inl (ts tl (swap_e σ a0.toInt a1.toInt)))), (b 1, .inl (G.2.1, 46, .inl (nF (hs (swap_e σ a0.toInt a1.toInt) (swapN σ a0.toInt.toNat a1.toInt.toNat) σ))))]) := by
  refine MI_enter (cc := cX6_swap) (maxL := 3) (ret := (some .int)) (by decide) rfl (Nat.le_of_ble_eq_true rfl) ?_
  intro p e s m below meth c A ls H hx hb hr hlk hml hown hts hAq hS hP hK hD hX hl hnm
  have hown : s.vm.findClass RX6 = some m.cls := hown
  have hl : lv_has ls 3 [(0, .ref (b 0)), (1, .int a0), (2, .int a1)] := hl
  obtain ⟨⟨i1, i2, i3, i4, i5⟩, ip⟩ := id hI
  refine lv_aload_n hx hb dX6_swap_0 rfl (lv_at hl 0 rfl) ?_
  refine lv_iload_n hx hb dX6_swap_1 rfl (lv_at hl 1 rfl) ?_
  refine callVI (rest := []) (wn := fun u => [mO b ζ vv, (b 4, .inl (G.2.1, 7, .inl tl)), (b 1, .inl (G.2.1, 46, .inl (nF σ)))]) ⟨hx, hb, hml, hown, hts⟩ (c_X6_isPerson l G H.size b ζ vv σ a0 (by omega)) (cwV 1 hts gX6_swap_X6_isPerson rfl rfl rfl (by decide +kernel) ⟨Nat.le_of_ble_eq_true rfl, Nat.le_of_ble_eq_true rfl⟩) noXB (fun _ _ _ => trivial) hK hP hD hS hAq 5 0 (T := TX6) (N := 18) rfl rfl rfl hl.1 rfl (Nat.le_of_ble_eq_true rfl) dX6_swap_2 ⟨Nat.le_of_ble_eq_true rfl, Nat.le_of_ble_eq_true rfl⟩ [0, 2] rfl rfl [b 0, b 1] rfl (fun _ => rfl) (fun _ => rfl) (fun u H locs hok hP hD hS => ?_)
  refine z_if_eq hx hb (tgt := 21) dX6_swap_5 (by decide) (fun c_1 => ?_) (fun c_1 => ?_)
  · refine lv_aload_n hx hb dX6_swap_21 rfl (lv_at hl 0 rfl) ?_
    refine lv_iconst (v := nI 0) hx hb dX6_swap_22 rfl ?_
    refine callVI (rest := []) (wn := fun u => [mO b ζ vv, (b 4, .inl (G.2.1, 7, .inl (tk tl 0))), (b 1, .inl (G.2.1, 46, .inl (nF σ)))]) ⟨hx, hb, hml, hown, hts⟩ (c_X6_no l G H.size b ζ vv tl 0 (by omega)) (cwV 1 hts gX6_swap_X6_no rfl rfl rfl (by decide +kernel) ⟨Nat.le_of_ble_eq_true rfl, Nat.le_of_ble_eq_true rfl⟩) noXB (fun _ _ _ => trivial) hK hP hD hS hAq 5 0 (T := TX6) (N := 18) rfl rfl rfl hl.1 rfl (Nat.le_of_ble_eq_true rfl) dX6_swap_23 ⟨Nat.le_of_ble_eq_true rfl, Nat.le_of_ble_eq_true rfl⟩ [0, 1] rfl rfl [b 0, b 4] rfl (fun _ => rfl) (fun _ => rfl) (fun u H locs hok hP hD hS => ?_)
    have he : swap_e σ a0.toInt a1.toInt = 0 := by unfold swap_e; (try simp only [Int.toNat_natCast]); (repeat' split) <;> omega
    exact fin_i hx hb hr hlk hS hP hD () trivial (by rw [he]; first | done | ((try simp only [Int.toNat_natCast]); first | done | rfl)) (by rw [he]; (try simp only [Int.toNat_natCast]); exact eqW.rf _) dX6_swap_26
  · obtain ⟨k0, hk0, rfl⟩ := nI_of_rg (n := 7) (x := a0) ⟨by omega, by omega⟩
    have hT0 := nI_T (a := k0) (by omega)
    have hp0 : k0 < σ 5 := by omega
    obtain ⟨q00, q01, q02, q03, q04⟩ := ip k0 (by omega)
    refine lv_aload_n hx hb dX6_swap_8 rfl (lv_at hl 0 rfl) ?_
    refine lv_iload_n hx hb dX6_swap_9 rfl (lv_at hl 2 rfl) ?_
    refine callVI (rest := []) (wn := fun u => [mO b ζ vv, (b 4, .inl (G.2.1, 7, .inl tl)), (b 1, .inl (G.2.1, 46, .inl (nF σ)))]) ⟨hx, hb, hml, hown, hts⟩ (c_X6_isPerson l G H.size b ζ vv σ a1 (by omega)) (cwV 1 hts gX6_swap_X6_isPerson rfl rfl rfl (by decide +kernel) ⟨Nat.le_of_ble_eq_true rfl, Nat.le_of_ble_eq_true rfl⟩) noXB (fun _ _ _ => trivial) hK hP hD hS hAq 5 0 (T := TX6) (N := 18) rfl rfl rfl hl.1 rfl (Nat.le_of_ble_eq_true rfl) dX6_swap_10 ⟨Nat.le_of_ble_eq_true rfl, Nat.le_of_ble_eq_true rfl⟩ [0, 2] rfl rfl [b 0, b 1] rfl (fun _ => rfl) (fun _ => rfl) (fun u H locs hok hP hD hS => ?_)
    refine z_if_eq hx hb (tgt := 21) dX6_swap_13 (by decide) (fun c_2 => ?_) (fun c_2 => ?_)
    · refine lv_aload_n hx hb dX6_swap_21 rfl (lv_at hl 0 rfl) ?_
      refine lv_iconst (v := nI 0) hx hb dX6_swap_22 rfl ?_
      refine callVI (rest := []) (wn := fun u => [mO b ζ vv, (b 4, .inl (G.2.1, 7, .inl (tk tl 0))), (b 1, .inl (G.2.1, 46, .inl (nF σ)))]) ⟨hx, hb, hml, hown, hts⟩ (c_X6_no l G H.size b ζ vv tl 0 (by omega)) (cwV 1 hts gX6_swap_X6_no rfl rfl rfl (by decide +kernel) ⟨Nat.le_of_ble_eq_true rfl, Nat.le_of_ble_eq_true rfl⟩) noXB (fun _ _ _ => trivial) hK hP hD hS hAq 5 0 (T := TX6) (N := 18) rfl rfl rfl hl.1 rfl (Nat.le_of_ble_eq_true rfl) dX6_swap_23 ⟨Nat.le_of_ble_eq_true rfl, Nat.le_of_ble_eq_true rfl⟩ [0, 1] rfl rfl [b 0, b 4] rfl (fun _ => rfl) (fun _ => rfl) (fun u H locs hok hP hD hS => ?_)
      have he : swap_e σ (nI k0).toInt a1.toInt = 0 := by unfold swap_e; (try simp only [hT0, Int.toNat_natCast]); (repeat' split) <;> omega
      exact fin_i hx hb hr hlk hS hP hD () trivial (by rw [he]; first | done | ((try simp only [hT0, Int.toNat_natCast]); first | done | rfl)) (by rw [he]; (try simp only [hT0, Int.toNat_natCast]); exact eqW.rf _) dX6_swap_26
    · obtain ⟨k1, hk1, rfl⟩ := nI_of_rg (n := 7) (x := a1) ⟨by omega, by omega⟩
      have hT1 := nI_T (a := k1) (by omega)
      have hp1 : k1 < σ 5 := by omega
      obtain ⟨q10, q11, q12, q13, q14⟩ := ip k1 (by omega)
      refine lv_iload_n hx hb dX6_swap_16 rfl (lv_at hl 1 rfl) ?_
      refine lv_iload_n hx hb dX6_swap_17 rfl (lv_at hl 2 rfl) ?_
      refine n_icmp_ne hx hb (by omega) (by omega) (tgt := 27) dX6_swap_18 (by decide) (fun c_3 => ?_) (fun c_3 => ?_)
      · refine lv_aload_n hx hb dX6_swap_27 rfl (lv_at hl 0 rfl) ?_
        refine lv_iload_n hx hb dX6_swap_28 rfl (lv_at hl 1 rfl) ?_
        refine lv_iload_n hx hb dX6_swap_29 rfl (lv_at hl 2 rfl) ?_
        refine callVV (rest := []) (wn := fun u => [mO b ζ vv, (b 4, .inl (G.2.1, 7, .inl tl)), (b 1, .inl (G.2.1, 46, .inl (nF (swapN σ k0 k1))))]) ⟨hx, hb, hml, hown, hts⟩ (c_X6_changes l G H.size b ζ vv σ k0 k1 (by omega) (by omega)) (cwV 2 hts gX6_swap_X6_changes rfl rfl rfl (by decide +kernel) ⟨Nat.le_of_ble_eq_true rfl, Nat.le_of_ble_eq_true rfl⟩) noXB (fun _ _ _ => trivial) hK hP hD hS hAq 5 0 (T := TX6) (N := 18) rfl rfl rfl hl.1 rfl (Nat.le_of_ble_eq_true rfl) dX6_swap_30 ⟨Nat.le_of_ble_eq_true rfl, Nat.le_of_ble_eq_true rfl⟩ [0, 2] rfl rfl [b 0, b 1] rfl (fun _ => rfl) (fun _ => rfl) (fun u H locs hok hP hD hS => ?_)
        refine lv_iconst (v := nI 1) hx hb dX6_swap_33 rfl ?_
        have he : swap_e σ (nI k0).toInt (nI k1).toInt = 7 := by unfold swap_e; (try simp only [hT0, hT1, Int.toNat_natCast]); (repeat' split) <;> omega
        exact fin_i hx hb hr hlk hS hP hD () trivial (by rw [he]; first | done | ((try simp only [hT0, hT1, Int.toNat_natCast]); first | done | rfl)) (by rw [he]; (try simp only [hT0, hT1, Int.toNat_natCast]); exact eqW.rf _) dX6_swap_34
      · refine lv_aload_n hx hb dX6_swap_21 rfl (lv_at hl 0 rfl) ?_
        refine lv_iconst (v := nI 0) hx hb dX6_swap_22 rfl ?_
        refine callVI (rest := []) (wn := fun u => [mO b ζ vv, (b 4, .inl (G.2.1, 7, .inl (tk tl 0))), (b 1, .inl (G.2.1, 46, .inl (nF σ)))]) ⟨hx, hb, hml, hown, hts⟩ (c_X6_no l G H.size b ζ vv tl 0 (by omega)) (cwV 1 hts gX6_swap_X6_no rfl rfl rfl (by decide +kernel) ⟨Nat.le_of_ble_eq_true rfl, Nat.le_of_ble_eq_true rfl⟩) noXB (fun _ _ _ => trivial) hK hP hD hS hAq 5 0 (T := TX6) (N := 18) rfl rfl rfl hl.1 rfl (Nat.le_of_ble_eq_true rfl) dX6_swap_23 ⟨Nat.le_of_ble_eq_true rfl, Nat.le_of_ble_eq_true rfl⟩ [0, 1] rfl rfl [b 0, b 4] rfl (fun _ => rfl) (fun _ => rfl) (fun u H locs hok hP hD hS => ?_)
        have he : swap_e σ (nI k0).toInt (nI k1).toInt = 0 := by unfold swap_e; (try simp only [hT0, hT1, Int.toNat_natCast]); (repeat' split) <;> omega
        exact fin_i hx hb hr hlk hS hP hD () trivial (by rw [he]; first | done | ((try simp only [hT0, hT1, Int.toNat_natCast]); first | done | rfl)) (by rw [he]; (try simp only [hT0, hT1, Int.toNat_natCast]); exact eqW.rf _) dX6_swap_26
set_option maxHeartbeats 400000 in
set_option maxRecDepth 100000 in
theorem c_X5_breaks (l : Launch) (G : GT) (sz : Nat) (x hm kp tr : Nat → Nat) (hi : Nat) (tl : Nat → Int32) (σ : Sg) (a0 a1 : Int32) (hI : Inv σ) (hd0 : σ 0 ≤ 9999) : MI (S := Unit) l G noX yX5_breaks wsX5_breaks ({ frames := 3, cells := 0, slots := 0, locals := 66 } : Room) [.ref (x 0), .int a0, .int a1] (([xO x hm kp tr hi, (x 7, .inl (G.2.1, 7, .inl tl))] ++ (wH G hm σ))) sz (fun _ => True) (fun _ => rs (breaks_e σ a0.toInt a1.toInt) (nI (crackN σ a0.toInt.toNat a1.toInt.toNat 3))) (fun _ => ([xO x hm kp tr hi, (x 7, .inl (G.2.1, 7, .inl (ts tl (breaks_e σ a0.toInt a1.toInt))))] ++ (wH G hm (hs (breaks_e σ a0.toInt a1.toInt) (crackN σ a0.toInt.toNat a1.toInt.toNat) σ)))) := by
  refine MI_enter (cc := cX5_breaks) (maxL := 3) (ret := (some .int)) (by decide) rfl (Nat.le_of_ble_eq_true rfl) ?_
  intro p e s m below meth c A ls H hx hb hr hlk hml hown hts hAq hS hP hK hD hX hl hnm
  have hown : s.vm.findClass RX5 = some m.cls := hown
  have hl : lv_has ls 3 [(0, .ref (x 0)), (1, .int a0), (2, .int a1)] := hl
  obtain ⟨⟨i1, i2, i3, i4, i5⟩, ip⟩ := id hI
  refine lv_aload_n hx hb dX5_breaks_0 rfl (lv_at hl 0 rfl) ?_
  refine n_get (C := RX5) (T := TX5) (N := 7) hx hb hts (fun _ h => List.mem_cons_of_mem _ (List.mem_append_left _ (List.mem_append_right _ h))) hown hK hP 0 rfl rfl 0 (by decide) (List.mem_of_getElem? (i := 1) rfl) rfl (.ref (hm 0)) rfl dX5_breaks_1 ?_
  refine lv_iload_n hx hb dX5_breaks_4 rfl (lv_at hl 1 rfl) ?_
  refine callVI (rest := []) (wn := fun u => ([xO x hm kp tr hi, (x 7, .inl (G.2.1, 7, .inl tl))] ++ (wH G hm σ))) ⟨hx, hb, hml, hown, hts⟩ (c_X0_hasOne l G H.size hm σ a0 (by omega)) (cwV 1 hts gX5_breaks_X0_hasOne rfl rfl rfl (by decide +kernel) ⟨Nat.le_of_ble_eq_true rfl, Nat.le_of_ble_eq_true rfl⟩) noXB (fun _ _ _ => trivial) hK hP hD hS hAq 0 0 (T := TX0) (N := 11) rfl rfl rfl hl.1 rfl (Nat.le_of_ble_eq_true rfl) dX5_breaks_5 ⟨Nat.le_of_ble_eq_true rfl, Nat.le_of_ble_eq_true rfl⟩ [2, 3, 4, 5, 6, 7] rfl rfl [hm 0, hm 1, hm 2, hm 3, hm 4, hm 5] rfl (fun _ => rfl) (fun _ => rfl) (fun u H locs hok hP hD hS => ?_)
  refine z_if_eq hx hb (tgt := 21) dX5_breaks_8 (by decide) (fun c_1 => ?_) (fun c_1 => ?_)
  · refine lv_aload_n hx hb dX5_breaks_21 rfl (lv_at hl 0 rfl) ?_
    refine lv_iconst (v := nI 0) hx hb dX5_breaks_22 rfl ?_
    refine callVI (rest := []) (wn := fun u => ([xO x hm kp tr hi, (x 7, .inl (G.2.1, 7, .inl (tk tl 0)))] ++ (wH G hm σ))) ⟨hx, hb, hml, hown, hts⟩ (c_X5_tell l G H.size x hm kp tr hi tl 0 (by omega)) (cwV 1 hts gX5_breaks_X5_tell rfl rfl rfl (by decide +kernel) ⟨Nat.le_of_ble_eq_true rfl, Nat.le_of_ble_eq_true rfl⟩) noXB (fun _ _ _ => trivial) hK hP hD hS hAq 4 0 (T := TX5) (N := 7) rfl rfl rfl hl.1 rfl (Nat.le_of_ble_eq_true rfl) dX5_breaks_23 ⟨Nat.le_of_ble_eq_true rfl, Nat.le_of_ble_eq_true rfl⟩ [0, 1] rfl rfl [x 0, x 7] rfl (fun _ => rfl) (fun _ => rfl) (fun u H locs hok hP hD hS => ?_)
    have he : breaks_e σ a0.toInt a1.toInt = 0 := by unfold breaks_e; (try simp only [Int.toNat_natCast]); (repeat' split) <;> omega
    exact fin_i hx hb hr hlk hS hP hD () trivial (by rw [he]; first | done | ((try simp only [Int.toNat_natCast]); first | done | rfl)) (by rw [he]; (try simp only [Int.toNat_natCast]); exact eqW.rf _) dX5_breaks_26
  · obtain ⟨k0, hk0, rfl⟩ := nI_of_rg (n := 7) (x := a0) ⟨by omega, by omega⟩
    have hT0 := nI_T (a := k0) (by omega)
    have hp0 : k0 < σ 5 := by omega
    obtain ⟨q00, q01, q02, q03, q04⟩ := ip k0 (by omega)
    refine lv_iload_n hx hb dX5_breaks_11 rfl (lv_at hl 2 rfl) ?_
    refine lv_iconst (v := nI 1) hx hb dX5_breaks_12 rfl ?_
    refine lv_bipush (v := nI 99) hx hb dX5_breaks_13 rfl ?_
    refine callSI (rest := []) (wn := fun u => ([xO x hm kp tr hi, (x 7, .inl (G.2.1, 7, .inl tl))] ++ (wH G hm σ))) ⟨hx, hb, hml, hown, hts⟩ (c_X5_isWithin l G H.size a1 (nI 1) (nI 99)) (va_cwS 3 hts gX5_breaks_X5_isWithin rfl rfl rfl (by decide +kernel) ⟨Nat.le_of_ble_eq_true rfl, Nat.le_of_ble_eq_true rfl⟩) noXB (fun _ _ _ => trivial) hK hP hD hS hAq rfl hl.1 rfl (Nat.le_of_ble_eq_true rfl) dX5_breaks_15 ⟨Nat.le_of_ble_eq_true rfl, Nat.le_of_ble_eq_true rfl⟩ [] rfl rfl [] rfl (fun _ => rfl) (fun _ => rfl) (fun u H locs hok hP hD hS => ?_)
    refine n_top (y := zI ((1 : Int) ≤ a1.toInt ∧ a1.toInt ≤ 99)) (zI_c (by rw [nI_T (show 1 < 2147483648 by decide), nI_T (show 99 < 2147483648 by decide)]; exact Iff.rfl)) ?_
    refine z_if_ne hx hb (tgt := 27) dX5_breaks_18 (by decide) (fun c_2 => ?_) (fun c_2 => ?_)
    · obtain ⟨n1, hn1, rfl⟩ := nI_of_rg (n := 99) (x := a1) ⟨by omega, by omega⟩
      have hT1 := nI_T (a := n1) (by omega)
      refine lv_aload_n hx hb dX5_breaks_27 rfl (lv_at hl 0 rfl) ?_
      refine n_get (C := RX5) (T := TX5) (N := 7) hx hb hts (fun _ h => List.mem_cons_of_mem _ (List.mem_append_left _ (List.mem_append_right _ h))) hown hK hP 0 rfl rfl 0 (by decide) (List.mem_of_getElem? (i := 1) rfl) rfl (.ref (hm 0)) rfl dX5_breaks_28 ?_
      refine n_get (C := RX0) (T := TX0) (N := 11) hx hb hts (fun _ h => List.mem_cons_of_mem _ (List.mem_append_right _ h)) hown hK hP 2 rfl rfl 9 (by decide) (List.mem_of_getElem? (i := 2) rfl) rfl (.ref (hm 4)) rfl dX5_breaks_31 ?_
      refine lv_iload_n hx hb dX5_breaks_34 rfl (lv_at hl 1 rfl) ?_
      refine n_iald hx hb hK hP 6 (v := (nI (σ (pl k0 3)))) rfl (by omega) (by omega) rfl dX5_breaks_35 ?_
      refine n_if_gt hx hb (by omega) (tgt := 50) dX5_breaks_36 (by decide) (fun c_3 => ?_) (fun c_3 => ?_)
      · refine lv_aload_n hx hb dX5_breaks_50 rfl (lv_at hl 0 rfl) ?_
        refine lv_iconst (v := nI 4) hx hb dX5_breaks_51 rfl ?_
        refine callVI (rest := []) (wn := fun u => ([xO x hm kp tr hi, (x 7, .inl (G.2.1, 7, .inl (tk tl 4)))] ++ (wH G hm σ))) ⟨hx, hb, hml, hown, hts⟩ (c_X5_tell l G H.size x hm kp tr hi tl 4 (by omega)) (cwV 1 hts gX5_breaks_X5_tell rfl rfl rfl (by decide +kernel) ⟨Nat.le_of_ble_eq_true rfl, Nat.le_of_ble_eq_true rfl⟩) noXB (fun _ _ _ => trivial) hK hP hD hS hAq 4 0 (T := TX5) (N := 7) rfl rfl rfl hl.1 rfl (Nat.le_of_ble_eq_true rfl) dX5_breaks_52 ⟨Nat.le_of_ble_eq_true rfl, Nat.le_of_ble_eq_true rfl⟩ [0, 1] rfl rfl [x 0, x 7] rfl (fun _ => rfl) (fun _ => rfl) (fun u H locs hok hP hD hS => ?_)
        have he : breaks_e σ (nI k0).toInt (nI n1).toInt = 4 := by unfold breaks_e; (try simp only [hT0, hT1, Int.toNat_natCast]); (repeat' split) <;> omega
        exact fin_i hx hb hr hlk hS hP hD () trivial (by rw [he]; first | done | ((try simp only [hT0, hT1, Int.toNat_natCast]); first | done | rfl)) (by rw [he]; (try simp only [hT0, hT1, Int.toNat_natCast]); exact eqW.rf _) dX5_breaks_55
      · refine lv_aload_n hx hb dX5_breaks_39 rfl (lv_at hl 0 rfl) ?_
        refine n_get (C := RX5) (T := TX5) (N := 7) hx hb hts (fun _ h => List.mem_cons_of_mem _ (List.mem_append_left _ (List.mem_append_right _ h))) hown hK hP 0 rfl rfl 0 (by decide) (List.mem_of_getElem? (i := 1) rfl) rfl (.ref (hm 0)) rfl dX5_breaks_40 ?_
        refine n_get (C := RX0) (T := TX0) (N := 11) hx hb hts (fun _ h => List.mem_cons_of_mem _ (List.mem_append_right _ h)) hown hK hP 2 rfl rfl 1 (by decide) (List.mem_of_getElem? (i := 3) rfl) rfl (.int (nI (σ 1))) rfl dX5_breaks_43 ?_
        refine lv_iload_n hx hb dX5_breaks_46 rfl (lv_at hl 2 rfl) ?_
        refine n_icmp_ge hx hb (by omega) (by omega) (tgt := 56) dX5_breaks_47 (by decide) (fun c_4 => ?_) (fun c_4 => ?_)
        · refine lv_aload_n hx hb dX5_breaks_56 rfl (lv_at hl 0 rfl) ?_
          refine n_get (C := RX5) (T := TX5) (N := 7) hx hb hts (fun _ h => List.mem_cons_of_mem _ (List.mem_append_left _ (List.mem_append_right _ h))) hown hK hP 0 rfl rfl 0 (by decide) (List.mem_of_getElem? (i := 1) rfl) rfl (.ref (hm 0)) rfl dX5_breaks_57 ?_
          refine lv_iload_n hx hb dX5_breaks_60 rfl (lv_at hl 1 rfl) ?_
          refine lv_iload_n hx hb dX5_breaks_61 rfl (lv_at hl 2 rfl) ?_
          refine callVV (rest := []) (wn := fun u => ([xO x hm kp tr hi, (x 7, .inl (G.2.1, 7, .inl tl))] ++ (wH G hm (crackN σ k0 n1)))) ⟨hx, hb, hml, hown, hts⟩ (c_X0_crack l G H.size hm σ k0 n1 hI (by omega) (by omega)) (cwV 2 hts gX5_breaks_X0_crack rfl rfl rfl (by decide +kernel) ⟨Nat.le_of_ble_eq_true rfl, Nat.le_of_ble_eq_true rfl⟩) noXB (fun _ _ _ => trivial) hK hP hD hS hAq 0 0 (T := TX0) (N := 11) rfl rfl rfl hl.1 rfl (Nat.le_of_ble_eq_true rfl) dX5_breaks_62 ⟨Nat.le_of_ble_eq_true rfl, Nat.le_of_ble_eq_true rfl⟩ [2, 3, 4, 5, 6, 7] rfl rfl [hm 0, hm 1, hm 2, hm 3, hm 4, hm 5] rfl (fun _ => rfl) (fun _ => rfl) (fun u H locs hok hP hD hS => ?_)
          refine lv_aload_n hx hb dX5_breaks_65 rfl (lv_at hl 0 rfl) ?_
          refine n_get (C := RX5) (T := TX5) (N := 7) hx hb hts (fun _ h => List.mem_cons_of_mem _ (List.mem_append_left _ (List.mem_append_right _ h))) hown hK hP 0 rfl rfl 0 (by decide) (List.mem_of_getElem? (i := 1) rfl) rfl (.ref (hm 0)) rfl dX5_breaks_66 ?_
          refine n_get (C := RX0) (T := TX0) (N := 11) hx hb hts (fun _ h => List.mem_cons_of_mem _ (List.mem_append_right _ h)) hown hK hP 2 rfl rfl 3 (by decide) (List.mem_of_getElem? (i := 4) rfl) rfl (.int (nI ((crackN σ k0 n1) 3))) rfl dX5_breaks_69 ?_
          have he : breaks_e σ (nI k0).toInt (nI n1).toInt = 7 := by unfold breaks_e; (try simp only [hT0, hT1, Int.toNat_natCast]); (repeat' split) <;> omega
          exact fin_i hx hb hr hlk hS hP hD () trivial (by rw [he]; first | done | ((try simp only [hT0, hT1, Int.toNat_natCast]); first | done | rfl)) (by rw [he]; (try simp only [hT0, hT1, Int.toNat_natCast]); exact eqW.rf _) dX5_breaks_72
        · refine lv_aload_n hx hb dX5_breaks_50 rfl (lv_at hl 0 rfl) ?_
          refine lv_iconst (v := nI 4) hx hb dX5_breaks_51 rfl ?_
          refine callVI (rest := []) (wn := fun u => ([xO x hm kp tr hi, (x 7, .inl (G.2.1, 7, .inl (tk tl 4)))] ++ (wH G hm σ))) ⟨hx, hb, hml, hown, hts⟩ (c_X5_tell l G H.size x hm kp tr hi tl 4 (by omega)) (cwV 1 hts gX5_breaks_X5_tell rfl rfl rfl (by decide +kernel) ⟨Nat.le_of_ble_eq_true rfl, Nat.le_of_ble_eq_true rfl⟩) noXB (fun _ _ _ => trivial) hK hP hD hS hAq 4 0 (T := TX5) (N := 7) rfl rfl rfl hl.1 rfl (Nat.le_of_ble_eq_true rfl) dX5_breaks_52 ⟨Nat.le_of_ble_eq_true rfl, Nat.le_of_ble_eq_true rfl⟩ [0, 1] rfl rfl [x 0, x 7] rfl (fun _ => rfl) (fun _ => rfl) (fun u H locs hok hP hD hS => ?_)
          have he : breaks_e σ (nI k0).toInt (nI n1).toInt = 4 := by unfold breaks_e; (try simp only [hT0, hT1, Int.toNat_natCast]); (repeat' split) <;> omega
          exact fin_i hx hb hr hlk hS hP hD () trivial (by rw [he]; first | done | ((try simp only [hT0, hT1, Int.toNat_natCast]); first | done | rfl)) (by rw [he]; (try simp only [hT0, hT1, Int.toNat_natCast]); exact eqW.rf _) dX5_breaks_55
    · refine lv_aload_n hx hb dX5_breaks_21 rfl (lv_at hl 0 rfl) ?_
      refine lv_iconst (v := nI 0) hx hb dX5_breaks_22 rfl ?_
      refine callVI (rest := []) (wn := fun u => ([xO x hm kp tr hi, (x 7, .inl (G.2.1, 7, .inl (tk tl 0)))] ++ (wH G hm σ))) ⟨hx, hb, hml, hown, hts⟩ (c_X5_tell l G H.size x hm kp tr hi tl 0 (by omega)) (cwV 1 hts gX5_breaks_X5_tell rfl rfl rfl (by decide +kernel) ⟨Nat.le_of_ble_eq_true rfl, Nat.le_of_ble_eq_true rfl⟩) noXB (fun _ _ _ => trivial) hK hP hD hS hAq 4 0 (T := TX5) (N := 7) rfl rfl rfl hl.1 rfl (Nat.le_of_ble_eq_true rfl) dX5_breaks_23 ⟨Nat.le_of_ble_eq_true rfl, Nat.le_of_ble_eq_true rfl⟩ [0, 1] rfl rfl [x 0, x 7] rfl (fun _ => rfl) (fun _ => rfl) (fun u H locs hok hP hD hS => ?_)
      have he : breaks_e σ (nI k0).toInt a1.toInt = 0 := by unfold breaks_e; (try simp only [hT0, Int.toNat_natCast]); (repeat' split) <;> omega
      exact fin_i hx hb hr hlk hS hP hD () trivial (by rw [he]; first | done | ((try simp only [hT0, Int.toNat_natCast]); first | done | rfl)) (by rw [he]; (try simp only [hT0, Int.toNat_natCast]); exact eqW.rf _) dX5_breaks_26
set_option maxHeartbeats 400000 in
set_option maxRecDepth 100000 in
theorem c_X6_breaks (l : Launch) (G : GT) (sz : Nat) (b : Nat → Nat) (ζ : Nat → Nat) (vv : Int64) (tl : Nat → Int32) (σ : Sg) (a0 a1 : Int32) (hI : Inv σ) (hd0 : σ 0 ≤ 9999) : MI (S := Unit) l G noX yX6_breaks wsX6_breaks ({ frames := 4, cells := 0, slots := 0, locals := 90 } : Room) [.ref (b 0), .int a0, .int a1] ([mO b ζ vv, (b 4, .inl (G.2.1, 7, .inl tl)), (b 1, .inl (G.2.1, 46, .inl (nF σ)))]) sz (fun _ => True) (fun _ => rs (breaks_e σ a0.toInt a1.toInt) (nI (crackN σ a0.toInt.toNat a1.toInt.toNat 3))) (fun _ => [mO b ζ vv, (b 4, .inl (G.2.1, 7, .inl (ts tl (breaks_e σ a0.toInt a1.toInt)))), (b 1, .inl (G.2.1, 46, .inl (nF (hs (breaks_e σ a0.toInt a1.toInt) (crackN σ a0.toInt.toNat a1.toInt.toNat) σ))))]) := by
  refine MI_enter (cc := cX6_breaks) (maxL := 3) (ret := (some .int)) (by decide) rfl (Nat.le_of_ble_eq_true rfl) ?_
  intro p e s m below meth c A ls H hx hb hr hlk hml hown hts hAq hS hP hK hD hX hl hnm
  have hown : s.vm.findClass RX6 = some m.cls := hown
  have hl : lv_has ls 3 [(0, .ref (b 0)), (1, .int a0), (2, .int a1)] := hl
  obtain ⟨⟨i1, i2, i3, i4, i5⟩, ip⟩ := id hI
  refine lv_aload_n hx hb dX6_breaks_0 rfl (lv_at hl 0 rfl) ?_
  refine lv_iload_n hx hb dX6_breaks_1 rfl (lv_at hl 1 rfl) ?_
  refine callVI (rest := []) (wn := fun u => [mO b ζ vv, (b 4, .inl (G.2.1, 7, .inl tl)), (b 1, .inl (G.2.1, 46, .inl (nF σ)))]) ⟨hx, hb, hml, hown, hts⟩ (c_X6_isPerson l G H.size b ζ vv σ a0 (by omega)) (cwV 1 hts gX6_breaks_X6_isPerson rfl rfl rfl (by decide +kernel) ⟨Nat.le_of_ble_eq_true rfl, Nat.le_of_ble_eq_true rfl⟩) noXB (fun _ _ _ => trivial) hK hP hD hS hAq 5 0 (T := TX6) (N := 18) rfl rfl rfl hl.1 rfl (Nat.le_of_ble_eq_true rfl) dX6_breaks_2 ⟨Nat.le_of_ble_eq_true rfl, Nat.le_of_ble_eq_true rfl⟩ [0, 2] rfl rfl [b 0, b 1] rfl (fun _ => rfl) (fun _ => rfl) (fun u H locs hok hP hD hS => ?_)
  refine z_if_eq hx hb (tgt := 18) dX6_breaks_5 (by decide) (fun c_1 => ?_) (fun c_1 => ?_)
  · refine lv_aload_n hx hb dX6_breaks_18 rfl (lv_at hl 0 rfl) ?_
    refine lv_iconst (v := nI 0) hx hb dX6_breaks_19 rfl ?_
    refine callVI (rest := []) (wn := fun u => [mO b ζ vv, (b 4, .inl (G.2.1, 7, .inl (tk tl 0))), (b 1, .inl (G.2.1, 46, .inl (nF σ)))]) ⟨hx, hb, hml, hown, hts⟩ (c_X6_no l G H.size b ζ vv tl 0 (by omega)) (cwV 1 hts gX6_breaks_X6_no rfl rfl rfl (by decide +kernel) ⟨Nat.le_of_ble_eq_true rfl, Nat.le_of_ble_eq_true rfl⟩) noXB (fun _ _ _ => trivial) hK hP hD hS hAq 5 0 (T := TX6) (N := 18) rfl rfl rfl hl.1 rfl (Nat.le_of_ble_eq_true rfl) dX6_breaks_20 ⟨Nat.le_of_ble_eq_true rfl, Nat.le_of_ble_eq_true rfl⟩ [0, 1] rfl rfl [b 0, b 4] rfl (fun _ => rfl) (fun _ => rfl) (fun u H locs hok hP hD hS => ?_)
    have he : breaks_e σ a0.toInt a1.toInt = 0 := by unfold breaks_e; (try simp only [Int.toNat_natCast]); (repeat' split) <;> omega
    exact fin_i hx hb hr hlk hS hP hD () trivial (by rw [he]; first | done | ((try simp only [Int.toNat_natCast]); first | done | rfl)) (by rw [he]; (try simp only [Int.toNat_natCast]); exact eqW.rf _) dX6_breaks_23
  · obtain ⟨k0, hk0, rfl⟩ := nI_of_rg (n := 7) (x := a0) ⟨by omega, by omega⟩
    have hT0 := nI_T (a := k0) (by omega)
    have hp0 : k0 < σ 5 := by omega
    obtain ⟨q00, q01, q02, q03, q04⟩ := ip k0 (by omega)
    refine lv_iload_n hx hb dX6_breaks_8 rfl (lv_at hl 2 rfl) ?_
    refine lv_iconst (v := nI 1) hx hb dX6_breaks_9 rfl ?_
    refine lv_bipush (v := nI 99) hx hb dX6_breaks_10 rfl ?_
    refine callSI (rest := []) (wn := fun u => [mO b ζ vv, (b 4, .inl (G.2.1, 7, .inl tl)), (b 1, .inl (G.2.1, 46, .inl (nF σ)))]) ⟨hx, hb, hml, hown, hts⟩ (c_X6_in1 l G H.size a1 (nI 1) (nI 99)) (va_cwS 3 hts gX6_breaks_X6_in1 rfl rfl rfl (by decide +kernel) ⟨Nat.le_of_ble_eq_true rfl, Nat.le_of_ble_eq_true rfl⟩) noXB (fun _ _ _ => trivial) hK hP hD hS hAq rfl hl.1 rfl (Nat.le_of_ble_eq_true rfl) dX6_breaks_12 ⟨Nat.le_of_ble_eq_true rfl, Nat.le_of_ble_eq_true rfl⟩ [] rfl rfl [] rfl (fun _ => rfl) (fun _ => rfl) (fun u H locs hok hP hD hS => ?_)
    refine n_top (y := zI ((1 : Int) ≤ a1.toInt ∧ a1.toInt ≤ 99)) (zI_c (by rw [nI_T (show 1 < 2147483648 by decide), nI_T (show 99 < 2147483648 by decide)]; exact Iff.rfl)) ?_
    refine z_if_ne hx hb (tgt := 24) dX6_breaks_15 (by decide) (fun c_2 => ?_) (fun c_2 => ?_)
    · obtain ⟨n1, hn1, rfl⟩ := nI_of_rg (n := 99) (x := a1) ⟨by omega, by omega⟩
      have hT1 := nI_T (a := n1) (by omega)
      refine lv_aload_n hx hb dX6_breaks_24 rfl (lv_at hl 0 rfl) ?_
      refine lv_iload_n hx hb dX6_breaks_25 rfl (lv_at hl 1 rfl) ?_
      refine lv_iconst (v := nI 3) hx hb dX6_breaks_26 rfl ?_
      refine callVI (rest := []) (wn := fun u => [mO b ζ vv, (b 4, .inl (G.2.1, 7, .inl tl)), (b 1, .inl (G.2.1, 46, .inl (nF σ)))]) ⟨hx, hb, hml, hown, hts⟩ (c_X6_get l G H.size b ζ vv σ k0 3 (by omega) (by omega)) (cwV 2 hts gX6_breaks_X6_get rfl rfl rfl (by decide +kernel) ⟨Nat.le_of_ble_eq_true rfl, Nat.le_of_ble_eq_true rfl⟩) noXB (fun _ _ _ => trivial) hK hP hD hS hAq 5 0 (T := TX6) (N := 18) rfl rfl rfl hl.1 rfl (Nat.le_of_ble_eq_true rfl) dX6_breaks_27 ⟨Nat.le_of_ble_eq_true rfl, Nat.le_of_ble_eq_true rfl⟩ [0, 2] rfl rfl [b 0, b 1] rfl (fun _ => rfl) (fun _ => rfl) (fun u H locs hok hP hD hS => ?_)
      refine n_if_gt hx hb (by omega) (tgt := 43) dX6_breaks_30 (by decide) (fun c_3 => ?_) (fun c_3 => ?_)
      · refine lv_aload_n hx hb dX6_breaks_43 rfl (lv_at hl 0 rfl) ?_
        refine lv_iconst (v := nI 4) hx hb dX6_breaks_44 rfl ?_
        refine callVI (rest := []) (wn := fun u => [mO b ζ vv, (b 4, .inl (G.2.1, 7, .inl (tk tl 4))), (b 1, .inl (G.2.1, 46, .inl (nF σ)))]) ⟨hx, hb, hml, hown, hts⟩ (c_X6_no l G H.size b ζ vv tl 4 (by omega)) (cwV 1 hts gX6_breaks_X6_no rfl rfl rfl (by decide +kernel) ⟨Nat.le_of_ble_eq_true rfl, Nat.le_of_ble_eq_true rfl⟩) noXB (fun _ _ _ => trivial) hK hP hD hS hAq 5 0 (T := TX6) (N := 18) rfl rfl rfl hl.1 rfl (Nat.le_of_ble_eq_true rfl) dX6_breaks_45 ⟨Nat.le_of_ble_eq_true rfl, Nat.le_of_ble_eq_true rfl⟩ [0, 1] rfl rfl [b 0, b 4] rfl (fun _ => rfl) (fun _ => rfl) (fun u H locs hok hP hD hS => ?_)
        have he : breaks_e σ (nI k0).toInt (nI n1).toInt = 4 := by unfold breaks_e; (try simp only [hT0, hT1, Int.toNat_natCast]); (repeat' split) <;> omega
        exact fin_i hx hb hr hlk hS hP hD () trivial (by rw [he]; first | done | ((try simp only [hT0, hT1, Int.toNat_natCast]); first | done | rfl)) (by rw [he]; (try simp only [hT0, hT1, Int.toNat_natCast]); exact eqW.rf _) dX6_breaks_48
      · refine lv_aload_n hx hb dX6_breaks_33 rfl (lv_at hl 0 rfl) ?_
        refine n_get (C := RX6) (T := TX6) (N := 18) hx hb hts (fun _ h => List.mem_cons_of_mem _ (List.mem_append_right _ h)) hown hK hP 0 rfl rfl 0 (by decide) (List.mem_of_getElem? (i := 1) rfl) rfl (.ref (b 1)) rfl dX6_breaks_34 ?_
        refine lv_iconst (v := nI 1) hx hb dX6_breaks_37 rfl ?_
        refine n_iald hx hb hK hP 2 (v := (nI (σ 1))) rfl (by omega) (by omega) rfl dX6_breaks_38 ?_
        refine lv_iload_n hx hb dX6_breaks_39 rfl (lv_at hl 2 rfl) ?_
        refine n_icmp_ge hx hb (by omega) (by omega) (tgt := 49) dX6_breaks_40 (by decide) (fun c_4 => ?_) (fun c_4 => ?_)
        · refine lv_aload_n hx hb dX6_breaks_49 rfl (lv_at hl 0 rfl) ?_
          refine lv_iload_n hx hb dX6_breaks_50 rfl (lv_at hl 1 rfl) ?_
          refine lv_iload_n hx hb dX6_breaks_51 rfl (lv_at hl 2 rfl) ?_
          refine callVV (rest := []) (wn := fun u => [mO b ζ vv, (b 4, .inl (G.2.1, 7, .inl tl)), (b 1, .inl (G.2.1, 46, .inl (nF (crackN σ k0 n1))))]) ⟨hx, hb, hml, hown, hts⟩ (c_X6_breaksOf l G H.size b ζ vv σ k0 n1 hI (by omega) (by omega)) (cwV 2 hts gX6_breaks_X6_breaksOf rfl rfl rfl (by decide +kernel) ⟨Nat.le_of_ble_eq_true rfl, Nat.le_of_ble_eq_true rfl⟩) noXB (fun _ _ _ => trivial) hK hP hD hS hAq 5 0 (T := TX6) (N := 18) rfl rfl rfl hl.1 rfl (Nat.le_of_ble_eq_true rfl) dX6_breaks_52 ⟨Nat.le_of_ble_eq_true rfl, Nat.le_of_ble_eq_true rfl⟩ [0, 2] rfl rfl [b 0, b 1] rfl (fun _ => rfl) (fun _ => rfl) (fun u H locs hok hP hD hS => ?_)
          refine lv_aload_n hx hb dX6_breaks_55 rfl (lv_at hl 0 rfl) ?_
          refine n_get (C := RX6) (T := TX6) (N := 18) hx hb hts (fun _ h => List.mem_cons_of_mem _ (List.mem_append_right _ h)) hown hK hP 0 rfl rfl 0 (by decide) (List.mem_of_getElem? (i := 1) rfl) rfl (.ref (b 1)) rfl dX6_breaks_56 ?_
          refine lv_iconst (v := nI 3) hx hb dX6_breaks_59 rfl ?_
          refine n_iald hx hb hK hP 2 (v := (nI ((crackN σ k0 n1) 3))) rfl (by omega) (by omega) rfl dX6_breaks_60 ?_
          have he : breaks_e σ (nI k0).toInt (nI n1).toInt = 7 := by unfold breaks_e; (try simp only [hT0, hT1, Int.toNat_natCast]); (repeat' split) <;> omega
          exact fin_i hx hb hr hlk hS hP hD () trivial (by rw [he]; first | done | ((try simp only [hT0, hT1, Int.toNat_natCast]); first | done | rfl)) (by rw [he]; (try simp only [hT0, hT1, Int.toNat_natCast]); exact eqW.rf _) dX6_breaks_61
        · refine lv_aload_n hx hb dX6_breaks_43 rfl (lv_at hl 0 rfl) ?_
          refine lv_iconst (v := nI 4) hx hb dX6_breaks_44 rfl ?_
          refine callVI (rest := []) (wn := fun u => [mO b ζ vv, (b 4, .inl (G.2.1, 7, .inl (tk tl 4))), (b 1, .inl (G.2.1, 46, .inl (nF σ)))]) ⟨hx, hb, hml, hown, hts⟩ (c_X6_no l G H.size b ζ vv tl 4 (by omega)) (cwV 1 hts gX6_breaks_X6_no rfl rfl rfl (by decide +kernel) ⟨Nat.le_of_ble_eq_true rfl, Nat.le_of_ble_eq_true rfl⟩) noXB (fun _ _ _ => trivial) hK hP hD hS hAq 5 0 (T := TX6) (N := 18) rfl rfl rfl hl.1 rfl (Nat.le_of_ble_eq_true rfl) dX6_breaks_45 ⟨Nat.le_of_ble_eq_true rfl, Nat.le_of_ble_eq_true rfl⟩ [0, 1] rfl rfl [b 0, b 4] rfl (fun _ => rfl) (fun _ => rfl) (fun u H locs hok hP hD hS => ?_)
          have he : breaks_e σ (nI k0).toInt (nI n1).toInt = 4 := by unfold breaks_e; (try simp only [hT0, hT1, Int.toNat_natCast]); (repeat' split) <;> omega
          exact fin_i hx hb hr hlk hS hP hD () trivial (by rw [he]; first | done | ((try simp only [hT0, hT1, Int.toNat_natCast]); first | done | rfl)) (by rw [he]; (try simp only [hT0, hT1, Int.toNat_natCast]); exact eqW.rf _) dX6_breaks_48
    · refine lv_aload_n hx hb dX6_breaks_18 rfl (lv_at hl 0 rfl) ?_
      refine lv_iconst (v := nI 0) hx hb dX6_breaks_19 rfl ?_
      refine callVI (rest := []) (wn := fun u => [mO b ζ vv, (b 4, .inl (G.2.1, 7, .inl (tk tl 0))), (b 1, .inl (G.2.1, 46, .inl (nF σ)))]) ⟨hx, hb, hml, hown, hts⟩ (c_X6_no l G H.size b ζ vv tl 0 (by omega)) (cwV 1 hts gX6_breaks_X6_no rfl rfl rfl (by decide +kernel) ⟨Nat.le_of_ble_eq_true rfl, Nat.le_of_ble_eq_true rfl⟩) noXB (fun _ _ _ => trivial) hK hP hD hS hAq 5 0 (T := TX6) (N := 18) rfl rfl rfl hl.1 rfl (Nat.le_of_ble_eq_true rfl) dX6_breaks_20 ⟨Nat.le_of_ble_eq_true rfl, Nat.le_of_ble_eq_true rfl⟩ [0, 1] rfl rfl [b 0, b 4] rfl (fun _ => rfl) (fun _ => rfl) (fun u H locs hok hP hD hS => ?_)
      have he : breaks_e σ (nI k0).toInt a1.toInt = 0 := by unfold breaks_e; (try simp only [hT0, Int.toNat_natCast]); (repeat' split) <;> omega
      exact fin_i hx hb hr hlk hS hP hD () trivial (by rw [he]; first | done | ((try simp only [hT0, Int.toNat_natCast]); first | done | rfl)) (by rw [he]; (try simp only [hT0, Int.toNat_natCast]); exact eqW.rf _) dX6_breaks_23
set_option maxHeartbeats 400000 in
set_option maxRecDepth 100000 in
theorem c_X5_days (l : Launch) (G : GT) (sz : Nat) (x hm kp tr : Nat → Nat) (hi : Nat) (tl : Nat → Int32) (σ : Sg) (a0 : Int32) (hI : Inv σ) (hd0 : σ 0 ≤ 9999) : MI (S := Unit) l G noX yX5_days wsX5_days ({ frames := 5, cells := 0, slots := 0, locals := 113 } : Room) [.ref (x 0), .int a0] (([xO x hm kp tr hi, (x 7, .inl (G.2.1, 7, .inl tl))] ++ (wH G hm σ))) sz (fun _ => True) (fun _ => rs (days_e σ a0.toInt) (nI (daysN a0.toInt.toNat σ 1))) (fun _ => ([xO x hm kp tr hi, (x 7, .inl (G.2.1, 7, .inl (ts tl (days_e σ a0.toInt))))] ++ (wH G hm (hs (days_e σ a0.toInt) (daysN a0.toInt.toNat σ) σ)))) := by
  refine MI_enter (cc := cX5_days) (maxL := 2) (ret := (some .int)) (by decide) rfl (Nat.le_of_ble_eq_true rfl) ?_
  intro p e s m below meth c A ls H hx hb hr hlk hml hown hts hAq hS hP hK hD hX hl hnm
  have hown : s.vm.findClass RX5 = some m.cls := hown
  have hl : lv_has ls 2 [(0, .ref (x 0)), (1, .int a0)] := hl
  obtain ⟨⟨i1, i2, i3, i4, i5⟩, ip⟩ := id hI
  refine lv_iload_n hx hb dX5_days_0 rfl (lv_at hl 1 rfl) ?_
  refine lv_iconst (v := nI 1) hx hb dX5_days_1 rfl ?_
  refine lv_bipush (v := nI 100) hx hb dX5_days_2 rfl ?_
  refine callSI (rest := []) (wn := fun u => ([xO x hm kp tr hi, (x 7, .inl (G.2.1, 7, .inl tl))] ++ (wH G hm σ))) ⟨hx, hb, hml, hown, hts⟩ (c_X5_isWithin l G H.size a0 (nI 1) (nI 100)) (va_cwS 3 hts gX5_days_X5_isWithin rfl rfl rfl (by decide +kernel) ⟨Nat.le_of_ble_eq_true rfl, Nat.le_of_ble_eq_true rfl⟩) noXB (fun _ _ _ => trivial) hK hP hD hS hAq rfl hl.1 rfl (Nat.le_of_ble_eq_true rfl) dX5_days_4 ⟨Nat.le_of_ble_eq_true rfl, Nat.le_of_ble_eq_true rfl⟩ [] rfl rfl [] rfl (fun _ => rfl) (fun _ => rfl) (fun u H locs hok hP hD hS => ?_)
  refine n_top (y := zI ((1 : Int) ≤ a0.toInt ∧ a0.toInt ≤ 100)) (zI_c (by rw [nI_T (show 1 < 2147483648 by decide), nI_T (show 100 < 2147483648 by decide)]; exact Iff.rfl)) ?_
  refine z_if_ne hx hb (tgt := 16) dX5_days_7 (by decide) (fun c_1 => ?_) (fun c_1 => ?_)
  · obtain ⟨n0, hn0, rfl⟩ := nI_of_rg (n := 100) (x := a0) ⟨by omega, by omega⟩
    have hT0 := nI_T (a := n0) (by omega)
    refine lv_aload_n hx hb dX5_days_16 rfl (lv_at hl 0 rfl) ?_
    refine n_get (C := RX5) (T := TX5) (N := 7) hx hb hts (fun _ h => List.mem_cons_of_mem _ (List.mem_append_left _ (List.mem_append_right _ h))) hown hK hP 0 rfl rfl 0 (by decide) (List.mem_of_getElem? (i := 1) rfl) rfl (.ref (hm 0)) rfl dX5_days_17 ?_
    refine n_get (C := RX0) (T := TX0) (N := 11) hx hb hts (fun _ h => List.mem_cons_of_mem _ (List.mem_append_right _ h)) hown hK hP 2 rfl rfl 0 (by decide) (List.mem_of_getElem? (i := 2) rfl) rfl (.int (nI (σ 0))) rfl dX5_days_20 ?_
    refine lv_iload_n hx hb dX5_days_23 rfl (lv_at hl 1 rfl) ?_
    refine n_iadd hx hb dX5_days_24 ?_
    refine lv_sipush (v := nI 9999) hx hb dX5_days_25 rfl ?_
    refine n_icmp_le hx hb (by omega) (by omega) (tgt := 37) dX5_days_28 (by decide) (fun c_2 => ?_) (fun c_2 => ?_)
    · refine lv_aload_n hx hb dX5_days_37 rfl (lv_at hl 0 rfl) ?_
      refine n_get (C := RX5) (T := TX5) (N := 7) hx hb hts (fun _ h => List.mem_cons_of_mem _ (List.mem_append_left _ (List.mem_append_right _ h))) hown hK hP 0 rfl rfl 0 (by decide) (List.mem_of_getElem? (i := 1) rfl) rfl (.ref (hm 0)) rfl dX5_days_38 ?_
      refine lv_iload_n hx hb dX5_days_41 rfl (lv_at hl 1 rfl) ?_
      refine callVV (rest := []) (wn := fun u => ([xO x hm kp tr hi, (x 7, .inl (G.2.1, 7, .inl tl))] ++ (wH G hm (daysN n0 σ)))) ⟨hx, hb, hml, hown, hts⟩ (c_X0_goOn l G H.size hm σ n0 hI (by omega)) (cwV 1 hts gX5_days_X0_goOn rfl rfl rfl (by decide +kernel) ⟨Nat.le_of_ble_eq_true rfl, Nat.le_of_ble_eq_true rfl⟩) noXB (fun _ _ _ => trivial) hK hP hD hS hAq 0 0 (T := TX0) (N := 11) rfl rfl rfl hl.1 rfl (Nat.le_of_ble_eq_true rfl) dX5_days_42 ⟨Nat.le_of_ble_eq_true rfl, Nat.le_of_ble_eq_true rfl⟩ [2, 3, 4, 5, 6, 7] rfl rfl [hm 0, hm 1, hm 2, hm 3, hm 4, hm 5] rfl (fun _ => rfl) (fun _ => rfl) (fun u H locs hok hP hD hS => ?_)
      refine lv_aload_n hx hb dX5_days_45 rfl (lv_at hl 0 rfl) ?_
      refine n_get (C := RX5) (T := TX5) (N := 7) hx hb hts (fun _ h => List.mem_cons_of_mem _ (List.mem_append_left _ (List.mem_append_right _ h))) hown hK hP 0 rfl rfl 0 (by decide) (List.mem_of_getElem? (i := 1) rfl) rfl (.ref (hm 0)) rfl dX5_days_46 ?_
      refine n_get (C := RX0) (T := TX0) (N := 11) hx hb hts (fun _ h => List.mem_cons_of_mem _ (List.mem_append_right _ h)) hown hK hP 2 rfl rfl 1 (by decide) (List.mem_of_getElem? (i := 3) rfl) rfl (.int (nI ((daysN n0 σ) 1))) rfl dX5_days_49 ?_
      have he : days_e σ (nI n0).toInt = 7 := by unfold days_e; (try simp only [hT0, Int.toNat_natCast]); (repeat' split) <;> omega
      exact fin_i hx hb hr hlk hS hP hD () trivial (by rw [he]; first | done | ((try simp only [hT0, Int.toNat_natCast]); first | done | rfl)) (by rw [he]; (try simp only [hT0, Int.toNat_natCast]); exact eqW.rf _) dX5_days_52
    · refine lv_aload_n hx hb dX5_days_31 rfl (lv_at hl 0 rfl) ?_
      refine lv_iconst (v := nI 4) hx hb dX5_days_32 rfl ?_
      refine callVI (rest := []) (wn := fun u => ([xO x hm kp tr hi, (x 7, .inl (G.2.1, 7, .inl (tk tl 4)))] ++ (wH G hm σ))) ⟨hx, hb, hml, hown, hts⟩ (c_X5_tell l G H.size x hm kp tr hi tl 4 (by omega)) (cwV 1 hts gX5_days_X5_tell rfl rfl rfl (by decide +kernel) ⟨Nat.le_of_ble_eq_true rfl, Nat.le_of_ble_eq_true rfl⟩) noXB (fun _ _ _ => trivial) hK hP hD hS hAq 4 0 (T := TX5) (N := 7) rfl rfl rfl hl.1 rfl (Nat.le_of_ble_eq_true rfl) dX5_days_33 ⟨Nat.le_of_ble_eq_true rfl, Nat.le_of_ble_eq_true rfl⟩ [0, 1] rfl rfl [x 0, x 7] rfl (fun _ => rfl) (fun _ => rfl) (fun u H locs hok hP hD hS => ?_)
      have he : days_e σ (nI n0).toInt = 4 := by unfold days_e; (try simp only [hT0, Int.toNat_natCast]); (repeat' split) <;> omega
      exact fin_i hx hb hr hlk hS hP hD () trivial (by rw [he]; first | done | ((try simp only [hT0, Int.toNat_natCast]); first | done | rfl)) (by rw [he]; (try simp only [hT0, Int.toNat_natCast]); exact eqW.rf _) dX5_days_36
  · refine lv_aload_n hx hb dX5_days_10 rfl (lv_at hl 0 rfl) ?_
    refine lv_iconst (v := nI 0) hx hb dX5_days_11 rfl ?_
    refine callVI (rest := []) (wn := fun u => ([xO x hm kp tr hi, (x 7, .inl (G.2.1, 7, .inl (tk tl 0)))] ++ (wH G hm σ))) ⟨hx, hb, hml, hown, hts⟩ (c_X5_tell l G H.size x hm kp tr hi tl 0 (by omega)) (cwV 1 hts gX5_days_X5_tell rfl rfl rfl (by decide +kernel) ⟨Nat.le_of_ble_eq_true rfl, Nat.le_of_ble_eq_true rfl⟩) noXB (fun _ _ _ => trivial) hK hP hD hS hAq 4 0 (T := TX5) (N := 7) rfl rfl rfl hl.1 rfl (Nat.le_of_ble_eq_true rfl) dX5_days_12 ⟨Nat.le_of_ble_eq_true rfl, Nat.le_of_ble_eq_true rfl⟩ [0, 1] rfl rfl [x 0, x 7] rfl (fun _ => rfl) (fun _ => rfl) (fun u H locs hok hP hD hS => ?_)
    have he : days_e σ a0.toInt = 0 := by unfold days_e; (try simp only [Int.toNat_natCast]); (repeat' split) <;> omega
    exact fin_i hx hb hr hlk hS hP hD () trivial (by rw [he]; first | done | ((try simp only [Int.toNat_natCast]); first | done | rfl)) (by rw [he]; (try simp only [Int.toNat_natCast]); exact eqW.rf _) dX5_days_15
set_option maxHeartbeats 400000 in
set_option maxRecDepth 100000 in
theorem c_X6_days (l : Launch) (G : GT) (sz : Nat) (b : Nat → Nat) (ζ : Nat → Nat) (vv : Int64) (tl : Nat → Int32) (σ : Sg) (a0 : Int32) (hI : Inv σ) (hd0 : σ 0 ≤ 9999) : MI (S := Unit) l G noX yX6_days wsX6_days ({ frames := 7, cells := 0, slots := 0, locals := 158 } : Room) [.ref (b 0), .int a0] ([mO b ζ vv, (b 4, .inl (G.2.1, 7, .inl tl)), (b 1, .inl (G.2.1, 46, .inl (nF σ)))]) sz (fun _ => True) (fun _ => rs (days_e σ a0.toInt) (nI (daysN a0.toInt.toNat σ 1))) (fun _ => [mO b ζ vv, (b 4, .inl (G.2.1, 7, .inl (ts tl (days_e σ a0.toInt)))), (b 1, .inl (G.2.1, 46, .inl (nF (hs (days_e σ a0.toInt) (daysN a0.toInt.toNat σ) σ))))]) := by
  refine MI_enter (cc := cX6_days) (maxL := 2) (ret := (some .int)) (by decide) rfl (Nat.le_of_ble_eq_true rfl) ?_
  intro p e s m below meth c A ls H hx hb hr hlk hml hown hts hAq hS hP hK hD hX hl hnm
  have hown : s.vm.findClass RX6 = some m.cls := hown
  have hl : lv_has ls 2 [(0, .ref (b 0)), (1, .int a0)] := hl
  obtain ⟨⟨i1, i2, i3, i4, i5⟩, ip⟩ := id hI
  refine lv_iload_n hx hb dX6_days_0 rfl (lv_at hl 1 rfl) ?_
  refine lv_iconst (v := nI 1) hx hb dX6_days_1 rfl ?_
  refine lv_bipush (v := nI 100) hx hb dX6_days_2 rfl ?_
  refine callSI (rest := []) (wn := fun u => [mO b ζ vv, (b 4, .inl (G.2.1, 7, .inl tl)), (b 1, .inl (G.2.1, 46, .inl (nF σ)))]) ⟨hx, hb, hml, hown, hts⟩ (c_X6_in1 l G H.size a0 (nI 1) (nI 100)) (va_cwS 3 hts gX6_days_X6_in1 rfl rfl rfl (by decide +kernel) ⟨Nat.le_of_ble_eq_true rfl, Nat.le_of_ble_eq_true rfl⟩) noXB (fun _ _ _ => trivial) hK hP hD hS hAq rfl hl.1 rfl (Nat.le_of_ble_eq_true rfl) dX6_days_4 ⟨Nat.le_of_ble_eq_true rfl, Nat.le_of_ble_eq_true rfl⟩ [] rfl rfl [] rfl (fun _ => rfl) (fun _ => rfl) (fun u H locs hok hP hD hS => ?_)
  refine n_top (y := zI ((1 : Int) ≤ a0.toInt ∧ a0.toInt ≤ 100)) (zI_c (by rw [nI_T (show 1 < 2147483648 by decide), nI_T (show 100 < 2147483648 by decide)]; exact Iff.rfl)) ?_
  refine z_if_ne hx hb (tgt := 16) dX6_days_7 (by decide) (fun c_1 => ?_) (fun c_1 => ?_)
  · obtain ⟨n0, hn0, rfl⟩ := nI_of_rg (n := 100) (x := a0) ⟨by omega, by omega⟩
    have hT0 := nI_T (a := n0) (by omega)
    refine lv_aload_n hx hb dX6_days_16 rfl (lv_at hl 0 rfl) ?_
    refine n_get (C := RX6) (T := TX6) (N := 18) hx hb hts (fun _ h => List.mem_cons_of_mem _ (List.mem_append_right _ h)) hown hK hP 0 rfl rfl 0 (by decide) (List.mem_of_getElem? (i := 1) rfl) rfl (.ref (b 1)) rfl dX6_days_17 ?_
    refine lv_iconst (v := nI 0) hx hb dX6_days_20 rfl ?_
    refine n_iald hx hb hK hP 2 (v := (nI (σ 0))) rfl (by omega) (by omega) rfl dX6_days_21 ?_
    refine lv_iload_n hx hb dX6_days_22 rfl (lv_at hl 1 rfl) ?_
    refine n_iadd hx hb dX6_days_23 ?_
    refine lv_sipush (v := nI 9999) hx hb dX6_days_24 rfl ?_
    refine n_icmp_le hx hb (by omega) (by omega) (tgt := 36) dX6_days_27 (by decide) (fun c_2 => ?_) (fun c_2 => ?_)
    · refine lv_aload_n hx hb dX6_days_36 rfl (lv_at hl 0 rfl) ?_
      refine lv_iload_n hx hb dX6_days_37 rfl (lv_at hl 1 rfl) ?_
      refine callVV (rest := []) (wn := fun u => [mO b ζ vv, (b 4, .inl (G.2.1, 7, .inl tl)), (b 1, .inl (G.2.1, 46, .inl (nF (daysN n0 σ))))]) ⟨hx, hb, hml, hown, hts⟩ (c_X6_goes l G H.size b ζ vv σ n0 hI (by omega)) (cwV 1 hts gX6_days_X6_goes rfl rfl rfl (by decide +kernel) ⟨Nat.le_of_ble_eq_true rfl, Nat.le_of_ble_eq_true rfl⟩) noXB (fun _ _ _ => trivial) hK hP hD hS hAq 5 0 (T := TX6) (N := 18) rfl rfl rfl hl.1 rfl (Nat.le_of_ble_eq_true rfl) dX6_days_38 ⟨Nat.le_of_ble_eq_true rfl, Nat.le_of_ble_eq_true rfl⟩ [0, 2] rfl rfl [b 0, b 1] rfl (fun _ => rfl) (fun _ => rfl) (fun u H locs hok hP hD hS => ?_)
      refine lv_aload_n hx hb dX6_days_41 rfl (lv_at hl 0 rfl) ?_
      refine n_get (C := RX6) (T := TX6) (N := 18) hx hb hts (fun _ h => List.mem_cons_of_mem _ (List.mem_append_right _ h)) hown hK hP 0 rfl rfl 0 (by decide) (List.mem_of_getElem? (i := 1) rfl) rfl (.ref (b 1)) rfl dX6_days_42 ?_
      refine lv_iconst (v := nI 1) hx hb dX6_days_45 rfl ?_
      refine n_iald hx hb hK hP 2 (v := (nI ((daysN n0 σ) 1))) rfl (by omega) (by omega) rfl dX6_days_46 ?_
      have he : days_e σ (nI n0).toInt = 7 := by unfold days_e; (try simp only [hT0, Int.toNat_natCast]); (repeat' split) <;> omega
      exact fin_i hx hb hr hlk hS hP hD () trivial (by rw [he]; first | done | ((try simp only [hT0, Int.toNat_natCast]); first | done | rfl)) (by rw [he]; (try simp only [hT0, Int.toNat_natCast]); exact eqW.rf _) dX6_days_47
    · refine lv_aload_n hx hb dX6_days_30 rfl (lv_at hl 0 rfl) ?_
      refine lv_iconst (v := nI 4) hx hb dX6_days_31 rfl ?_
      refine callVI (rest := []) (wn := fun u => [mO b ζ vv, (b 4, .inl (G.2.1, 7, .inl (tk tl 4))), (b 1, .inl (G.2.1, 46, .inl (nF σ)))]) ⟨hx, hb, hml, hown, hts⟩ (c_X6_no l G H.size b ζ vv tl 4 (by omega)) (cwV 1 hts gX6_days_X6_no rfl rfl rfl (by decide +kernel) ⟨Nat.le_of_ble_eq_true rfl, Nat.le_of_ble_eq_true rfl⟩) noXB (fun _ _ _ => trivial) hK hP hD hS hAq 5 0 (T := TX6) (N := 18) rfl rfl rfl hl.1 rfl (Nat.le_of_ble_eq_true rfl) dX6_days_32 ⟨Nat.le_of_ble_eq_true rfl, Nat.le_of_ble_eq_true rfl⟩ [0, 1] rfl rfl [b 0, b 4] rfl (fun _ => rfl) (fun _ => rfl) (fun u H locs hok hP hD hS => ?_)
      have he : days_e σ (nI n0).toInt = 4 := by unfold days_e; (try simp only [hT0, Int.toNat_natCast]); (repeat' split) <;> omega
      exact fin_i hx hb hr hlk hS hP hD () trivial (by rw [he]; first | done | ((try simp only [hT0, Int.toNat_natCast]); first | done | rfl)) (by rw [he]; (try simp only [hT0, Int.toNat_natCast]); exact eqW.rf _) dX6_days_35
  · refine lv_aload_n hx hb dX6_days_10 rfl (lv_at hl 0 rfl) ?_
    refine lv_iconst (v := nI 0) hx hb dX6_days_11 rfl ?_
    refine callVI (rest := []) (wn := fun u => [mO b ζ vv, (b 4, .inl (G.2.1, 7, .inl (tk tl 0))), (b 1, .inl (G.2.1, 46, .inl (nF σ)))]) ⟨hx, hb, hml, hown, hts⟩ (c_X6_no l G H.size b ζ vv tl 0 (by omega)) (cwV 1 hts gX6_days_X6_no rfl rfl rfl (by decide +kernel) ⟨Nat.le_of_ble_eq_true rfl, Nat.le_of_ble_eq_true rfl⟩) noXB (fun _ _ _ => trivial) hK hP hD hS hAq 5 0 (T := TX6) (N := 18) rfl rfl rfl hl.1 rfl (Nat.le_of_ble_eq_true rfl) dX6_days_12 ⟨Nat.le_of_ble_eq_true rfl, Nat.le_of_ble_eq_true rfl⟩ [0, 1] rfl rfl [b 0, b 4] rfl (fun _ => rfl) (fun _ => rfl) (fun u H locs hok hP hD hS => ?_)
    have he : days_e σ a0.toInt = 0 := by unfold days_e; (try simp only [Int.toNat_natCast]); (repeat' split) <;> omega
    exact fin_i hx hb hr hlk hS hP hD () trivial (by rw [he]; first | done | ((try simp only [Int.toNat_natCast]); first | done | rfl)) (by rw [he]; (try simp only [Int.toNat_natCast]); exact eqW.rf _) dX6_days_15
