theorem un_un (f : Nat → Nat) (i v w : Nat) : un (un f i v) i w = un f i w := by
  funext j
  unfold un
  split <;> rfl
set_option maxHeartbeats 400000 in
set_option maxRecDepth 100000 in
theorem c_X4_hasRoomFor (l : Launch) (G : GT) (sz : Nat) (x : Nat → Nat) (ln n : Nat) (hln : ln ≤ 120) (hn0 : n ≤ 4) : MI (S := Unit) l G noX yX4_hasRoomFor wsX4_hasRoomFor ({ frames := 0, cells := 0, slots := 0, locals := 0 } : Room) [.ref (x 1), .int (nI n)] ([(x 1, .inr (3, [.ref (x 2), .int (nI ln)]))]) sz (fun _ => True) (fun _ => zI (ln + n ≤ 120)) (fun _ => [(x 1, .inr (3, [.ref (x 2), .int (nI ln)]))]) := by
  refine MI_enter (cc := cX4_hasRoomFor) (maxL := 2) (ret := (some .boolean)) (by decide) rfl (Nat.le_of_ble_eq_true rfl) ?_
  intro p e s m below meth c A ls H hx hb hr hlk hml hown hts hAq hS hP hK hD hX hl hnm
  have hown : s.vm.findClass RX4 = some m.cls := hown
  have hl : lv_has ls 2 [(0, .ref (x 1)), (1, .int (nI n))] := hl
  refine lv_aload_n hx hb dX4_hasRoomFor_0 rfl (lv_at hl 0 rfl) ?_
  refine n_get (C := RX4) (T := TX4) (N := 2) hx hb hts (fun _ h => List.mem_cons_of_mem _ (List.mem_append_right _ h)) hown hK hP 0 rfl rfl 1 (by decide) (List.mem_of_getElem? (i := 1) rfl) rfl (.int (nI ln)) rfl dX4_hasRoomFor_1 ?_
  refine lv_iload_n hx hb dX4_hasRoomFor_4 rfl (lv_at hl 1 rfl) ?_
  refine n_iadd hx hb dX4_hasRoomFor_5 ?_
  refine lv_bipush (v := nI 120) hx hb dX4_hasRoomFor_6 rfl ?_
  refine n_icmp_gt hx hb (by omega) (by omega) (tgt := 15) dX4_hasRoomFor_8 (by decide) (fun c_1 => ?_) (fun c_1 => ?_)
  · refine lv_iconst (v := nI 0) hx hb dX4_hasRoomFor_15 rfl ?_
    exact fin_z (ty := .boolean) (by decide) hx hb hr hlk hS hP hD () trivial (zI_f (by omega)).symm (eqW.rf _) dX4_hasRoomFor_16
  · refine lv_iconst (v := nI 1) hx hb dX4_hasRoomFor_11 rfl ?_
    refine lv_goto (tgt := 16) hx hb dX4_hasRoomFor_12 (by decide) ?_
    exact fin_z (ty := .boolean) (by decide) hx hb hr hlk hS hP hD () trivial (zI_t (by omega)).symm (eqW.rf _) dX4_hasRoomFor_16
set_option maxHeartbeats 400000 in
set_option maxRecDepth 100000 in
theorem c_X4_append (l : Launch) (G : GT) (sz : Nat) (x : Nat → Nat) (tb : Nat → Nat) (ln : Nat) (a0 : Int32) (n0 : Nat) (hn1 : 1 ≤ n0) (hn4 : n0 ≤ 4) (hln : ln + n0 ≤ 120) : MV (S := Unit) l G noX yX4_append wsX4_append ({ frames := 0, cells := 0, slots := 0, locals := 0 } : Room) [.ref (x 1), .int a0, .int (nI n0)] ([(x 1, .inr (3, [.ref (x 2), .int (nI ln)])), (x 2, .inl (G.2.1, 120, .inl (nF tb)))]) sz (fun _ => True) (fun _ => [(x 1, .inr (3, [.ref (x 2), .int (nI (ln + n0))])), (x 2, .inl (G.2.1, 120, .inl (nF (feedN tb a0 n0 ln n0))))]) := by
  refine MV_enter (cc := cX4_append) (maxL := 4) (ret := none) (by decide) rfl (Nat.le_of_ble_eq_true rfl) ?_
  intro p e s m below meth c A ls H hx hb hr hlk hml hown hts hAq hS hP hK hD hX hl hnm
  have hown : s.vm.findClass RX4 = some m.cls := hown
  have hl : lv_has ls 4 [(0, .ref (x 1)), (1, .int a0), (2, .int (nI n0))] := hl
  refine lv_iload_n hx hb dX4_append_0 rfl (lv_at hl 2 rfl) ?_
  refine lv_iconst (v := nI 1) hx hb dX4_append_1 rfl ?_
  refine n_isub hx hb (by omega) dX4_append_2 ?_
  refine n_top (y := iI (((n0 - 0 : Nat) : Int) - 1)) (by rw [iI_nat (by omega)]; congr 1; omega) ?_
  refine lv_istore_n (lv' := [(3, .int (iI (((n0 - 0 : Nat) : Int) - 1))), (0, .ref (x 1)), (1, .int a0), (2, .int (nI n0))]) hx hb dX4_append_3 rfl hl (by decide) rfl (fun ls hl => ?_)
  refine W_loop1 (I := fun (i : Nat) => i ≤ n0) (wd := fun (i : Nat) => [(x 1, .inr (3, [.ref (x 2), .int (nI (ln + i))])), (x 2, .inl (G.2.1, 120, .inl (nF (feedN tb a0 n0 ln i))))]) (lv := fun (i : Nat) => [(3, .int (iI (((n0 - i : Nat) : Int) - 1))), (0, .ref (x 1)), (1, .int a0), (2, .int (nI n0))]) (μ := fun (i : Nat) => n0 - i) ?_ 0 (by omega) hP hD hS (lv_sub hl [0, 1, 2, 3] rfl)
  intro i H locs ls hI0 hP hD hS hl ih
  have hiq : i ≤ n0 := hI0
  have hT9 : (iI (((n0 - i : Nat) : Int) - 1)).toInt = ((n0 - i : Nat) : Int) - 1 := iI_T (by omega) (by omega)
  refine lv_iload_n hx hb dX4_append_4 rfl (lv_at hl 0 rfl) ?_
  refine r_if_lt hx hb (tgt := 52) dX4_append_5 (by decide) (fun c_1 => ?_) (fun c_1 => ?_)
  · have hk5 : i = n0 := by omega
    subst hk5
    exact fin_v hx hb hr hlk hS hP hD () trivial (eqW.rf _) dX4_append_52
  · have hg : iI (((n0 - i : Nat) : Int) - 1) = nI (n0 - i - 1) := by rw [iI_nat (by omega)]; congr 1; omega
    rw [hg] at hl
    refine lv_aload_n hx hb dX4_append_8 rfl (lv_at hl 1 rfl) ?_
    refine n_get (C := RX4) (T := TX4) (N := 2) hx hb hts (fun _ h => List.mem_cons_of_mem _ (List.mem_append_right _ h)) hown hK hP 0 rfl rfl 1 (by decide) (List.mem_of_getElem? (i := 1) rfl) rfl (.int (nI (ln + i))) rfl dX4_append_9 ?_
    refine lv_bipush (v := nI 120) hx hb dX4_append_12 rfl ?_
    refine n_icmp_ge hx hb (by omega) (by omega) (tgt := 52) dX4_append_14 (by decide) (fun c_2 => ?_) (fun c_2 => ?_)
    · omega
    · refine lv_aload_n hx hb dX4_append_17 rfl (lv_at hl 1 rfl) ?_
      refine n_get (C := RX4) (T := TX4) (N := 2) hx hb hts (fun _ h => List.mem_cons_of_mem _ (List.mem_append_right _ h)) hown hK hP 0 rfl rfl 0 (by decide) (List.mem_of_getElem? (i := 2) rfl) rfl (.ref (x 2)) rfl dX4_append_18 ?_
      refine lv_aload_n hx hb dX4_append_21 rfl (lv_at hl 1 rfl) ?_
      refine n_get (C := RX4) (T := TX4) (N := 2) hx hb hts (fun _ h => List.mem_cons_of_mem _ (List.mem_append_right _ h)) hown hK hP 0 rfl rfl 1 (by decide) (List.mem_of_getElem? (i := 1) rfl) rfl (.int (nI (ln + i))) rfl dX4_append_22 ?_
      refine lv_iload_n hx hb dX4_append_25 rfl (lv_at hl 2 rfl) ?_
      refine lv_bipush (v := nI 8) hx hb dX4_append_26 rfl ?_
      refine lv_iload_n hx hb dX4_append_28 rfl (lv_at hl 0 rfl) ?_
      refine n_imul hx hb dX4_append_29 ?_
      refine lv_ishr hx hb dX4_append_30 ?_
      refine lv_sipush (v := nI 255) hx hb dX4_append_31 rfl ?_
      refine lv_iand hx hb dX4_append_34 ?_
      refine n_top (by_at _ _) ?_
      refine n_iast hx hb hK hP hD hS 1 (wn := [(x 1, .inr (3, [.ref (x 2), .int (nI (ln + i))])), (x 2, .inl (G.2.1, 120, .inl (nF (un (feedN tb a0 n0 ln i) (ln + i) (byK a0 (n0 - i - 1))))))]) rfl (by omega) (by omega) (by rw [nF_un]; rfl) dX4_append_35 (fun H locs hP hD hS => ?_)
      refine lv_aload_n hx hb dX4_append_36 rfl (lv_at hl 1 rfl) ?_
      refine lv_dup hx hb dX4_append_37 rfl ?_
      refine n_get (C := RX4) (T := TX4) (N := 2) hx hb hts (fun _ h => List.mem_cons_of_mem _ (List.mem_append_right _ h)) hown hK hP 0 rfl rfl 1 (by decide) (List.mem_of_getElem? (i := 1) rfl) rfl (.int (nI (ln + i))) rfl dX4_append_38 ?_
      refine lv_iconst (v := nI 1) hx hb dX4_append_41 rfl ?_
      refine n_iadd hx hb dX4_append_42 ?_
      refine n_put (C := RX4) (T := TX4) (N := 2) hx hb hts (fun _ h => List.mem_cons_of_mem _ (List.mem_append_right _ h)) tyX4 tyX4_ok nmX4 hown hK hP hD hS 0 rfl rfl 1 (by decide) (List.mem_of_getElem? (i := 1) rfl) rfl rfl (ty := .int) (v := .int (nI ((ln + i) + 1))) rfl rfl rfl (Nat.le_of_ble_eq_true rfl) (wn := [(x 1, .inr (3, [.ref (x 2), .int (nI ((ln + i) + 1))])), (x 2, .inl (G.2.1, 120, .inl (nF (un (feedN tb a0 n0 ln i) (ln + i) (byK a0 (n0 - i - 1))))))]) rfl dX4_append_43 (fun H locs hP hD hS => ?_)
      refine lv_iinc (v := (iI (((n0 - (i + 1) : Nat) : Int) - 1))) (lv' := [(3, .int (iI (((n0 - (i + 1) : Nat) : Int) - 1))), (0, .ref (x 1)), (1, .int a0), (2, .int (nI n0))]) hx hb dX4_append_46 hl (k := 0) rfl (dec_tab _ (by omega)) (by decide) rfl (fun ls hl => ?_)
      refine lv_goto (tgt := 4) hx hb dX4_append_49 (by decide) ?_
      exact ih (i + 1) _ _ _ (by omega) (by omega) hP hD hS (lv_sub hl [0, 1, 2, 3] rfl)
set_option maxHeartbeats 400000 in
set_option maxRecDepth 100000 in
theorem c_X5_feed (l : Launch) (G : GT) (sz : Nat) (x hm kp tr : Nat → Nat) (hi : Nat) (tl : Nat → Int32) (ln : Nat) (tb : Nat → Nat) (a0 a1 : Int32) (hln : ln ≤ 120) : MI (S := Unit) l G noX yX5_feed wsX5_feed ({ frames := 2, cells := 0, slots := 0, locals := 43 } : Room) [.ref (x 0), .int a0, .int a1] ([xO x hm kp tr hi, (x 7, .inl (G.2.1, 7, .inl tl)), (x 1, .inr (3, [.ref (x 2), .int (nI ln)])), (x 2, .inl (G.2.1, 120, .inl (nF tb)))]) sz (fun _ => True) (fun _ => rs (feed_e ln a1.toInt) (nI (ln + a1.toInt.toNat))) (fun _ => [xO x hm kp tr hi, (x 7, .inl (G.2.1, 7, .inl (ts tl (feed_e ln a1.toInt)))), (x 1, .inr (3, [.ref (x 2), .int (nI (hn (feed_e ln a1.toInt) (ln + a1.toInt.toNat) ln))])), (x 2, .inl (G.2.1, 120, .inl (nF (hs (feed_e ln a1.toInt) (feedN tb a0 a1.toInt.toNat ln a1.toInt.toNat) tb))))]) := by
  refine MI_enter (cc := cX5_feed) (maxL := 3) (ret := (some .int)) (by decide) rfl (Nat.le_of_ble_eq_true rfl) ?_
  intro p e s m below meth c A ls H hx hb hr hlk hml hown hts hAq hS hP hK hD hX hl hnm
  have hown : s.vm.findClass RX5 = some m.cls := hown
  have hl : lv_has ls 3 [(0, .ref (x 0)), (1, .int a0), (2, .int a1)] := hl
  refine lv_iload_n hx hb dX5_feed_0 rfl (lv_at hl 2 rfl) ?_
  refine lv_iconst (v := nI 1) hx hb dX5_feed_1 rfl ?_
  refine lv_iconst (v := nI 4) hx hb dX5_feed_2 rfl ?_
  refine callSI (rest := []) (wn := fun u => [xO x hm kp tr hi, (x 7, .inl (G.2.1, 7, .inl tl)), (x 1, .inr (3, [.ref (x 2), .int (nI ln)])), (x 2, .inl (G.2.1, 120, .inl (nF tb)))]) ⟨hx, hb, hml, hown, hts⟩ (c_X5_isWithin l G H.size a1 (nI 1) (nI 4)) (va_cwS 3 hts gX5_feed_X5_isWithin rfl rfl rfl (by decide +kernel) ⟨Nat.le_of_ble_eq_true rfl, Nat.le_of_ble_eq_true rfl⟩) noXB (fun _ _ _ => trivial) hK hP hD hS hAq rfl hl.1 rfl (Nat.le_of_ble_eq_true rfl) dX5_feed_3 ⟨Nat.le_of_ble_eq_true rfl, Nat.le_of_ble_eq_true rfl⟩ [] rfl rfl [] rfl (fun _ => rfl) (fun _ => rfl) (fun u H locs hok hP hD hS => ?_)
  refine n_top (y := zI ((1 : Int) ≤ a1.toInt ∧ a1.toInt ≤ 4)) (zI_c (by rw [nI_T (show 1 < 2147483648 by decide), nI_T (show 4 < 2147483648 by decide)]; exact Iff.rfl)) ?_
  refine z_if_ne hx hb (tgt := 15) dX5_feed_6 (by decide) (fun c_1 => ?_) (fun c_1 => ?_)
  · obtain ⟨n1, hn1, rfl⟩ := nI_of_rg (n := 4) (x := a1) ⟨by omega, by omega⟩
    have hT1 := nI_T (a := n1) (by omega)
    refine lv_aload_n hx hb dX5_feed_15 rfl (lv_at hl 0 rfl) ?_
    refine n_get (C := RX5) (T := TX5) (N := 7) hx hb hts (fun _ h => List.mem_cons_of_mem _ (List.mem_append_left _ (List.mem_append_right _ h))) hown hK hP 0 rfl rfl 3 (by decide) (List.mem_of_getElem? (i := 1) rfl) rfl (.ref (x 1)) rfl dX5_feed_16 ?_
    refine lv_iload_n hx hb dX5_feed_19 rfl (lv_at hl 2 rfl) ?_
    refine callVI (rest := []) (wn := fun u => [xO x hm kp tr hi, (x 7, .inl (G.2.1, 7, .inl tl)), (x 1, .inr (3, [.ref (x 2), .int (nI ln)])), (x 2, .inl (G.2.1, 120, .inl (nF tb)))]) ⟨hx, hb, hml, hown, hts⟩ (c_X4_hasRoomFor l G H.size x ln n1 (by omega) (by omega)) (cwV 1 hts gX5_feed_X4_hasRoomFor rfl rfl rfl (by decide +kernel) ⟨Nat.le_of_ble_eq_true rfl, Nat.le_of_ble_eq_true rfl⟩) noXB (fun _ _ _ => trivial) hK hP hD hS hAq 3 0 (T := TX4) (N := 2) rfl rfl rfl hl.1 rfl (Nat.le_of_ble_eq_true rfl) dX5_feed_20 ⟨Nat.le_of_ble_eq_true rfl, Nat.le_of_ble_eq_true rfl⟩ [2] rfl rfl [x 1] rfl (fun _ => rfl) (fun _ => rfl) (fun u H locs hok hP hD hS => ?_)
    refine z_if_ne hx hb (tgt := 32) dX5_feed_23 (by decide) (fun c_2 => ?_) (fun c_2 => ?_)
    · refine lv_aload_n hx hb dX5_feed_32 rfl (lv_at hl 0 rfl) ?_
      refine n_get (C := RX5) (T := TX5) (N := 7) hx hb hts (fun _ h => List.mem_cons_of_mem _ (List.mem_append_left _ (List.mem_append_right _ h))) hown hK hP 0 rfl rfl 3 (by decide) (List.mem_of_getElem? (i := 1) rfl) rfl (.ref (x 1)) rfl dX5_feed_33 ?_
      refine lv_iload_n hx hb dX5_feed_36 rfl (lv_at hl 1 rfl) ?_
      refine lv_iload_n hx hb dX5_feed_37 rfl (lv_at hl 2 rfl) ?_
      refine callVV (rest := []) (wn := fun u => [xO x hm kp tr hi, (x 7, .inl (G.2.1, 7, .inl tl)), (x 1, .inr (3, [.ref (x 2), .int (nI (ln + n1))])), (x 2, .inl (G.2.1, 120, .inl (nF (feedN tb a0 n1 ln n1))))]) ⟨hx, hb, hml, hown, hts⟩ (c_X4_append l G H.size x tb ln a0 n1 (by omega) (by omega) (by omega)) (cwV 2 hts gX5_feed_X4_append rfl rfl rfl (by decide +kernel) ⟨Nat.le_of_ble_eq_true rfl, Nat.le_of_ble_eq_true rfl⟩) noXB (fun _ _ _ => trivial) hK hP hD hS hAq 3 0 (T := TX4) (N := 2) rfl rfl rfl hl.1 rfl (Nat.le_of_ble_eq_true rfl) dX5_feed_38 ⟨Nat.le_of_ble_eq_true rfl, Nat.le_of_ble_eq_true rfl⟩ [2, 3] rfl rfl [x 1, x 2] rfl (fun _ => rfl) (fun _ => rfl) (fun u H locs hok hP hD hS => ?_)
      refine lv_aload_n hx hb dX5_feed_41 rfl (lv_at hl 0 rfl) ?_
      refine n_get (C := RX5) (T := TX5) (N := 7) hx hb hts (fun _ h => List.mem_cons_of_mem _ (List.mem_append_left _ (List.mem_append_right _ h))) hown hK hP 0 rfl rfl 3 (by decide) (List.mem_of_getElem? (i := 1) rfl) rfl (.ref (x 1)) rfl dX5_feed_42 ?_
      refine n_get (C := RX4) (T := TX4) (N := 2) hx hb hts (fun _ h => List.mem_cons_of_mem _ (List.mem_append_right _ h)) hown hK hP 2 rfl rfl 1 (by decide) (List.mem_of_getElem? (i := 2) rfl) rfl (.int (nI (ln + n1))) rfl dX5_feed_45 ?_
      have he : feed_e ln (nI n1).toInt = 7 := by unfold feed_e; (try simp only [hT1, Int.toNat_natCast]); (repeat' split) <;> omega
      exact fin_i hx hb hr hlk hS hP hD () trivial (by rw [he]; first | done | ((try simp only [hT1, Int.toNat_natCast]); first | done | rfl)) (by rw [he]; (try simp only [hT1, Int.toNat_natCast]); exact eqW.rf _) dX5_feed_48
    · refine lv_aload_n hx hb dX5_feed_26 rfl (lv_at hl 0 rfl) ?_
      refine lv_iconst (v := nI 1) hx hb dX5_feed_27 rfl ?_
      refine callVI (rest := []) (wn := fun u => [xO x hm kp tr hi, (x 7, .inl (G.2.1, 7, .inl (tk tl 1))), (x 1, .inr (3, [.ref (x 2), .int (nI ln)])), (x 2, .inl (G.2.1, 120, .inl (nF tb)))]) ⟨hx, hb, hml, hown, hts⟩ (c_X5_tell l G H.size x hm kp tr hi tl 1 (by omega)) (cwV 1 hts gX5_feed_X5_tell rfl rfl rfl (by decide +kernel) ⟨Nat.le_of_ble_eq_true rfl, Nat.le_of_ble_eq_true rfl⟩) noXB (fun _ _ _ => trivial) hK hP hD hS hAq 4 0 (T := TX5) (N := 7) rfl rfl rfl hl.1 rfl (Nat.le_of_ble_eq_true rfl) dX5_feed_28 ⟨Nat.le_of_ble_eq_true rfl, Nat.le_of_ble_eq_true rfl⟩ [0, 1] rfl rfl [x 0, x 7] rfl (fun _ => rfl) (fun _ => rfl) (fun u H locs hok hP hD hS => ?_)
      have he : feed_e ln (nI n1).toInt = 1 := by unfold feed_e; (try simp only [hT1, Int.toNat_natCast]); (repeat' split) <;> omega
      exact fin_i hx hb hr hlk hS hP hD () trivial (by rw [he]; first | done | ((try simp only [hT1, Int.toNat_natCast]); first | done | rfl)) (by rw [he]; (try simp only [hT1, Int.toNat_natCast]); exact eqW.rf _) dX5_feed_31
  · refine lv_aload_n hx hb dX5_feed_9 rfl (lv_at hl 0 rfl) ?_
    refine lv_iconst (v := nI 0) hx hb dX5_feed_10 rfl ?_
    refine callVI (rest := []) (wn := fun u => [xO x hm kp tr hi, (x 7, .inl (G.2.1, 7, .inl (tk tl 0))), (x 1, .inr (3, [.ref (x 2), .int (nI ln)])), (x 2, .inl (G.2.1, 120, .inl (nF tb)))]) ⟨hx, hb, hml, hown, hts⟩ (c_X5_tell l G H.size x hm kp tr hi tl 0 (by omega)) (cwV 1 hts gX5_feed_X5_tell rfl rfl rfl (by decide +kernel) ⟨Nat.le_of_ble_eq_true rfl, Nat.le_of_ble_eq_true rfl⟩) noXB (fun _ _ _ => trivial) hK hP hD hS hAq 4 0 (T := TX5) (N := 7) rfl rfl rfl hl.1 rfl (Nat.le_of_ble_eq_true rfl) dX5_feed_11 ⟨Nat.le_of_ble_eq_true rfl, Nat.le_of_ble_eq_true rfl⟩ [0, 1] rfl rfl [x 0, x 7] rfl (fun _ => rfl) (fun _ => rfl) (fun u H locs hok hP hD hS => ?_)
    have he : feed_e ln a1.toInt = 0 := by unfold feed_e; (try simp only [Int.toNat_natCast]); (repeat' split) <;> omega
    exact fin_i hx hb hr hlk hS hP hD () trivial (by rw [he]; first | done | ((try simp only [Int.toNat_natCast]); first | done | rfl)) (by rw [he]; (try simp only [Int.toNat_natCast]); exact eqW.rf _) dX5_feed_14
set_option maxHeartbeats 400000 in
set_option maxRecDepth 100000 in
theorem c_X6_feed (l : Launch) (G : GT) (sz : Nat) (b : Nat → Nat) (ζ : Nat → Nat) (vv : Int64) (tl : Nat → Int32) (tb : Nat → Nat) (a0 a1 : Int32) (hln : ζ 1 ≤ 120) : MI (S := Unit) l G noX yX6_feed wsX6_feed ({ frames := 1, cells := 0, slots := 0, locals := 22 } : Room) [.ref (b 0), .int a0, .int a1] ([mO b ζ vv, (b 4, .inl (G.2.1, 7, .inl tl)), (b 5, .inl (G.2.1, 120, .inl (nF tb)))]) sz (fun _ => True) (fun _ => rs (feed_e (ζ 1) a1.toInt) (nI (ζ 1 + a1.toInt.toNat))) (fun _ => [mO b (hs (feed_e (ζ 1) a1.toInt) (un ζ 1 (ζ 1 + a1.toInt.toNat)) ζ) vv, (b 4, .inl (G.2.1, 7, .inl (ts tl (feed_e (ζ 1) a1.toInt)))), (b 5, .inl (G.2.1, 120, .inl (nF (hs (feed_e (ζ 1) a1.toInt) (feedN tb a0 a1.toInt.toNat (ζ 1) a1.toInt.toNat) tb))))]) := by
  refine MI_enter (cc := cX6_feed) (maxL := 4) (ret := (some .int)) (by decide) rfl (Nat.le_of_ble_eq_true rfl) ?_
  intro p e s m below meth c A ls H hx hb hr hlk hml hown hts hAq hS hP hK hD hX hl hnm
  have hown : s.vm.findClass RX6 = some m.cls := hown
  have hl : lv_has ls 4 [(0, .ref (b 0)), (1, .int a0), (2, .int a1)] := hl
  refine lv_iload_n hx hb dX6_feed_0 rfl (lv_at hl 2 rfl) ?_
  refine lv_iconst (v := nI 1) hx hb dX6_feed_1 rfl ?_
  refine lv_iconst (v := nI 4) hx hb dX6_feed_2 rfl ?_
  refine callSI (rest := []) (wn := fun u => [mO b ζ vv, (b 4, .inl (G.2.1, 7, .inl tl)), (b 5, .inl (G.2.1, 120, .inl (nF tb)))]) ⟨hx, hb, hml, hown, hts⟩ (c_X6_in1 l G H.size a1 (nI 1) (nI 4)) (va_cwS 3 hts gX6_feed_X6_in1 rfl rfl rfl (by decide +kernel) ⟨Nat.le_of_ble_eq_true rfl, Nat.le_of_ble_eq_true rfl⟩) noXB (fun _ _ _ => trivial) hK hP hD hS hAq rfl hl.1 rfl (Nat.le_of_ble_eq_true rfl) dX6_feed_3 ⟨Nat.le_of_ble_eq_true rfl, Nat.le_of_ble_eq_true rfl⟩ [] rfl rfl [] rfl (fun _ => rfl) (fun _ => rfl) (fun u H locs hok hP hD hS => ?_)
  refine n_top (y := zI ((1 : Int) ≤ a1.toInt ∧ a1.toInt ≤ 4)) (zI_c (by rw [nI_T (show 1 < 2147483648 by decide), nI_T (show 4 < 2147483648 by decide)]; exact Iff.rfl)) ?_
  refine z_if_ne hx hb (tgt := 15) dX6_feed_6 (by decide) (fun c_1 => ?_) (fun c_1 => ?_)
  · obtain ⟨n1, hn1, rfl⟩ := nI_of_rg (n := 4) (x := a1) ⟨by omega, by omega⟩
    have hT1 := nI_T (a := n1) (by omega)
    refine lv_aload_n hx hb dX6_feed_15 rfl (lv_at hl 0 rfl) ?_
    refine n_get (C := RX6) (T := TX6) (N := 18) hx hb hts (fun _ h => List.mem_cons_of_mem _ (List.mem_append_right _ h)) hown hK hP 0 rfl rfl 6 (by decide) (List.mem_of_getElem? (i := 1) rfl) rfl (.int (nI (ζ 1))) rfl dX6_feed_16 ?_
    refine lv_iload_n hx hb dX6_feed_19 rfl (lv_at hl 2 rfl) ?_
    refine n_iadd hx hb dX6_feed_20 ?_
    refine lv_bipush (v := nI 120) hx hb dX6_feed_21 rfl ?_
    refine n_icmp_le hx hb (by omega) (by omega) (tgt := 32) dX6_feed_23 (by decide) (fun c_2 => ?_) (fun c_2 => ?_)
    · refine lv_iload_n hx hb dX6_feed_32 rfl (lv_at hl 2 rfl) ?_
      refine lv_iconst (v := nI 1) hx hb dX6_feed_33 rfl ?_
      refine n_isub hx hb (by omega) dX6_feed_34 ?_
      refine n_top (y := iI (((n1 - 0 : Nat) : Int) - 1)) (by rw [iI_nat (by omega)]; congr 1; omega) ?_
      refine lv_istore_n (lv' := [(3, .int (iI (((n1 - 0 : Nat) : Int) - 1))), (0, .ref (b 0)), (1, .int a0), (2, .int (nI n1))]) hx hb dX6_feed_35 rfl hl (by decide) rfl (fun ls hl => ?_)
      refine W_loop1 (I := fun (i : Nat) => i ≤ n1) (wd := fun (i : Nat) => [mO b (un ζ 1 (ζ 1 + i)) vv, (b 4, .inl (G.2.1, 7, .inl tl)), (b 5, .inl (G.2.1, 120, .inl (nF (feedN tb a0 n1 (ζ 1) i))))]) (lv := fun (i : Nat) => [(3, .int (iI (((n1 - i : Nat) : Int) - 1))), (0, .ref (b 0)), (1, .int a0), (2, .int (nI n1))]) (μ := fun (i : Nat) => n1 - i) ?_ 0 (by omega) hP hD hS (lv_sub hl [0, 1, 2, 3] rfl)
      intro i H locs ls hI0 hP hD hS hl ih
      have hiq : i ≤ n1 := hI0
      have hT9 : (iI (((n1 - i : Nat) : Int) - 1)).toInt = ((n1 - i : Nat) : Int) - 1 := iI_T (by omega) (by omega)
      refine lv_iload_n hx hb dX6_feed_36 rfl (lv_at hl 0 rfl) ?_
      refine r_if_lt hx hb (tgt := 75) dX6_feed_37 (by decide) (fun c_3 => ?_) (fun c_3 => ?_)
      · have hk5 : i = n1 := by omega
        subst hk5
        refine lv_aload_n hx hb dX6_feed_75 rfl (lv_at hl 1 rfl) ?_
        refine n_get (C := RX6) (T := TX6) (N := 18) hx hb hts (fun _ h => List.mem_cons_of_mem _ (List.mem_append_right _ h)) hown hK hP 0 rfl rfl 6 (by decide) (List.mem_of_getElem? (i := 1) rfl) rfl (_) rfl dX6_feed_76 ?_
        refine n_top (y := (nI (ζ 1 + i))) (congrArg nI un_s) ?_
        have he : feed_e (ζ 1) (nI i).toInt = 7 := by unfold feed_e; (try simp only [hT1, Int.toNat_natCast]); (repeat' split) <;> omega
        exact fin_i hx hb hr hlk hS hP hD () trivial (by rw [he]; first | done | ((try simp only [hT1, Int.toNat_natCast]); first | done | rfl)) (by rw [he]; (try simp only [hT1, Int.toNat_natCast]); exact eqW.rf _) dX6_feed_79
      · have hg : iI (((n1 - i : Nat) : Int) - 1) = nI (n1 - i - 1) := by rw [iI_nat (by omega)]; congr 1; omega
        rw [hg] at hl
        refine lv_aload_n hx hb dX6_feed_40 rfl (lv_at hl 1 rfl) ?_
        refine n_get (C := RX6) (T := TX6) (N := 18) hx hb hts (fun _ h => List.mem_cons_of_mem _ (List.mem_append_right _ h)) hown hK hP 0 rfl rfl 5 (by decide) (List.mem_of_getElem? (i := 2) rfl) rfl (.ref (b 5)) rfl dX6_feed_41 ?_
        refine lv_aload_n hx hb dX6_feed_44 rfl (lv_at hl 1 rfl) ?_
        refine n_get (C := RX6) (T := TX6) (N := 18) hx hb hts (fun _ h => List.mem_cons_of_mem _ (List.mem_append_right _ h)) hown hK hP 0 rfl rfl 6 (by decide) (List.mem_of_getElem? (i := 1) rfl) rfl (_) rfl dX6_feed_45 ?_
        refine n_top (y := (nI (ζ 1 + i))) (congrArg nI un_s) ?_
        refine lv_iload_n hx hb dX6_feed_48 rfl (lv_at hl 2 rfl) ?_
        refine lv_bipush (v := nI 8) hx hb dX6_feed_49 rfl ?_
        refine lv_iload_n hx hb dX6_feed_51 rfl (lv_at hl 0 rfl) ?_
        refine n_imul hx hb dX6_feed_52 ?_
        refine lv_ishr hx hb dX6_feed_53 ?_
        refine lv_sipush (v := nI 255) hx hb dX6_feed_54 rfl ?_
        refine lv_iand hx hb dX6_feed_57 ?_
        refine n_top (by_at _ _) ?_
        refine n_iast hx hb hK hP hD hS 2 (wn := [mO b (un ζ 1 (ζ 1 + i)) vv, (b 4, .inl (G.2.1, 7, .inl tl)), (b 5, .inl (G.2.1, 120, .inl (nF (un (feedN tb a0 n1 (ζ 1) i) (ζ 1 + i) (byK a0 (n1 - i - 1))))))]) rfl (by omega) (by omega) (by rw [nF_un]; rfl) dX6_feed_58 (fun H locs hP hD hS => ?_)
        refine lv_aload_n hx hb dX6_feed_59 rfl (lv_at hl 1 rfl) ?_
        refine lv_dup hx hb dX6_feed_60 rfl ?_
        refine n_get (C := RX6) (T := TX6) (N := 18) hx hb hts (fun _ h => List.mem_cons_of_mem _ (List.mem_append_right _ h)) hown hK hP 0 rfl rfl 6 (by decide) (List.mem_of_getElem? (i := 1) rfl) rfl (_) rfl dX6_feed_61 ?_
        refine n_top (y := (nI (ζ 1 + i))) (congrArg nI un_s) ?_
        refine lv_iconst (v := nI 1) hx hb dX6_feed_64 rfl ?_
        refine n_iadd hx hb dX6_feed_65 ?_
        refine n_put (C := RX6) (T := TX6) (N := 18) hx hb hts (fun _ h => List.mem_cons_of_mem _ (List.mem_append_right _ h)) tyX6 tyX6_ok nmX6 hown hK hP hD hS 0 rfl rfl 6 (by decide) (List.mem_of_getElem? (i := 1) rfl) rfl rfl (ty := .int) (v := .int (nI ((ζ 1 + i) + 1))) rfl rfl rfl (Nat.le_of_ble_eq_true rfl) (wn := [mO b (un ζ 1 ((ζ 1 + i) + 1)) vv, (b 4, .inl (G.2.1, 7, .inl tl)), (b 5, .inl (G.2.1, 120, .inl (nF (un (feedN tb a0 n1 (ζ 1) i) (ζ 1 + i) (byK a0 (n1 - i - 1))))))]) rfl dX6_feed_66 (fun H locs hP hD hS => ?_)
        refine lv_iinc (v := (iI (((n1 - (i + 1) : Nat) : Int) - 1))) (lv' := [(3, .int (iI (((n1 - (i + 1) : Nat) : Int) - 1))), (0, .ref (b 0)), (1, .int a0), (2, .int (nI n1))]) hx hb dX6_feed_69 hl (k := 0) rfl (dec_tab _ (by omega)) (by decide) rfl (fun ls hl => ?_)
        refine lv_goto (tgt := 36) hx hb dX6_feed_72 (by decide) ?_
        exact ih (i + 1) _ _ _ (by omega) (by omega) hP hD hS (lv_sub hl [0, 1, 2, 3] rfl)
    · refine lv_aload_n hx hb dX6_feed_26 rfl (lv_at hl 0 rfl) ?_
      refine lv_iconst (v := nI 1) hx hb dX6_feed_27 rfl ?_
      refine callVI (rest := []) (wn := fun u => [mO b ζ vv, (b 4, .inl (G.2.1, 7, .inl (tk tl 1))), (b 5, .inl (G.2.1, 120, .inl (nF tb)))]) ⟨hx, hb, hml, hown, hts⟩ (c_X6_no l G H.size b ζ vv tl 1 (by omega)) (cwV 1 hts gX6_feed_X6_no rfl rfl rfl (by decide +kernel) ⟨Nat.le_of_ble_eq_true rfl, Nat.le_of_ble_eq_true rfl⟩) noXB (fun _ _ _ => trivial) hK hP hD hS hAq 5 0 (T := TX6) (N := 18) rfl rfl rfl hl.1 rfl (Nat.le_of_ble_eq_true rfl) dX6_feed_28 ⟨Nat.le_of_ble_eq_true rfl, Nat.le_of_ble_eq_true rfl⟩ [0, 1] rfl rfl [b 0, b 4] rfl (fun _ => rfl) (fun _ => rfl) (fun u H locs hok hP hD hS => ?_)
      have he : feed_e (ζ 1) (nI n1).toInt = 1 := by unfold feed_e; (try simp only [hT1, Int.toNat_natCast]); (repeat' split) <;> omega
      exact fin_i hx hb hr hlk hS hP hD () trivial (by rw [he]; first | done | ((try simp only [hT1, Int.toNat_natCast]); first | done | rfl)) (by rw [he]; (try simp only [hT1, Int.toNat_natCast]); exact eqW.rf _) dX6_feed_31
  · refine lv_aload_n hx hb dX6_feed_9 rfl (lv_at hl 0 rfl) ?_
    refine lv_iconst (v := nI 0) hx hb dX6_feed_10 rfl ?_
    refine callVI (rest := []) (wn := fun u => [mO b ζ vv, (b 4, .inl (G.2.1, 7, .inl (tk tl 0))), (b 5, .inl (G.2.1, 120, .inl (nF tb)))]) ⟨hx, hb, hml, hown, hts⟩ (c_X6_no l G H.size b ζ vv tl 0 (by omega)) (cwV 1 hts gX6_feed_X6_no rfl rfl rfl (by decide +kernel) ⟨Nat.le_of_ble_eq_true rfl, Nat.le_of_ble_eq_true rfl⟩) noXB (fun _ _ _ => trivial) hK hP hD hS hAq 5 0 (T := TX6) (N := 18) rfl rfl rfl hl.1 rfl (Nat.le_of_ble_eq_true rfl) dX6_feed_11 ⟨Nat.le_of_ble_eq_true rfl, Nat.le_of_ble_eq_true rfl⟩ [0, 1] rfl rfl [b 0, b 4] rfl (fun _ => rfl) (fun _ => rfl) (fun u H locs hok hP hD hS => ?_)
    have he : feed_e (ζ 1) a1.toInt = 0 := by unfold feed_e; (try simp only [Int.toNat_natCast]); (repeat' split) <;> omega
    exact fin_i hx hb hr hlk hS hP hD () trivial (by rw [he]; first | done | ((try simp only [Int.toNat_natCast]); first | done | rfl)) (by rw [he]; (try simp only [Int.toNat_natCast]); exact eqW.rf _) dX6_feed_14
set_option maxHeartbeats 400000 in
set_option maxRecDepth 100000 in
theorem c_X5_wipe (l : Launch) (G : GT) (sz : Nat) (x hm kp tr : Nat → Nat) (hi : Nat) (ln : Nat)  : MI (S := Unit) l G noX yX5_wipe wsX5_wipe ({ frames := 0, cells := 0, slots := 0, locals := 0 } : Room) [.ref (x 0)] ([xO x hm kp tr hi, (x 1, .inr (3, [.ref (x 2), .int (nI ln)]))]) sz (fun _ => True) (fun _ => nI ln) (fun _ => [xO x hm kp tr hi, (x 1, .inr (3, [.ref (x 2), .int (nI 0)]))]) := by
  refine MI_enter (cc := cX5_wipe) (maxL := 2) (ret := (some .int)) (by decide) rfl (Nat.le_of_ble_eq_true rfl) ?_
  intro p e s m below meth c A ls H hx hb hr hlk hml hown hts hAq hS hP hK hD hX hl hnm
  have hown : s.vm.findClass RX5 = some m.cls := hown
  have hl : lv_has ls 2 [(0, .ref (x 0))] := hl
  refine lv_aload_n hx hb dX5_wipe_0 rfl (lv_at hl 0 rfl) ?_
  refine n_get (C := RX5) (T := TX5) (N := 7) hx hb hts (fun _ h => List.mem_cons_of_mem _ (List.mem_append_left _ (List.mem_append_right _ h))) hown hK hP 0 rfl rfl 3 (by decide) (List.mem_of_getElem? (i := 1) rfl) rfl (.ref (x 1)) rfl dX5_wipe_1 ?_
  refine n_get (C := RX4) (T := TX4) (N := 2) hx hb hts (fun _ h => List.mem_cons_of_mem _ (List.mem_append_right _ h)) hown hK hP 1 rfl rfl 1 (by decide) (List.mem_of_getElem? (i := 2) rfl) rfl (.int (nI ln)) rfl dX5_wipe_4 ?_
  refine lv_istore_n (lv' := [(1, .int (nI ln)), (0, .ref (x 0))]) hx hb dX5_wipe_7 rfl hl (by decide) rfl (fun ls hl => ?_)
  refine lv_aload_n hx hb dX5_wipe_8 rfl (lv_at hl 1 rfl) ?_
  refine n_get (C := RX5) (T := TX5) (N := 7) hx hb hts (fun _ h => List.mem_cons_of_mem _ (List.mem_append_left _ (List.mem_append_right _ h))) hown hK hP 0 rfl rfl 3 (by decide) (List.mem_of_getElem? (i := 1) rfl) rfl (.ref (x 1)) rfl dX5_wipe_9 ?_
  refine lv_iconst (v := nI 0) hx hb dX5_wipe_12 rfl ?_
  refine n_put (C := RX4) (T := TX4) (N := 2) hx hb hts (fun _ h => List.mem_cons_of_mem _ (List.mem_append_right _ h)) tyX4 tyX4_ok nmX4 hown hK hP hD hS 1 rfl rfl 1 (by decide) (List.mem_of_getElem? (i := 2) rfl) rfl rfl (ty := .int) (v := .int (nI 0)) rfl rfl rfl (Nat.le_of_ble_eq_true rfl) (wn := [xO x hm kp tr hi, (x 1, .inr (3, [.ref (x 2), .int (nI 0)]))]) rfl dX5_wipe_13 (fun H locs hP hD hS => ?_)
  refine lv_iload_n hx hb dX5_wipe_16 rfl (lv_at hl 0 rfl) ?_
  exact fin_i hx hb hr hlk hS hP hD () trivial rfl (eqW.rf _) dX5_wipe_17
set_option maxHeartbeats 400000 in
set_option maxRecDepth 100000 in
theorem c_X6_wipe (l : Launch) (G : GT) (sz : Nat) (b : Nat → Nat) (ζ : Nat → Nat) (vv : Int64)  : MI (S := Unit) l G noX yX6_wipe wsX6_wipe ({ frames := 0, cells := 0, slots := 0, locals := 0 } : Room) [.ref (b 0)] ([mO b ζ vv]) sz (fun _ => True) (fun _ => nI (ζ 1)) (fun _ => [mO b (un ζ 1 0) vv]) := by
  refine MI_enter (cc := cX6_wipe) (maxL := 2) (ret := (some .int)) (by decide) rfl (Nat.le_of_ble_eq_true rfl) ?_
  intro p e s m below meth c A ls H hx hb hr hlk hml hown hts hAq hS hP hK hD hX hl hnm
  have hown : s.vm.findClass RX6 = some m.cls := hown
  have hl : lv_has ls 2 [(0, .ref (b 0))] := hl
  refine lv_aload_n hx hb dX6_wipe_0 rfl (lv_at hl 0 rfl) ?_
  refine n_get (C := RX6) (T := TX6) (N := 18) hx hb hts (fun _ h => List.mem_cons_of_mem _ (List.mem_append_right _ h)) hown hK hP 0 rfl rfl 6 (by decide) (List.mem_of_getElem? (i := 1) rfl) rfl (.int (nI (ζ 1))) rfl dX6_wipe_1 ?_
  refine lv_istore_n (lv' := [(1, .int (nI (ζ 1))), (0, .ref (b 0))]) hx hb dX6_wipe_4 rfl hl (by decide) rfl (fun ls hl => ?_)
  refine lv_aload_n hx hb dX6_wipe_5 rfl (lv_at hl 1 rfl) ?_
  refine lv_iconst (v := nI 0) hx hb dX6_wipe_6 rfl ?_
  refine n_put (C := RX6) (T := TX6) (N := 18) hx hb hts (fun _ h => List.mem_cons_of_mem _ (List.mem_append_right _ h)) tyX6 tyX6_ok nmX6 hown hK hP hD hS 0 rfl rfl 6 (by decide) (List.mem_of_getElem? (i := 1) rfl) rfl rfl (ty := .int) (v := .int (nI 0)) rfl rfl rfl (Nat.le_of_ble_eq_true rfl) (wn := [mO b (un ζ 1 0) vv]) rfl dX6_wipe_7 (fun H locs hP hD hS => ?_)
  refine lv_iload_n hx hb dX6_wipe_10 rfl (lv_at hl 0 rfl) ?_
  exact fin_i hx hb hr hlk hS hP hD () trivial rfl (eqW.rf _) dX6_wipe_11
set_option maxHeartbeats 400000 in
set_option maxRecDepth 100000 in
theorem c_X5_image (l : Launch) (G : GT) (sz : Nat) (x hm kp tr : Nat → Nat) (hi : Nat) (σ κ : Sg) (hhi : hi ≤ 1) : MI (S := Unit) l G noX yX5_image wsX5_image ({ frames := 1, cells := 0, slots := 0, locals := 22 } : Room) [.ref (x 0)] (([xO x hm kp tr hi] ++ (wH G hm σ ++ (wH G kp κ)))) sz (fun _ => True) (fun _ => nI 1) (fun _ => ([xO x hm kp tr 1] ++ (wH G hm σ ++ (wH G kp σ)))) := by
  refine MI_enter (cc := cX5_image) (maxL := 1) (ret := (some .int)) (by decide) rfl (Nat.le_of_ble_eq_true rfl) ?_
  intro p e s m below meth c A ls H hx hb hr hlk hml hown hts hAq hS hP hK hD hX hl hnm
  have hown : s.vm.findClass RX5 = some m.cls := hown
  have hl : lv_has ls 1 [(0, .ref (x 0))] := hl
  refine lv_aload_n hx hb dX5_image_0 rfl (lv_at hl 0 rfl) ?_
  refine n_get (C := RX5) (T := TX5) (N := 7) hx hb hts (fun _ h => List.mem_cons_of_mem _ (List.mem_append_left _ (List.mem_append_right _ h))) hown hK hP 0 rfl rfl 1 (by decide) (List.mem_of_getElem? (i := 1) rfl) rfl (.ref (kp 0)) rfl dX5_image_1 ?_
  refine lv_aload_n hx hb dX5_image_4 rfl (lv_at hl 0 rfl) ?_
  refine n_get (C := RX5) (T := TX5) (N := 7) hx hb hts (fun _ h => List.mem_cons_of_mem _ (List.mem_append_left _ (List.mem_append_right _ h))) hown hK hP 0 rfl rfl 0 (by decide) (List.mem_of_getElem? (i := 2) rfl) rfl (.ref (hm 0)) rfl dX5_image_5 ?_
  refine callVV (rest := []) (wn := fun u => ([xO x hm kp tr hi] ++ (wH G hm σ ++ (wH G kp σ)))) ⟨hx, hb, hml, hown, hts⟩ (c_X0_become l G H.size kp κ hm σ) (cwV 1 hts gX5_image_X0_become rfl rfl rfl (by decide +kernel) ⟨Nat.le_of_ble_eq_true rfl, Nat.le_of_ble_eq_true rfl⟩) noXB (fun _ _ _ => trivial) hK hP hD hS hAq 0 0 (T := TX0) (N := 11) rfl rfl rfl hl.1 rfl (Nat.le_of_ble_eq_true rfl) dX5_image_8 ⟨Nat.le_of_ble_eq_true rfl, Nat.le_of_ble_eq_true rfl⟩ [7, 8, 9, 10, 11, 12, 1, 2, 3, 4, 5, 6] rfl rfl [kp 0, kp 1, kp 2, kp 3, kp 4, kp 5, hm 0, hm 1, hm 2, hm 3, hm 4, hm 5] rfl (fun _ => rfl) (fun _ => rfl) (fun u H locs hok hP hD hS => ?_)
  refine lv_aload_n hx hb dX5_image_11 rfl (lv_at hl 0 rfl) ?_
  refine lv_iconst (v := nI 1) hx hb dX5_image_12 rfl ?_
  refine n_put (C := RX5) (T := TX5) (N := 7) hx hb hts (fun _ h => List.mem_cons_of_mem _ (List.mem_append_left _ (List.mem_append_right _ h))) tyX5 tyX5_ok nmX5 hown hK hP hD hS 0 rfl rfl 6 (by decide) (List.mem_of_getElem? (i := 3) rfl) rfl rfl (ty := .boolean) (v := .int (nI 1)) rfl (by decide) (by decide) (Nat.le_of_ble_eq_true rfl) (wn := ([xO x hm kp tr 1] ++ (wH G hm σ ++ (wH G kp σ)))) rfl dX5_image_13 (fun H locs hP hD hS => ?_)
  refine lv_iconst (v := nI 1) hx hb dX5_image_16 rfl ?_
  exact fin_i hx hb hr hlk hS hP hD () trivial rfl (eqW.rf _) dX5_image_17
set_option maxHeartbeats 400000 in
set_option maxRecDepth 100000 in
theorem c_X6_image (l : Launch) (G : GT) (sz : Nat) (b : Nat → Nat) (ζ : Nat → Nat) (vv : Int64) (σ κ : Sg)  : MI (S := Unit) l G noX yX6_image wsX6_image ({ frames := 0, cells := 0, slots := 0, locals := 0 } : Room) [.ref (b 0)] ([mO b ζ vv, (b 1, .inl (G.2.1, 46, .inl (nF σ))), (b 2, .inl (G.2.1, 46, .inl (nF κ)))]) sz (fun _ => True) (fun _ => nI 1) (fun _ => [mO b (un ζ 0 1) vv, (b 1, .inl (G.2.1, 46, .inl (nF σ))), (b 2, .inl (G.2.1, 46, .inl (nF σ)))]) := by
  refine MI_enter (cc := cX6_image) (maxL := 2) (ret := (some .int)) (by decide) rfl (Nat.le_of_ble_eq_true rfl) ?_
  intro p e s m below meth c A ls H hx hb hr hlk hml hown hts hAq hS hP hK hD hX hl hnm
  have hown : s.vm.findClass RX6 = some m.cls := hown
  have hl : lv_has ls 2 [(0, .ref (b 0))] := hl
  refine lv_iconst (v := nI 0) hx hb dX6_image_0 rfl ?_
  refine lv_istore_n (lv' := [(1, .int (nI 0)), (0, .ref (b 0))]) hx hb dX6_image_1 rfl hl (by decide) rfl (fun ls hl => ?_)
  refine W_loop1 (I := fun (k : Nat) => k ≤ 46) (wd := fun (k : Nat) => [mO b ζ vv, (b 1, .inl (G.2.1, 46, .inl (nF σ))), (b 2, .inl (G.2.1, 46, .inl (cpF (nF κ) (nF σ) k)))]) (lv := fun (k : Nat) => [(1, .int (nI k)), (0, .ref (b 0))]) (μ := fun (k : Nat) => 46 - k) ?_ 0 (by omega) (by rw [cpF_0]; exact hP) (by rw [cpF_0]; exact hD) hS (lv_sub hl [0, 1] rfl)
  intro k H locs ls hI0 hP hD hS hl ih
  have hk : k ≤ 46 := hI0
  refine lv_iload_n hx hb dX6_image_2 rfl (lv_at hl 0 rfl) ?_
  refine lv_bipush (v := nI 46) hx hb dX6_image_3 rfl ?_
  refine n_icmp_ge hx hb (by omega) (by omega) (tgt := 26) dX6_image_5 (by decide) (fun c_1 => ?_) (fun c_1 => ?_)
  · have hk5 : k = 46 := by omega
    subst hk5
    refine lv_aload_n hx hb dX6_image_26 rfl (lv_at hl 1 rfl) ?_
    refine lv_iconst (v := nI 1) hx hb dX6_image_27 rfl ?_
    refine n_put (C := RX6) (T := TX6) (N := 18) hx hb hts (fun _ h => List.mem_cons_of_mem _ (List.mem_append_right _ h)) tyX6 tyX6_ok nmX6 hown hK hP hD hS 0 rfl rfl 3 (by decide) (List.mem_of_getElem? (i := 3) rfl) rfl rfl (ty := .boolean) (v := .int (nI 1)) rfl (by decide) (by decide) (Nat.le_of_ble_eq_true rfl) (wn := [mO b (un ζ 0 1) vv, (b 1, .inl (G.2.1, 46, .inl (nF σ))), (b 2, .inl (G.2.1, 46, .inl (cpF (nF κ) (nF σ) 46)))]) rfl dX6_image_28 (fun H locs hP hD hS => ?_)
    refine lv_iconst (v := nI 1) hx hb dX6_image_31 rfl ?_
    exact fin_i hx hb hr hlk hS hP hD () trivial rfl ⟨rfl, eqE.rf _, rfl, ⟨rfl, rfl, fun _ _ => rfl⟩, rfl, ⟨rfl, rfl, fun j hj => cpF_in hj⟩, trivial⟩ dX6_image_32
  · refine lv_aload_n hx hb dX6_image_8 rfl (lv_at hl 1 rfl) ?_
    refine n_get (C := RX6) (T := TX6) (N := 18) hx hb hts (fun _ h => List.mem_cons_of_mem _ (List.mem_append_right _ h)) hown hK hP 0 rfl rfl 1 (by decide) (List.mem_of_getElem? (i := 1) rfl) rfl (.ref (b 2)) rfl dX6_image_9 ?_
    refine lv_iload_n hx hb dX6_image_12 rfl (lv_at hl 0 rfl) ?_
    refine lv_aload_n hx hb dX6_image_13 rfl (lv_at hl 1 rfl) ?_
    refine n_get (C := RX6) (T := TX6) (N := 18) hx hb hts (fun _ h => List.mem_cons_of_mem _ (List.mem_append_right _ h)) hown hK hP 0 rfl rfl 0 (by decide) (List.mem_of_getElem? (i := 2) rfl) rfl (.ref (b 1)) rfl dX6_image_14 ?_
    refine lv_iload_n hx hb dX6_image_17 rfl (lv_at hl 0 rfl) ?_
    refine n_iald hx hb hK hP 1 (v := (nI (σ k))) rfl (by omega) (by omega) rfl dX6_image_18 ?_
    refine n_iast hx hb hK hP hD hS 2 (wn := [mO b ζ vv, (b 1, .inl (G.2.1, 46, .inl (nF σ))), (b 2, .inl (G.2.1, 46, .inl (upd (cpF (nF κ) (nF σ) k) k (nI (σ k)))))]) rfl (by omega) (by omega) rfl dX6_image_19 (fun H locs hP hD hS => ?_)
    refine n_iinc (lv' := [(1, .int (nI (k + 1))), (0, .ref (b 0))]) hx hb dX6_image_20 hl (k := 0) rfl (by decide) rfl (fun ls hl => ?_)
    refine lv_goto (tgt := 2) hx hb dX6_image_23 (by decide) ?_
    exact ih (k + 1) _ _ _ (by omega) (by omega) (by rw [← cpF_S]; exact hP) (by rw [← cpF_S]; exact hD) hS (lv_sub hl [0, 1] rfl)
set_option maxHeartbeats 400000 in
set_option maxRecDepth 100000 in
theorem c_X5_undo (l : Launch) (G : GT) (sz : Nat) (x hm kp tr : Nat → Nat) (hi : Nat) (tl : Nat → Int32) (σ κ : Sg) (hhi : hi ≤ 1) (h5 : κ 5 ≤ 8) : MI (S := Unit) l G noX yX5_undo wsX5_undo ({ frames := 2, cells := 0, slots := 0, locals := 43 } : Room) [.ref (x 0)] (([xO x hm kp tr hi, (x 7, .inl (G.2.1, 7, .inl tl))] ++ (wH G hm σ ++ (wH G kp κ)))) sz (fun _ => True) (fun _ => rs (undo_e hi) (nI (κ 5))) (fun _ => ([xO x hm kp tr hi, (x 7, .inl (G.2.1, 7, .inl (ts tl (undo_e hi))))] ++ (wH G hm (hs (undo_e hi) κ σ) ++ (wH G kp κ)))) := by
  refine MI_enter (cc := cX5_undo) (maxL := 1) (ret := (some .int)) (by decide) rfl (Nat.le_of_ble_eq_true rfl) ?_
  intro p e s m below meth c A ls H hx hb hr hlk hml hown hts hAq hS hP hK hD hX hl hnm
  have hown : s.vm.findClass RX5 = some m.cls := hown
  have hl : lv_has ls 1 [(0, .ref (x 0))] := hl
  refine lv_aload_n hx hb dX5_undo_0 rfl (lv_at hl 0 rfl) ?_
  refine n_get (C := RX5) (T := TX5) (N := 7) hx hb hts (fun _ h => List.mem_cons_of_mem _ (List.mem_append_left _ (List.mem_append_right _ h))) hown hK hP 0 rfl rfl 6 (by decide) (List.mem_of_getElem? (i := 1) rfl) rfl (.int (nI hi)) rfl dX5_undo_1 ?_
  refine n_if_ne hx hb (by omega) (tgt := 13) dX5_undo_4 (by decide) (fun c_1 => ?_) (fun c_1 => ?_)
  · refine lv_aload_n hx hb dX5_undo_13 rfl (lv_at hl 0 rfl) ?_
    refine n_get (C := RX5) (T := TX5) (N := 7) hx hb hts (fun _ h => List.mem_cons_of_mem _ (List.mem_append_left _ (List.mem_append_right _ h))) hown hK hP 0 rfl rfl 0 (by decide) (List.mem_of_getElem? (i := 2) rfl) rfl (.ref (hm 0)) rfl dX5_undo_14 ?_
    refine lv_aload_n hx hb dX5_undo_17 rfl (lv_at hl 0 rfl) ?_
    refine n_get (C := RX5) (T := TX5) (N := 7) hx hb hts (fun _ h => List.mem_cons_of_mem _ (List.mem_append_left _ (List.mem_append_right _ h))) hown hK hP 0 rfl rfl 1 (by decide) (List.mem_of_getElem? (i := 3) rfl) rfl (.ref (kp 0)) rfl dX5_undo_18 ?_
    refine callVV (rest := []) (wn := fun u => ([xO x hm kp tr hi, (x 7, .inl (G.2.1, 7, .inl tl))] ++ (wH G hm κ ++ (wH G kp κ)))) ⟨hx, hb, hml, hown, hts⟩ (c_X0_become l G H.size hm σ kp κ) (cwV 1 hts gX5_undo_X0_become rfl rfl rfl (by decide +kernel) ⟨Nat.le_of_ble_eq_true rfl, Nat.le_of_ble_eq_true rfl⟩) noXB (fun _ _ _ => trivial) hK hP hD hS hAq 0 0 (T := TX0) (N := 11) rfl rfl rfl hl.1 rfl (Nat.le_of_ble_eq_true rfl) dX5_undo_21 ⟨Nat.le_of_ble_eq_true rfl, Nat.le_of_ble_eq_true rfl⟩ [2, 3, 4, 5, 6, 7, 8, 9, 10, 11, 12, 13] rfl rfl [hm 0, hm 1, hm 2, hm 3, hm 4, hm 5, kp 0, kp 1, kp 2, kp 3, kp 4, kp 5] rfl (fun _ => rfl) (fun _ => rfl) (fun u H locs hok hP hD hS => ?_)
    refine lv_aload_n hx hb dX5_undo_24 rfl (lv_at hl 0 rfl) ?_
    refine n_get (C := RX5) (T := TX5) (N := 7) hx hb hts (fun _ h => List.mem_cons_of_mem _ (List.mem_append_left _ (List.mem_append_right _ h))) hown hK hP 0 rfl rfl 0 (by decide) (List.mem_of_getElem? (i := 2) rfl) rfl (.ref (hm 0)) rfl dX5_undo_25 ?_
    refine n_get (C := RX0) (T := TX0) (N := 11) hx hb hts (fun _ h => List.mem_cons_of_mem _ (List.mem_append_right _ h)) hown hK hP 2 rfl rfl 5 (by decide) (List.mem_of_getElem? (i := 4) rfl) rfl (.int (nI (κ 5))) rfl dX5_undo_28 ?_
    have he : undo_e hi = 7 := by unfold undo_e; (try simp only [Int.toNat_natCast]); (repeat' split) <;> omega
    exact fin_i hx hb hr hlk hS hP hD () trivial (by rw [he]; first | done | ((try simp only [Int.toNat_natCast]); first | done | rfl)) (by rw [he]; (try simp only [Int.toNat_natCast]); exact eqW.rf _) dX5_undo_31
  · refine lv_aload_n hx hb dX5_undo_7 rfl (lv_at hl 0 rfl) ?_
    refine lv_iconst (v := nI 3) hx hb dX5_undo_8 rfl ?_
    refine callVI (rest := []) (wn := fun u => ([xO x hm kp tr hi, (x 7, .inl (G.2.1, 7, .inl (tk tl 3)))] ++ (wH G hm σ ++ (wH G kp κ)))) ⟨hx, hb, hml, hown, hts⟩ (c_X5_tell l G H.size x hm kp tr hi tl 3 (by omega)) (cwV 1 hts gX5_undo_X5_tell rfl rfl rfl (by decide +kernel) ⟨Nat.le_of_ble_eq_true rfl, Nat.le_of_ble_eq_true rfl⟩) noXB (fun _ _ _ => trivial) hK hP hD hS hAq 4 0 (T := TX5) (N := 7) rfl rfl rfl hl.1 rfl (Nat.le_of_ble_eq_true rfl) dX5_undo_9 ⟨Nat.le_of_ble_eq_true rfl, Nat.le_of_ble_eq_true rfl⟩ [0, 1] rfl rfl [x 0, x 7] rfl (fun _ => rfl) (fun _ => rfl) (fun u H locs hok hP hD hS => ?_)
    have he : undo_e hi = 3 := by unfold undo_e; (try simp only [Int.toNat_natCast]); (repeat' split) <;> omega
    exact fin_i hx hb hr hlk hS hP hD () trivial (by rw [he]; first | done | ((try simp only [Int.toNat_natCast]); first | done | rfl)) (by rw [he]; (try simp only [Int.toNat_natCast]); exact eqW.rf _) dX5_undo_12
set_option maxHeartbeats 400000 in
set_option maxRecDepth 100000 in
theorem c_X6_undo (l : Launch) (G : GT) (sz : Nat) (b : Nat → Nat) (ζ : Nat → Nat) (vv : Int64) (tl : Nat → Int32) (σ κ : Sg) (hhi : ζ 0 ≤ 1) (h5 : κ 5 ≤ 8) : MI (S := Unit) l G noX yX6_undo wsX6_undo ({ frames := 1, cells := 0, slots := 0, locals := 21 } : Room) [.ref (b 0)] ([mO b ζ vv, (b 4, .inl (G.2.1, 7, .inl tl)), (b 1, .inl (G.2.1, 46, .inl (nF σ))), (b 2, .inl (G.2.1, 46, .inl (nF κ)))]) sz (fun _ => True) (fun _ => rs (undo_e (ζ 0)) (nI (κ 5))) (fun _ => [mO b ζ vv, (b 4, .inl (G.2.1, 7, .inl (ts tl (undo_e (ζ 0))))), (b 1, .inl (G.2.1, 46, .inl (nF (hs (undo_e (ζ 0)) κ σ)))), (b 2, .inl (G.2.1, 46, .inl (nF κ)))]) := by
  refine MI_enter (cc := cX6_undo) (maxL := 2) (ret := (some .int)) (by decide) rfl (Nat.le_of_ble_eq_true rfl) ?_
  intro p e s m below meth c A ls H hx hb hr hlk hml hown hts hAq hS hP hK hD hX hl hnm
  have hown : s.vm.findClass RX6 = some m.cls := hown
  have hl : lv_has ls 2 [(0, .ref (b 0))] := hl
  refine lv_aload_n hx hb dX6_undo_0 rfl (lv_at hl 0 rfl) ?_
  refine n_get (C := RX6) (T := TX6) (N := 18) hx hb hts (fun _ h => List.mem_cons_of_mem _ (List.mem_append_right _ h)) hown hK hP 0 rfl rfl 3 (by decide) (List.mem_of_getElem? (i := 1) rfl) rfl (.int (nI (ζ 0))) rfl dX6_undo_1 ?_
  refine n_if_ne hx hb (by omega) (tgt := 13) dX6_undo_4 (by decide) (fun c_1 => ?_) (fun c_1 => ?_)
  · refine lv_iconst (v := nI 0) hx hb dX6_undo_13 rfl ?_
    refine lv_istore_n (lv' := [(1, .int (nI 0)), (0, .ref (b 0))]) hx hb dX6_undo_14 rfl hl (by decide) rfl (fun ls hl => ?_)
    refine W_loop1 (I := fun (k : Nat) => k ≤ 46) (wd := fun (k : Nat) => [mO b ζ vv, (b 4, .inl (G.2.1, 7, .inl tl)), (b 1, .inl (G.2.1, 46, .inl (cpF (nF σ) (nF κ) k))), (b 2, .inl (G.2.1, 46, .inl (nF κ)))]) (lv := fun (k : Nat) => [(1, .int (nI k)), (0, .ref (b 0))]) (μ := fun (k : Nat) => 46 - k) ?_ 0 (by omega) (by rw [cpF_0]; exact hP) (by rw [cpF_0]; exact hD) hS (lv_sub hl [0, 1] rfl)
    intro k H locs ls hI0 hP hD hS hl ih
    have hk : k ≤ 46 := hI0
    refine lv_iload_n hx hb dX6_undo_15 rfl (lv_at hl 0 rfl) ?_
    refine lv_bipush (v := nI 46) hx hb dX6_undo_16 rfl ?_
    refine n_icmp_ge hx hb (by omega) (by omega) (tgt := 39) dX6_undo_18 (by decide) (fun c_2 => ?_) (fun c_2 => ?_)
    · have hk5 : k = 46 := by omega
      subst hk5
      refine lv_aload_n hx hb dX6_undo_39 rfl (lv_at hl 1 rfl) ?_
      refine n_get (C := RX6) (T := TX6) (N := 18) hx hb hts (fun _ h => List.mem_cons_of_mem _ (List.mem_append_right _ h)) hown hK hP 0 rfl rfl 0 (by decide) (List.mem_of_getElem? (i := 2) rfl) rfl (.ref (b 1)) rfl dX6_undo_40 ?_
      refine lv_iconst (v := nI 5) hx hb dX6_undo_43 rfl ?_
      refine n_iald hx hb hK hP 2 (v := ((cpF (nF σ) (nF κ) 46) 5)) rfl (by omega) (by omega) rfl dX6_undo_44 ?_
      have he : undo_e (ζ 0) = 7 := by unfold undo_e; (try simp only [Int.toNat_natCast]); (repeat' split) <;> omega
      exact fin_i hx hb hr hlk hS hP hD () trivial (by rw [he]; exact cpF_in (by decide)) (by rw [he]; exact ⟨rfl, eqE.rf _, rfl, ⟨rfl, rfl, fun _ _ => rfl⟩, rfl, ⟨rfl, rfl, fun j hj => cpF_in hj⟩, rfl, ⟨rfl, rfl, fun _ _ => rfl⟩, trivial⟩) dX6_undo_45
    · refine lv_aload_n hx hb dX6_undo_21 rfl (lv_at hl 1 rfl) ?_
      refine n_get (C := RX6) (T := TX6) (N := 18) hx hb hts (fun _ h => List.mem_cons_of_mem _ (List.mem_append_right _ h)) hown hK hP 0 rfl rfl 0 (by decide) (List.mem_of_getElem? (i := 2) rfl) rfl (.ref (b 1)) rfl dX6_undo_22 ?_
      refine lv_iload_n hx hb dX6_undo_25 rfl (lv_at hl 0 rfl) ?_
      refine lv_aload_n hx hb dX6_undo_26 rfl (lv_at hl 1 rfl) ?_
      refine n_get (C := RX6) (T := TX6) (N := 18) hx hb hts (fun _ h => List.mem_cons_of_mem _ (List.mem_append_right _ h)) hown hK hP 0 rfl rfl 1 (by decide) (List.mem_of_getElem? (i := 3) rfl) rfl (.ref (b 2)) rfl dX6_undo_27 ?_
      refine lv_iload_n hx hb dX6_undo_30 rfl (lv_at hl 0 rfl) ?_
      refine n_iald hx hb hK hP 3 (v := (nI (κ k))) rfl (by omega) (by omega) rfl dX6_undo_31 ?_
      refine n_iast hx hb hK hP hD hS 2 (wn := [mO b ζ vv, (b 4, .inl (G.2.1, 7, .inl tl)), (b 1, .inl (G.2.1, 46, .inl (upd (cpF (nF σ) (nF κ) k) k (nI (κ k))))), (b 2, .inl (G.2.1, 46, .inl (nF κ)))]) rfl (by omega) (by omega) rfl dX6_undo_32 (fun H locs hP hD hS => ?_)
      refine n_iinc (lv' := [(1, .int (nI (k + 1))), (0, .ref (b 0))]) hx hb dX6_undo_33 hl (k := 0) rfl (by decide) rfl (fun ls hl => ?_)
      refine lv_goto (tgt := 15) hx hb dX6_undo_36 (by decide) ?_
      exact ih (k + 1) _ _ _ (by omega) (by omega) (by rw [← cpF_S]; exact hP) (by rw [← cpF_S]; exact hD) hS (lv_sub hl [0, 1] rfl)
  · refine lv_aload_n hx hb dX6_undo_7 rfl (lv_at hl 0 rfl) ?_
    refine lv_iconst (v := nI 3) hx hb dX6_undo_8 rfl ?_
    refine callVI (rest := []) (wn := fun u => [mO b ζ vv, (b 4, .inl (G.2.1, 7, .inl (tk tl 3))), (b 1, .inl (G.2.1, 46, .inl (nF σ))), (b 2, .inl (G.2.1, 46, .inl (nF κ)))]) ⟨hx, hb, hml, hown, hts⟩ (c_X6_no l G H.size b ζ vv tl 3 (by omega)) (cwV 1 hts gX6_undo_X6_no rfl rfl rfl (by decide +kernel) ⟨Nat.le_of_ble_eq_true rfl, Nat.le_of_ble_eq_true rfl⟩) noXB (fun _ _ _ => trivial) hK hP hD hS hAq 5 0 (T := TX6) (N := 18) rfl rfl rfl hl.1 rfl (Nat.le_of_ble_eq_true rfl) dX6_undo_9 ⟨Nat.le_of_ble_eq_true rfl, Nat.le_of_ble_eq_true rfl⟩ [0, 1] rfl rfl [b 0, b 4] rfl (fun _ => rfl) (fun _ => rfl) (fun u H locs hok hP hD hS => ?_)
    have he : undo_e (ζ 0) = 3 := by unfold undo_e; (try simp only [Int.toNat_natCast]); (repeat' split) <;> omega
    exact fin_i hx hb hr hlk hS hP hD () trivial (by rw [he]; first | done | ((try simp only [Int.toNat_natCast]); first | done | rfl)) (by rw [he]; (try simp only [Int.toNat_natCast]); exact eqW.rf _) dX6_undo_12
set_option maxHeartbeats 400000 in
set_option maxRecDepth 100000 in
theorem c_X5_tear (l : Launch) (G : GT) (sz : Nat) (x hm kp tr : Nat → Nat) (hi : Nat) (hhi : hi ≤ 1) : MI (S := Unit) l G noX yX5_tear wsX5_tear ({ frames := 0, cells := 0, slots := 0, locals := 0 } : Room) [.ref (x 0)] ([xO x hm kp tr hi]) sz (fun _ => True) (fun _ => nI hi) (fun _ => [xO x hm kp tr 0]) := by
  refine MI_enter (cc := cX5_tear) (maxL := 2) (ret := (some .int)) (by decide) rfl (Nat.le_of_ble_eq_true rfl) ?_
  intro p e s m below meth c A ls H hx hb hr hlk hml hown hts hAq hS hP hK hD hX hl hnm
  have hown : s.vm.findClass RX5 = some m.cls := hown
  have hl : lv_has ls 2 [(0, .ref (x 0))] := hl
  refine lv_aload_n hx hb dX5_tear_0 rfl (lv_at hl 0 rfl) ?_
  refine n_get (C := RX5) (T := TX5) (N := 7) hx hb hts (fun _ h => List.mem_cons_of_mem _ (List.mem_append_right _ h)) hown hK hP 0 rfl rfl 6 (by decide) (List.mem_of_getElem? (i := 1) rfl) rfl (.int (nI hi)) rfl dX5_tear_1 ?_
  refine n_if_eq hx hb (by omega) (tgt := 11) dX5_tear_4 (by decide) (fun c_1 => ?_) (fun c_1 => ?_)
  · refine lv_iconst (v := nI 0) hx hb dX5_tear_11 rfl ?_
    refine lv_istore_n (lv' := [(1, .int (nI 0)), (0, .ref (x 0))]) hx hb dX5_tear_12 rfl hl (by decide) rfl (fun ls hl => ?_)
    refine lv_aload_n hx hb dX5_tear_13 rfl (lv_at hl 1 rfl) ?_
    refine lv_iconst (v := nI 0) hx hb dX5_tear_14 rfl ?_
    refine n_put (C := RX5) (T := TX5) (N := 7) hx hb hts (fun _ h => List.mem_cons_of_mem _ (List.mem_append_right _ h)) tyX5 tyX5_ok nmX5 hown hK hP hD hS 0 rfl rfl 6 (by decide) (List.mem_of_getElem? (i := 1) rfl) rfl rfl (ty := .boolean) (v := .int (nI 0)) rfl (by decide) (by decide) (Nat.le_of_ble_eq_true rfl) (wn := [xO x hm kp tr 0]) rfl dX5_tear_15 (fun H locs hP hD hS => ?_)
    refine lv_iload_n hx hb dX5_tear_18 rfl (lv_at hl 0 rfl) ?_
    exact fin_i hx hb hr hlk hS hP hD () trivial (congrArg nI (by omega)) (eqW.rf _) dX5_tear_19
  · refine lv_iconst (v := nI 1) hx hb dX5_tear_7 rfl ?_
    refine lv_goto (tgt := 12) hx hb dX5_tear_8 (by decide) ?_
    refine lv_istore_n (lv' := [(1, .int (nI 1)), (0, .ref (x 0))]) hx hb dX5_tear_12 rfl hl (by decide) rfl (fun ls hl => ?_)
    refine lv_aload_n hx hb dX5_tear_13 rfl (lv_at hl 1 rfl) ?_
    refine lv_iconst (v := nI 0) hx hb dX5_tear_14 rfl ?_
    refine n_put (C := RX5) (T := TX5) (N := 7) hx hb hts (fun _ h => List.mem_cons_of_mem _ (List.mem_append_right _ h)) tyX5 tyX5_ok nmX5 hown hK hP hD hS 0 rfl rfl 6 (by decide) (List.mem_of_getElem? (i := 1) rfl) rfl rfl (ty := .boolean) (v := .int (nI 0)) rfl (by decide) (by decide) (Nat.le_of_ble_eq_true rfl) (wn := [xO x hm kp tr 0]) rfl dX5_tear_15 (fun H locs hP hD hS => ?_)
    refine lv_iload_n hx hb dX5_tear_18 rfl (lv_at hl 0 rfl) ?_
    exact fin_i hx hb hr hlk hS hP hD () trivial (congrArg nI (by omega)) (eqW.rf _) dX5_tear_19
set_option maxHeartbeats 400000 in
set_option maxRecDepth 100000 in
theorem c_X6_tear (l : Launch) (G : GT) (sz : Nat) (b : Nat → Nat) (ζ : Nat → Nat) (vv : Int64) (hhi : ζ 0 ≤ 1) : MI (S := Unit) l G noX yX6_tear wsX6_tear ({ frames := 0, cells := 0, slots := 0, locals := 0 } : Room) [.ref (b 0)] ([mO b ζ vv]) sz (fun _ => True) (fun _ => nI (ζ 0)) (fun _ => [mO b (un ζ 0 0) vv]) := by
  refine MI_enter (cc := cX6_tear) (maxL := 2) (ret := (some .int)) (by decide) rfl (Nat.le_of_ble_eq_true rfl) ?_
  intro p e s m below meth c A ls H hx hb hr hlk hml hown hts hAq hS hP hK hD hX hl hnm
  have hown : s.vm.findClass RX6 = some m.cls := hown
  have hl : lv_has ls 2 [(0, .ref (b 0))] := hl
  refine lv_aload_n hx hb dX6_tear_0 rfl (lv_at hl 0 rfl) ?_
  refine n_get (C := RX6) (T := TX6) (N := 18) hx hb hts (fun _ h => List.mem_cons_of_mem _ (List.mem_append_right _ h)) hown hK hP 0 rfl rfl 3 (by decide) (List.mem_of_getElem? (i := 1) rfl) rfl (.int (nI (ζ 0))) rfl dX6_tear_1 ?_
  refine n_if_eq hx hb (by omega) (tgt := 11) dX6_tear_4 (by decide) (fun c_1 => ?_) (fun c_1 => ?_)
  · refine lv_iconst (v := nI 0) hx hb dX6_tear_11 rfl ?_
    refine lv_istore_n (lv' := [(1, .int (nI 0)), (0, .ref (b 0))]) hx hb dX6_tear_12 rfl hl (by decide) rfl (fun ls hl => ?_)
    refine lv_aload_n hx hb dX6_tear_13 rfl (lv_at hl 1 rfl) ?_
    refine lv_iconst (v := nI 0) hx hb dX6_tear_14 rfl ?_
    refine n_put (C := RX6) (T := TX6) (N := 18) hx hb hts (fun _ h => List.mem_cons_of_mem _ (List.mem_append_right _ h)) tyX6 tyX6_ok nmX6 hown hK hP hD hS 0 rfl rfl 3 (by decide) (List.mem_of_getElem? (i := 1) rfl) rfl rfl (ty := .boolean) (v := .int (nI 0)) rfl (by decide) (by decide) (Nat.le_of_ble_eq_true rfl) (wn := [mO b (un ζ 0 0) vv]) rfl dX6_tear_15 (fun H locs hP hD hS => ?_)
    refine lv_iload_n hx hb dX6_tear_18 rfl (lv_at hl 0 rfl) ?_
    exact fin_i hx hb hr hlk hS hP hD () trivial (congrArg nI (by omega)) (eqW.rf _) dX6_tear_19
  · refine lv_iconst (v := nI 1) hx hb dX6_tear_7 rfl ?_
    refine lv_goto (tgt := 12) hx hb dX6_tear_8 (by decide) ?_
    refine lv_istore_n (lv' := [(1, .int (nI 1)), (0, .ref (b 0))]) hx hb dX6_tear_12 rfl hl (by decide) rfl (fun ls hl => ?_)
    refine lv_aload_n hx hb dX6_tear_13 rfl (lv_at hl 1 rfl) ?_
    refine lv_iconst (v := nI 0) hx hb dX6_tear_14 rfl ?_
    refine n_put (C := RX6) (T := TX6) (N := 18) hx hb hts (fun _ h => List.mem_cons_of_mem _ (List.mem_append_right _ h)) tyX6 tyX6_ok nmX6 hown hK hP hD hS 0 rfl rfl 3 (by decide) (List.mem_of_getElem? (i := 1) rfl) rfl rfl (ty := .boolean) (v := .int (nI 0)) rfl (by decide) (by decide) (Nat.le_of_ble_eq_true rfl) (wn := [mO b (un ζ 0 0) vv]) rfl dX6_tear_15 (fun H locs hP hD hS => ?_)
    refine lv_iload_n hx hb dX6_tear_18 rfl (lv_at hl 0 rfl) ?_
    exact fin_i hx hb hr hlk hS hP hD () trivial (congrArg nI (by omega)) (eqW.rf _) dX6_tear_19
set_option maxHeartbeats 400000 in
set_option maxRecDepth 100000 in
theorem c_X5_count (l : Launch) (G : GT) (sz : Nat) (x hm kp tr : Nat → Nat) (hi : Nat) (tl : Nat → Int32) (σ : Sg) (ln : Nat) (a0 : Int32) (hI : Inv σ) : MI (S := Unit) l G noX yX5_count wsX5_count ({ frames := 2, cells := 0, slots := 0, locals := 43 } : Room) [.ref (x 0), .int a0] (([xO x hm kp tr hi, (x 7, .inl (G.2.1, 7, .inl tl))] ++ (wH G hm σ ++ ([(x 1, .inr (3, [.ref (x 2), .int (nI ln)]))])))) sz (fun _ => True) (fun _ => rs (count_e a0.toInt) (nI (count_v σ ln a0.toInt.toNat))) (fun _ => ([xO x hm kp tr hi, (x 7, .inl (G.2.1, 7, .inl (ts tl (count_e a0.toInt))))] ++ (wH G hm σ ++ ([(x 1, .inr (3, [.ref (x 2), .int (nI ln)]))])))) := by
  refine MI_enter (cc := cX5_count) (maxL := 2) (ret := (some .int)) (by decide) rfl (Nat.le_of_ble_eq_true rfl) ?_
  intro p e s m below meth c A ls H hx hb hr hlk hml hown hts hAq hS hP hK hD hX hl hnm
  have hown : s.vm.findClass RX5 = some m.cls := hown
  have hl : lv_has ls 2 [(0, .ref (x 0)), (1, .int a0)] := hl
  obtain ⟨⟨i1, i2, i3, i4, i5⟩, ip⟩ := id hI
  refine lv_iload_n hx hb dX5_count_0 rfl (lv_at hl 1 rfl) ?_
  by_cases hsr : (0 : Int) ≤ a0.toInt ∧ a0.toInt ≤ 3
  · obtain ⟨w0, hw0, rfl⟩ := nI_of_rg (n := 3) (x := a0) ⟨by omega, by omega⟩
    have hTw0 := nI_T (a := w0) (by omega)
    rcases (show w0 = 0 ∨ w0 = 1 ∨ w0 = 2 ∨ w0 = 3 by omega) with rfl | rfl | rfl | rfl
    · refine n_tableIn (a := 0) rfl hx hb (off := 31) (tgt := 32) dX5_count_1 (by decide) (by decide) (by decide) (by decide) ?_
      refine lv_aload_n hx hb dX5_count_32 rfl (lv_at hl 0 rfl) ?_
      refine n_get (C := RX5) (T := TX5) (N := 7) hx hb hts (fun _ h => List.mem_cons_of_mem _ (List.mem_append_left _ (List.mem_append_left _ (List.mem_append_right _ h)))) hown hK hP 0 rfl rfl 0 (by decide) (List.mem_of_getElem? (i := 1) rfl) rfl (.ref (hm 0)) rfl dX5_count_33 ?_
      refine n_get (C := RX0) (T := TX0) (N := 11) hx hb hts (fun _ h => List.mem_cons_of_mem _ (List.mem_append_left _ (List.mem_append_right _ h))) hown hK hP 2 rfl rfl 5 (by decide) (List.mem_of_getElem? (i := 2) rfl) rfl (.int (nI (σ 5))) rfl dX5_count_36 ?_
      have he : count_e (nI 0).toInt = 7 := by unfold count_e; (try simp only [hTw0, Int.toNat_natCast]); (repeat' split) <;> omega
      exact fin_i hx hb hr hlk hS hP hD () trivial (by rw [he]; (try simp only [hTw0, Int.toNat_natCast]); show nI _ = nI (count_v _ _ _); refine congrArg nI ?_; unfold count_v; (repeat' split) <;> first | rfl | omega) (by rw [he]; (try simp only [hTw0, Int.toNat_natCast]); exact eqW.rf _) dX5_count_39
    · refine n_tableIn (a := 1) rfl hx hb (off := 39) (tgt := 40) dX5_count_1 (by decide) (by decide) (by decide) (by decide) ?_
      refine lv_aload_n hx hb dX5_count_40 rfl (lv_at hl 0 rfl) ?_
      refine n_get (C := RX5) (T := TX5) (N := 7) hx hb hts (fun _ h => List.mem_cons_of_mem _ (List.mem_append_left _ (List.mem_append_left _ (List.mem_append_right _ h)))) hown hK hP 0 rfl rfl 3 (by decide) (List.mem_of_getElem? (i := 3) rfl) rfl (.ref (x 1)) rfl dX5_count_41 ?_
      refine n_get (C := RX4) (T := TX4) (N := 2) hx hb hts (fun _ h => List.mem_cons_of_mem _ (List.mem_append_right _ h)) hown hK hP 8 rfl rfl 1 (by decide) (List.mem_of_getElem? (i := 4) rfl) rfl (.int (nI ln)) rfl dX5_count_44 ?_
      have he : count_e (nI 1).toInt = 7 := by unfold count_e; (try simp only [hTw0, Int.toNat_natCast]); (repeat' split) <;> omega
      exact fin_i hx hb hr hlk hS hP hD () trivial (by rw [he]; (try simp only [hTw0, Int.toNat_natCast]); show nI _ = nI (count_v _ _ _); refine congrArg nI ?_; unfold count_v; (repeat' split) <;> first | rfl | omega) (by rw [he]; (try simp only [hTw0, Int.toNat_natCast]); exact eqW.rf _) dX5_count_47
    · refine n_tableIn (a := 2) rfl hx hb (off := 47) (tgt := 48) dX5_count_1 (by decide) (by decide) (by decide) (by decide) ?_
      refine lv_aload_n hx hb dX5_count_48 rfl (lv_at hl 0 rfl) ?_
      refine n_get (C := RX5) (T := TX5) (N := 7) hx hb hts (fun _ h => List.mem_cons_of_mem _ (List.mem_append_left _ (List.mem_append_left _ (List.mem_append_right _ h)))) hown hK hP 0 rfl rfl 0 (by decide) (List.mem_of_getElem? (i := 1) rfl) rfl (.ref (hm 0)) rfl dX5_count_49 ?_
      refine callVI (rest := []) (wn := fun u => ([xO x hm kp tr hi, (x 7, .inl (G.2.1, 7, .inl tl))] ++ (wH G hm σ ++ ([(x 1, .inr (3, [.ref (x 2), .int (nI ln)]))])))) ⟨hx, hb, hml, hown, hts⟩ (c_X0_watchedSet l G H.size hm σ hI) (cwV 0 hts gX5_count_X0_watchedSet rfl rfl rfl (by decide +kernel) ⟨Nat.le_of_ble_eq_true rfl, Nat.le_of_ble_eq_true rfl⟩) noXB (fun _ _ _ => trivial) hK hP hD hS hAq 0 0 (T := TX0) (N := 11) rfl rfl rfl hl.1 rfl (Nat.le_of_ble_eq_true rfl) dX5_count_52 ⟨Nat.le_of_ble_eq_true rfl, Nat.le_of_ble_eq_true rfl⟩ [2, 3, 4, 5, 6, 7] rfl rfl [hm 0, hm 1, hm 2, hm 3, hm 4, hm 5] rfl (fun _ => rfl) (fun _ => rfl) (fun u H locs hok hP hD hS => ?_)
      have hlt := set_lt σ (σ 5) i5
      refine callSI (rest := []) (wn := fun u => ([xO x hm kp tr hi, (x 7, .inl (G.2.1, 7, .inl tl))] ++ (wH G hm σ ++ ([(x 1, .inr (3, [.ref (x 2), .int (nI ln)]))])))) ⟨hx, hb, hml, hown, hts⟩ (c_J6_bitCount_0f7a4 l G H.size (setN σ (σ 5)) (by omega)) (va_cwS 1 hts gX5_count_J6_bitCount_0f7a4 rfl rfl rfl (by decide +kernel) ⟨Nat.le_of_ble_eq_true rfl, Nat.le_of_ble_eq_true rfl⟩) noXB (fun _ _ _ => trivial) hK hP hD hS hAq rfl hl.1 rfl (Nat.le_of_ble_eq_true rfl) dX5_count_55 ⟨Nat.le_of_ble_eq_true rfl, Nat.le_of_ble_eq_true rfl⟩ [] rfl rfl [] rfl (fun _ => rfl) (fun _ => rfl) (fun u H locs hok hP hD hS => ?_)
      have he : count_e (nI 2).toInt = 7 := by unfold count_e; (try simp only [hTw0, Int.toNat_natCast]); (repeat' split) <;> omega
      exact fin_i hx hb hr hlk hS hP hD () trivial (by rw [he]; (try simp only [hTw0, Int.toNat_natCast]); show nI _ = nI (count_v _ _ _); refine congrArg nI ?_; unfold count_v; (repeat' split) <;> first | rfl | omega) (by rw [he]; (try simp only [hTw0, Int.toNat_natCast]); exact eqW.rf _) dX5_count_58
    · refine n_tableIn (a := 3) rfl hx hb (off := 58) (tgt := 59) dX5_count_1 (by decide) (by decide) (by decide) (by decide) ?_
      refine lv_aload_n hx hb dX5_count_59 rfl (lv_at hl 0 rfl) ?_
      refine n_get (C := RX5) (T := TX5) (N := 7) hx hb hts (fun _ h => List.mem_cons_of_mem _ (List.mem_append_left _ (List.mem_append_left _ (List.mem_append_right _ h)))) hown hK hP 0 rfl rfl 0 (by decide) (List.mem_of_getElem? (i := 1) rfl) rfl (.ref (hm 0)) rfl dX5_count_60 ?_
      refine callVI (rest := []) (wn := fun u => ([xO x hm kp tr hi, (x 7, .inl (G.2.1, 7, .inl tl))] ++ (wH G hm σ ++ ([(x 1, .inr (3, [.ref (x 2), .int (nI ln)]))])))) ⟨hx, hb, hml, hown, hts⟩ (c_X0_reasonsTogether l G H.size hm σ hI) (cwV 0 hts gX5_count_X0_reasonsTogether rfl rfl rfl (by decide +kernel) ⟨Nat.le_of_ble_eq_true rfl, Nat.le_of_ble_eq_true rfl⟩) noXB (fun _ _ _ => trivial) hK hP hD hS hAq 0 0 (T := TX0) (N := 11) rfl rfl rfl hl.1 rfl (Nat.le_of_ble_eq_true rfl) dX5_count_63 ⟨Nat.le_of_ble_eq_true rfl, Nat.le_of_ble_eq_true rfl⟩ [2, 3, 4, 5, 6, 7] rfl rfl [hm 0, hm 1, hm 2, hm 3, hm 4, hm 5] rfl (fun _ => rfl) (fun _ => rfl) (fun u H locs hok hP hD hS => ?_)
      have he : count_e (nI 3).toInt = 7 := by unfold count_e; (try simp only [hTw0, Int.toNat_natCast]); (repeat' split) <;> omega
      exact fin_i hx hb hr hlk hS hP hD () trivial (by rw [he]; (try simp only [hTw0, Int.toNat_natCast]); show nI _ = nI (count_v _ _ _); refine congrArg nI ?_; unfold count_v; (repeat' split) <;> first | rfl | omega) (by rw [he]; (try simp only [hTw0, Int.toNat_natCast]); exact eqW.rf _) dX5_count_66
  · refine lv_tableOut hx hb (tgt := 67) dX5_count_1 (by omega) (by decide) ?_
    refine lv_aload_n hx hb dX5_count_67 rfl (lv_at hl 0 rfl) ?_
    refine lv_iconst (v := nI 0) hx hb dX5_count_68 rfl ?_
    refine callVI (rest := []) (wn := fun u => ([xO x hm kp tr hi, (x 7, .inl (G.2.1, 7, .inl (tk tl 0)))] ++ (wH G hm σ ++ ([(x 1, .inr (3, [.ref (x 2), .int (nI ln)]))])))) ⟨hx, hb, hml, hown, hts⟩ (c_X5_tell l G H.size x hm kp tr hi tl 0 (by omega)) (cwV 1 hts gX5_count_X5_tell rfl rfl rfl (by decide +kernel) ⟨Nat.le_of_ble_eq_true rfl, Nat.le_of_ble_eq_true rfl⟩) noXB (fun _ _ _ => trivial) hK hP hD hS hAq 4 0 (T := TX5) (N := 7) rfl rfl rfl hl.1 rfl (Nat.le_of_ble_eq_true rfl) dX5_count_69 ⟨Nat.le_of_ble_eq_true rfl, Nat.le_of_ble_eq_true rfl⟩ [0, 1] rfl rfl [x 0, x 7] rfl (fun _ => rfl) (fun _ => rfl) (fun u H locs hok hP hD hS => ?_)
    have he : count_e a0.toInt = 0 := by unfold count_e; (try simp only [Int.toNat_natCast]); (repeat' split) <;> omega
    exact fin_i hx hb hr hlk hS hP hD () trivial (by rw [he]; first | done | ((try simp only [Int.toNat_natCast]); first | done | rfl)) (by rw [he]; (try simp only [Int.toNat_natCast]); exact eqW.rf _) dX5_count_72
set_option maxHeartbeats 400000 in
set_option maxRecDepth 100000 in
theorem c_X6_count (l : Launch) (G : GT) (sz : Nat) (b : Nat → Nat) (ζ : Nat → Nat) (vv : Int64) (tl : Nat → Int32) (σ : Sg) (a0 : Int32) (hI : Inv σ) : MI (S := Unit) l G noX yX6_count wsX6_count ({ frames := 2, cells := 0, slots := 0, locals := 45 } : Room) [.ref (b 0), .int a0] ([mO b ζ vv, (b 4, .inl (G.2.1, 7, .inl tl)), (b 1, .inl (G.2.1, 46, .inl (nF σ)))]) sz (fun _ => True) (fun _ => rs (count_e a0.toInt) (nI (count_v σ (ζ 1) a0.toInt.toNat))) (fun _ => [mO b ζ vv, (b 4, .inl (G.2.1, 7, .inl (ts tl (count_e a0.toInt)))), (b 1, .inl (G.2.1, 46, .inl (nF σ)))]) := by
  refine MI_enter (cc := cX6_count) (maxL := 2) (ret := (some .int)) (by decide) rfl (Nat.le_of_ble_eq_true rfl) ?_
  intro p e s m below meth c A ls H hx hb hr hlk hml hown hts hAq hS hP hK hD hX hl hnm
  have hown : s.vm.findClass RX6 = some m.cls := hown
  have hl : lv_has ls 2 [(0, .ref (b 0)), (1, .int a0)] := hl
  obtain ⟨⟨i1, i2, i3, i4, i5⟩, ip⟩ := id hI
  refine lv_iload_n hx hb dX6_count_0 rfl (lv_at hl 1 rfl) ?_
  by_cases hsr : (0 : Int) ≤ a0.toInt ∧ a0.toInt ≤ 3
  · obtain ⟨w0, hw0, rfl⟩ := nI_of_rg (n := 3) (x := a0) ⟨by omega, by omega⟩
    have hTw0 := nI_T (a := w0) (by omega)
    rcases (show w0 = 0 ∨ w0 = 1 ∨ w0 = 2 ∨ w0 = 3 by omega) with rfl | rfl | rfl | rfl
    · refine n_tableIn (a := 0) rfl hx hb (off := 31) (tgt := 32) dX6_count_1 (by decide) (by decide) (by decide) (by decide) ?_
      refine lv_aload_n hx hb dX6_count_32 rfl (lv_at hl 0 rfl) ?_
      refine n_get (C := RX6) (T := TX6) (N := 18) hx hb hts (fun _ h => List.mem_cons_of_mem _ (List.mem_append_right _ h)) hown hK hP 0 rfl rfl 0 (by decide) (List.mem_of_getElem? (i := 1) rfl) rfl (.ref (b 1)) rfl dX6_count_33 ?_
      refine lv_iconst (v := nI 5) hx hb dX6_count_36 rfl ?_
      refine n_iald hx hb hK hP 2 (v := (nI (σ 5))) rfl (by omega) (by omega) rfl dX6_count_37 ?_
      have he : count_e (nI 0).toInt = 7 := by unfold count_e; (try simp only [hTw0, Int.toNat_natCast]); (repeat' split) <;> omega
      exact fin_i hx hb hr hlk hS hP hD () trivial (by rw [he]; (try simp only [hTw0, Int.toNat_natCast]); show nI _ = nI (count_v _ _ _); refine congrArg nI ?_; unfold count_v; (repeat' split) <;> first | rfl | omega) (by rw [he]; (try simp only [hTw0, Int.toNat_natCast]); exact eqW.rf _) dX6_count_38
    · refine n_tableIn (a := 1) rfl hx hb (off := 38) (tgt := 39) dX6_count_1 (by decide) (by decide) (by decide) (by decide) ?_
      refine lv_aload_n hx hb dX6_count_39 rfl (lv_at hl 0 rfl) ?_
      refine n_get (C := RX6) (T := TX6) (N := 18) hx hb hts (fun _ h => List.mem_cons_of_mem _ (List.mem_append_right _ h)) hown hK hP 0 rfl rfl 6 (by decide) (List.mem_of_getElem? (i := 2) rfl) rfl (.int (nI (ζ 1))) rfl dX6_count_40 ?_
      have he : count_e (nI 1).toInt = 7 := by unfold count_e; (try simp only [hTw0, Int.toNat_natCast]); (repeat' split) <;> omega
      exact fin_i hx hb hr hlk hS hP hD () trivial (by rw [he]; (try simp only [hTw0, Int.toNat_natCast]); show nI _ = nI (count_v _ _ _); refine congrArg nI ?_; unfold count_v; (repeat' split) <;> first | rfl | omega) (by rw [he]; (try simp only [hTw0, Int.toNat_natCast]); exact eqW.rf _) dX6_count_43
    · refine n_tableIn (a := 2) rfl hx hb (off := 43) (tgt := 44) dX6_count_1 (by decide) (by decide) (by decide) (by decide) ?_
      refine lv_aload_n hx hb dX6_count_44 rfl (lv_at hl 0 rfl) ?_
      refine callVI (rest := []) (wn := fun u => [mO b ζ vv, (b 4, .inl (G.2.1, 7, .inl tl)), (b 1, .inl (G.2.1, 46, .inl (nF σ)))]) ⟨hx, hb, hml, hown, hts⟩ (c_X6_watchedOnes l G H.size b ζ vv σ hI) (cwV 0 hts gX6_count_X6_watchedOnes rfl rfl rfl (by decide +kernel) ⟨Nat.le_of_ble_eq_true rfl, Nat.le_of_ble_eq_true rfl⟩) noXB (fun _ _ _ => trivial) hK hP hD hS hAq 5 0 (T := TX6) (N := 18) rfl rfl rfl hl.1 rfl (Nat.le_of_ble_eq_true rfl) dX6_count_45 ⟨Nat.le_of_ble_eq_true rfl, Nat.le_of_ble_eq_true rfl⟩ [0, 2] rfl rfl [b 0, b 1] rfl (fun _ => rfl) (fun _ => rfl) (fun u H locs hok hP hD hS => ?_)
      have hlt := set_lt σ (σ 5) i5
      refine callSI (rest := []) (wn := fun u => [mO b ζ vv, (b 4, .inl (G.2.1, 7, .inl tl)), (b 1, .inl (G.2.1, 46, .inl (nF σ)))]) ⟨hx, hb, hml, hown, hts⟩ (c_X6_bits l G H.size (setN σ (σ 5)) (by omega)) (va_cwS 1 hts gX6_count_X6_bits rfl rfl rfl (by decide +kernel) ⟨Nat.le_of_ble_eq_true rfl, Nat.le_of_ble_eq_true rfl⟩) noXB (fun _ _ _ => trivial) hK hP hD hS hAq rfl hl.1 rfl (Nat.le_of_ble_eq_true rfl) dX6_count_48 ⟨Nat.le_of_ble_eq_true rfl, Nat.le_of_ble_eq_true rfl⟩ [] rfl rfl [] rfl (fun _ => rfl) (fun _ => rfl) (fun u H locs hok hP hD hS => ?_)
      have he : count_e (nI 2).toInt = 7 := by unfold count_e; (try simp only [hTw0, Int.toNat_natCast]); (repeat' split) <;> omega
      exact fin_i hx hb hr hlk hS hP hD () trivial (by rw [he]; (try simp only [hTw0, Int.toNat_natCast]); show nI _ = nI (count_v _ _ _); refine congrArg nI ?_; unfold count_v; (repeat' split) <;> first | rfl | omega) (by rw [he]; (try simp only [hTw0, Int.toNat_natCast]); exact eqW.rf _) dX6_count_51
    · refine n_tableIn (a := 3) rfl hx hb (off := 51) (tgt := 52) dX6_count_1 (by decide) (by decide) (by decide) (by decide) ?_
      refine lv_aload_n hx hb dX6_count_52 rfl (lv_at hl 0 rfl) ?_
      refine lv_iconst (v := nI 2) hx hb dX6_count_53 rfl ?_
      refine callVI (rest := []) (wn := fun u => [mO b ζ vv, (b 4, .inl (G.2.1, 7, .inl tl)), (b 1, .inl (G.2.1, 46, .inl (nF σ)))]) ⟨hx, hb, hml, hown, hts⟩ (c_X6_sumOf l G H.size b ζ vv σ 2 hI (by omega)) (cwV 1 hts gX6_count_X6_sumOf rfl rfl rfl (by decide +kernel) ⟨Nat.le_of_ble_eq_true rfl, Nat.le_of_ble_eq_true rfl⟩) noXB (fun _ _ _ => trivial) hK hP hD hS hAq 5 0 (T := TX6) (N := 18) rfl rfl rfl hl.1 rfl (Nat.le_of_ble_eq_true rfl) dX6_count_54 ⟨Nat.le_of_ble_eq_true rfl, Nat.le_of_ble_eq_true rfl⟩ [0, 2] rfl rfl [b 0, b 1] rfl (fun _ => rfl) (fun _ => rfl) (fun u H locs hok hP hD hS => ?_)
      have he : count_e (nI 3).toInt = 7 := by unfold count_e; (try simp only [hTw0, Int.toNat_natCast]); (repeat' split) <;> omega
      exact fin_i hx hb hr hlk hS hP hD () trivial (by rw [he]; (try simp only [hTw0, Int.toNat_natCast]); show nI _ = nI (count_v _ _ _); refine congrArg nI ?_; unfold count_v; (repeat' split) <;> first | rfl | omega) (by rw [he]; (try simp only [hTw0, Int.toNat_natCast]); exact eqW.rf _) dX6_count_57
  · refine lv_tableOut hx hb (tgt := 58) dX6_count_1 (by omega) (by decide) ?_
    refine lv_aload_n hx hb dX6_count_58 rfl (lv_at hl 0 rfl) ?_
    refine lv_iconst (v := nI 0) hx hb dX6_count_59 rfl ?_
    refine callVI (rest := []) (wn := fun u => [mO b ζ vv, (b 4, .inl (G.2.1, 7, .inl (tk tl 0))), (b 1, .inl (G.2.1, 46, .inl (nF σ)))]) ⟨hx, hb, hml, hown, hts⟩ (c_X6_no l G H.size b ζ vv tl 0 (by omega)) (cwV 1 hts gX6_count_X6_no rfl rfl rfl (by decide +kernel) ⟨Nat.le_of_ble_eq_true rfl, Nat.le_of_ble_eq_true rfl⟩) noXB (fun _ _ _ => trivial) hK hP hD hS hAq 5 0 (T := TX6) (N := 18) rfl rfl rfl hl.1 rfl (Nat.le_of_ble_eq_true rfl) dX6_count_60 ⟨Nat.le_of_ble_eq_true rfl, Nat.le_of_ble_eq_true rfl⟩ [0, 1] rfl rfl [b 0, b 4] rfl (fun _ => rfl) (fun _ => rfl) (fun u H locs hok hP hD hS => ?_)
    have he : count_e a0.toInt = 0 := by unfold count_e; (try simp only [Int.toNat_natCast]); (repeat' split) <;> omega
    exact fin_i hx hb hr hlk hS hP hD () trivial (by rw [he]; first | done | ((try simp only [Int.toNat_natCast]); first | done | rfl)) (by rw [he]; (try simp only [Int.toNat_natCast]); exact eqW.rf _) dX6_count_63
set_option maxHeartbeats 400000 in
set_option maxRecDepth 100000 in
theorem c_X5_toldTogether (l : Launch) (G : GT) (sz : Nat) (x hm kp tr : Nat → Nat) (hi : Nat) (tl : Nat → Int32) : MI (S := Unit) l G noX yX5_toldTogether wsX5_toldTogether ({ frames := 0, cells := 0, slots := 0, locals := 0 } : Room) [.ref (x 0)] ([xO x hm kp tr hi, (x 7, .inl (G.2.1, 7, .inl tl))]) sz (fun _ => True) (fun _ => stW tl (-1) 7) (fun _ => [xO x hm kp tr hi, (x 7, .inl (G.2.1, 7, .inl tl))]) := by
  refine MI_enter (cc := cX5_toldTogether) (maxL := 3) (ret := (some .int)) (by decide) rfl (Nat.le_of_ble_eq_true rfl) ?_
  intro p e s m below meth c A ls H hx hb hr hlk hml hown hts hAq hS hP hK hD hX hl hnm
  have hown : s.vm.findClass RX5 = some m.cls := hown
  have hl : lv_has ls 3 [(0, .ref (x 0))] := hl
  refine lv_iconst (v := nI 0) hx hb dX5_toldTogether_0 rfl ?_
  refine lv_istore_n (lv' := [(1, .int (nI 0)), (0, .ref (x 0))]) hx hb dX5_toldTogether_1 rfl hl (by decide) rfl (fun ls hl => ?_)
  refine lv_iconst (v := nI 0) hx hb dX5_toldTogether_2 rfl ?_
  refine lv_istore_n (lv' := [(2, .int (nI 0)), (1, .int (nI 0)), (0, .ref (x 0))]) hx hb dX5_toldTogether_3 rfl hl (by decide) rfl (fun ls hl => ?_)
  refine W_loop1 (I := fun (k : Nat) => k ≤ 7) (wd := fun (k : Nat) => [xO x hm kp tr hi, (x 7, .inl (G.2.1, 7, .inl tl))]) (lv := fun (k : Nat) => [(2, .int (nI k)), (1, .int (stW tl (-1) k)), (0, .ref (x 0))]) (μ := fun (k : Nat) => 7 - k) ?_ 0 (by omega) hP hD hS (lv_sub hl [0, 1, 2] rfl)
  intro k H locs ls hI0 hP hD hS hl ih
  have hk : k ≤ 7 := hI0
  refine lv_iload_n hx hb dX5_toldTogether_4 rfl (lv_at hl 0 rfl) ?_
  refine lv_bipush (v := nI 7) hx hb dX5_toldTogether_5 rfl ?_
  refine n_icmp_ge hx hb (by omega) (by omega) (tgt := 25) dX5_toldTogether_7 (by decide) (fun c_1 => ?_) (fun c_1 => ?_)
  · have hk5 : k = 7 := by omega
    subst hk5
    refine lv_iload_n hx hb dX5_toldTogether_25 rfl (lv_at hl 1 rfl) ?_
    exact fin_i hx hb hr hlk hS hP hD () trivial rfl (eqW.rf _) dX5_toldTogether_26
  · refine lv_iload_n hx hb dX5_toldTogether_10 rfl (lv_at hl 1 rfl) ?_
    refine lv_aload_n hx hb dX5_toldTogether_11 rfl (lv_at hl 2 rfl) ?_
    refine n_get (C := RX5) (T := TX5) (N := 7) hx hb hts (fun _ h => List.mem_cons_of_mem _ (List.mem_append_right _ h)) hown hK hP 0 rfl rfl 5 (by decide) (List.mem_of_getElem? (i := 1) rfl) rfl (.ref (x 7)) rfl dX5_toldTogether_12 ?_
    refine lv_iload_n hx hb dX5_toldTogether_15 rfl (lv_at hl 0 rfl) ?_
    refine n_iald hx hb hK hP 1 (v := (tl k)) rfl (by omega) (by omega) rfl dX5_toldTogether_16 ?_
    refine lv_iadd hx hb dX5_toldTogether_17 ?_
    refine lv_istore_n (lv' := [(1, .int ((stW tl (-1) k) + (tl k))), (2, .int (nI k)), (0, .ref (x 0))]) hx hb dX5_toldTogether_18 rfl hl (by decide) rfl (fun ls hl => ?_)
    refine n_iinc (lv' := [(2, .int (nI (k + 1))), (1, .int ((stW tl (-1) k) + (tl k))), (0, .ref (x 0))]) hx hb dX5_toldTogether_19 hl (k := 1) rfl (by decide) rfl (fun ls hl => ?_)
    refine lv_goto (tgt := 4) hx hb dX5_toldTogether_22 (by decide) ?_
    have e1 : stW tl (-1) (k + 1) = stW tl (-1) k + tl k := by rw [stW_S, if_pos (Or.inl rfl)]
    exact ih (k + 1) _ _ _ (by omega) (by omega) hP hD hS (by rw [e1]; exact (lv_sub hl [0, 1, 2] rfl))
set_option maxHeartbeats 400000 in
set_option maxRecDepth 100000 in
theorem c_X5_status (l : Launch) (G : GT) (sz : Nat) (x hm kp tr : Nat → Nat) (hi : Nat) (tl : Nat → Int32) (a0 : Int32)  : MI (S := Unit) l G noX yX5_status wsX5_status ({ frames := 2, cells := 0, slots := 0, locals := 43 } : Room) [.ref (x 0), .int a0] ([xO x hm kp tr hi, (x 7, .inl (G.2.1, 7, .inl tl))]) sz (fun _ => True) (fun _ => rs (status_e a0.toInt) (stW tl a0.toInt 7)) (fun _ => [xO x hm kp tr hi, (x 7, .inl (G.2.1, 7, .inl (ts tl (status_e a0.toInt))))]) := by
  refine MI_enter (cc := cX5_status) (maxL := 2) (ret := (some .int)) (by decide) rfl (Nat.le_of_ble_eq_true rfl) ?_
  intro p e s m below meth c A ls H hx hb hr hlk hml hown hts hAq hS hP hK hD hX hl hnm
  have hown : s.vm.findClass RX5 = some m.cls := hown
  have hl : lv_has ls 2 [(0, .ref (x 0)), (1, .int a0)] := hl
  refine lv_iload_n hx hb dX5_status_0 rfl (lv_at hl 1 rfl) ?_
  refine lv_iconst (v := (-1)) hx hb dX5_status_1 rfl ?_
  have hm1 : ((-1) : Int32).toInt = -1 := by decide
  refine r_icmp_ne hx hb (tgt := 10) dX5_status_2 (by decide) (fun c_1 => ?_) (fun c_1 => ?_)
  · rw [hm1] at c_1
    refine lv_iload_n hx hb dX5_status_10 rfl (lv_at hl 1 rfl) ?_
    refine r_if_lt hx hb (tgt := 20) dX5_status_11 (by decide) (fun c_2 => ?_) (fun c_2 => ?_)
    · refine lv_aload_n hx hb dX5_status_20 rfl (lv_at hl 0 rfl) ?_
      refine lv_iconst (v := nI 0) hx hb dX5_status_21 rfl ?_
      refine callVI (rest := []) (wn := fun u => [xO x hm kp tr hi, (x 7, .inl (G.2.1, 7, .inl (tk tl 0)))]) ⟨hx, hb, hml, hown, hts⟩ (c_X5_tell l G H.size x hm kp tr hi tl 0 (by omega)) (cwV 1 hts gX5_status_X5_tell rfl rfl rfl (by decide +kernel) ⟨Nat.le_of_ble_eq_true rfl, Nat.le_of_ble_eq_true rfl⟩) noXB (fun _ _ _ => trivial) hK hP hD hS hAq 4 0 (T := TX5) (N := 7) rfl rfl rfl hl.1 rfl (Nat.le_of_ble_eq_true rfl) dX5_status_22 ⟨Nat.le_of_ble_eq_true rfl, Nat.le_of_ble_eq_true rfl⟩ [0, 1] rfl rfl [x 0, x 7] rfl (fun _ => rfl) (fun _ => rfl) (fun u H locs hok hP hD hS => ?_)
      have he : status_e a0.toInt = 0 := by unfold status_e; (try simp only [Int.toNat_natCast]); (repeat' split) <;> omega
      exact fin_i hx hb hr hlk hS hP hD () trivial (by rw [he]; first | done | ((try simp only [Int.toNat_natCast]); first | done | rfl)) (by rw [he]; (try simp only [Int.toNat_natCast]); exact eqW.rf _) dX5_status_25
    · refine lv_iload_n hx hb dX5_status_14 rfl (lv_at hl 1 rfl) ?_
      refine lv_bipush (v := nI 7) hx hb dX5_status_15 rfl ?_
      refine r_icmp_lt hx hb (tgt := 26) dX5_status_17 (by decide) (fun c_3 => ?_) (fun c_3 => ?_)
      · rw [nI_T (by omega)] at c_3
        obtain ⟨w0, hw0, rfl⟩ := nI_of_rg (n := 6) (x := a0) ⟨by omega, by omega⟩
        have hT0 := nI_T (a := w0) (by omega)
        refine lv_aload_n hx hb dX5_status_26 rfl (lv_at hl 0 rfl) ?_
        refine n_get (C := RX5) (T := TX5) (N := 7) hx hb hts (fun _ h => List.mem_cons_of_mem _ (List.mem_append_right _ h)) hown hK hP 0 rfl rfl 5 (by decide) (List.mem_of_getElem? (i := 1) rfl) rfl (.ref (x 7)) rfl dX5_status_27 ?_
        refine lv_iload_n hx hb dX5_status_30 rfl (lv_at hl 1 rfl) ?_
        refine n_iald hx hb hK hP 1 (v := (tl w0)) rfl (by omega) (by omega) rfl dX5_status_31 ?_
        have he : status_e (nI w0).toInt = 7 := by unfold status_e; (try simp only [hT0, Int.toNat_natCast]); (repeat' split) <;> omega
        exact fin_i hx hb hr hlk hS hP hD () trivial (by rw [he]; (try simp only [hT0, Int.toNat_natCast]); exact (stW_one tl (by omega)).symm) (by rw [he]; (try simp only [hT0, Int.toNat_natCast]); exact eqW.rf _) dX5_status_32
      · rw [nI_T (by omega)] at c_3
        refine lv_aload_n hx hb dX5_status_20 rfl (lv_at hl 0 rfl) ?_
        refine lv_iconst (v := nI 0) hx hb dX5_status_21 rfl ?_
        refine callVI (rest := []) (wn := fun u => [xO x hm kp tr hi, (x 7, .inl (G.2.1, 7, .inl (tk tl 0)))]) ⟨hx, hb, hml, hown, hts⟩ (c_X5_tell l G H.size x hm kp tr hi tl 0 (by omega)) (cwV 1 hts gX5_status_X5_tell rfl rfl rfl (by decide +kernel) ⟨Nat.le_of_ble_eq_true rfl, Nat.le_of_ble_eq_true rfl⟩) noXB (fun _ _ _ => trivial) hK hP hD hS hAq 4 0 (T := TX5) (N := 7) rfl rfl rfl hl.1 rfl (Nat.le_of_ble_eq_true rfl) dX5_status_22 ⟨Nat.le_of_ble_eq_true rfl, Nat.le_of_ble_eq_true rfl⟩ [0, 1] rfl rfl [x 0, x 7] rfl (fun _ => rfl) (fun _ => rfl) (fun u H locs hok hP hD hS => ?_)
        have he : status_e a0.toInt = 0 := by unfold status_e; (try simp only [Int.toNat_natCast]); (repeat' split) <;> omega
        exact fin_i hx hb hr hlk hS hP hD () trivial (by rw [he]; first | done | ((try simp only [Int.toNat_natCast]); first | done | rfl)) (by rw [he]; (try simp only [Int.toNat_natCast]); exact eqW.rf _) dX5_status_25
  · rw [hm1] at c_1
    refine lv_aload_n hx hb dX5_status_5 rfl (lv_at hl 0 rfl) ?_
    refine callVI (rest := []) (wn := fun u => [xO x hm kp tr hi, (x 7, .inl (G.2.1, 7, .inl tl))]) ⟨hx, hb, hml, hown, hts⟩ (c_X5_toldTogether l G H.size x hm kp tr hi tl) (cwV 0 hts gX5_status_X5_toldTogether rfl rfl rfl (by decide +kernel) ⟨Nat.le_of_ble_eq_true rfl, Nat.le_of_ble_eq_true rfl⟩) noXB (fun _ _ _ => trivial) hK hP hD hS hAq 4 0 (T := TX5) (N := 7) rfl rfl rfl hl.1 rfl (Nat.le_of_ble_eq_true rfl) dX5_status_6 ⟨Nat.le_of_ble_eq_true rfl, Nat.le_of_ble_eq_true rfl⟩ [0, 1] rfl rfl [x 0, x 7] rfl (fun _ => rfl) (fun _ => rfl) (fun u H locs hok hP hD hS => ?_)
    have he : status_e a0.toInt = 7 := by unfold status_e; (try simp only [Int.toNat_natCast]); (repeat' split) <;> omega
    exact fin_i hx hb hr hlk hS hP hD () trivial (by rw [he, c_1]; rfl) (by rw [he]; (try simp only [Int.toNat_natCast]); exact eqW.rf _) dX5_status_9
set_option maxHeartbeats 400000 in
set_option maxRecDepth 100000 in
theorem c_X6_status (l : Launch) (G : GT) (sz : Nat) (b : Nat → Nat) (ζ : Nat → Nat) (vv : Int64) (tl : Nat → Int32) (a0 : Int32)  : MI (S := Unit) l G noX yX6_status wsX6_status ({ frames := 1, cells := 0, slots := 0, locals := 22 } : Room) [.ref (b 0), .int a0] ([mO b ζ vv, (b 4, .inl (G.2.1, 7, .inl tl))]) sz (fun _ => True) (fun _ => rs (status_e a0.toInt) (stW tl a0.toInt 7)) (fun _ => [mO b ζ vv, (b 4, .inl (G.2.1, 7, .inl (ts tl (status_e a0.toInt))))]) := by
  refine MI_enter (cc := cX6_status) (maxL := 4) (ret := (some .int)) (by decide) rfl (Nat.le_of_ble_eq_true rfl) ?_
  intro p e s m below meth c A ls H hx hb hr hlk hml hown hts hAq hS hP hK hD hX hl hnm
  have hown : s.vm.findClass RX6 = some m.cls := hown
  have hl : lv_has ls 4 [(0, .ref (b 0)), (1, .int a0)] := hl
  refine lv_iload_n hx hb dX6_status_0 rfl (lv_at hl 1 rfl) ?_
  refine lv_iconst (v := (-1)) hx hb dX6_status_1 rfl ?_
  refine lv_bipush (v := nI 6) hx hb dX6_status_2 rfl ?_
  refine callSI (rest := []) (wn := fun u => [mO b ζ vv, (b 4, .inl (G.2.1, 7, .inl tl))]) ⟨hx, hb, hml, hown, hts⟩ (c_X6_in1 l G H.size a0 (-1) (nI 6)) (va_cwS 3 hts gX6_status_X6_in1 rfl rfl rfl (by decide +kernel) ⟨Nat.le_of_ble_eq_true rfl, Nat.le_of_ble_eq_true rfl⟩) noXB (fun _ _ _ => trivial) hK hP hD hS hAq rfl hl.1 rfl (Nat.le_of_ble_eq_true rfl) dX6_status_4 ⟨Nat.le_of_ble_eq_true rfl, Nat.le_of_ble_eq_true rfl⟩ [] rfl rfl [] rfl (fun _ => rfl) (fun _ => rfl) (fun u H locs hok hP hD hS => ?_)
  refine n_top (y := zI (((-1) : Int) ≤ a0.toInt ∧ a0.toInt ≤ 6)) (zI_c (by rw [(show ((-1) : Int32).toInt = -1 by decide), nI_T (show 6 < 2147483648 by decide)]; exact Iff.rfl)) ?_
  refine z_if_ne hx hb (tgt := 16) dX6_status_7 (by decide) (fun c_1 => ?_) (fun c_1 => ?_)
  · refine lv_iconst (v := nI 0) hx hb dX6_status_16 rfl ?_
    refine lv_istore_n (lv' := [(2, .int (nI 0)), (0, .ref (b 0)), (1, .int a0)]) hx hb dX6_status_17 rfl hl (by decide) rfl (fun ls hl => ?_)
    have hm1 : ((-1) : Int32).toInt = -1 := by decide
    obtain ⟨W, hW⟩ : ∃ W, W = a0.toInt := ⟨_, rfl⟩
    refine lv_iconst (v := nI 0) hx hb dX6_status_18 rfl ?_
    refine lv_istore_n (lv' := [(3, .int (nI 0)), (2, .int (nI 0)), (0, .ref (b 0)), (1, .int a0)]) hx hb dX6_status_19 rfl hl (by decide) rfl (fun ls hl => ?_)
    refine W_loop1 (I := fun (k : Nat) => k ≤ 7) (wd := fun (k : Nat) => [mO b ζ vv, (b 4, .inl (G.2.1, 7, .inl tl))]) (lv := fun (k : Nat) => [(3, .int (nI k)), (2, .int (stW tl W k)), (0, .ref (b 0)), (1, .int a0)]) (μ := fun (k : Nat) => 7 - k) ?_ 0 (by omega) hP hD hS (lv_sub hl [0, 1, 2, 3] rfl)
    intro k H locs ls hI0 hP hD hS hl ih
    have hk : k ≤ 7 := hI0
    refine lv_iload_n hx hb dX6_status_20 rfl (lv_at hl 0 rfl) ?_
    refine lv_bipush (v := nI 7) hx hb dX6_status_21 rfl ?_
    refine n_icmp_ge hx hb (by omega) (by omega) (tgt := 55) dX6_status_23 (by decide) (fun c_2 => ?_) (fun c_2 => ?_)
    · have hk5 : k = 7 := by omega
      subst hk5
      refine lv_iload_n hx hb dX6_status_55 rfl (lv_at hl 1 rfl) ?_
      have he : status_e a0.toInt = 7 := by unfold status_e; (try simp only [Int.toNat_natCast]); (repeat' split) <;> omega
      exact fin_i hx hb hr hlk hS hP hD () trivial (by rw [he, hW]; rfl) (by rw [he]; (try simp only [Int.toNat_natCast]); exact eqW.rf _) dX6_status_56
    · refine lv_iload_n hx hb dX6_status_26 rfl (lv_at hl 1 rfl) ?_
      refine lv_iload_n hx hb dX6_status_27 rfl (lv_at hl 3 rfl) ?_
      refine lv_iconst (v := (-1)) hx hb dX6_status_28 rfl ?_
      refine r_icmp_eq hx hb (tgt := 37) dX6_status_29 (by decide) (fun c_3 => ?_) (fun c_3 => ?_)
      · rw [hm1] at c_3
        refine lv_aload_n hx hb dX6_status_37 rfl (lv_at hl 2 rfl) ?_
        refine n_get (C := RX6) (T := TX6) (N := 18) hx hb hts (fun _ h => List.mem_cons_of_mem _ (List.mem_append_right _ h)) hown hK hP 0 rfl rfl 4 (by decide) (List.mem_of_getElem? (i := 1) rfl) rfl (.ref (b 4)) rfl dX6_status_38 ?_
        refine lv_iload_n hx hb dX6_status_41 rfl (lv_at hl 0 rfl) ?_
        refine n_iald hx hb hK hP 1 (v := (tl k)) rfl (by omega) (by omega) rfl dX6_status_42 ?_
        refine lv_goto (tgt := 47) hx hb dX6_status_43 (by decide) ?_
        refine lv_iadd hx hb dX6_status_47 ?_
        refine lv_istore_n (lv' := [(2, .int ((stW tl W k) + (tl k))), (3, .int (nI k)), (0, .ref (b 0)), (1, .int a0)]) hx hb dX6_status_48 rfl hl (by decide) rfl (fun ls hl => ?_)
        refine n_iinc (lv' := [(3, .int (nI (k + 1))), (2, .int ((stW tl W k) + (tl k))), (0, .ref (b 0)), (1, .int a0)]) hx hb dX6_status_49 hl (k := 1) rfl (by decide) rfl (fun ls hl => ?_)
        refine lv_goto (tgt := 20) hx hb dX6_status_52 (by decide) ?_
        have e1 : stW tl W (k + 1) = (stW tl W k) + (tl k) := by rw [stW_S]; first | (rw [if_pos (by omega)]) | (rw [if_neg (by omega)])
        exact ih (k + 1) _ _ _ (by omega) (by omega) hP hD hS (by rw [e1]; exact (lv_sub hl [0, 1, 2, 3] rfl))
      · rw [hm1] at c_3
        refine lv_iload_n hx hb dX6_status_32 rfl (lv_at hl 3 rfl) ?_
        refine lv_iload_n hx hb dX6_status_33 rfl (lv_at hl 0 rfl) ?_
        refine r_icmp_ne hx hb (tgt := 46) dX6_status_34 (by decide) (fun c_4 => ?_) (fun c_4 => ?_)
        · rw [nI_T (by omega)] at c_4
          refine lv_iconst (v := nI 0) hx hb dX6_status_46 rfl ?_
          refine lv_iadd hx hb dX6_status_47 ?_
          refine lv_istore_n (lv' := [(2, .int ((stW tl W k) + (nI 0))), (3, .int (nI k)), (0, .ref (b 0)), (1, .int a0)]) hx hb dX6_status_48 rfl hl (by decide) rfl (fun ls hl => ?_)
          refine n_iinc (lv' := [(3, .int (nI (k + 1))), (2, .int ((stW tl W k) + (nI 0))), (0, .ref (b 0)), (1, .int a0)]) hx hb dX6_status_49 hl (k := 1) rfl (by decide) rfl (fun ls hl => ?_)
          refine lv_goto (tgt := 20) hx hb dX6_status_52 (by decide) ?_
          have e1 : stW tl W (k + 1) = (stW tl W k) + (nI 0) := by rw [stW_S]; first | (rw [if_pos (by omega)]) | (rw [if_neg (by omega)])
          exact ih (k + 1) _ _ _ (by omega) (by omega) hP hD hS (by rw [e1]; exact (lv_sub hl [0, 1, 2, 3] rfl))
        · rw [nI_T (by omega)] at c_4
          refine lv_aload_n hx hb dX6_status_37 rfl (lv_at hl 2 rfl) ?_
          refine n_get (C := RX6) (T := TX6) (N := 18) hx hb hts (fun _ h => List.mem_cons_of_mem _ (List.mem_append_right _ h)) hown hK hP 0 rfl rfl 4 (by decide) (List.mem_of_getElem? (i := 1) rfl) rfl (.ref (b 4)) rfl dX6_status_38 ?_
          refine lv_iload_n hx hb dX6_status_41 rfl (lv_at hl 0 rfl) ?_
          refine n_iald hx hb hK hP 1 (v := (tl k)) rfl (by omega) (by omega) rfl dX6_status_42 ?_
          refine lv_goto (tgt := 47) hx hb dX6_status_43 (by decide) ?_
          refine lv_iadd hx hb dX6_status_47 ?_
          refine lv_istore_n (lv' := [(2, .int ((stW tl W k) + (tl k))), (3, .int (nI k)), (0, .ref (b 0)), (1, .int a0)]) hx hb dX6_status_48 rfl hl (by decide) rfl (fun ls hl => ?_)
          refine n_iinc (lv' := [(3, .int (nI (k + 1))), (2, .int ((stW tl W k) + (tl k))), (0, .ref (b 0)), (1, .int a0)]) hx hb dX6_status_49 hl (k := 1) rfl (by decide) rfl (fun ls hl => ?_)
          refine lv_goto (tgt := 20) hx hb dX6_status_52 (by decide) ?_
          have e1 : stW tl W (k + 1) = (stW tl W k) + (tl k) := by rw [stW_S]; first | (rw [if_pos (by omega)]) | (rw [if_neg (by omega)])
          exact ih (k + 1) _ _ _ (by omega) (by omega) hP hD hS (by rw [e1]; exact (lv_sub hl [0, 1, 2, 3] rfl))
  · refine lv_aload_n hx hb dX6_status_10 rfl (lv_at hl 0 rfl) ?_
    refine lv_iconst (v := nI 0) hx hb dX6_status_11 rfl ?_
    refine callVI (rest := []) (wn := fun u => [mO b ζ vv, (b 4, .inl (G.2.1, 7, .inl (tk tl 0)))]) ⟨hx, hb, hml, hown, hts⟩ (c_X6_no l G H.size b ζ vv tl 0 (by omega)) (cwV 1 hts gX6_status_X6_no rfl rfl rfl (by decide +kernel) ⟨Nat.le_of_ble_eq_true rfl, Nat.le_of_ble_eq_true rfl⟩) noXB (fun _ _ _ => trivial) hK hP hD hS hAq 5 0 (T := TX6) (N := 18) rfl rfl rfl hl.1 rfl (Nat.le_of_ble_eq_true rfl) dX6_status_12 ⟨Nat.le_of_ble_eq_true rfl, Nat.le_of_ble_eq_true rfl⟩ [0, 1] rfl rfl [b 0, b 4] rfl (fun _ => rfl) (fun _ => rfl) (fun u H locs hok hP hD hS => ?_)
    have he : status_e a0.toInt = 0 := by unfold status_e; (try simp only [Int.toNat_natCast]); (repeat' split) <;> omega
    exact fin_i hx hb hr hlk hS hP hD () trivial (by rw [he]; first | done | ((try simp only [Int.toNat_natCast]); first | done | rfl)) (by rw [he]; (try simp only [Int.toNat_natCast]); exact eqW.rf _) dX6_status_15
