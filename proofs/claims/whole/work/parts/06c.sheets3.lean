set_option maxHeartbeats 400000 in
set_option maxRecDepth 100000 in
theorem c_X3_moveRun (l : Launch) (G : GT) (sz : Nat) (x : Nat → Nat) (zs : Nat → Nat) (nb : Nat → Int64) (k1 f1 k2 g1 n1 : Nat) (hk1 : k1 < 4) (hk2 : k2 < 4) (hz1 : zs k1 ≤ 40) (hz2 : zs k2 ≤ 40) (hfn : f1 + n1 ≤ zs k1) (hgn : g1 + n1 ≤ zs k2) : MV (S := Unit) l G noX yX3_moveRun wsX3_moveRun ({ frames := 2, cells := 0, slots := 0, locals := 43 } : Room) [.ref (x 3), .int (nI k1), .int (nI f1), .int (nI k2), .int (nI g1), .int (nI n1)] ([(x 3, .inr (2, [.ref (x 4), .ref (x 5), .ref (x 6)])), (x 5, .inl (G.2.1, 4, .inl (nF zs))), (x 6, .inl (G.2.2.1, 160, .inr (.inl nb)))]) sz (fun _ => True) (fun _ => [(x 3, .inr (2, [.ref (x 4), .ref (x 5), .ref (x 6)])), (x 5, .inl (G.2.1, 4, .inl (nF zs))), (x 6, .inl (G.2.2.1, 160, .inr (.inl (va_cpy nb nb (40 * k1 + f1) (40 * k2 + g1) n1))))]) := by
  refine MV_enter (cc := cX3_moveRun) (maxL := 6) (ret := none) (by decide) rfl (Nat.le_of_ble_eq_true rfl) ?_
  intro p e s m below meth c A ls H hx hb hr hlk hml hown hts hAq hS hP hK hD hX hl hnm
  have hown : s.vm.findClass RX3 = some m.cls := hown
  have hl : lv_has ls 6 [(0, .ref (x 3)), (1, .int (nI k1)), (2, .int (nI f1)), (3, .int (nI k2)), (4, .int (nI g1)), (5, .int (nI n1))] := hl
  have hT0 := nI_T (a := f1) (by omega)
  have hT1 := nI_T (a := g1) (by omega)
  have hT2 := nI_T (a := n1) (by omega)
  refine lv_aload_n hx hb dX3_moveRun_0 rfl (lv_at hl 0 rfl) ?_
  refine lv_iload_n hx hb dX3_moveRun_1 rfl (lv_at hl 1 rfl) ?_
  refine lv_iload_n hx hb dX3_moveRun_2 rfl (lv_at hl 2 rfl) ?_
  refine lv_iload hx hb dX3_moveRun_3 (lv_at hl 5 rfl) ?_
  refine callVI (rest := []) (wn := fun u => [(x 3, .inr (2, [.ref (x 4), .ref (x 5), .ref (x 6)])), (x 5, .inl (G.2.1, 4, .inl (nF zs))), (x 6, .inl (G.2.2.1, 160, .inr (.inl nb)))]) ⟨hx, hb, hml, hown, hts⟩ (c_X3_hasRun l G H.size x zs k1 (nI f1) (nI n1) (by omega) (by omega)) (cwV 3 hts gX3_moveRun_X3_hasRun rfl rfl rfl (by decide +kernel) ⟨Nat.le_of_ble_eq_true rfl, Nat.le_of_ble_eq_true rfl⟩) noXB (fun _ _ _ => trivial) hK hP hD hS hAq 2 0 (T := TX3) (N := 3) rfl rfl rfl hl.1 rfl (Nat.le_of_ble_eq_true rfl) dX3_moveRun_5 ⟨Nat.le_of_ble_eq_true rfl, Nat.le_of_ble_eq_true rfl⟩ [0, 1] rfl rfl [x 3, x 5] rfl (fun _ => rfl) (fun _ => rfl) (fun u H locs hok hP hD hS => ?_)
  refine z_if_eq hx hb (tgt := 23) dX3_moveRun_8 (by decide) (fun c_1 => ?_) (fun c_1 => ?_)
  · exact absurd (by omega) c_1
  · refine lv_aload_n hx hb dX3_moveRun_11 rfl (lv_at hl 0 rfl) ?_
    refine lv_iload_n hx hb dX3_moveRun_12 rfl (lv_at hl 3 rfl) ?_
    refine lv_iload hx hb dX3_moveRun_13 (lv_at hl 4 rfl) ?_
    refine lv_iload hx hb dX3_moveRun_15 (lv_at hl 5 rfl) ?_
    refine callVI (rest := []) (wn := fun u => [(x 3, .inr (2, [.ref (x 4), .ref (x 5), .ref (x 6)])), (x 5, .inl (G.2.1, 4, .inl (nF zs))), (x 6, .inl (G.2.2.1, 160, .inr (.inl nb)))]) ⟨hx, hb, hml, hown, hts⟩ (c_X3_hasRun l G H.size x zs k2 (nI g1) (nI n1) (by omega) (by omega)) (cwV 3 hts gX3_moveRun_X3_hasRun rfl rfl rfl (by decide +kernel) ⟨Nat.le_of_ble_eq_true rfl, Nat.le_of_ble_eq_true rfl⟩) noXB (fun _ _ _ => trivial) hK hP hD hS hAq 2 0 (T := TX3) (N := 3) rfl rfl rfl hl.1 rfl (Nat.le_of_ble_eq_true rfl) dX3_moveRun_17 ⟨Nat.le_of_ble_eq_true rfl, Nat.le_of_ble_eq_true rfl⟩ [0, 1] rfl rfl [x 3, x 5] rfl (fun _ => rfl) (fun _ => rfl) (fun u H locs hok hP hD hS => ?_)
    refine z_if_ne hx hb (tgt := 24) dX3_moveRun_20 (by decide) (fun c_2 => ?_) (fun c_2 => ?_)
    · refine lv_aload_n hx hb dX3_moveRun_24 rfl (lv_at hl 0 rfl) ?_
      refine n_get (C := RX3) (T := TX3) (N := 3) hx hb hts (fun _ h => List.mem_cons_of_mem _ (List.mem_append_right _ h)) hown hK hP 0 rfl rfl 2 (by decide) (List.mem_of_getElem? (i := 1) rfl) rfl (.ref (x 6)) rfl dX3_moveRun_25 ?_
      refine lv_bipush (v := nI 40) hx hb dX3_moveRun_28 rfl ?_
      refine lv_iload_n hx hb dX3_moveRun_30 rfl (lv_at hl 1 rfl) ?_
      refine n_imul hx hb dX3_moveRun_31 ?_
      refine lv_iload_n hx hb dX3_moveRun_32 rfl (lv_at hl 2 rfl) ?_
      refine n_iadd hx hb dX3_moveRun_33 ?_
      refine lv_aload_n hx hb dX3_moveRun_34 rfl (lv_at hl 0 rfl) ?_
      refine n_get (C := RX3) (T := TX3) (N := 3) hx hb hts (fun _ h => List.mem_cons_of_mem _ (List.mem_append_right _ h)) hown hK hP 0 rfl rfl 2 (by decide) (List.mem_of_getElem? (i := 1) rfl) rfl (.ref (x 6)) rfl dX3_moveRun_35 ?_
      refine lv_bipush (v := nI 40) hx hb dX3_moveRun_38 rfl ?_
      refine lv_iload_n hx hb dX3_moveRun_40 rfl (lv_at hl 3 rfl) ?_
      refine n_imul hx hb dX3_moveRun_41 ?_
      refine lv_iload hx hb dX3_moveRun_42 (lv_at hl 4 rfl) ?_
      refine n_iadd hx hb dX3_moveRun_44 ?_
      refine lv_iload hx hb dX3_moveRun_45 (lv_at hl 5 rfl) ?_
      refine n_copyl hx hb (hml.trans hl.1.symm) hown hts (List.mem_of_getElem? (i := 2) rfl) (List.mem_of_getElem? (i := 3) rfl) (List.mem_of_getElem? (i := 4) rfl) (List.mem_of_getElem? (i := 5) rfl) hK hP hD hS 2 rfl (by omega) (by omega) (by decide) (wn := [(x 3, .inr (2, [.ref (x 4), .ref (x 5), .ref (x 6)])), (x 5, .inl (G.2.1, 4, .inl (nF zs))), (x 6, .inl (G.2.2.1, 160, .inr (.inl (va_cpy nb nb ((40 * k1) + f1) ((40 * k2) + g1) n1))))]) rfl (Nat.le_of_ble_eq_true rfl) (Nat.le_of_ble_eq_true rfl) dX3_moveRun_47 (fun H locs hP hD hS => ?_)
      exact fin_v hx hb hr hlk hS hP hD () trivial (eqW.rf _) dX3_moveRun_50
    · exact absurd (by omega) c_2
set_option maxHeartbeats 400000 in
set_option maxRecDepth 100000 in
theorem c_X5_sheet (l : Launch) (G : GT) (sz : Nat) (x hm kp tr : Nat → Nat) (hi : Nat) (tl : Nat → Int32) (wd zs : Nat → Nat) (nb : Nat → Int64) (a0 a1 a2 : Int32) (hSI : SInv wd zs) : MI (S := Unit) l G noX yX5_sheet wsX5_sheet ({ frames := 2, cells := 0, slots := 0, locals := 44 } : Room) [.ref (x 0), .int a0, .int a1, .int a2] ([xO x hm kp tr hi, (x 7, .inl (G.2.1, 7, .inl tl)), (x 3, .inr (2, [.ref (x 4), .ref (x 5), .ref (x 6)])), (x 4, .inl (G.2.1, 4, .inl (nF wd))), (x 5, .inl (G.2.1, 4, .inl (nF zs))), (x 6, .inl (G.2.2.1, 160, .inr (.inl nb)))]) sz (fun _ => True) (fun _ => rs (sheet_e a0.toInt a1.toInt a2.toInt) (nI (if a1.toInt.toNat = 0 then 0 else a2.toInt.toNat))) (fun _ => [xO x hm kp tr hi, (x 7, .inl (G.2.1, 7, .inl (ts tl (sheet_e a0.toInt a1.toInt a2.toInt)))), (x 3, .inr (2, [.ref (x 4), .ref (x 5), .ref (x 6)])), (x 4, .inl (G.2.1, 4, .inl (nF (hs (sheet_e a0.toInt a1.toInt a2.toInt) (un wd a0.toInt.toNat a1.toInt.toNat) wd)))), (x 5, .inl (G.2.1, 4, .inl (nF (hs (sheet_e a0.toInt a1.toInt a2.toInt) (un zs a0.toInt.toNat (if a1.toInt.toNat = 0 then 0 else a2.toInt.toNat)) zs)))), (x 6, .inl (G.2.2.1, 160, .inr (.inl (hq (sheet_e a0.toInt a1.toInt a2.toInt) (clrN nb a0.toInt.toNat 40) nb))))]) := by
  refine MI_enter (cc := cX5_sheet) (maxL := 4) (ret := (some .int)) (by decide) rfl (Nat.le_of_ble_eq_true rfl) ?_
  intro p e s m below meth c A ls H hx hb hr hlk hml hown hts hAq hS hP hK hD hX hl hnm
  have hown : s.vm.findClass RX5 = some m.cls := hown
  have hl : lv_has ls 4 [(0, .ref (x 0)), (1, .int a0), (2, .int a1), (3, .int a2)] := hl
  refine lv_iload_n hx hb dX5_sheet_0 rfl (lv_at hl 1 rfl) ?_
  refine callSI (rest := []) (wn := fun u => [xO x hm kp tr hi, (x 7, .inl (G.2.1, 7, .inl tl)), (x 3, .inr (2, [.ref (x 4), .ref (x 5), .ref (x 6)])), (x 4, .inl (G.2.1, 4, .inl (nF wd))), (x 5, .inl (G.2.1, 4, .inl (nF zs))), (x 6, .inl (G.2.2.1, 160, .inr (.inl nb)))]) ⟨hx, hb, hml, hown, hts⟩ (c_X3_isOne l G H.size a0) (va_cwS 1 hts gX5_sheet_X3_isOne rfl rfl rfl (by decide +kernel) ⟨Nat.le_of_ble_eq_true rfl, Nat.le_of_ble_eq_true rfl⟩) noXB (fun _ _ _ => trivial) hK hP hD hS hAq rfl hl.1 rfl (Nat.le_of_ble_eq_true rfl) dX5_sheet_1 ⟨Nat.le_of_ble_eq_true rfl, Nat.le_of_ble_eq_true rfl⟩ [] rfl rfl [] rfl (fun _ => rfl) (fun _ => rfl) (fun u H locs hok hP hD hS => ?_)
  refine z_if_eq hx hb (tgt := 14) dX5_sheet_4 (by decide) (fun c_1 => ?_) (fun c_1 => ?_)
  · refine lv_aload_n hx hb dX5_sheet_14 rfl (lv_at hl 0 rfl) ?_
    refine lv_iconst (v := nI 0) hx hb dX5_sheet_15 rfl ?_
    refine callVI (rest := []) (wn := fun u => [xO x hm kp tr hi, (x 7, .inl (G.2.1, 7, .inl (tk tl 0))), (x 3, .inr (2, [.ref (x 4), .ref (x 5), .ref (x 6)])), (x 4, .inl (G.2.1, 4, .inl (nF wd))), (x 5, .inl (G.2.1, 4, .inl (nF zs))), (x 6, .inl (G.2.2.1, 160, .inr (.inl nb)))]) ⟨hx, hb, hml, hown, hts⟩ (c_X5_tell l G H.size x hm kp tr hi tl 0 (by omega)) (cwV 1 hts gX5_sheet_X5_tell rfl rfl rfl (by decide +kernel) ⟨Nat.le_of_ble_eq_true rfl, Nat.le_of_ble_eq_true rfl⟩) noXB (fun _ _ _ => trivial) hK hP hD hS hAq 4 0 (T := TX5) (N := 7) rfl rfl rfl hl.1 rfl (Nat.le_of_ble_eq_true rfl) dX5_sheet_16 ⟨Nat.le_of_ble_eq_true rfl, Nat.le_of_ble_eq_true rfl⟩ [0, 1] rfl rfl [x 0, x 7] rfl (fun _ => rfl) (fun _ => rfl) (fun u H locs hok hP hD hS => ?_)
    have he : sheet_e a0.toInt a1.toInt a2.toInt = 0 := by unfold sheet_e; (try simp only [Int.toNat_natCast]); (repeat' split) <;> omega
    exact fin_i hx hb hr hlk hS hP hD () trivial (by rw [he]; first | done | ((try simp only [Int.toNat_natCast]); first | done | rfl)) (by rw [he]; (try simp only [Int.toNat_natCast]); exact eqW.rf _) dX5_sheet_19
  · obtain ⟨k0, hk0, rfl⟩ := nI_of_rg (n := 3) (x := a0) ⟨by omega, by omega⟩
    have hT0 := nI_T (a := k0) (by omega)
    obtain ⟨s0, s1⟩ := hSI k0 (by omega)
    refine lv_iload_n hx hb dX5_sheet_7 rfl (lv_at hl 2 rfl) ?_
    refine callSI (rest := []) (wn := fun u => [xO x hm kp tr hi, (x 7, .inl (G.2.1, 7, .inl tl)), (x 3, .inr (2, [.ref (x 4), .ref (x 5), .ref (x 6)])), (x 4, .inl (G.2.1, 4, .inl (nF wd))), (x 5, .inl (G.2.1, 4, .inl (nF zs))), (x 6, .inl (G.2.2.1, 160, .inr (.inl nb)))]) ⟨hx, hb, hml, hown, hts⟩ (c_X3_mayHave l G H.size a1) (va_cwS 1 hts gX5_sheet_X3_mayHave rfl rfl rfl (by decide +kernel) ⟨Nat.le_of_ble_eq_true rfl, Nat.le_of_ble_eq_true rfl⟩) noXB (fun _ _ _ => trivial) hK hP hD hS hAq rfl hl.1 rfl (Nat.le_of_ble_eq_true rfl) dX5_sheet_8 ⟨Nat.le_of_ble_eq_true rfl, Nat.le_of_ble_eq_true rfl⟩ [] rfl rfl [] rfl (fun _ => rfl) (fun _ => rfl) (fun u H locs hok hP hD hS => ?_)
    refine z_if_ne hx hb (tgt := 20) dX5_sheet_11 (by decide) (fun c_2 => ?_) (fun c_2 => ?_)
    · obtain ⟨w1, hw1, rfl⟩ := nI_of_rg (n := 64) (x := a1) ⟨by omega, by omega⟩
      have hT1 := nI_T (a := w1) (by omega)
      refine lv_iload_n hx hb dX5_sheet_20 rfl (lv_at hl 3 rfl) ?_
      refine r_if_ge hx hb (tgt := 31) dX5_sheet_21 (by decide) (fun c_3 => ?_) (fun c_3 => ?_)
      · refine lv_iload_n hx hb dX5_sheet_31 rfl (lv_at hl 3 rfl) ?_
        refine lv_bipush (v := nI 40) hx hb dX5_sheet_32 rfl ?_
        refine r_icmp_le hx hb (tgt := 43) dX5_sheet_34 (by decide) (fun c_4 => ?_) (fun c_4 => ?_)
        · rw [nI_T (by omega)] at c_4
          obtain ⟨n2, hn2, rfl⟩ := nI_of_rg (n := 40) (x := a2) ⟨by omega, by omega⟩
          have hT2 := nI_T (a := n2) (by omega)
          refine lv_aload_n hx hb dX5_sheet_43 rfl (lv_at hl 0 rfl) ?_
          refine n_get (C := RX5) (T := TX5) (N := 7) hx hb hts (fun _ h => List.mem_cons_of_mem _ (List.mem_append_left _ (List.mem_append_right _ h))) hown hK hP 0 rfl rfl 4 (by decide) (List.mem_of_getElem? (i := 1) rfl) rfl (.ref (x 3)) rfl dX5_sheet_44 ?_
          refine lv_iload_n hx hb dX5_sheet_47 rfl (lv_at hl 1 rfl) ?_
          refine lv_iload_n hx hb dX5_sheet_48 rfl (lv_at hl 2 rfl) ?_
          refine lv_iload_n hx hb dX5_sheet_49 rfl (lv_at hl 3 rfl) ?_
          refine callVV (rest := []) (wn := fun u => [xO x hm kp tr hi, (x 7, .inl (G.2.1, 7, .inl tl)), (x 3, .inr (2, [.ref (x 4), .ref (x 5), .ref (x 6)])), (x 4, .inl (G.2.1, 4, .inl (nF (un wd k0 w1)))), (x 5, .inl (G.2.1, 4, .inl (nF (un zs k0 (if w1 = 0 then 0 else n2))))), (x 6, .inl (G.2.2.1, 160, .inr (.inl (clrN nb k0 40))))]) ⟨hx, hb, hml, hown, hts⟩ (c_X3_layOut l G H.size x wd zs nb k0 w1 n2 (by omega) (by omega) (by omega)) (cwV 3 hts gX5_sheet_X3_layOut rfl rfl rfl (by decide +kernel) ⟨Nat.le_of_ble_eq_true rfl, Nat.le_of_ble_eq_true rfl⟩) noXB (fun _ _ _ => trivial) hK hP hD hS hAq 2 0 (T := TX3) (N := 3) rfl rfl rfl hl.1 rfl (Nat.le_of_ble_eq_true rfl) dX5_sheet_50 ⟨Nat.le_of_ble_eq_true rfl, Nat.le_of_ble_eq_true rfl⟩ [2, 3, 4, 5] rfl rfl [x 3, x 4, x 5, x 6] rfl (fun _ => rfl) (fun _ => rfl) (fun u H locs hok hP hD hS => ?_)
          refine lv_aload_n hx hb dX5_sheet_53 rfl (lv_at hl 0 rfl) ?_
          refine n_get (C := RX5) (T := TX5) (N := 7) hx hb hts (fun _ h => List.mem_cons_of_mem _ (List.mem_append_left _ (List.mem_append_right _ h))) hown hK hP 0 rfl rfl 4 (by decide) (List.mem_of_getElem? (i := 1) rfl) rfl (.ref (x 3)) rfl dX5_sheet_54 ?_
          refine n_get (C := RX3) (T := TX3) (N := 3) hx hb hts (fun _ h => List.mem_cons_of_mem _ (List.mem_append_right _ h)) hown hK hP 2 rfl rfl 1 (by decide) (List.mem_of_getElem? (i := 2) rfl) rfl (.ref (x 5)) rfl dX5_sheet_57 ?_
          refine lv_iload_n hx hb dX5_sheet_60 rfl (lv_at hl 1 rfl) ?_
          refine n_iald hx hb hK hP 4 (v := (nI ((un zs k0 (if w1 = 0 then 0 else n2)) k0))) rfl (by omega) (by omega) rfl dX5_sheet_61 ?_
          have he : sheet_e (nI k0).toInt (nI w1).toInt (nI n2).toInt = 7 := by unfold sheet_e; (try simp only [hT0, hT1, hT2, Int.toNat_natCast]); (repeat' split) <;> omega
          exact fin_i hx hb hr hlk hS hP hD () trivial (by rw [he]; (try simp only [hT0, hT1, hT2, Int.toNat_natCast]); exact congrArg nI un_s) (by rw [he]; (try simp only [hT0, hT1, hT2, Int.toNat_natCast]); exact eqW.rf _) dX5_sheet_62
        · rw [nI_T (by omega)] at c_4
          refine lv_aload_n hx hb dX5_sheet_37 rfl (lv_at hl 0 rfl) ?_
          refine lv_iconst (v := nI 0) hx hb dX5_sheet_38 rfl ?_
          refine callVI (rest := []) (wn := fun u => [xO x hm kp tr hi, (x 7, .inl (G.2.1, 7, .inl (tk tl 0))), (x 3, .inr (2, [.ref (x 4), .ref (x 5), .ref (x 6)])), (x 4, .inl (G.2.1, 4, .inl (nF wd))), (x 5, .inl (G.2.1, 4, .inl (nF zs))), (x 6, .inl (G.2.2.1, 160, .inr (.inl nb)))]) ⟨hx, hb, hml, hown, hts⟩ (c_X5_tell l G H.size x hm kp tr hi tl 0 (by omega)) (cwV 1 hts gX5_sheet_X5_tell rfl rfl rfl (by decide +kernel) ⟨Nat.le_of_ble_eq_true rfl, Nat.le_of_ble_eq_true rfl⟩) noXB (fun _ _ _ => trivial) hK hP hD hS hAq 4 0 (T := TX5) (N := 7) rfl rfl rfl hl.1 rfl (Nat.le_of_ble_eq_true rfl) dX5_sheet_39 ⟨Nat.le_of_ble_eq_true rfl, Nat.le_of_ble_eq_true rfl⟩ [0, 1] rfl rfl [x 0, x 7] rfl (fun _ => rfl) (fun _ => rfl) (fun u H locs hok hP hD hS => ?_)
          have he : sheet_e (nI k0).toInt (nI w1).toInt a2.toInt = 0 := by unfold sheet_e; (try simp only [hT0, hT1, Int.toNat_natCast]); (repeat' split) <;> omega
          exact fin_i hx hb hr hlk hS hP hD () trivial (by rw [he]; first | done | ((try simp only [hT0, hT1, Int.toNat_natCast]); first | done | rfl)) (by rw [he]; (try simp only [hT0, hT1, Int.toNat_natCast]); exact eqW.rf _) dX5_sheet_42
      · refine lv_aload_n hx hb dX5_sheet_24 rfl (lv_at hl 0 rfl) ?_
        refine lv_bipush (v := nI 6) hx hb dX5_sheet_25 rfl ?_
        refine callVI (rest := []) (wn := fun u => [xO x hm kp tr hi, (x 7, .inl (G.2.1, 7, .inl (tk tl 6))), (x 3, .inr (2, [.ref (x 4), .ref (x 5), .ref (x 6)])), (x 4, .inl (G.2.1, 4, .inl (nF wd))), (x 5, .inl (G.2.1, 4, .inl (nF zs))), (x 6, .inl (G.2.2.1, 160, .inr (.inl nb)))]) ⟨hx, hb, hml, hown, hts⟩ (c_X5_tell l G H.size x hm kp tr hi tl 6 (by omega)) (cwV 1 hts gX5_sheet_X5_tell rfl rfl rfl (by decide +kernel) ⟨Nat.le_of_ble_eq_true rfl, Nat.le_of_ble_eq_true rfl⟩) noXB (fun _ _ _ => trivial) hK hP hD hS hAq 4 0 (T := TX5) (N := 7) rfl rfl rfl hl.1 rfl (Nat.le_of_ble_eq_true rfl) dX5_sheet_27 ⟨Nat.le_of_ble_eq_true rfl, Nat.le_of_ble_eq_true rfl⟩ [0, 1] rfl rfl [x 0, x 7] rfl (fun _ => rfl) (fun _ => rfl) (fun u H locs hok hP hD hS => ?_)
        have he : sheet_e (nI k0).toInt (nI w1).toInt a2.toInt = 6 := by unfold sheet_e; (try simp only [hT0, hT1, Int.toNat_natCast]); (repeat' split) <;> omega
        exact fin_i hx hb hr hlk hS hP hD () trivial (by rw [he]; first | done | ((try simp only [hT0, hT1, Int.toNat_natCast]); first | done | rfl)) (by rw [he]; (try simp only [hT0, hT1, Int.toNat_natCast]); exact eqW.rf _) dX5_sheet_30
    · refine lv_aload_n hx hb dX5_sheet_14 rfl (lv_at hl 0 rfl) ?_
      refine lv_iconst (v := nI 0) hx hb dX5_sheet_15 rfl ?_
      refine callVI (rest := []) (wn := fun u => [xO x hm kp tr hi, (x 7, .inl (G.2.1, 7, .inl (tk tl 0))), (x 3, .inr (2, [.ref (x 4), .ref (x 5), .ref (x 6)])), (x 4, .inl (G.2.1, 4, .inl (nF wd))), (x 5, .inl (G.2.1, 4, .inl (nF zs))), (x 6, .inl (G.2.2.1, 160, .inr (.inl nb)))]) ⟨hx, hb, hml, hown, hts⟩ (c_X5_tell l G H.size x hm kp tr hi tl 0 (by omega)) (cwV 1 hts gX5_sheet_X5_tell rfl rfl rfl (by decide +kernel) ⟨Nat.le_of_ble_eq_true rfl, Nat.le_of_ble_eq_true rfl⟩) noXB (fun _ _ _ => trivial) hK hP hD hS hAq 4 0 (T := TX5) (N := 7) rfl rfl rfl hl.1 rfl (Nat.le_of_ble_eq_true rfl) dX5_sheet_16 ⟨Nat.le_of_ble_eq_true rfl, Nat.le_of_ble_eq_true rfl⟩ [0, 1] rfl rfl [x 0, x 7] rfl (fun _ => rfl) (fun _ => rfl) (fun u H locs hok hP hD hS => ?_)
      have he : sheet_e (nI k0).toInt a1.toInt a2.toInt = 0 := by unfold sheet_e; (try simp only [hT0, Int.toNat_natCast]); (repeat' split) <;> omega
      exact fin_i hx hb hr hlk hS hP hD () trivial (by rw [he]; first | done | ((try simp only [hT0, Int.toNat_natCast]); first | done | rfl)) (by rw [he]; (try simp only [hT0, Int.toNat_natCast]); exact eqW.rf _) dX5_sheet_19
set_option maxHeartbeats 400000 in
set_option maxRecDepth 100000 in
theorem c_X5_write (l : Launch) (G : GT) (sz : Nat) (x hm kp tr : Nat → Nat) (hi : Nat) (tl : Nat → Int32) (wd zs : Nat → Nat) (nb : Nat → Int64) (a0 a1 : Int32) (v : Int64) (hSI : SInv wd zs) : ML (S := Unit) l G noX yX5_write wsX5_write ({ frames := 3, cells := 0, slots := 0, locals := 67 } : Room) [.ref (x 0), .int a0, .int a1, .long v] ([xO x hm kp tr hi, (x 7, .inl (G.2.1, 7, .inl tl)), (x 3, .inr (2, [.ref (x 4), .ref (x 5), .ref (x 6)])), (x 4, .inl (G.2.1, 4, .inl (nF wd))), (x 5, .inl (G.2.1, 4, .inl (nF zs))), (x 6, .inl (G.2.2.1, 160, .inr (.inl nb)))]) sz (fun _ => True) (fun _ => rl (write_e wd zs a0.toInt a1.toInt) (nb (40 * a0.toInt.toNat + a1.toInt.toNat))) (fun _ => [xO x hm kp tr hi, (x 7, .inl (G.2.1, 7, .inl (ts tl (write_e wd zs a0.toInt a1.toInt)))), (x 3, .inr (2, [.ref (x 4), .ref (x 5), .ref (x 6)])), (x 4, .inl (G.2.1, 4, .inl (nF wd))), (x 5, .inl (G.2.1, 4, .inl (nF zs))), (x 6, .inl (G.2.2.1, 160, .inr (.inl (hq (write_e wd zs a0.toInt a1.toInt) (vp_updL nb (40 * a0.toInt.toNat + a1.toInt.toNat) (lowN (wd a0.toInt.toNat) v)) nb))))]) := by
  refine ML_enter (cc := cX5_write) (maxL := 7) (ret := (some .long)) (by decide) rfl (Nat.le_of_ble_eq_true rfl) ?_
  intro p e s m below meth c A ls H hx hb hr hlk hml hown hts hAq hS hP hK hD hX hl hnm
  have hown : s.vm.findClass RX5 = some m.cls := hown
  have hl : lv_has ls 7 [(0, .ref (x 0)), (1, .int a0), (2, .int a1), (3, .long v)] := hl
  refine lv_iload_n hx hb dX5_write_0 rfl (lv_at hl 1 rfl) ?_
  refine callSI (rest := []) (wn := fun u => [xO x hm kp tr hi, (x 7, .inl (G.2.1, 7, .inl tl)), (x 3, .inr (2, [.ref (x 4), .ref (x 5), .ref (x 6)])), (x 4, .inl (G.2.1, 4, .inl (nF wd))), (x 5, .inl (G.2.1, 4, .inl (nF zs))), (x 6, .inl (G.2.2.1, 160, .inr (.inl nb)))]) ⟨hx, hb, hml, hown, hts⟩ (c_X3_isOne l G H.size a0) (va_cwS 1 hts gX5_write_X3_isOne rfl rfl rfl (by decide +kernel) ⟨Nat.le_of_ble_eq_true rfl, Nat.le_of_ble_eq_true rfl⟩) noXB (fun _ _ _ => trivial) hK hP hD hS hAq rfl hl.1 rfl (Nat.le_of_ble_eq_true rfl) dX5_write_1 ⟨Nat.le_of_ble_eq_true rfl, Nat.le_of_ble_eq_true rfl⟩ [] rfl rfl [] rfl (fun _ => rfl) (fun _ => rfl) (fun u H locs hok hP hD hS => ?_)
  refine z_if_ne hx hb (tgt := 14) dX5_write_4 (by decide) (fun c_1 => ?_) (fun c_1 => ?_)
  · obtain ⟨k0, hk0, rfl⟩ := nI_of_rg (n := 3) (x := a0) ⟨by omega, by omega⟩
    have hT0 := nI_T (a := k0) (by omega)
    obtain ⟨s0, s1⟩ := hSI k0 (by omega)
    refine lv_aload_n hx hb dX5_write_14 rfl (lv_at hl 0 rfl) ?_
    refine n_get (C := RX5) (T := TX5) (N := 7) hx hb hts (fun _ h => List.mem_cons_of_mem _ (List.mem_append_left _ (List.mem_append_right _ h))) hown hK hP 0 rfl rfl 4 (by decide) (List.mem_of_getElem? (i := 1) rfl) rfl (.ref (x 3)) rfl dX5_write_15 ?_
    refine lv_iload_n hx hb dX5_write_18 rfl (lv_at hl 1 rfl) ?_
    refine callVI (rest := []) (wn := fun u => [xO x hm kp tr hi, (x 7, .inl (G.2.1, 7, .inl tl)), (x 3, .inr (2, [.ref (x 4), .ref (x 5), .ref (x 6)])), (x 4, .inl (G.2.1, 4, .inl (nF wd))), (x 5, .inl (G.2.1, 4, .inl (nF zs))), (x 6, .inl (G.2.2.1, 160, .inr (.inl nb)))]) ⟨hx, hb, hml, hown, hts⟩ (c_X3_isMissing l G H.size x wd k0 (by omega) (by omega)) (cwV 1 hts gX5_write_X3_isMissing rfl rfl rfl (by decide +kernel) ⟨Nat.le_of_ble_eq_true rfl, Nat.le_of_ble_eq_true rfl⟩) noXB (fun _ _ _ => trivial) hK hP hD hS hAq 2 0 (T := TX3) (N := 3) rfl rfl rfl hl.1 rfl (Nat.le_of_ble_eq_true rfl) dX5_write_19 ⟨Nat.le_of_ble_eq_true rfl, Nat.le_of_ble_eq_true rfl⟩ [2, 3] rfl rfl [x 3, x 4] rfl (fun _ => rfl) (fun _ => rfl) (fun u H locs hok hP hD hS => ?_)
    refine z_if_eq hx hb (tgt := 32) dX5_write_22 (by decide) (fun c_2 => ?_) (fun c_2 => ?_)
    · refine lv_iload_n hx hb dX5_write_32 rfl (lv_at hl 2 rfl) ?_
      refine lv_iconst (v := nI 0) hx hb dX5_write_33 rfl ?_
      refine lv_aload_n hx hb dX5_write_34 rfl (lv_at hl 0 rfl) ?_
      refine n_get (C := RX5) (T := TX5) (N := 7) hx hb hts (fun _ h => List.mem_cons_of_mem _ (List.mem_append_left _ (List.mem_append_right _ h))) hown hK hP 0 rfl rfl 4 (by decide) (List.mem_of_getElem? (i := 1) rfl) rfl (.ref (x 3)) rfl dX5_write_35 ?_
      refine n_get (C := RX3) (T := TX3) (N := 3) hx hb hts (fun _ h => List.mem_cons_of_mem _ (List.mem_append_right _ h)) hown hK hP 2 rfl rfl 1 (by decide) (List.mem_of_getElem? (i := 2) rfl) rfl (.ref (x 5)) rfl dX5_write_38 ?_
      refine lv_iload_n hx hb dX5_write_41 rfl (lv_at hl 1 rfl) ?_
      refine n_iald hx hb hK hP 4 (v := (nI (zs k0))) rfl (by omega) (by omega) rfl dX5_write_42 ?_
      refine lv_iconst (v := nI 1) hx hb dX5_write_43 rfl ?_
      refine lv_isub hx hb dX5_write_44 ?_
      refine callSI (rest := []) (wn := fun u => [xO x hm kp tr hi, (x 7, .inl (G.2.1, 7, .inl tl)), (x 3, .inr (2, [.ref (x 4), .ref (x 5), .ref (x 6)])), (x 4, .inl (G.2.1, 4, .inl (nF wd))), (x 5, .inl (G.2.1, 4, .inl (nF zs))), (x 6, .inl (G.2.2.1, 160, .inr (.inl nb)))]) ⟨hx, hb, hml, hown, hts⟩ (c_X5_isWithin l G H.size a1 (nI 0) ((nI (zs k0)) - (nI 1))) (va_cwS 3 hts gX5_write_X5_isWithin rfl rfl rfl (by decide +kernel) ⟨Nat.le_of_ble_eq_true rfl, Nat.le_of_ble_eq_true rfl⟩) noXB (fun _ _ _ => trivial) hK hP hD hS hAq rfl hl.1 rfl (Nat.le_of_ble_eq_true rfl) dX5_write_45 ⟨Nat.le_of_ble_eq_true rfl, Nat.le_of_ble_eq_true rfl⟩ [] rfl rfl [] rfl (fun _ => rfl) (fun _ => rfl) (fun u H locs hok hP hD hS => ?_)
      refine z_if_ne hx hb (tgt := 58) dX5_write_48 (by decide) (fun c_3 => ?_) (fun c_3 => ?_)
      · rw [nI_T (show 0 < 2147483648 by decide), pred_T (by omega)] at c_3
        obtain ⟨i1, hi1, rfl⟩ := nI_of_rg (n := 39) (x := a1) ⟨by omega, by omega⟩
        have hT1 := nI_T (a := i1) (by omega)
        refine lv_aload_n hx hb dX5_write_58 rfl (lv_at hl 0 rfl) ?_
        refine n_get (C := RX5) (T := TX5) (N := 7) hx hb hts (fun _ h => List.mem_cons_of_mem _ (List.mem_append_left _ (List.mem_append_right _ h))) hown hK hP 0 rfl rfl 4 (by decide) (List.mem_of_getElem? (i := 1) rfl) rfl (.ref (x 3)) rfl dX5_write_59 ?_
        refine lv_iload_n hx hb dX5_write_62 rfl (lv_at hl 1 rfl) ?_
        refine lv_iload_n hx hb dX5_write_63 rfl (lv_at hl 2 rfl) ?_
        refine callVL (rest := []) (wn := fun u => [xO x hm kp tr hi, (x 7, .inl (G.2.1, 7, .inl tl)), (x 3, .inr (2, [.ref (x 4), .ref (x 5), .ref (x 6)])), (x 4, .inl (G.2.1, 4, .inl (nF wd))), (x 5, .inl (G.2.1, 4, .inl (nF zs))), (x 6, .inl (G.2.2.1, 160, .inr (.inl nb)))]) ⟨hx, hb, hml, hown, hts⟩ (c_X3_numberAt l G H.size x zs nb k0 i1 (by omega) (by omega) (by omega)) (cwV 2 hts gX5_write_X3_numberAt rfl rfl rfl (by decide +kernel) ⟨Nat.le_of_ble_eq_true rfl, Nat.le_of_ble_eq_true rfl⟩) noXB (fun _ _ _ => trivial) hK hP hD hS hAq 2 0 (T := TX3) (N := 3) rfl rfl rfl hl.1 rfl (Nat.le_of_ble_eq_true rfl) dX5_write_64 ⟨Nat.le_of_ble_eq_true rfl, Nat.le_of_ble_eq_true rfl⟩ [2, 4, 5] rfl rfl [x 3, x 5, x 6] rfl (fun _ => rfl) (fun _ => rfl) (fun u H locs hok hP hD hS => ?_)
        refine lv_lstore (lv' := [(5, .long (nb (40 * k0 + i1))), (0, .ref (x 0)), (1, .int (nI k0)), (2, .int (nI i1)), (3, .long v)]) hx hb dX5_write_67 hl (by decide) rfl (fun ls hl => ?_)
        refine lv_aload_n hx hb dX5_write_69 rfl (lv_at hl 1 rfl) ?_
        refine n_get (C := RX5) (T := TX5) (N := 7) hx hb hts (fun _ h => List.mem_cons_of_mem _ (List.mem_append_left _ (List.mem_append_right _ h))) hown hK hP 0 rfl rfl 4 (by decide) (List.mem_of_getElem? (i := 1) rfl) rfl (.ref (x 3)) rfl dX5_write_70 ?_
        refine lv_iload_n hx hb dX5_write_73 rfl (lv_at hl 2 rfl) ?_
        refine lv_iload_n hx hb dX5_write_74 rfl (lv_at hl 3 rfl) ?_
        refine lv_lload_n hx hb dX5_write_75 rfl (lv_at hl 4 rfl) ?_
        refine callVV (rest := []) (wn := fun u => [xO x hm kp tr hi, (x 7, .inl (G.2.1, 7, .inl tl)), (x 3, .inr (2, [.ref (x 4), .ref (x 5), .ref (x 6)])), (x 4, .inl (G.2.1, 4, .inl (nF wd))), (x 5, .inl (G.2.1, 4, .inl (nF zs))), (x 6, .inl (G.2.2.1, 160, .inr (.inl (vp_updL nb (40 * k0 + i1) (lowN (wd k0) v)))))]) ⟨hx, hb, hml, hown, hts⟩ (c_X3_putNumber l G H.size x wd zs nb k0 i1 v (by omega) (by omega) (by omega) (by omega)) (cwV 3 hts gX5_write_X3_putNumber rfl rfl rfl (by decide +kernel) ⟨Nat.le_of_ble_eq_true rfl, Nat.le_of_ble_eq_true rfl⟩) noXB (fun _ _ _ => trivial) hK hP hD hS hAq 2 0 (T := TX3) (N := 3) rfl rfl rfl hl.1 rfl (Nat.le_of_ble_eq_true rfl) dX5_write_76 ⟨Nat.le_of_ble_eq_true rfl, Nat.le_of_ble_eq_true rfl⟩ [2, 3, 4, 5] rfl rfl [x 3, x 4, x 5, x 6] rfl (fun _ => rfl) (fun _ => rfl) (fun u H locs hok hP hD hS => ?_)
        refine lv_lload hx hb dX5_write_79 (lv_at hl 0 rfl) ?_
        have he : write_e wd zs (nI k0).toInt (nI i1).toInt = 7 := by unfold write_e sh_e; (try simp only [hT0, hT1, Int.toNat_natCast]); (repeat' split) <;> omega
        exact fin_l hx hb hr hlk hS hP hD () trivial (by rw [he]; first | done | ((try simp only [hT0, hT1, Int.toNat_natCast]); first | done | rfl)) (by rw [he]; (try simp only [hT0, hT1, Int.toNat_natCast]); exact eqW.rf _) dX5_write_81
      · rw [nI_T (show 0 < 2147483648 by decide), pred_T (by omega)] at c_3
        refine lv_aload_n hx hb dX5_write_51 rfl (lv_at hl 0 rfl) ?_
        refine lv_iconst (v := nI 0) hx hb dX5_write_52 rfl ?_
        refine callVI (rest := []) (wn := fun u => [xO x hm kp tr hi, (x 7, .inl (G.2.1, 7, .inl (tk tl 0))), (x 3, .inr (2, [.ref (x 4), .ref (x 5), .ref (x 6)])), (x 4, .inl (G.2.1, 4, .inl (nF wd))), (x 5, .inl (G.2.1, 4, .inl (nF zs))), (x 6, .inl (G.2.2.1, 160, .inr (.inl nb)))]) ⟨hx, hb, hml, hown, hts⟩ (c_X5_tell l G H.size x hm kp tr hi tl 0 (by omega)) (cwV 1 hts gX5_write_X5_tell rfl rfl rfl (by decide +kernel) ⟨Nat.le_of_ble_eq_true rfl, Nat.le_of_ble_eq_true rfl⟩) noXB (fun _ _ _ => trivial) hK hP hD hS hAq 4 0 (T := TX5) (N := 7) rfl rfl rfl hl.1 rfl (Nat.le_of_ble_eq_true rfl) dX5_write_53 ⟨Nat.le_of_ble_eq_true rfl, Nat.le_of_ble_eq_true rfl⟩ [0, 1] rfl rfl [x 0, x 7] rfl (fun _ => rfl) (fun _ => rfl) (fun u H locs hok hP hD hS => ?_)
        refine lv_i2l (v := (fnd 0).toInt64) hx hb dX5_write_56 rfl ?_
        have he : write_e wd zs (nI k0).toInt a1.toInt = 0 := by unfold write_e sh_e; (try simp only [hT0, Int.toNat_natCast]); (repeat' split) <;> omega
        exact fin_l hx hb hr hlk hS hP hD () trivial (by rw [he]; first | done | ((try simp only [hT0, Int.toNat_natCast]); first | done | rfl)) (by rw [he]; (try simp only [hT0, Int.toNat_natCast]); exact eqW.rf _) dX5_write_57
    · refine lv_aload_n hx hb dX5_write_25 rfl (lv_at hl 0 rfl) ?_
      refine lv_iconst (v := nI 5) hx hb dX5_write_26 rfl ?_
      refine callVI (rest := []) (wn := fun u => [xO x hm kp tr hi, (x 7, .inl (G.2.1, 7, .inl (tk tl 5))), (x 3, .inr (2, [.ref (x 4), .ref (x 5), .ref (x 6)])), (x 4, .inl (G.2.1, 4, .inl (nF wd))), (x 5, .inl (G.2.1, 4, .inl (nF zs))), (x 6, .inl (G.2.2.1, 160, .inr (.inl nb)))]) ⟨hx, hb, hml, hown, hts⟩ (c_X5_tell l G H.size x hm kp tr hi tl 5 (by omega)) (cwV 1 hts gX5_write_X5_tell rfl rfl rfl (by decide +kernel) ⟨Nat.le_of_ble_eq_true rfl, Nat.le_of_ble_eq_true rfl⟩) noXB (fun _ _ _ => trivial) hK hP hD hS hAq 4 0 (T := TX5) (N := 7) rfl rfl rfl hl.1 rfl (Nat.le_of_ble_eq_true rfl) dX5_write_27 ⟨Nat.le_of_ble_eq_true rfl, Nat.le_of_ble_eq_true rfl⟩ [0, 1] rfl rfl [x 0, x 7] rfl (fun _ => rfl) (fun _ => rfl) (fun u H locs hok hP hD hS => ?_)
      refine lv_i2l (v := (fnd 5).toInt64) hx hb dX5_write_30 rfl ?_
      have he : write_e wd zs (nI k0).toInt a1.toInt = 5 := by unfold write_e sh_e; (try simp only [hT0, Int.toNat_natCast]); (repeat' split) <;> omega
      exact fin_l hx hb hr hlk hS hP hD () trivial (by rw [he]; first | done | ((try simp only [hT0, Int.toNat_natCast]); first | done | rfl)) (by rw [he]; (try simp only [hT0, Int.toNat_natCast]); exact eqW.rf _) dX5_write_31
  · refine lv_aload_n hx hb dX5_write_7 rfl (lv_at hl 0 rfl) ?_
    refine lv_iconst (v := nI 0) hx hb dX5_write_8 rfl ?_
    refine callVI (rest := []) (wn := fun u => [xO x hm kp tr hi, (x 7, .inl (G.2.1, 7, .inl (tk tl 0))), (x 3, .inr (2, [.ref (x 4), .ref (x 5), .ref (x 6)])), (x 4, .inl (G.2.1, 4, .inl (nF wd))), (x 5, .inl (G.2.1, 4, .inl (nF zs))), (x 6, .inl (G.2.2.1, 160, .inr (.inl nb)))]) ⟨hx, hb, hml, hown, hts⟩ (c_X5_tell l G H.size x hm kp tr hi tl 0 (by omega)) (cwV 1 hts gX5_write_X5_tell rfl rfl rfl (by decide +kernel) ⟨Nat.le_of_ble_eq_true rfl, Nat.le_of_ble_eq_true rfl⟩) noXB (fun _ _ _ => trivial) hK hP hD hS hAq 4 0 (T := TX5) (N := 7) rfl rfl rfl hl.1 rfl (Nat.le_of_ble_eq_true rfl) dX5_write_9 ⟨Nat.le_of_ble_eq_true rfl, Nat.le_of_ble_eq_true rfl⟩ [0, 1] rfl rfl [x 0, x 7] rfl (fun _ => rfl) (fun _ => rfl) (fun u H locs hok hP hD hS => ?_)
    refine lv_i2l (v := (fnd 0).toInt64) hx hb dX5_write_12 rfl ?_
    have he : write_e wd zs a0.toInt a1.toInt = 0 := by unfold write_e sh_e; (try simp only [Int.toNat_natCast]); (repeat' split) <;> omega
    exact fin_l hx hb hr hlk hS hP hD () trivial (by rw [he]; first | done | ((try simp only [Int.toNat_natCast]); first | done | rfl)) (by rw [he]; (try simp only [Int.toNat_natCast]); exact eqW.rf _) dX5_write_13
set_option maxHeartbeats 400000 in
set_option maxRecDepth 100000 in
theorem c_X5_copy (l : Launch) (G : GT) (sz : Nat) (x hm kp tr : Nat → Nat) (hi : Nat) (tl : Nat → Int32) (wd zs : Nat → Nat) (nb : Nat → Int64) (a0 a1 a2 a3 a4 : Int32) (hSI : SInv wd zs) : MI (S := Unit) l G noX yX5_copy wsX5_copy ({ frames := 3, cells := 0, slots := 0, locals := 68 } : Room) [.ref (x 0), .int a0, .int a1, .int a2, .int a3, .int a4] ([xO x hm kp tr hi, (x 7, .inl (G.2.1, 7, .inl tl)), (x 3, .inr (2, [.ref (x 4), .ref (x 5), .ref (x 6)])), (x 4, .inl (G.2.1, 4, .inl (nF wd))), (x 5, .inl (G.2.1, 4, .inl (nF zs))), (x 6, .inl (G.2.2.1, 160, .inr (.inl nb)))]) sz (fun _ => True) (fun _ => rs (copy_e wd zs a0.toInt a1.toInt a2.toInt a3.toInt a4.toInt) (nI a4.toInt.toNat)) (fun _ => [xO x hm kp tr hi, (x 7, .inl (G.2.1, 7, .inl (ts tl (copy_e wd zs a0.toInt a1.toInt a2.toInt a3.toInt a4.toInt)))), (x 3, .inr (2, [.ref (x 4), .ref (x 5), .ref (x 6)])), (x 4, .inl (G.2.1, 4, .inl (nF wd))), (x 5, .inl (G.2.1, 4, .inl (nF zs))), (x 6, .inl (G.2.2.1, 160, .inr (.inl (hq (copy_e wd zs a0.toInt a1.toInt a2.toInt a3.toInt a4.toInt) (va_cpy nb nb (40 * a0.toInt.toNat + a1.toInt.toNat) (40 * a2.toInt.toNat + a3.toInt.toNat) a4.toInt.toNat) nb))))]) := by
  refine MI_enter (cc := cX5_copy) (maxL := 6) (ret := (some .int)) (by decide) rfl (Nat.le_of_ble_eq_true rfl) ?_
  intro p e s m below meth c A ls H hx hb hr hlk hml hown hts hAq hS hP hK hD hX hl hnm
  have hown : s.vm.findClass RX5 = some m.cls := hown
  have hl : lv_has ls 6 [(0, .ref (x 0)), (1, .int a0), (2, .int a1), (3, .int a2), (4, .int a3), (5, .int a4)] := hl
  refine lv_iload_n hx hb dX5_copy_0 rfl (lv_at hl 1 rfl) ?_
  refine callSI (rest := []) (wn := fun u => [xO x hm kp tr hi, (x 7, .inl (G.2.1, 7, .inl tl)), (x 3, .inr (2, [.ref (x 4), .ref (x 5), .ref (x 6)])), (x 4, .inl (G.2.1, 4, .inl (nF wd))), (x 5, .inl (G.2.1, 4, .inl (nF zs))), (x 6, .inl (G.2.2.1, 160, .inr (.inl nb)))]) ⟨hx, hb, hml, hown, hts⟩ (c_X3_isOne l G H.size a0) (va_cwS 1 hts gX5_copy_X3_isOne rfl rfl rfl (by decide +kernel) ⟨Nat.le_of_ble_eq_true rfl, Nat.le_of_ble_eq_true rfl⟩) noXB (fun _ _ _ => trivial) hK hP hD hS hAq rfl hl.1 rfl (Nat.le_of_ble_eq_true rfl) dX5_copy_1 ⟨Nat.le_of_ble_eq_true rfl, Nat.le_of_ble_eq_true rfl⟩ [] rfl rfl [] rfl (fun _ => rfl) (fun _ => rfl) (fun u H locs hok hP hD hS => ?_)
  refine z_if_eq hx hb (tgt := 14) dX5_copy_4 (by decide) (fun c_1 => ?_) (fun c_1 => ?_)
  · refine lv_aload_n hx hb dX5_copy_14 rfl (lv_at hl 0 rfl) ?_
    refine lv_iconst (v := nI 0) hx hb dX5_copy_15 rfl ?_
    refine callVI (rest := []) (wn := fun u => [xO x hm kp tr hi, (x 7, .inl (G.2.1, 7, .inl (tk tl 0))), (x 3, .inr (2, [.ref (x 4), .ref (x 5), .ref (x 6)])), (x 4, .inl (G.2.1, 4, .inl (nF wd))), (x 5, .inl (G.2.1, 4, .inl (nF zs))), (x 6, .inl (G.2.2.1, 160, .inr (.inl nb)))]) ⟨hx, hb, hml, hown, hts⟩ (c_X5_tell l G H.size x hm kp tr hi tl 0 (by omega)) (cwV 1 hts gX5_copy_X5_tell rfl rfl rfl (by decide +kernel) ⟨Nat.le_of_ble_eq_true rfl, Nat.le_of_ble_eq_true rfl⟩) noXB (fun _ _ _ => trivial) hK hP hD hS hAq 4 0 (T := TX5) (N := 7) rfl rfl rfl hl.1 rfl (Nat.le_of_ble_eq_true rfl) dX5_copy_16 ⟨Nat.le_of_ble_eq_true rfl, Nat.le_of_ble_eq_true rfl⟩ [0, 1] rfl rfl [x 0, x 7] rfl (fun _ => rfl) (fun _ => rfl) (fun u H locs hok hP hD hS => ?_)
    have he : copy_e wd zs a0.toInt a1.toInt a2.toInt a3.toInt a4.toInt = 0 := by unfold copy_e; (try simp only [Int.toNat_natCast]); (repeat' split) <;> omega
    exact fin_i hx hb hr hlk hS hP hD () trivial (by rw [he]; first | done | ((try simp only [Int.toNat_natCast]); first | done | rfl)) (by rw [he]; (try simp only [Int.toNat_natCast]); exact eqW.rf _) dX5_copy_19
  · obtain ⟨k0, hk0, rfl⟩ := nI_of_rg (n := 3) (x := a0) ⟨by omega, by omega⟩
    have hT0 := nI_T (a := k0) (by omega)
    obtain ⟨s0, s1⟩ := hSI k0 (by omega)
    refine lv_iload_n hx hb dX5_copy_7 rfl (lv_at hl 3 rfl) ?_
    refine callSI (rest := []) (wn := fun u => [xO x hm kp tr hi, (x 7, .inl (G.2.1, 7, .inl tl)), (x 3, .inr (2, [.ref (x 4), .ref (x 5), .ref (x 6)])), (x 4, .inl (G.2.1, 4, .inl (nF wd))), (x 5, .inl (G.2.1, 4, .inl (nF zs))), (x 6, .inl (G.2.2.1, 160, .inr (.inl nb)))]) ⟨hx, hb, hml, hown, hts⟩ (c_X3_isOne l G H.size a2) (va_cwS 1 hts gX5_copy_X3_isOne rfl rfl rfl (by decide +kernel) ⟨Nat.le_of_ble_eq_true rfl, Nat.le_of_ble_eq_true rfl⟩) noXB (fun _ _ _ => trivial) hK hP hD hS hAq rfl hl.1 rfl (Nat.le_of_ble_eq_true rfl) dX5_copy_8 ⟨Nat.le_of_ble_eq_true rfl, Nat.le_of_ble_eq_true rfl⟩ [] rfl rfl [] rfl (fun _ => rfl) (fun _ => rfl) (fun u H locs hok hP hD hS => ?_)
    refine z_if_ne hx hb (tgt := 20) dX5_copy_11 (by decide) (fun c_2 => ?_) (fun c_2 => ?_)
    · obtain ⟨k2, hk2, rfl⟩ := nI_of_rg (n := 3) (x := a2) ⟨by omega, by omega⟩
      have hT2 := nI_T (a := k2) (by omega)
      obtain ⟨s20, s21⟩ := hSI k2 (by omega)
      refine lv_aload_n hx hb dX5_copy_20 rfl (lv_at hl 0 rfl) ?_
      refine n_get (C := RX5) (T := TX5) (N := 7) hx hb hts (fun _ h => List.mem_cons_of_mem _ (List.mem_append_left _ (List.mem_append_right _ h))) hown hK hP 0 rfl rfl 4 (by decide) (List.mem_of_getElem? (i := 1) rfl) rfl (.ref (x 3)) rfl dX5_copy_21 ?_
      refine lv_iload_n hx hb dX5_copy_24 rfl (lv_at hl 1 rfl) ?_
      refine callVI (rest := []) (wn := fun u => [xO x hm kp tr hi, (x 7, .inl (G.2.1, 7, .inl tl)), (x 3, .inr (2, [.ref (x 4), .ref (x 5), .ref (x 6)])), (x 4, .inl (G.2.1, 4, .inl (nF wd))), (x 5, .inl (G.2.1, 4, .inl (nF zs))), (x 6, .inl (G.2.2.1, 160, .inr (.inl nb)))]) ⟨hx, hb, hml, hown, hts⟩ (c_X3_isMissing l G H.size x wd k0 (by omega) (by omega)) (cwV 1 hts gX5_copy_X3_isMissing rfl rfl rfl (by decide +kernel) ⟨Nat.le_of_ble_eq_true rfl, Nat.le_of_ble_eq_true rfl⟩) noXB (fun _ _ _ => trivial) hK hP hD hS hAq 2 0 (T := TX3) (N := 3) rfl rfl rfl hl.1 rfl (Nat.le_of_ble_eq_true rfl) dX5_copy_25 ⟨Nat.le_of_ble_eq_true rfl, Nat.le_of_ble_eq_true rfl⟩ [2, 3] rfl rfl [x 3, x 4] rfl (fun _ => rfl) (fun _ => rfl) (fun u H locs hok hP hD hS => ?_)
      refine z_if_ne hx hb (tgt := 42) dX5_copy_28 (by decide) (fun c_3 => ?_) (fun c_3 => ?_)
      · refine lv_aload_n hx hb dX5_copy_42 rfl (lv_at hl 0 rfl) ?_
        refine lv_iconst (v := nI 5) hx hb dX5_copy_43 rfl ?_
        refine callVI (rest := []) (wn := fun u => [xO x hm kp tr hi, (x 7, .inl (G.2.1, 7, .inl (tk tl 5))), (x 3, .inr (2, [.ref (x 4), .ref (x 5), .ref (x 6)])), (x 4, .inl (G.2.1, 4, .inl (nF wd))), (x 5, .inl (G.2.1, 4, .inl (nF zs))), (x 6, .inl (G.2.2.1, 160, .inr (.inl nb)))]) ⟨hx, hb, hml, hown, hts⟩ (c_X5_tell l G H.size x hm kp tr hi tl 5 (by omega)) (cwV 1 hts gX5_copy_X5_tell rfl rfl rfl (by decide +kernel) ⟨Nat.le_of_ble_eq_true rfl, Nat.le_of_ble_eq_true rfl⟩) noXB (fun _ _ _ => trivial) hK hP hD hS hAq 4 0 (T := TX5) (N := 7) rfl rfl rfl hl.1 rfl (Nat.le_of_ble_eq_true rfl) dX5_copy_44 ⟨Nat.le_of_ble_eq_true rfl, Nat.le_of_ble_eq_true rfl⟩ [0, 1] rfl rfl [x 0, x 7] rfl (fun _ => rfl) (fun _ => rfl) (fun u H locs hok hP hD hS => ?_)
        have he : copy_e wd zs (nI k0).toInt a1.toInt (nI k2).toInt a3.toInt a4.toInt = 5 := by unfold copy_e; (try simp only [hT0, hT2, Int.toNat_natCast]); (repeat' split) <;> omega
        exact fin_i hx hb hr hlk hS hP hD () trivial (by rw [he]; first | done | ((try simp only [hT0, hT2, Int.toNat_natCast]); first | done | rfl)) (by rw [he]; (try simp only [hT0, hT2, Int.toNat_natCast]); exact eqW.rf _) dX5_copy_47
      · refine lv_aload_n hx hb dX5_copy_31 rfl (lv_at hl 0 rfl) ?_
        refine n_get (C := RX5) (T := TX5) (N := 7) hx hb hts (fun _ h => List.mem_cons_of_mem _ (List.mem_append_left _ (List.mem_append_right _ h))) hown hK hP 0 rfl rfl 4 (by decide) (List.mem_of_getElem? (i := 1) rfl) rfl (.ref (x 3)) rfl dX5_copy_32 ?_
        refine lv_iload_n hx hb dX5_copy_35 rfl (lv_at hl 3 rfl) ?_
        refine callVI (rest := []) (wn := fun u => [xO x hm kp tr hi, (x 7, .inl (G.2.1, 7, .inl tl)), (x 3, .inr (2, [.ref (x 4), .ref (x 5), .ref (x 6)])), (x 4, .inl (G.2.1, 4, .inl (nF wd))), (x 5, .inl (G.2.1, 4, .inl (nF zs))), (x 6, .inl (G.2.2.1, 160, .inr (.inl nb)))]) ⟨hx, hb, hml, hown, hts⟩ (c_X3_isMissing l G H.size x wd k2 (by omega) (by omega)) (cwV 1 hts gX5_copy_X3_isMissing rfl rfl rfl (by decide +kernel) ⟨Nat.le_of_ble_eq_true rfl, Nat.le_of_ble_eq_true rfl⟩) noXB (fun _ _ _ => trivial) hK hP hD hS hAq 2 0 (T := TX3) (N := 3) rfl rfl rfl hl.1 rfl (Nat.le_of_ble_eq_true rfl) dX5_copy_36 ⟨Nat.le_of_ble_eq_true rfl, Nat.le_of_ble_eq_true rfl⟩ [2, 3] rfl rfl [x 3, x 4] rfl (fun _ => rfl) (fun _ => rfl) (fun u H locs hok hP hD hS => ?_)
        refine z_if_eq hx hb (tgt := 48) dX5_copy_39 (by decide) (fun c_4 => ?_) (fun c_4 => ?_)
        · refine lv_aload_n hx hb dX5_copy_48 rfl (lv_at hl 0 rfl) ?_
          refine n_get (C := RX5) (T := TX5) (N := 7) hx hb hts (fun _ h => List.mem_cons_of_mem _ (List.mem_append_left _ (List.mem_append_right _ h))) hown hK hP 0 rfl rfl 4 (by decide) (List.mem_of_getElem? (i := 1) rfl) rfl (.ref (x 3)) rfl dX5_copy_49 ?_
          refine n_get (C := RX3) (T := TX3) (N := 3) hx hb hts (fun _ h => List.mem_cons_of_mem _ (List.mem_append_right _ h)) hown hK hP 2 rfl rfl 0 (by decide) (List.mem_of_getElem? (i := 2) rfl) rfl (.ref (x 4)) rfl dX5_copy_52 ?_
          refine lv_iload_n hx hb dX5_copy_55 rfl (lv_at hl 1 rfl) ?_
          refine n_iald hx hb hK hP 3 (v := (nI (wd k0))) rfl (by omega) (by omega) rfl dX5_copy_56 ?_
          refine lv_aload_n hx hb dX5_copy_57 rfl (lv_at hl 0 rfl) ?_
          refine n_get (C := RX5) (T := TX5) (N := 7) hx hb hts (fun _ h => List.mem_cons_of_mem _ (List.mem_append_left _ (List.mem_append_right _ h))) hown hK hP 0 rfl rfl 4 (by decide) (List.mem_of_getElem? (i := 1) rfl) rfl (.ref (x 3)) rfl dX5_copy_58 ?_
          refine n_get (C := RX3) (T := TX3) (N := 3) hx hb hts (fun _ h => List.mem_cons_of_mem _ (List.mem_append_right _ h)) hown hK hP 2 rfl rfl 0 (by decide) (List.mem_of_getElem? (i := 2) rfl) rfl (.ref (x 4)) rfl dX5_copy_61 ?_
          refine lv_iload_n hx hb dX5_copy_64 rfl (lv_at hl 3 rfl) ?_
          refine n_iald hx hb hK hP 3 (v := (nI (wd k2))) rfl (by omega) (by omega) rfl dX5_copy_65 ?_
          refine n_icmp_eq hx hb (by omega) (by omega) (tgt := 75) dX5_copy_66 (by decide) (fun c_5 => ?_) (fun c_5 => ?_)
          · refine lv_aload_n hx hb dX5_copy_75 rfl (lv_at hl 0 rfl) ?_
            refine n_get (C := RX5) (T := TX5) (N := 7) hx hb hts (fun _ h => List.mem_cons_of_mem _ (List.mem_append_left _ (List.mem_append_right _ h))) hown hK hP 0 rfl rfl 4 (by decide) (List.mem_of_getElem? (i := 1) rfl) rfl (.ref (x 3)) rfl dX5_copy_76 ?_
            refine lv_iload_n hx hb dX5_copy_79 rfl (lv_at hl 1 rfl) ?_
            refine lv_iload_n hx hb dX5_copy_80 rfl (lv_at hl 2 rfl) ?_
            refine lv_iload hx hb dX5_copy_81 (lv_at hl 5 rfl) ?_
            refine callVI (rest := []) (wn := fun u => [xO x hm kp tr hi, (x 7, .inl (G.2.1, 7, .inl tl)), (x 3, .inr (2, [.ref (x 4), .ref (x 5), .ref (x 6)])), (x 4, .inl (G.2.1, 4, .inl (nF wd))), (x 5, .inl (G.2.1, 4, .inl (nF zs))), (x 6, .inl (G.2.2.1, 160, .inr (.inl nb)))]) ⟨hx, hb, hml, hown, hts⟩ (c_X3_hasRun l G H.size x zs k0 a1 a4 (by omega) (by omega)) (cwV 3 hts gX5_copy_X3_hasRun rfl rfl rfl (by decide +kernel) ⟨Nat.le_of_ble_eq_true rfl, Nat.le_of_ble_eq_true rfl⟩) noXB (fun _ _ _ => trivial) hK hP hD hS hAq 2 0 (T := TX3) (N := 3) rfl rfl rfl hl.1 rfl (Nat.le_of_ble_eq_true rfl) dX5_copy_83 ⟨Nat.le_of_ble_eq_true rfl, Nat.le_of_ble_eq_true rfl⟩ [2, 4] rfl rfl [x 3, x 5] rfl (fun _ => rfl) (fun _ => rfl) (fun u H locs hok hP hD hS => ?_)
            refine z_if_eq hx hb (tgt := 104) dX5_copy_86 (by decide) (fun c_6 => ?_) (fun c_6 => ?_)
            · refine lv_aload_n hx hb dX5_copy_104 rfl (lv_at hl 0 rfl) ?_
              refine lv_iconst (v := nI 0) hx hb dX5_copy_105 rfl ?_
              refine callVI (rest := []) (wn := fun u => [xO x hm kp tr hi, (x 7, .inl (G.2.1, 7, .inl (tk tl 0))), (x 3, .inr (2, [.ref (x 4), .ref (x 5), .ref (x 6)])), (x 4, .inl (G.2.1, 4, .inl (nF wd))), (x 5, .inl (G.2.1, 4, .inl (nF zs))), (x 6, .inl (G.2.2.1, 160, .inr (.inl nb)))]) ⟨hx, hb, hml, hown, hts⟩ (c_X5_tell l G H.size x hm kp tr hi tl 0 (by omega)) (cwV 1 hts gX5_copy_X5_tell rfl rfl rfl (by decide +kernel) ⟨Nat.le_of_ble_eq_true rfl, Nat.le_of_ble_eq_true rfl⟩) noXB (fun _ _ _ => trivial) hK hP hD hS hAq 4 0 (T := TX5) (N := 7) rfl rfl rfl hl.1 rfl (Nat.le_of_ble_eq_true rfl) dX5_copy_106 ⟨Nat.le_of_ble_eq_true rfl, Nat.le_of_ble_eq_true rfl⟩ [0, 1] rfl rfl [x 0, x 7] rfl (fun _ => rfl) (fun _ => rfl) (fun u H locs hok hP hD hS => ?_)
              have he : copy_e wd zs (nI k0).toInt a1.toInt (nI k2).toInt a3.toInt a4.toInt = 0 := by unfold copy_e; (try simp only [hT0, hT2, Int.toNat_natCast]); (repeat' split) <;> omega
              exact fin_i hx hb hr hlk hS hP hD () trivial (by rw [he]; first | done | ((try simp only [hT0, hT2, Int.toNat_natCast]); first | done | rfl)) (by rw [he]; (try simp only [hT0, hT2, Int.toNat_natCast]); exact eqW.rf _) dX5_copy_109
            · obtain ⟨f1, hf1, rfl⟩ := nI_of_rg (n := 40) (x := a1) ⟨by omega, by omega⟩
              have hT1 := nI_T (a := f1) (by omega)
              obtain ⟨n4, hn4, rfl⟩ := nI_of_rg (n := 40) (x := a4) ⟨by omega, by omega⟩
              have hT4 := nI_T (a := n4) (by omega)
              refine lv_aload_n hx hb dX5_copy_89 rfl (lv_at hl 0 rfl) ?_
              refine n_get (C := RX5) (T := TX5) (N := 7) hx hb hts (fun _ h => List.mem_cons_of_mem _ (List.mem_append_left _ (List.mem_append_right _ h))) hown hK hP 0 rfl rfl 4 (by decide) (List.mem_of_getElem? (i := 1) rfl) rfl (.ref (x 3)) rfl dX5_copy_90 ?_
              refine lv_iload_n hx hb dX5_copy_93 rfl (lv_at hl 3 rfl) ?_
              refine lv_iload hx hb dX5_copy_94 (lv_at hl 4 rfl) ?_
              refine lv_iload hx hb dX5_copy_96 (lv_at hl 5 rfl) ?_
              refine callVI (rest := []) (wn := fun u => [xO x hm kp tr hi, (x 7, .inl (G.2.1, 7, .inl tl)), (x 3, .inr (2, [.ref (x 4), .ref (x 5), .ref (x 6)])), (x 4, .inl (G.2.1, 4, .inl (nF wd))), (x 5, .inl (G.2.1, 4, .inl (nF zs))), (x 6, .inl (G.2.2.1, 160, .inr (.inl nb)))]) ⟨hx, hb, hml, hown, hts⟩ (c_X3_hasRun l G H.size x zs k2 a3 (nI n4) (by omega) (by omega)) (cwV 3 hts gX5_copy_X3_hasRun rfl rfl rfl (by decide +kernel) ⟨Nat.le_of_ble_eq_true rfl, Nat.le_of_ble_eq_true rfl⟩) noXB (fun _ _ _ => trivial) hK hP hD hS hAq 2 0 (T := TX3) (N := 3) rfl rfl rfl hl.1 rfl (Nat.le_of_ble_eq_true rfl) dX5_copy_98 ⟨Nat.le_of_ble_eq_true rfl, Nat.le_of_ble_eq_true rfl⟩ [2, 4] rfl rfl [x 3, x 5] rfl (fun _ => rfl) (fun _ => rfl) (fun u H locs hok hP hD hS => ?_)
              refine z_if_ne hx hb (tgt := 110) dX5_copy_101 (by decide) (fun c_7 => ?_) (fun c_7 => ?_)
              · obtain ⟨g3, hg3, rfl⟩ := nI_of_rg (n := 40) (x := a3) ⟨by omega, by omega⟩
                have hT3 := nI_T (a := g3) (by omega)
                refine lv_aload_n hx hb dX5_copy_110 rfl (lv_at hl 0 rfl) ?_
                refine n_get (C := RX5) (T := TX5) (N := 7) hx hb hts (fun _ h => List.mem_cons_of_mem _ (List.mem_append_left _ (List.mem_append_right _ h))) hown hK hP 0 rfl rfl 4 (by decide) (List.mem_of_getElem? (i := 1) rfl) rfl (.ref (x 3)) rfl dX5_copy_111 ?_
                refine lv_iload_n hx hb dX5_copy_114 rfl (lv_at hl 1 rfl) ?_
                refine lv_iload_n hx hb dX5_copy_115 rfl (lv_at hl 2 rfl) ?_
                refine lv_iload_n hx hb dX5_copy_116 rfl (lv_at hl 3 rfl) ?_
                refine lv_iload hx hb dX5_copy_117 (lv_at hl 4 rfl) ?_
                refine lv_iload hx hb dX5_copy_119 (lv_at hl 5 rfl) ?_
                refine callVV (rest := []) (wn := fun u => [xO x hm kp tr hi, (x 7, .inl (G.2.1, 7, .inl tl)), (x 3, .inr (2, [.ref (x 4), .ref (x 5), .ref (x 6)])), (x 4, .inl (G.2.1, 4, .inl (nF wd))), (x 5, .inl (G.2.1, 4, .inl (nF zs))), (x 6, .inl (G.2.2.1, 160, .inr (.inl (va_cpy nb nb (40 * k0 + f1) (40 * k2 + g3) n4))))]) ⟨hx, hb, hml, hown, hts⟩ (c_X3_moveRun l G H.size x zs nb k0 f1 k2 g3 n4 (by omega) (by omega) (by omega) (by omega) (by omega) (by omega)) (cwV 5 hts gX5_copy_X3_moveRun rfl rfl rfl (by decide +kernel) ⟨Nat.le_of_ble_eq_true rfl, Nat.le_of_ble_eq_true rfl⟩) noXB (fun _ _ _ => trivial) hK hP hD hS hAq 2 0 (T := TX3) (N := 3) rfl rfl rfl hl.1 rfl (Nat.le_of_ble_eq_true rfl) dX5_copy_121 ⟨Nat.le_of_ble_eq_true rfl, Nat.le_of_ble_eq_true rfl⟩ [2, 4, 5] rfl rfl [x 3, x 5, x 6] rfl (fun _ => rfl) (fun _ => rfl) (fun u H locs hok hP hD hS => ?_)
                refine lv_iload hx hb dX5_copy_124 (lv_at hl 5 rfl) ?_
                have he : copy_e wd zs (nI k0).toInt (nI f1).toInt (nI k2).toInt (nI g3).toInt (nI n4).toInt = 7 := by unfold copy_e; (try simp only [hT0, hT2, hT1, hT4, hT3, Int.toNat_natCast]); (repeat' split) <;> omega
                exact fin_i hx hb hr hlk hS hP hD () trivial (by rw [he]; first | done | ((try simp only [hT0, hT2, hT1, hT4, hT3, Int.toNat_natCast]); first | done | rfl)) (by rw [he]; (try simp only [hT0, hT2, hT1, hT4, hT3, Int.toNat_natCast]); exact eqW.rf _) dX5_copy_126
              · refine lv_aload_n hx hb dX5_copy_104 rfl (lv_at hl 0 rfl) ?_
                refine lv_iconst (v := nI 0) hx hb dX5_copy_105 rfl ?_
                refine callVI (rest := []) (wn := fun u => [xO x hm kp tr hi, (x 7, .inl (G.2.1, 7, .inl (tk tl 0))), (x 3, .inr (2, [.ref (x 4), .ref (x 5), .ref (x 6)])), (x 4, .inl (G.2.1, 4, .inl (nF wd))), (x 5, .inl (G.2.1, 4, .inl (nF zs))), (x 6, .inl (G.2.2.1, 160, .inr (.inl nb)))]) ⟨hx, hb, hml, hown, hts⟩ (c_X5_tell l G H.size x hm kp tr hi tl 0 (by omega)) (cwV 1 hts gX5_copy_X5_tell rfl rfl rfl (by decide +kernel) ⟨Nat.le_of_ble_eq_true rfl, Nat.le_of_ble_eq_true rfl⟩) noXB (fun _ _ _ => trivial) hK hP hD hS hAq 4 0 (T := TX5) (N := 7) rfl rfl rfl hl.1 rfl (Nat.le_of_ble_eq_true rfl) dX5_copy_106 ⟨Nat.le_of_ble_eq_true rfl, Nat.le_of_ble_eq_true rfl⟩ [0, 1] rfl rfl [x 0, x 7] rfl (fun _ => rfl) (fun _ => rfl) (fun u H locs hok hP hD hS => ?_)
                have he : copy_e wd zs (nI k0).toInt (nI f1).toInt (nI k2).toInt a3.toInt (nI n4).toInt = 0 := by unfold copy_e; (try simp only [hT0, hT2, hT1, hT4, Int.toNat_natCast]); (repeat' split) <;> omega
                exact fin_i hx hb hr hlk hS hP hD () trivial (by rw [he]; first | done | ((try simp only [hT0, hT2, hT1, hT4, Int.toNat_natCast]); first | done | rfl)) (by rw [he]; (try simp only [hT0, hT2, hT1, hT4, Int.toNat_natCast]); exact eqW.rf _) dX5_copy_109
          · refine lv_aload_n hx hb dX5_copy_69 rfl (lv_at hl 0 rfl) ?_
            refine lv_iconst (v := nI 2) hx hb dX5_copy_70 rfl ?_
            refine callVI (rest := []) (wn := fun u => [xO x hm kp tr hi, (x 7, .inl (G.2.1, 7, .inl (tk tl 2))), (x 3, .inr (2, [.ref (x 4), .ref (x 5), .ref (x 6)])), (x 4, .inl (G.2.1, 4, .inl (nF wd))), (x 5, .inl (G.2.1, 4, .inl (nF zs))), (x 6, .inl (G.2.2.1, 160, .inr (.inl nb)))]) ⟨hx, hb, hml, hown, hts⟩ (c_X5_tell l G H.size x hm kp tr hi tl 2 (by omega)) (cwV 1 hts gX5_copy_X5_tell rfl rfl rfl (by decide +kernel) ⟨Nat.le_of_ble_eq_true rfl, Nat.le_of_ble_eq_true rfl⟩) noXB (fun _ _ _ => trivial) hK hP hD hS hAq 4 0 (T := TX5) (N := 7) rfl rfl rfl hl.1 rfl (Nat.le_of_ble_eq_true rfl) dX5_copy_71 ⟨Nat.le_of_ble_eq_true rfl, Nat.le_of_ble_eq_true rfl⟩ [0, 1] rfl rfl [x 0, x 7] rfl (fun _ => rfl) (fun _ => rfl) (fun u H locs hok hP hD hS => ?_)
            have he : copy_e wd zs (nI k0).toInt a1.toInt (nI k2).toInt a3.toInt a4.toInt = 2 := by unfold copy_e; (try simp only [hT0, hT2, Int.toNat_natCast]); (repeat' split) <;> omega
            exact fin_i hx hb hr hlk hS hP hD () trivial (by rw [he]; first | done | ((try simp only [hT0, hT2, Int.toNat_natCast]); first | done | rfl)) (by rw [he]; (try simp only [hT0, hT2, Int.toNat_natCast]); exact eqW.rf _) dX5_copy_74
        · refine lv_aload_n hx hb dX5_copy_42 rfl (lv_at hl 0 rfl) ?_
          refine lv_iconst (v := nI 5) hx hb dX5_copy_43 rfl ?_
          refine callVI (rest := []) (wn := fun u => [xO x hm kp tr hi, (x 7, .inl (G.2.1, 7, .inl (tk tl 5))), (x 3, .inr (2, [.ref (x 4), .ref (x 5), .ref (x 6)])), (x 4, .inl (G.2.1, 4, .inl (nF wd))), (x 5, .inl (G.2.1, 4, .inl (nF zs))), (x 6, .inl (G.2.2.1, 160, .inr (.inl nb)))]) ⟨hx, hb, hml, hown, hts⟩ (c_X5_tell l G H.size x hm kp tr hi tl 5 (by omega)) (cwV 1 hts gX5_copy_X5_tell rfl rfl rfl (by decide +kernel) ⟨Nat.le_of_ble_eq_true rfl, Nat.le_of_ble_eq_true rfl⟩) noXB (fun _ _ _ => trivial) hK hP hD hS hAq 4 0 (T := TX5) (N := 7) rfl rfl rfl hl.1 rfl (Nat.le_of_ble_eq_true rfl) dX5_copy_44 ⟨Nat.le_of_ble_eq_true rfl, Nat.le_of_ble_eq_true rfl⟩ [0, 1] rfl rfl [x 0, x 7] rfl (fun _ => rfl) (fun _ => rfl) (fun u H locs hok hP hD hS => ?_)
          have he : copy_e wd zs (nI k0).toInt a1.toInt (nI k2).toInt a3.toInt a4.toInt = 5 := by unfold copy_e; (try simp only [hT0, hT2, Int.toNat_natCast]); (repeat' split) <;> omega
          exact fin_i hx hb hr hlk hS hP hD () trivial (by rw [he]; first | done | ((try simp only [hT0, hT2, Int.toNat_natCast]); first | done | rfl)) (by rw [he]; (try simp only [hT0, hT2, Int.toNat_natCast]); exact eqW.rf _) dX5_copy_47
    · refine lv_aload_n hx hb dX5_copy_14 rfl (lv_at hl 0 rfl) ?_
      refine lv_iconst (v := nI 0) hx hb dX5_copy_15 rfl ?_
      refine callVI (rest := []) (wn := fun u => [xO x hm kp tr hi, (x 7, .inl (G.2.1, 7, .inl (tk tl 0))), (x 3, .inr (2, [.ref (x 4), .ref (x 5), .ref (x 6)])), (x 4, .inl (G.2.1, 4, .inl (nF wd))), (x 5, .inl (G.2.1, 4, .inl (nF zs))), (x 6, .inl (G.2.2.1, 160, .inr (.inl nb)))]) ⟨hx, hb, hml, hown, hts⟩ (c_X5_tell l G H.size x hm kp tr hi tl 0 (by omega)) (cwV 1 hts gX5_copy_X5_tell rfl rfl rfl (by decide +kernel) ⟨Nat.le_of_ble_eq_true rfl, Nat.le_of_ble_eq_true rfl⟩) noXB (fun _ _ _ => trivial) hK hP hD hS hAq 4 0 (T := TX5) (N := 7) rfl rfl rfl hl.1 rfl (Nat.le_of_ble_eq_true rfl) dX5_copy_16 ⟨Nat.le_of_ble_eq_true rfl, Nat.le_of_ble_eq_true rfl⟩ [0, 1] rfl rfl [x 0, x 7] rfl (fun _ => rfl) (fun _ => rfl) (fun u H locs hok hP hD hS => ?_)
      have he : copy_e wd zs (nI k0).toInt a1.toInt a2.toInt a3.toInt a4.toInt = 0 := by unfold copy_e; (try simp only [hT0, Int.toNat_natCast]); (repeat' split) <;> omega
      exact fin_i hx hb hr hlk hS hP hD () trivial (by rw [he]; first | done | ((try simp only [hT0, Int.toNat_natCast]); first | done | rfl)) (by rw [he]; (try simp only [hT0, Int.toNat_natCast]); exact eqW.rf _) dX5_copy_19
