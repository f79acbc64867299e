set_option maxHeartbeats 400000 in
set_option maxRecDepth 100000 in
theorem c_X5_lays (l : Launch) (G : GT) (sz : Nat) (x hm kp tr : Nat → Nat) (hi : Nat) (tl : Nat → Int32) (wd zs : Nat → Nat) (nb : Nat → Int64) (σ : Sg) (a0 : Int32) (hSI : SInv wd zs) (hI : Inv σ) : MI (S := Unit) l G noX yX5_lays wsX5_lays ({ frames := 3, cells := 0, slots := 0, locals := 65 } : Room) [.ref (x 0), .int a0] (([xO x hm kp tr hi, (x 7, .inl (G.2.1, 7, .inl tl))] ++ (wH G hm σ ++ ([(x 3, .inr (2, [.ref (x 4), .ref (x 5), .ref (x 6)])), (x 4, .inl (G.2.1, 4, .inl (nF wd))), (x 5, .inl (G.2.1, 4, .inl (nF zs))), (x 6, .inl (G.2.2.1, 160, .inr (.inl nb)))])))) sz (fun _ => True) (fun _ => rs (sh_e wd a0.toInt 7) (nI (layN nb a0.toInt.toNat σ (min (zs a0.toInt.toNat) (σ 5))).2)) (fun _ => ([xO x hm kp tr hi, (x 7, .inl (G.2.1, 7, .inl (ts tl (sh_e wd a0.toInt 7))))] ++ (wH G hm (hs (sh_e wd a0.toInt 7) ((layN nb a0.toInt.toNat σ (min (zs a0.toInt.toNat) (σ 5))).1) σ) ++ ([(x 3, .inr (2, [.ref (x 4), .ref (x 5), .ref (x 6)])), (x 4, .inl (G.2.1, 4, .inl (nF wd))), (x 5, .inl (G.2.1, 4, .inl (nF zs))), (x 6, .inl (G.2.2.1, 160, .inr (.inl nb)))])))) := by
  refine MI_enter (cc := cX5_lays) (maxL := 6) (ret := (some .int)) (by decide) rfl (Nat.le_of_ble_eq_true rfl) ?_
  intro p e s m below meth c A ls H hx hb hr hlk hml hown hts hAq hS hP hK hD hX hl hnm
  have hown : s.vm.findClass RX5 = some m.cls := hown
  have hl : lv_has ls 6 [(0, .ref (x 0)), (1, .int a0)] := hl
  obtain ⟨⟨i1, i2, i3, i4, i5⟩, ip⟩ := id hI
  refine lv_iload_n hx hb dX5_lays_0 rfl (lv_at hl 1 rfl) ?_
  refine callSI (rest := []) (wn := fun u => ([xO x hm kp tr hi, (x 7, .inl (G.2.1, 7, .inl tl))] ++ (wH G hm σ ++ ([(x 3, .inr (2, [.ref (x 4), .ref (x 5), .ref (x 6)])), (x 4, .inl (G.2.1, 4, .inl (nF wd))), (x 5, .inl (G.2.1, 4, .inl (nF zs))), (x 6, .inl (G.2.2.1, 160, .inr (.inl nb)))])))) ⟨hx, hb, hml, hown, hts⟩ (c_X3_isOne l G H.size a0) (va_cwS 1 hts gX5_lays_X3_isOne rfl rfl rfl (by decide +kernel) ⟨Nat.le_of_ble_eq_true rfl, Nat.le_of_ble_eq_true rfl⟩) noXB (fun _ _ _ => trivial) hK hP hD hS hAq rfl hl.1 rfl (Nat.le_of_ble_eq_true rfl) dX5_lays_1 ⟨Nat.le_of_ble_eq_true rfl, Nat.le_of_ble_eq_true rfl⟩ [] rfl rfl [] rfl (fun _ => rfl) (fun _ => rfl) (fun u H locs hok hP hD hS => ?_)
  refine z_if_ne hx hb (tgt := 13) dX5_lays_4 (by decide) (fun c_1 => ?_) (fun c_1 => ?_)
  · obtain ⟨k0, hk0, rfl⟩ := nI_of_rg (n := 3) (x := a0) ⟨by omega, by omega⟩
    have hT0 := nI_T (a := k0) (by omega)
    obtain ⟨s0, s1⟩ := hSI k0 (by omega)
    refine lv_aload_n hx hb dX5_lays_13 rfl (lv_at hl 0 rfl) ?_
    refine n_get (C := RX5) (T := TX5) (N := 7) hx hb hts (fun _ h => List.mem_cons_of_mem _ (List.mem_append_left _ (List.mem_append_left _ (List.mem_append_right _ h)))) hown hK hP 0 rfl rfl 4 (by decide) (List.mem_of_getElem? (i := 1) rfl) rfl (.ref (x 3)) rfl dX5_lays_14 ?_
    refine lv_iload_n hx hb dX5_lays_17 rfl (lv_at hl 1 rfl) ?_
    refine callVI (rest := []) (wn := fun u => ([xO x hm kp tr hi, (x 7, .inl (G.2.1, 7, .inl tl))] ++ (wH G hm σ ++ ([(x 3, .inr (2, [.ref (x 4), .ref (x 5), .ref (x 6)])), (x 4, .inl (G.2.1, 4, .inl (nF wd))), (x 5, .inl (G.2.1, 4, .inl (nF zs))), (x 6, .inl (G.2.2.1, 160, .inr (.inl nb)))])))) ⟨hx, hb, hml, hown, hts⟩ (c_X3_isMissing l G H.size x wd k0 (by omega) (by omega)) (cwV 1 hts gX5_lays_X3_isMissing rfl rfl rfl (by decide +kernel) ⟨Nat.le_of_ble_eq_true rfl, Nat.le_of_ble_eq_true rfl⟩) noXB (fun _ _ _ => trivial) hK hP hD hS hAq 2 0 (T := TX3) (N := 3) rfl rfl rfl hl.1 rfl (Nat.le_of_ble_eq_true rfl) dX5_lays_18 ⟨Nat.le_of_ble_eq_true rfl, Nat.le_of_ble_eq_true rfl⟩ [8, 9] rfl rfl [x 3, x 4] rfl (fun _ => rfl) (fun _ => rfl) (fun u H locs hok hP hD hS => ?_)
    refine z_if_eq hx hb (tgt := 30) dX5_lays_21 (by decide) (fun c_2 => ?_) (fun c_2 => ?_)
    · refine lv_iconst (v := nI 0) hx hb dX5_lays_30 rfl ?_
      refine lv_istore_n (lv' := [(2, .int (nI 0)), (0, .ref (x 0)), (1, .int (nI k0))]) hx hb dX5_lays_31 rfl hl (by decide) rfl (fun ls hl => ?_)
      refine lv_iconst (v := nI 0) hx hb dX5_lays_32 rfl ?_
      refine lv_istore_n (lv' := [(3, .int (nI 0)), (2, .int (nI 0)), (0, .ref (x 0)), (1, .int (nI k0))]) hx hb dX5_lays_33 rfl hl (by decide) rfl (fun ls hl => ?_)
      refine W_loop1 (I := fun (i : Nat) => i ≤ zs k0 ∧ i ≤ σ 5) (wd := fun (i : Nat) => ([xO x hm kp tr hi, (x 7, .inl (G.2.1, 7, .inl tl))] ++ (wH G hm ((layN nb k0 σ i).1) ++ ([(x 3, .inr (2, [.ref (x 4), .ref (x 5), .ref (x 6)])), (x 4, .inl (G.2.1, 4, .inl (nF wd))), (x 5, .inl (G.2.1, 4, .inl (nF zs))), (x 6, .inl (G.2.2.1, 160, .inr (.inl nb)))])))) (lv := fun (i : Nat) => [(3, .int (nI i)), (2, .int (nI ((layN nb k0 σ i).2))), (0, .ref (x 0)), (1, .int (nI k0))]) (μ := fun (i : Nat) => zs k0 - i) ?_ 0 ⟨by omega, by omega⟩ hP hD hS (lv_sub hl [0, 1, 2, 3] rfl)
      intro i H locs ls hI0 hP hD hS hl ih
      obtain ⟨hi0, hi1⟩ := hI0
      refine lv_iload_n hx hb dX5_lays_34 rfl (lv_at hl 0 rfl) ?_
      refine lv_aload_n hx hb dX5_lays_35 rfl (lv_at hl 2 rfl) ?_
      refine n_get (C := RX5) (T := TX5) (N := 7) hx hb hts (fun _ h => List.mem_cons_of_mem _ (List.mem_append_left _ (List.mem_append_left _ (List.mem_append_right _ h)))) hown hK hP 0 rfl rfl 4 (by decide) (List.mem_of_getElem? (i := 1) rfl) rfl (.ref (x 3)) rfl dX5_lays_36 ?_
      refine n_get (C := RX3) (T := TX3) (N := 3) hx hb hts (fun _ h => List.mem_cons_of_mem _ (List.mem_append_left _ (List.mem_append_right _ h))) hown hK hP 8 rfl rfl 1 (by decide) (List.mem_of_getElem? (i := 2) rfl) rfl (.ref (x 5)) rfl dX5_lays_39 ?_
      refine lv_iload_n hx hb dX5_lays_42 rfl (lv_at hl 3 rfl) ?_
      refine n_iald hx hb hK hP 10 (v := (nI (zs k0))) rfl (by omega) (by omega) rfl dX5_lays_43 ?_
      refine n_icmp_ge hx hb (by omega) (by omega) (tgt := 106) dX5_lays_44 (by decide) (fun c_3 => ?_) (fun c_3 => ?_)
      · have hk5 : i = min (zs k0) (σ 5) := by omega
        subst hk5
        refine lv_iload_n hx hb dX5_lays_106 rfl (lv_at hl 1 rfl) ?_
        have he : sh_e wd (nI k0).toInt 7 = 7 := by unfold sh_e; (try simp only [hT0, Int.toNat_natCast]); (repeat' split) <;> omega
        exact fin_i hx hb hr hlk hS hP hD () trivial (by rw [he]; first | done | ((try simp only [hT0, Int.toNat_natCast]); first | done | rfl)) (by rw [he]; (try simp only [hT0, Int.toNat_natCast]); exact eqW.rf _) dX5_lays_107
      · refine lv_iload_n hx hb dX5_lays_47 rfl (lv_at hl 0 rfl) ?_
        refine lv_aload_n hx hb dX5_lays_48 rfl (lv_at hl 2 rfl) ?_
        refine n_get (C := RX5) (T := TX5) (N := 7) hx hb hts (fun _ h => List.mem_cons_of_mem _ (List.mem_append_left _ (List.mem_append_left _ (List.mem_append_right _ h)))) hown hK hP 0 rfl rfl 0 (by decide) (List.mem_of_getElem? (i := 3) rfl) rfl (.ref (hm 0)) rfl dX5_lays_49 ?_
        refine n_get (C := RX0) (T := TX0) (N := 11) hx hb hts (fun _ h => List.mem_cons_of_mem _ (List.mem_append_right _ h)) hown hK hP 2 rfl rfl 5 (by decide) (List.mem_of_getElem? (i := 4) rfl) rfl (_) rfl dX5_lays_52 ?_
        refine n_top (y := (nI (σ 5))) (congrArg nI (lay_s nb k0 σ (by decide) i)) ?_
        refine n_icmp_ge hx hb (by omega) (by omega) (tgt := 106) dX5_lays_55 (by decide) (fun c_4 => ?_) (fun c_4 => ?_)
        · have hk5 : i = min (zs k0) (σ 5) := by omega
          subst hk5
          refine lv_iload_n hx hb dX5_lays_106 rfl (lv_at hl 1 rfl) ?_
          have he : sh_e wd (nI k0).toInt 7 = 7 := by unfold sh_e; (try simp only [hT0, Int.toNat_natCast]); (repeat' split) <;> omega
          exact fin_i hx hb hr hlk hS hP hD () trivial (by rw [he]; first | done | ((try simp only [hT0, Int.toNat_natCast]); first | done | rfl)) (by rw [he]; (try simp only [hT0, Int.toNat_natCast]); exact eqW.rf _) dX5_lays_107
        · refine lv_aload_n hx hb dX5_lays_58 rfl (lv_at hl 2 rfl) ?_
          refine n_get (C := RX5) (T := TX5) (N := 7) hx hb hts (fun _ h => List.mem_cons_of_mem _ (List.mem_append_left _ (List.mem_append_left _ (List.mem_append_right _ h)))) hown hK hP 0 rfl rfl 4 (by decide) (List.mem_of_getElem? (i := 1) rfl) rfl (.ref (x 3)) rfl dX5_lays_59 ?_
          refine lv_iload_n hx hb dX5_lays_62 rfl (lv_at hl 3 rfl) ?_
          refine lv_iload_n hx hb dX5_lays_63 rfl (lv_at hl 0 rfl) ?_
          refine callVL (rest := []) (wn := fun u => ([xO x hm kp tr hi, (x 7, .inl (G.2.1, 7, .inl tl))] ++ (wH G hm ((layN nb k0 σ i).1) ++ ([(x 3, .inr (2, [.ref (x 4), .ref (x 5), .ref (x 6)])), (x 4, .inl (G.2.1, 4, .inl (nF wd))), (x 5, .inl (G.2.1, 4, .inl (nF zs))), (x 6, .inl (G.2.2.1, 160, .inr (.inl nb)))])))) ⟨hx, hb, hml, hown, hts⟩ (c_X3_numberAt l G H.size x zs nb k0 i (by omega) (by omega) (by omega)) (cwV 2 hts gX5_lays_X3_numberAt rfl rfl rfl (by decide +kernel) ⟨Nat.le_of_ble_eq_true rfl, Nat.le_of_ble_eq_true rfl⟩) noXB (fun _ _ _ => trivial) hK hP hD hS hAq 2 0 (T := TX3) (N := 3) rfl rfl rfl hl.1 rfl (Nat.le_of_ble_eq_true rfl) dX5_lays_64 ⟨Nat.le_of_ble_eq_true rfl, Nat.le_of_ble_eq_true rfl⟩ [8, 10, 11] rfl rfl [x 3, x 5, x 6] rfl (fun _ => rfl) (fun _ => rfl) (fun u H locs hok hP hD hS => ?_)
          refine lv_lstore (lv' := [(4, .long (nb (40 * k0 + i))), (3, .int (nI i)), (2, .int (nI ((layN nb k0 σ i).2))), (0, .ref (x 0)), (1, .int (nI k0))]) hx hb dX5_lays_67 hl (by decide) rfl (fun ls hl => ?_)
          refine lv_lload hx hb dX5_lays_69 (lv_at hl 0 rfl) ?_
          refine lv_lconst (v := lN 0) hx hb dX5_lays_71 rfl ?_
          refine W.lcmp hx hb dX5_lays_72 ?_
          have hlc_5 := lc_all (nb (40 * k0 + i)) (lN 0)
          rw [lN_toInt (show 0 < 2147483648 by omega)] at hlc_5
          refine r_if_lt hx hb (tgt := 100) dX5_lays_73 (by decide) (fun c_6 => ?_) (fun c_6 => ?_)
          · refine n_iinc (lv' := [(3, .int (nI (i + 1))), (4, .long (nb (40 * k0 + i))), (2, .int (nI ((layN nb k0 σ i).2))), (0, .ref (x 0)), (1, .int (nI k0))]) hx hb dX5_lays_100 hl (k := 1) rfl (by decide) rfl (fun ls hl => ?_)
            refine lv_goto (tgt := 34) hx hb dX5_lays_103 (by decide) ?_
            have e1 : (layN nb k0 σ (i + 1)).1 = (layN nb k0 σ i).1 := by rw [lay_S]; unfold layS; first | (exfalso; omega) | rw [if_pos ⟨by omega, by omega⟩] | rw [if_neg (by omega)] | (rw [if_neg (by omega)]; rfl)
            have e2 : (layN nb k0 σ (i + 1)).2 = (layN nb k0 σ i).2 := by rw [lay_S]; unfold layS; first | (exfalso; omega) | rw [if_pos ⟨by omega, by omega⟩] | rw [if_neg (by omega)] | (rw [if_neg (by omega)]; rfl)
            exact ih (i + 1) _ _ _ (by omega) (by omega) (by rw [e1]; exact hP) (by rw [e1]; exact hD) hS (by rw [e2]; exact (lv_sub hl [0, 2, 3, 4] rfl))
          · refine lv_lload hx hb dX5_lays_76 (lv_at hl 0 rfl) ?_
            refine lv_ldc2 (v := 99) hx hb hown (hts _ (List.mem_of_getElem? (i := 5) rfl)) dX5_lays_78 ?_
            refine n_topl (y := lN 99) rfl ?_
            refine W.lcmp hx hb dX5_lays_81 ?_
            have hlc_7 := lc_all (nb (40 * k0 + i)) (lN 99)
            rw [lN_toInt (show 99 < 2147483648 by omega)] at hlc_7
            refine r_if_gt hx hb (tgt := 100) dX5_lays_82 (by decide) (fun c_8 => ?_) (fun c_8 => ?_)
            · refine n_iinc (lv' := [(3, .int (nI (i + 1))), (4, .long (nb (40 * k0 + i))), (2, .int (nI ((layN nb k0 σ i).2))), (0, .ref (x 0)), (1, .int (nI k0))]) hx hb dX5_lays_100 hl (k := 1) rfl (by decide) rfl (fun ls hl => ?_)
              refine lv_goto (tgt := 34) hx hb dX5_lays_103 (by decide) ?_
              have e1 : (layN nb k0 σ (i + 1)).1 = (layN nb k0 σ i).1 := by rw [lay_S]; unfold layS; first | (exfalso; omega) | rw [if_pos ⟨by omega, by omega⟩] | rw [if_neg (by omega)] | (rw [if_neg (by omega)]; rfl)
              have e2 : (layN nb k0 σ (i + 1)).2 = (layN nb k0 σ i).2 := by rw [lay_S]; unfold layS; first | (exfalso; omega) | rw [if_pos ⟨by omega, by omega⟩] | rw [if_neg (by omega)] | (rw [if_neg (by omega)]; rfl)
              exact ih (i + 1) _ _ _ (by omega) (by omega) (by rw [e1]; exact hP) (by rw [e1]; exact hD) hS (by rw [e2]; exact (lv_sub hl [0, 2, 3, 4] rfl))
            · refine lv_aload_n hx hb dX5_lays_85 rfl (lv_at hl 3 rfl) ?_
              refine n_get (C := RX5) (T := TX5) (N := 7) hx hb hts (fun _ h => List.mem_cons_of_mem _ (List.mem_append_left _ (List.mem_append_left _ (List.mem_append_right _ h)))) hown hK hP 0 rfl rfl 0 (by decide) (List.mem_of_getElem? (i := 3) rfl) rfl (.ref (hm 0)) rfl dX5_lays_86 ?_
              refine n_get (C := RX0) (T := TX0) (N := 11) hx hb hts (fun _ h => List.mem_cons_of_mem _ (List.mem_append_right _ h)) hown hK hP 2 rfl rfl 8 (by decide) (List.mem_of_getElem? (i := 6) rfl) rfl (.ref (hm 3)) rfl dX5_lays_89 ?_
              refine lv_iload_n hx hb dX5_lays_92 rfl (lv_at hl 1 rfl) ?_
              refine lv_lload hx hb dX5_lays_93 (lv_at hl 0 rfl) ?_
              refine lv_l2i (v := nI (nb (40 * k0 + i)).toInt.toNat) hx hb dX5_lays_95 (l_small (by omega) (by omega)) ?_
              refine n_iast hx hb hK hP hD hS 5 (wn := ([xO x hm kp tr hi, (x 7, .inl (G.2.1, 7, .inl tl))] ++ (wH G hm (un ((layN nb k0 σ i).1) (pl i 2) ((nb (40 * k0 + i)).toInt.toNat)) ++ ([(x 3, .inr (2, [.ref (x 4), .ref (x 5), .ref (x 6)])), (x 4, .inl (G.2.1, 4, .inl (nF wd))), (x 5, .inl (G.2.1, 4, .inl (nF zs))), (x 6, .inl (G.2.2.1, 160, .inr (.inl nb)))])))) rfl (by omega) (by omega) (congrArg (fun hole_w : va_W => ([xO x hm kp tr hi, (x 7, .inl (G.2.1, 7, .inl tl))] ++ (hole_w ++ ([(x 3, .inr (2, [.ref (x 4), .ref (x 5), .ref (x 6)])), (x 4, .inl (G.2.1, 4, .inl (nF wd))), (x 5, .inl (G.2.1, 4, .inl (nF zs))), (x 6, .inl (G.2.2.1, 160, .inr (.inl nb)))])))) (wH_p2 G hm ((layN nb k0 σ i).1) i ((nb (40 * k0 + i)).toInt.toNat))) dX5_lays_96 (fun H locs hP hD hS => ?_)
              refine n_iinc (lv' := [(2, .int (nI (((layN nb k0 σ i).2) + 1))), (4, .long (nb (40 * k0 + i))), (3, .int (nI i)), (0, .ref (x 0)), (1, .int (nI k0))]) hx hb dX5_lays_97 hl (k := 2) rfl (by decide) rfl (fun ls hl => ?_)
              refine n_iinc (lv' := [(3, .int (nI (i + 1))), (2, .int (nI (((layN nb k0 σ i).2) + 1))), (4, .long (nb (40 * k0 + i))), (0, .ref (x 0)), (1, .int (nI k0))]) hx hb dX5_lays_100 hl (k := 2) rfl (by decide) rfl (fun ls hl => ?_)
              refine lv_goto (tgt := 34) hx hb dX5_lays_103 (by decide) ?_
              have e1 : (layN nb k0 σ (i + 1)).1 = un ((layN nb k0 σ i).1) (pl i 2) ((nb (40 * k0 + i)).toInt.toNat) := by rw [lay_S]; unfold layS; first | (exfalso; omega) | rw [if_pos ⟨by omega, by omega⟩] | rw [if_neg (by omega), un_id] | (rw [if_neg (by omega)]; rfl)
              have e2 : (layN nb k0 σ (i + 1)).2 = ((layN nb k0 σ i).2) + 1 := by rw [lay_S]; unfold layS; first | (exfalso; omega) | rw [if_pos ⟨by omega, by omega⟩] | rw [if_neg (by omega)] | (rw [if_neg (by omega)]; rfl)
              exact ih (i + 1) _ _ _ (by omega) (by omega) (by rw [e1]; exact hP) (by rw [e1]; exact hD) hS (by rw [e2]; exact (lv_sub hl [0, 1, 3, 4] rfl))
    · refine lv_aload_n hx hb dX5_lays_24 rfl (lv_at hl 0 rfl) ?_
      refine lv_iconst (v := nI 5) hx hb dX5_lays_25 rfl ?_
      refine callVI (rest := []) (wn := fun u => ([xO x hm kp tr hi, (x 7, .inl (G.2.1, 7, .inl (tk tl 5)))] ++ (wH G hm σ ++ ([(x 3, .inr (2, [.ref (x 4), .ref (x 5), .ref (x 6)])), (x 4, .inl (G.2.1, 4, .inl (nF wd))), (x 5, .inl (G.2.1, 4, .inl (nF zs))), (x 6, .inl (G.2.2.1, 160, .inr (.inl nb)))])))) ⟨hx, hb, hml, hown, hts⟩ (c_X5_tell l G H.size x hm kp tr hi tl 5 (by omega)) (cwV 1 hts gX5_lays_X5_tell rfl rfl rfl (by decide +kernel) ⟨Nat.le_of_ble_eq_true rfl, Nat.le_of_ble_eq_true rfl⟩) noXB (fun _ _ _ => trivial) hK hP hD hS hAq 4 0 (T := TX5) (N := 7) rfl rfl rfl hl.1 rfl (Nat.le_of_ble_eq_true rfl) dX5_lays_26 ⟨Nat.le_of_ble_eq_true rfl, Nat.le_of_ble_eq_true rfl⟩ [0, 1] rfl rfl [x 0, x 7] rfl (fun _ => rfl) (fun _ => rfl) (fun u H locs hok hP hD hS => ?_)
      have he : sh_e wd (nI k0).toInt 7 = 5 := by unfold sh_e; (try simp only [hT0, Int.toNat_natCast]); (repeat' split) <;> omega
      exact fin_i hx hb hr hlk hS hP hD () trivial (by rw [he]; first | done | ((try simp only [hT0, Int.toNat_natCast]); first | done | rfl)) (by rw [he]; (try simp only [hT0, Int.toNat_natCast]); exact eqW.rf _) dX5_lays_29
  · refine lv_aload_n hx hb dX5_lays_7 rfl (lv_at hl 0 rfl) ?_
    refine lv_iconst (v := nI 0) hx hb dX5_lays_8 rfl ?_
    refine callVI (rest := []) (wn := fun u => ([xO x hm kp tr hi, (x 7, .inl (G.2.1, 7, .inl (tk tl 0)))] ++ (wH G hm σ ++ ([(x 3, .inr (2, [.ref (x 4), .ref (x 5), .ref (x 6)])), (x 4, .inl (G.2.1, 4, .inl (nF wd))), (x 5, .inl (G.2.1, 4, .inl (nF zs))), (x 6, .inl (G.2.2.1, 160, .inr (.inl nb)))])))) ⟨hx, hb, hml, hown, hts⟩ (c_X5_tell l G H.size x hm kp tr hi tl 0 (by omega)) (cwV 1 hts gX5_lays_X5_tell rfl rfl rfl (by decide +kernel) ⟨Nat.le_of_ble_eq_true rfl, Nat.le_of_ble_eq_true rfl⟩) noXB (fun _ _ _ => trivial) hK hP hD hS hAq 4 0 (T := TX5) (N := 7) rfl rfl rfl hl.1 rfl (Nat.le_of_ble_eq_true rfl) dX5_lays_9 ⟨Nat.le_of_ble_eq_true rfl, Nat.le_of_ble_eq_true rfl⟩ [0, 1] rfl rfl [x 0, x 7] rfl (fun _ => rfl) (fun _ => rfl) (fun u H locs hok hP hD hS => ?_)
    have he : sh_e wd a0.toInt 7 = 0 := by unfold sh_e; (try simp only [Int.toNat_natCast]); (repeat' split) <;> omega
    exact fin_i hx hb hr hlk hS hP hD () trivial (by rw [he]; first | done | ((try simp only [Int.toNat_natCast]); first | done | rfl)) (by rw [he]; (try simp only [Int.toNat_natCast]); exact eqW.rf _) dX5_lays_12
set_option maxHeartbeats 400000 in
set_option maxRecDepth 100000 in
theorem c_X6_lays (l : Launch) (G : GT) (sz : Nat) (b : Nat → Nat) (ζ : Nat → Nat) (vv : Int64) (tl : Nat → Int32) (wd zs : Nat → Nat) (nb : Nat → Int64) (σ : Sg) (a0 : Int32) (hSI : SInv wd zs) (hI : Inv σ) : MI (S := Unit) l G noX yX6_lays wsX6_lays ({ frames := 3, cells := 0, slots := 0, locals := 63 } : Room) [.ref (b 0), .int a0] ([mO b ζ vv, (b 4, .inl (G.2.1, 7, .inl tl)), (b 1, .inl (G.2.1, 46, .inl (nF σ))), (b 9, .inl (G.2.1, 4, .inl (nF wd))), (b 10, .inl (G.2.1, 4, .inl (nF zs))), (b 11, .inl (G.2.2.1, 160, .inr (.inl nb)))]) sz (fun _ => True) (fun _ => rs (sh_e wd a0.toInt 7) (nI (layN nb a0.toInt.toNat σ (min (zs a0.toInt.toNat) (σ 5))).2)) (fun _ => [mO b ζ vv, (b 4, .inl (G.2.1, 7, .inl (ts tl (sh_e wd a0.toInt 7)))), (b 1, .inl (G.2.1, 46, .inl (nF (hs (sh_e wd a0.toInt 7) ((layN nb a0.toInt.toNat σ (min (zs a0.toInt.toNat) (σ 5))).1) σ)))), (b 9, .inl (G.2.1, 4, .inl (nF wd))), (b 10, .inl (G.2.1, 4, .inl (nF zs))), (b 11, .inl (G.2.2.1, 160, .inr (.inl nb)))]) := by
  refine MI_enter (cc := cX6_lays) (maxL := 6) (ret := (some .int)) (by decide) rfl (Nat.le_of_ble_eq_true rfl) ?_
  intro p e s m below meth c A ls H hx hb hr hlk hml hown hts hAq hS hP hK hD hX hl hnm
  have hown : s.vm.findClass RX6 = some m.cls := hown
  have hl : lv_has ls 6 [(0, .ref (b 0)), (1, .int a0)] := hl
  obtain ⟨⟨i1, i2, i3, i4, i5⟩, ip⟩ := id hI
  refine lv_aload_n hx hb dX6_lays_0 rfl (lv_at hl 0 rfl) ?_
  refine lv_iload_n hx hb dX6_lays_1 rfl (lv_at hl 1 rfl) ?_
  refine callVI (rest := []) (wn := fun u => [mO b ζ vv, (b 4, .inl (G.2.1, 7, .inl tl)), (b 1, .inl (G.2.1, 46, .inl (nF σ))), (b 9, .inl (G.2.1, 4, .inl (nF wd))), (b 10, .inl (G.2.1, 4, .inl (nF zs))), (b 11, .inl (G.2.2.1, 160, .inr (.inl nb)))]) ⟨hx, hb, hml, hown, hts⟩ (c_X6_wrongSheet l G H.size b ζ vv wd zs a0 hSI) (cwV 1 hts gX6_lays_X6_wrongSheet rfl rfl rfl (by decide +kernel) ⟨Nat.le_of_ble_eq_true rfl, Nat.le_of_ble_eq_true rfl⟩) noXB (fun _ _ _ => trivial) hK hP hD hS hAq 5 0 (T := TX6) (N := 18) rfl rfl rfl hl.1 rfl (Nat.le_of_ble_eq_true rfl) dX6_lays_2 ⟨Nat.le_of_ble_eq_true rfl, Nat.le_of_ble_eq_true rfl⟩ [0, 3] rfl rfl [b 0, b 9] rfl (fun _ => rfl) (fun _ => rfl) (fun u H locs hok hP hD hS => ?_)
  rcases wsh_c wd a0 with ⟨h1, hw⟩ | ⟨h1, h2, hw⟩ | ⟨h1, h2, hw⟩
  · refine n_top (y := nI 0) hw ?_
    refine lv_istore_n (lv' := [(2, .int (nI 0)), (0, .ref (b 0)), (1, .int a0)]) hx hb dX6_lays_5 rfl hl (by decide) rfl (fun ls hl => ?_)
    refine lv_iload_n hx hb dX6_lays_6 rfl (lv_at hl 0 rfl) ?_
    refine n_if_lt hx hb (by omega) (tgt := 16) dX6_lays_7 (by decide) (fun c_1 => ?_) (fun c_1 => ?_)
    · omega
    · refine lv_aload_n hx hb dX6_lays_10 rfl (lv_at hl 1 rfl) ?_
      refine lv_iload_n hx hb dX6_lays_11 rfl (lv_at hl 0 rfl) ?_
      refine callVI (rest := []) (wn := fun u => [mO b ζ vv, (b 4, .inl (G.2.1, 7, .inl (tk tl 0))), (b 1, .inl (G.2.1, 46, .inl (nF σ))), (b 9, .inl (G.2.1, 4, .inl (nF wd))), (b 10, .inl (G.2.1, 4, .inl (nF zs))), (b 11, .inl (G.2.2.1, 160, .inr (.inl nb)))]) ⟨hx, hb, hml, hown, hts⟩ (c_X6_no l G H.size b ζ vv tl 0 (by omega)) (cwV 1 hts gX6_lays_X6_no rfl rfl rfl (by decide +kernel) ⟨Nat.le_of_ble_eq_true rfl, Nat.le_of_ble_eq_true rfl⟩) noXB (fun _ _ _ => trivial) hK hP hD hS hAq 5 0 (T := TX6) (N := 18) rfl rfl rfl hl.1 rfl (Nat.le_of_ble_eq_true rfl) dX6_lays_12 ⟨Nat.le_of_ble_eq_true rfl, Nat.le_of_ble_eq_true rfl⟩ [0, 1] rfl rfl [b 0, b 4] rfl (fun _ => rfl) (fun _ => rfl) (fun u H locs hok hP hD hS => ?_)
      have he : sh_e wd a0.toInt 7 = 0 := by unfold sh_e; (try simp only [Int.toNat_natCast]); (repeat' split) <;> omega
      exact fin_i hx hb hr hlk hS hP hD () trivial (by rw [he]; first | done | ((try simp only [Int.toNat_natCast]); first | done | rfl)) (by rw [he]; (try simp only [Int.toNat_natCast]); exact eqW.rf _) dX6_lays_15
  · refine n_top (y := nI 5) hw ?_
    obtain ⟨k0, hk0, rfl⟩ := nI_of_rg (n := 3) (x := a0) ⟨by omega, by omega⟩
    have hT0 := nI_T (a := k0) (by omega)
    obtain ⟨s0, s1⟩ := hSI k0 (by omega)
    rw [hT0, Int.toNat_natCast] at h2
    refine lv_istore_n (lv' := [(2, .int (nI 5)), (0, .ref (b 0)), (1, .int (nI k0))]) hx hb dX6_lays_5 rfl hl (by decide) rfl (fun ls hl => ?_)
    refine lv_iload_n hx hb dX6_lays_6 rfl (lv_at hl 0 rfl) ?_
    refine n_if_lt hx hb (by omega) (tgt := 16) dX6_lays_7 (by decide) (fun c_2 => ?_) (fun c_2 => ?_)
    · omega
    · refine lv_aload_n hx hb dX6_lays_10 rfl (lv_at hl 1 rfl) ?_
      refine lv_iload_n hx hb dX6_lays_11 rfl (lv_at hl 0 rfl) ?_
      refine callVI (rest := []) (wn := fun u => [mO b ζ vv, (b 4, .inl (G.2.1, 7, .inl (tk tl 5))), (b 1, .inl (G.2.1, 46, .inl (nF σ))), (b 9, .inl (G.2.1, 4, .inl (nF wd))), (b 10, .inl (G.2.1, 4, .inl (nF zs))), (b 11, .inl (G.2.2.1, 160, .inr (.inl nb)))]) ⟨hx, hb, hml, hown, hts⟩ (c_X6_no l G H.size b ζ vv tl 5 (by omega)) (cwV 1 hts gX6_lays_X6_no rfl rfl rfl (by decide +kernel) ⟨Nat.le_of_ble_eq_true rfl, Nat.le_of_ble_eq_true rfl⟩) noXB (fun _ _ _ => trivial) hK hP hD hS hAq 5 0 (T := TX6) (N := 18) rfl rfl rfl hl.1 rfl (Nat.le_of_ble_eq_true rfl) dX6_lays_12 ⟨Nat.le_of_ble_eq_true rfl, Nat.le_of_ble_eq_true rfl⟩ [0, 1] rfl rfl [b 0, b 4] rfl (fun _ => rfl) (fun _ => rfl) (fun u H locs hok hP hD hS => ?_)
      have he : sh_e wd (nI k0).toInt 7 = 5 := by unfold sh_e; (try simp only [hT0, Int.toNat_natCast]); (repeat' split) <;> omega
      exact fin_i hx hb hr hlk hS hP hD () trivial (by rw [he]; first | done | ((try simp only [hT0, Int.toNat_natCast]); first | done | rfl)) (by rw [he]; (try simp only [hT0, Int.toNat_natCast]); exact eqW.rf _) dX6_lays_15
  · refine n_top (y := (-1)) hw ?_
    have hm1 : ((-1) : Int32).toInt = -1 := by decide
    obtain ⟨k0, hk0, rfl⟩ := nI_of_rg (n := 3) (x := a0) ⟨by omega, by omega⟩
    have hT0 := nI_T (a := k0) (by omega)
    obtain ⟨s0, s1⟩ := hSI k0 (by omega)
    rw [hT0, Int.toNat_natCast] at h2
    refine lv_istore_n (lv' := [(2, .int (-1)), (0, .ref (b 0)), (1, .int (nI k0))]) hx hb dX6_lays_5 rfl hl (by decide) rfl (fun ls hl => ?_)
    refine lv_iload_n hx hb dX6_lays_6 rfl (lv_at hl 0 rfl) ?_
    refine r_if_lt hx hb (tgt := 16) dX6_lays_7 (by decide) (fun c_3 => ?_) (fun c_3 => ?_)
    · refine lv_iconst (v := nI 0) hx hb dX6_lays_16 rfl ?_
      refine lv_istore_n (lv' := [(3, .int (nI 0)), (2, .int (-1)), (0, .ref (b 0)), (1, .int (nI k0))]) hx hb dX6_lays_17 rfl hl (by decide) rfl (fun ls hl => ?_)
      refine lv_iconst (v := nI 0) hx hb dX6_lays_18 rfl ?_
      refine lv_istore (lv' := [(4, .int (nI 0)), (3, .int (nI 0)), (2, .int (-1)), (0, .ref (b 0)), (1, .int (nI k0))]) hx hb dX6_lays_19 hl (by decide) rfl (fun ls hl => ?_)
      refine W_loop1 (I := fun (i : Nat) => i ≤ zs k0 ∧ i ≤ σ 5) (wd := fun (i : Nat) => [mO b ζ vv, (b 4, .inl (G.2.1, 7, .inl tl)), (b 1, .inl (G.2.1, 46, .inl (nF ((layN nb k0 σ i).1)))), (b 9, .inl (G.2.1, 4, .inl (nF wd))), (b 10, .inl (G.2.1, 4, .inl (nF zs))), (b 11, .inl (G.2.2.1, 160, .inr (.inl nb)))]) (lv := fun (i : Nat) => [(4, .int (nI i)), (3, .int (nI ((layN nb k0 σ i).2))), (0, .ref (b 0)), (1, .int (nI k0))]) (μ := fun (i : Nat) => zs k0 - i) ?_ 0 ⟨by omega, by omega⟩ hP hD hS (lv_sub hl [0, 1, 3, 4] rfl)
      intro i H locs ls hI0 hP hD hS hl ih
      obtain ⟨hi0, hi1⟩ := hI0
      refine lv_iload hx hb dX6_lays_21 (lv_at hl 0 rfl) ?_
      refine lv_aload_n hx hb dX6_lays_23 rfl (lv_at hl 2 rfl) ?_
      refine n_get (C := RX6) (T := TX6) (N := 18) hx hb hts (fun _ h => List.mem_cons_of_mem _ (List.mem_append_right _ h)) hown hK hP 0 rfl rfl 15 (by decide) (List.mem_of_getElem? (i := 1) rfl) rfl (.ref (b 10)) rfl dX6_lays_24 ?_
      refine lv_iload_n hx hb dX6_lays_27 rfl (lv_at hl 3 rfl) ?_
      refine n_iald hx hb hK hP 4 (v := (nI (zs k0))) rfl (by omega) (by omega) rfl dX6_lays_28 ?_
      refine n_icmp_ge hx hb (by omega) (by omega) (tgt := 125) dX6_lays_29 (by decide) (fun c_4 => ?_) (fun c_4 => ?_)
      · have hk5 : i = min (zs k0) (σ 5) := by omega
        subst hk5
        refine lv_iload_n hx hb dX6_lays_125 rfl (lv_at hl 1 rfl) ?_
        have he : sh_e wd (nI k0).toInt 7 = 7 := by unfold sh_e; (try simp only [hT0, Int.toNat_natCast]); (repeat' split) <;> omega
        exact fin_i hx hb hr hlk hS hP hD () trivial (by rw [he]; first | done | ((try simp only [hT0, Int.toNat_natCast]); first | done | rfl)) (by rw [he]; (try simp only [hT0, Int.toNat_natCast]); exact eqW.rf _) dX6_lays_126
      · refine lv_iload hx hb dX6_lays_32 (lv_at hl 0 rfl) ?_
        refine lv_aload_n hx hb dX6_lays_34 rfl (lv_at hl 2 rfl) ?_
        refine n_get (C := RX6) (T := TX6) (N := 18) hx hb hts (fun _ h => List.mem_cons_of_mem _ (List.mem_append_right _ h)) hown hK hP 0 rfl rfl 0 (by decide) (List.mem_of_getElem? (i := 2) rfl) rfl (.ref (b 1)) rfl dX6_lays_35 ?_
        refine lv_iconst (v := nI 5) hx hb dX6_lays_38 rfl ?_
        refine n_iald hx hb hK hP 2 (v := (nI (σ 5))) rfl (by omega) (by omega) (congrArg nI (lay_s nb k0 σ (by decide) i)) dX6_lays_39 ?_
        refine n_icmp_ge hx hb (by omega) (by omega) (tgt := 125) dX6_lays_40 (by decide) (fun c_5 => ?_) (fun c_5 => ?_)
        · have hk5 : i = min (zs k0) (σ 5) := by omega
          subst hk5
          refine lv_iload_n hx hb dX6_lays_125 rfl (lv_at hl 1 rfl) ?_
          have he : sh_e wd (nI k0).toInt 7 = 7 := by unfold sh_e; (try simp only [hT0, Int.toNat_natCast]); (repeat' split) <;> omega
          exact fin_i hx hb hr hlk hS hP hD () trivial (by rw [he]; first | done | ((try simp only [hT0, Int.toNat_natCast]); first | done | rfl)) (by rw [he]; (try simp only [hT0, Int.toNat_natCast]); exact eqW.rf _) dX6_lays_126
        · refine lv_aload_n hx hb dX6_lays_43 rfl (lv_at hl 2 rfl) ?_
          refine lv_iload_n hx hb dX6_lays_44 rfl (lv_at hl 3 rfl) ?_
          refine lv_iload hx hb dX6_lays_45 (lv_at hl 0 rfl) ?_
          refine callVL (rest := []) (wn := fun u => [mO b ζ vv, (b 4, .inl (G.2.1, 7, .inl tl)), (b 1, .inl (G.2.1, 46, .inl (nF ((layN nb k0 σ i).1)))), (b 9, .inl (G.2.1, 4, .inl (nF wd))), (b 10, .inl (G.2.1, 4, .inl (nF zs))), (b 11, .inl (G.2.2.1, 160, .inr (.inl nb)))]) ⟨hx, hb, hml, hown, hts⟩ (c_X6_told l G H.size b ζ vv nb k0 i (by omega) (by omega)) (cwV 2 hts gX6_lays_X6_told rfl rfl rfl (by decide +kernel) ⟨Nat.le_of_ble_eq_true rfl, Nat.le_of_ble_eq_true rfl⟩) noXB (fun _ _ _ => trivial) hK hP hD hS hAq 5 0 (T := TX6) (N := 18) rfl rfl rfl hl.1 rfl (Nat.le_of_ble_eq_true rfl) dX6_lays_47 ⟨Nat.le_of_ble_eq_true rfl, Nat.le_of_ble_eq_true rfl⟩ [0, 5] rfl rfl [b 0, b 11] rfl (fun _ => rfl) (fun _ => rfl) (fun u H locs hok hP hD hS => ?_)
          refine lv_lconst (v := lN 0) hx hb dX6_lays_50 rfl ?_
          refine W.lcmp hx hb dX6_lays_51 ?_
          have hlc_6 := lc_all (nb (40 * k0 + i)) (lN 0)
          rw [lN_toInt (show 0 < 2147483648 by omega)] at hlc_6
          refine r_if_lt hx hb (tgt := 73) dX6_lays_52 (by decide) (fun c_7 => ?_) (fun c_7 => ?_)
          · refine lv_iconst (v := nI 0) hx hb dX6_lays_73 rfl ?_
            refine lv_istore (lv' := [(5, .int (nI 0)), (4, .int (nI i)), (3, .int (nI ((layN nb k0 σ i).2))), (0, .ref (b 0)), (1, .int (nI k0))]) hx hb dX6_lays_74 hl (by decide) rfl (fun ls hl => ?_)
            refine lv_aload_n hx hb dX6_lays_76 rfl (lv_at hl 3 rfl) ?_
            refine lv_iload hx hb dX6_lays_77 (lv_at hl 1 rfl) ?_
            refine lv_iconst (v := nI 2) hx hb dX6_lays_79 rfl ?_
            refine lv_iload hx hb dX6_lays_80 (lv_at hl 0 rfl) ?_
            refine n_if_eq hx hb (by omega) (tgt := 96) dX6_lays_82 (by decide) (fun c_8 => ?_) (fun c_8 => ?_)
            · refine lv_aload_n hx hb dX6_lays_96 rfl (lv_at hl 3 rfl) ?_
              refine lv_iload hx hb dX6_lays_97 (lv_at hl 1 rfl) ?_
              refine lv_iconst (v := nI 2) hx hb dX6_lays_99 rfl ?_
              refine callVI (rest := [.int (nI 2), .int (nI i), .ref (b 0)]) (wn := fun u => [mO b ζ vv, (b 4, .inl (G.2.1, 7, .inl tl)), (b 1, .inl (G.2.1, 46, .inl (nF ((layN nb k0 σ i).1)))), (b 9, .inl (G.2.1, 4, .inl (nF wd))), (b 10, .inl (G.2.1, 4, .inl (nF zs))), (b 11, .inl (G.2.2.1, 160, .inr (.inl nb)))]) ⟨hx, hb, hml, hown, hts⟩ (c_X6_get l G H.size b ζ vv ((layN nb k0 σ i).1) i 2 (by omega) (by omega)) (cwV 2 hts gX6_lays_X6_get rfl rfl rfl (by decide +kernel) ⟨Nat.le_of_ble_eq_true rfl, Nat.le_of_ble_eq_true rfl⟩) noXB (fun _ _ _ => trivial) hK hP hD hS hAq 5 0 (T := TX6) (N := 18) rfl rfl rfl hl.1 rfl (Nat.le_of_ble_eq_true rfl) dX6_lays_100 ⟨Nat.le_of_ble_eq_true rfl, Nat.le_of_ble_eq_true rfl⟩ [0, 2] rfl rfl [b 0, b 1] rfl (fun _ => rfl) (fun _ => rfl) (fun u H locs hok hP hD hS => ?_)
              refine callVV (rest := []) (wn := fun u => [mO b ζ vv, (b 4, .inl (G.2.1, 7, .inl tl)), (b 1, .inl (G.2.1, 46, .inl (nF (un ((layN nb k0 σ i).1) (pl i 2) (((layN nb k0 σ i).1) (pl i 2)))))), (b 9, .inl (G.2.1, 4, .inl (nF wd))), (b 10, .inl (G.2.1, 4, .inl (nF zs))), (b 11, .inl (G.2.2.1, 160, .inr (.inl nb)))]) ⟨hx, hb, hml, hown, hts⟩ (c_X6_puts l G H.size b ζ vv ((layN nb k0 σ i).1) i 2 (((layN nb k0 σ i).1) (pl i 2)) (by omega) (by omega)) (cwV 3 hts gX6_lays_X6_puts rfl rfl rfl (by decide +kernel) ⟨Nat.le_of_ble_eq_true rfl, Nat.le_of_ble_eq_true rfl⟩) noXB (fun _ _ _ => trivial) hK hP hD hS hAq 5 0 (T := TX6) (N := 18) rfl rfl rfl hl.1 rfl (Nat.le_of_ble_eq_true rfl) dX6_lays_103 ⟨Nat.le_of_ble_eq_true rfl, Nat.le_of_ble_eq_true rfl⟩ [0, 2] rfl rfl [b 0, b 1] rfl (fun _ => rfl) (fun _ => rfl) (fun u H locs hok hP hD hS => ?_)
              refine lv_iload_n hx hb dX6_lays_106 rfl (lv_at hl 2 rfl) ?_
              refine lv_iload hx hb dX6_lays_107 (lv_at hl 0 rfl) ?_
              refine n_if_eq hx hb (by omega) (tgt := 116) dX6_lays_109 (by decide) (fun c_9 => ?_) (fun c_9 => ?_)
              · refine lv_iconst (v := nI 0) hx hb dX6_lays_116 rfl ?_
                refine n_iadd hx hb dX6_lays_117 ?_
                refine lv_istore_n (lv' := [(3, .int (nI (((layN nb k0 σ i).2) + 0))), (5, .int (nI 0)), (4, .int (nI i)), (0, .ref (b 0)), (1, .int (nI k0))]) hx hb dX6_lays_118 rfl hl (by decide) rfl (fun ls hl => ?_)
                refine n_iinc (lv' := [(4, .int (nI (i + 1))), (3, .int (nI (((layN nb k0 σ i).2) + 0))), (5, .int (nI 0)), (0, .ref (b 0)), (1, .int (nI k0))]) hx hb dX6_lays_119 hl (k := 2) rfl (by decide) rfl (fun ls hl => ?_)
                refine lv_goto (tgt := 21) hx hb dX6_lays_122 (by decide) ?_
                have e1 : (layN nb k0 σ (i + 1)).1 = un ((layN nb k0 σ i).1) (pl i 2) (((layN nb k0 σ i).1) (pl i 2)) := by rw [lay_S]; unfold layS; first | (exfalso; omega) | rw [if_pos ⟨by omega, by omega⟩] | rw [if_neg (by omega), un_id] | (rw [if_neg (by omega)]; rfl)
                have e2 : (layN nb k0 σ (i + 1)).2 = ((layN nb k0 σ i).2) + 0 := by rw [lay_S]; unfold layS; first | (exfalso; omega) | rw [if_pos ⟨by omega, by omega⟩] | rw [if_neg (by omega), Nat.add_zero] | (rw [if_neg (by omega)]; rfl)
                exact ih (i + 1) _ _ _ (by omega) (by omega) (by rw [e1]; exact hP) (by rw [e1]; exact hD) hS (by rw [e2]; exact (lv_sub hl [0, 1, 3, 4] rfl))
              · omega
            · omega
          · refine lv_aload_n hx hb dX6_lays_55 rfl (lv_at hl 2 rfl) ?_
            refine lv_iload_n hx hb dX6_lays_56 rfl (lv_at hl 3 rfl) ?_
            refine lv_iload hx hb dX6_lays_57 (lv_at hl 0 rfl) ?_
            refine callVL (rest := []) (wn := fun u => [mO b ζ vv, (b 4, .inl (G.2.1, 7, .inl tl)), (b 1, .inl (G.2.1, 46, .inl (nF ((layN nb k0 σ i).1)))), (b 9, .inl (G.2.1, 4, .inl (nF wd))), (b 10, .inl (G.2.1, 4, .inl (nF zs))), (b 11, .inl (G.2.2.1, 160, .inr (.inl nb)))]) ⟨hx, hb, hml, hown, hts⟩ (c_X6_told l G H.size b ζ vv nb k0 i (by omega) (by omega)) (cwV 2 hts gX6_lays_X6_told rfl rfl rfl (by decide +kernel) ⟨Nat.le_of_ble_eq_true rfl, Nat.le_of_ble_eq_true rfl⟩) noXB (fun _ _ _ => trivial) hK hP hD hS hAq 5 0 (T := TX6) (N := 18) rfl rfl rfl hl.1 rfl (Nat.le_of_ble_eq_true rfl) dX6_lays_59 ⟨Nat.le_of_ble_eq_true rfl, Nat.le_of_ble_eq_true rfl⟩ [0, 5] rfl rfl [b 0, b 11] rfl (fun _ => rfl) (fun _ => rfl) (fun u H locs hok hP hD hS => ?_)
            refine lv_ldc2 (v := 99) hx hb hown (hts _ (List.mem_of_getElem? (i := 3) rfl)) dX6_lays_62 ?_
            refine n_topl (y := lN 99) rfl ?_
            refine W.lcmp hx hb dX6_lays_65 ?_
            have hlc_10 := lc_all (nb (40 * k0 + i)) (lN 99)
            rw [lN_toInt (show 99 < 2147483648 by omega)] at hlc_10
            refine r_if_gt hx hb (tgt := 73) dX6_lays_66 (by decide) (fun c_11 => ?_) (fun c_11 => ?_)
            · refine lv_iconst (v := nI 0) hx hb dX6_lays_73 rfl ?_
              refine lv_istore (lv' := [(5, .int (nI 0)), (4, .int (nI i)), (3, .int (nI ((layN nb k0 σ i).2))), (0, .ref (b 0)), (1, .int (nI k0))]) hx hb dX6_lays_74 hl (by decide) rfl (fun ls hl => ?_)
              refine lv_aload_n hx hb dX6_lays_76 rfl (lv_at hl 3 rfl) ?_
              refine lv_iload hx hb dX6_lays_77 (lv_at hl 1 rfl) ?_
              refine lv_iconst (v := nI 2) hx hb dX6_lays_79 rfl ?_
              refine lv_iload hx hb dX6_lays_80 (lv_at hl 0 rfl) ?_
              refine n_if_eq hx hb (by omega) (tgt := 96) dX6_lays_82 (by decide) (fun c_12 => ?_) (fun c_12 => ?_)
              · refine lv_aload_n hx hb dX6_lays_96 rfl (lv_at hl 3 rfl) ?_
                refine lv_iload hx hb dX6_lays_97 (lv_at hl 1 rfl) ?_
                refine lv_iconst (v := nI 2) hx hb dX6_lays_99 rfl ?_
                refine callVI (rest := [.int (nI 2), .int (nI i), .ref (b 0)]) (wn := fun u => [mO b ζ vv, (b 4, .inl (G.2.1, 7, .inl tl)), (b 1, .inl (G.2.1, 46, .inl (nF ((layN nb k0 σ i).1)))), (b 9, .inl (G.2.1, 4, .inl (nF wd))), (b 10, .inl (G.2.1, 4, .inl (nF zs))), (b 11, .inl (G.2.2.1, 160, .inr (.inl nb)))]) ⟨hx, hb, hml, hown, hts⟩ (c_X6_get l G H.size b ζ vv ((layN nb k0 σ i).1) i 2 (by omega) (by omega)) (cwV 2 hts gX6_lays_X6_get rfl rfl rfl (by decide +kernel) ⟨Nat.le_of_ble_eq_true rfl, Nat.le_of_ble_eq_true rfl⟩) noXB (fun _ _ _ => trivial) hK hP hD hS hAq 5 0 (T := TX6) (N := 18) rfl rfl rfl hl.1 rfl (Nat.le_of_ble_eq_true rfl) dX6_lays_100 ⟨Nat.le_of_ble_eq_true rfl, Nat.le_of_ble_eq_true rfl⟩ [0, 2] rfl rfl [b 0, b 1] rfl (fun _ => rfl) (fun _ => rfl) (fun u H locs hok hP hD hS => ?_)
                refine callVV (rest := []) (wn := fun u => [mO b ζ vv, (b 4, .inl (G.2.1, 7, .inl tl)), (b 1, .inl (G.2.1, 46, .inl (nF (un ((layN nb k0 σ i).1) (pl i 2) (((layN nb k0 σ i).1) (pl i 2)))))), (b 9, .inl (G.2.1, 4, .inl (nF wd))), (b 10, .inl (G.2.1, 4, .inl (nF zs))), (b 11, .inl (G.2.2.1, 160, .inr (.inl nb)))]) ⟨hx, hb, hml, hown, hts⟩ (c_X6_puts l G H.size b ζ vv ((layN nb k0 σ i).1) i 2 (((layN nb k0 σ i).1) (pl i 2)) (by omega) (by omega)) (cwV 3 hts gX6_lays_X6_puts rfl rfl rfl (by decide +kernel) ⟨Nat.le_of_ble_eq_true rfl, Nat.le_of_ble_eq_true rfl⟩) noXB (fun _ _ _ => trivial) hK hP hD hS hAq 5 0 (T := TX6) (N := 18) rfl rfl rfl hl.1 rfl (Nat.le_of_ble_eq_true rfl) dX6_lays_103 ⟨Nat.le_of_ble_eq_true rfl, Nat.le_of_ble_eq_true rfl⟩ [0, 2] rfl rfl [b 0, b 1] rfl (fun _ => rfl) (fun _ => rfl) (fun u H locs hok hP hD hS => ?_)
                refine lv_iload_n hx hb dX6_lays_106 rfl (lv_at hl 2 rfl) ?_
                refine lv_iload hx hb dX6_lays_107 (lv_at hl 0 rfl) ?_
                refine n_if_eq hx hb (by omega) (tgt := 116) dX6_lays_109 (by decide) (fun c_13 => ?_) (fun c_13 => ?_)
                · refine lv_iconst (v := nI 0) hx hb dX6_lays_116 rfl ?_
                  refine n_iadd hx hb dX6_lays_117 ?_
                  refine lv_istore_n (lv' := [(3, .int (nI (((layN nb k0 σ i).2) + 0))), (5, .int (nI 0)), (4, .int (nI i)), (0, .ref (b 0)), (1, .int (nI k0))]) hx hb dX6_lays_118 rfl hl (by decide) rfl (fun ls hl => ?_)
                  refine n_iinc (lv' := [(4, .int (nI (i + 1))), (3, .int (nI (((layN nb k0 σ i).2) + 0))), (5, .int (nI 0)), (0, .ref (b 0)), (1, .int (nI k0))]) hx hb dX6_lays_119 hl (k := 2) rfl (by decide) rfl (fun ls hl => ?_)
                  refine lv_goto (tgt := 21) hx hb dX6_lays_122 (by decide) ?_
                  have e1 : (layN nb k0 σ (i + 1)).1 = un ((layN nb k0 σ i).1) (pl i 2) (((layN nb k0 σ i).1) (pl i 2)) := by rw [lay_S]; unfold layS; first | (exfalso; omega) | rw [if_pos ⟨by omega, by omega⟩] | rw [if_neg (by omega), un_id] | (rw [if_neg (by omega)]; rfl)
                  have e2 : (layN nb k0 σ (i + 1)).2 = ((layN nb k0 σ i).2) + 0 := by rw [lay_S]; unfold layS; first | (exfalso; omega) | rw [if_pos ⟨by omega, by omega⟩] | rw [if_neg (by omega), Nat.add_zero] | (rw [if_neg (by omega)]; rfl)
                  exact ih (i + 1) _ _ _ (by omega) (by omega) (by rw [e1]; exact hP) (by rw [e1]; exact hD) hS (by rw [e2]; exact (lv_sub hl [0, 1, 3, 4] rfl))
                · omega
              · omega
            · refine lv_iconst (v := nI 1) hx hb dX6_lays_69 rfl ?_
              refine lv_goto (tgt := 74) hx hb dX6_lays_70 (by decide) ?_
              refine lv_istore (lv' := [(5, .int (nI 1)), (4, .int (nI i)), (3, .int (nI ((layN nb k0 σ i).2))), (0, .ref (b 0)), (1, .int (nI k0))]) hx hb dX6_lays_74 hl (by decide) rfl (fun ls hl => ?_)
              refine lv_aload_n hx hb dX6_lays_76 rfl (lv_at hl 3 rfl) ?_
              refine lv_iload hx hb dX6_lays_77 (lv_at hl 1 rfl) ?_
              refine lv_iconst (v := nI 2) hx hb dX6_lays_79 rfl ?_
              refine lv_iload hx hb dX6_lays_80 (lv_at hl 0 rfl) ?_
              refine n_if_eq hx hb (by omega) (tgt := 96) dX6_lays_82 (by decide) (fun c_14 => ?_) (fun c_14 => ?_)
              · omega
              · refine lv_aload_n hx hb dX6_lays_85 rfl (lv_at hl 3 rfl) ?_
                refine lv_iload_n hx hb dX6_lays_86 rfl (lv_at hl 4 rfl) ?_
                refine lv_iload hx hb dX6_lays_87 (lv_at hl 1 rfl) ?_
                refine callVL (rest := [.int (nI 2), .int (nI i), .ref (b 0)]) (wn := fun u => [mO b ζ vv, (b 4, .inl (G.2.1, 7, .inl tl)), (b 1, .inl (G.2.1, 46, .inl (nF ((layN nb k0 σ i).1)))), (b 9, .inl (G.2.1, 4, .inl (nF wd))), (b 10, .inl (G.2.1, 4, .inl (nF zs))), (b 11, .inl (G.2.2.1, 160, .inr (.inl nb)))]) ⟨hx, hb, hml, hown, hts⟩ (c_X6_told l G H.size b ζ vv nb k0 i (by omega) (by omega)) (cwV 2 hts gX6_lays_X6_told rfl rfl rfl (by decide +kernel) ⟨Nat.le_of_ble_eq_true rfl, Nat.le_of_ble_eq_true rfl⟩) noXB (fun _ _ _ => trivial) hK hP hD hS hAq 5 0 (T := TX6) (N := 18) rfl rfl rfl hl.1 rfl (Nat.le_of_ble_eq_true rfl) dX6_lays_89 ⟨Nat.le_of_ble_eq_true rfl, Nat.le_of_ble_eq_true rfl⟩ [0, 5] rfl rfl [b 0, b 11] rfl (fun _ => rfl) (fun _ => rfl) (fun u H locs hok hP hD hS => ?_)
                refine lv_l2i (v := nI (nb (40 * k0 + i)).toInt.toNat) hx hb dX6_lays_92 (l_small (by omega) (by omega)) ?_
                refine lv_goto (tgt := 103) hx hb dX6_lays_93 (by decide) ?_
                refine callVV (rest := []) (wn := fun u => [mO b ζ vv, (b 4, .inl (G.2.1, 7, .inl tl)), (b 1, .inl (G.2.1, 46, .inl (nF (un ((layN nb k0 σ i).1) (pl i 2) ((nb (40 * k0 + i)).toInt.toNat))))), (b 9, .inl (G.2.1, 4, .inl (nF wd))), (b 10, .inl (G.2.1, 4, .inl (nF zs))), (b 11, .inl (G.2.2.1, 160, .inr (.inl nb)))]) ⟨hx, hb, hml, hown, hts⟩ (c_X6_puts l G H.size b ζ vv ((layN nb k0 σ i).1) i 2 ((nb (40 * k0 + i)).toInt.toNat) (by omega) (by omega)) (cwV 3 hts gX6_lays_X6_puts rfl rfl rfl (by decide +kernel) ⟨Nat.le_of_ble_eq_true rfl, Nat.le_of_ble_eq_true rfl⟩) noXB (fun _ _ _ => trivial) hK hP hD hS hAq 5 0 (T := TX6) (N := 18) rfl rfl rfl hl.1 rfl (Nat.le_of_ble_eq_true rfl) dX6_lays_103 ⟨Nat.le_of_ble_eq_true rfl, Nat.le_of_ble_eq_true rfl⟩ [0, 2] rfl rfl [b 0, b 1] rfl (fun _ => rfl) (fun _ => rfl) (fun u H locs hok hP hD hS => ?_)
                refine lv_iload_n hx hb dX6_lays_106 rfl (lv_at hl 2 rfl) ?_
                refine lv_iload hx hb dX6_lays_107 (lv_at hl 0 rfl) ?_
                refine n_if_eq hx hb (by omega) (tgt := 116) dX6_lays_109 (by decide) (fun c_15 => ?_) (fun c_15 => ?_)
                · omega
                · refine lv_iconst (v := nI 1) hx hb dX6_lays_112 rfl ?_
                  refine lv_goto (tgt := 117) hx hb dX6_lays_113 (by decide) ?_
                  refine n_iadd hx hb dX6_lays_117 ?_
                  refine lv_istore_n (lv' := [(3, .int (nI (((layN nb k0 σ i).2) + 1))), (5, .int (nI 1)), (4, .int (nI i)), (0, .ref (b 0)), (1, .int (nI k0))]) hx hb dX6_lays_118 rfl hl (by decide) rfl (fun ls hl => ?_)
                  refine n_iinc (lv' := [(4, .int (nI (i + 1))), (3, .int (nI (((layN nb k0 σ i).2) + 1))), (5, .int (nI 1)), (0, .ref (b 0)), (1, .int (nI k0))]) hx hb dX6_lays_119 hl (k := 2) rfl (by decide) rfl (fun ls hl => ?_)
                  refine lv_goto (tgt := 21) hx hb dX6_lays_122 (by decide) ?_
                  have e1 : (layN nb k0 σ (i + 1)).1 = un ((layN nb k0 σ i).1) (pl i 2) ((nb (40 * k0 + i)).toInt.toNat) := by rw [lay_S]; unfold layS; first | (exfalso; omega) | rw [if_pos ⟨by omega, by omega⟩] | rw [if_neg (by omega), un_id] | (rw [if_neg (by omega)]; rfl)
                  have e2 : (layN nb k0 σ (i + 1)).2 = ((layN nb k0 σ i).2) + 1 := by rw [lay_S]; unfold layS; first | (exfalso; omega) | rw [if_pos ⟨by omega, by omega⟩] | rw [if_neg (by omega)] | (rw [if_neg (by omega)]; rfl)
                  exact ih (i + 1) _ _ _ (by omega) (by omega) (by rw [e1]; exact hP) (by rw [e1]; exact hD) hS (by rw [e2]; exact (lv_sub hl [0, 1, 3, 4] rfl))
    · omega
set_option maxHeartbeats 400000 in
set_option maxRecDepth 100000 in
theorem c_X5_book (l : Launch) (G : GT) (sz : Nat) (x hm kp tr : Nat → Nat) (hi : Nat) (tl : Nat → Int32) (wd zs : Nat → Nat) (nb : Nat → Int64) (σ τ : Sg) (a0 : Int32) (hSI : SInv wd zs) (hI : Inv σ) (hd0 : σ 0 ≤ 9999) : MI (S := Sg) l G noX yX5_book wsX5_book ({ frames := 4, cells := 0, slots := 0, locals := 91 } : Room) [.ref (x 0), .int a0] (([xO x hm kp tr hi, (x 7, .inl (G.2.1, 7, .inl tl))] ++ (wH G hm σ ++ (wH G tr τ ++ ([(x 3, .inr (2, [.ref (x 4), .ref (x 5), .ref (x 6)])), (x 4, .inl (G.2.1, 4, .inl (nF wd))), (x 5, .inl (G.2.1, 4, .inl (nF zs))), (x 6, .inl (G.2.2.1, 160, .inr (.inl nb)))]))))) sz (fun _ => True) (fun u => rs (sh_e wd a0.toInt 7) (nI (zs a0.toInt.toNat))) (fun u => ([xO x hm kp tr hi, (x 7, .inl (G.2.1, 7, .inl (ts tl (sh_e wd a0.toInt 7))))] ++ (wH G hm σ ++ (wH G tr u ++ ([(x 3, .inr (2, [.ref (x 4), .ref (x 5), .ref (x 6)])), (x 4, .inl (G.2.1, 4, .inl (nF wd))), (x 5, .inl (G.2.1, 4, .inl (nF zs))), (x 6, .inl (G.2.2.1, 160, .inr (.inl (hq (sh_e wd a0.toInt 7) (bkN nb (wd a0.toInt.toNat) a0.toInt.toNat σ (zs a0.toInt.toNat)) nb))))]))))) := by
  refine MI_enter (cc := cX5_book) (maxL := 3) (ret := (some .int)) (by decide) rfl (Nat.le_of_ble_eq_true rfl) ?_
  intro p e s m below meth c A ls H hx hb hr hlk hml hown hts hAq hS hP hK hD hX hl hnm
  have hown : s.vm.findClass RX5 = some m.cls := hown
  have hl : lv_has ls 3 [(0, .ref (x 0)), (1, .int a0)] := hl
  obtain ⟨⟨i1, i2, i3, i4, i5⟩, ip⟩ := id hI
  refine lv_iload_n hx hb dX5_book_0 rfl (lv_at hl 1 rfl) ?_
  refine callSI (rest := []) (wn := fun u => ([xO x hm kp tr hi, (x 7, .inl (G.2.1, 7, .inl tl))] ++ (wH G hm σ ++ (wH G tr τ ++ ([(x 3, .inr (2, [.ref (x 4), .ref (x 5), .ref (x 6)])), (x 4, .inl (G.2.1, 4, .inl (nF wd))), (x 5, .inl (G.2.1, 4, .inl (nF zs))), (x 6, .inl (G.2.2.1, 160, .inr (.inl nb)))]))))) ⟨hx, hb, hml, hown, hts⟩ (c_X3_isOne l G H.size a0) (va_cwS 1 hts gX5_book_X3_isOne rfl rfl rfl (by decide +kernel) ⟨Nat.le_of_ble_eq_true rfl, Nat.le_of_ble_eq_true rfl⟩) noXB (fun _ _ _ => trivial) hK hP hD hS hAq rfl hl.1 rfl (Nat.le_of_ble_eq_true rfl) dX5_book_1 ⟨Nat.le_of_ble_eq_true rfl, Nat.le_of_ble_eq_true rfl⟩ [] rfl rfl [] rfl (fun _ => rfl) (fun _ => rfl) (fun u H locs hok hP hD hS => ?_)
  refine z_if_ne hx hb (tgt := 13) dX5_book_4 (by decide) (fun c_1 => ?_) (fun c_1 => ?_)
  · obtain ⟨k0, hk0, rfl⟩ := nI_of_rg (n := 3) (x := a0) ⟨by omega, by omega⟩
    have hT0 := nI_T (a := k0) (by omega)
    obtain ⟨s0, s1⟩ := hSI k0 (by omega)
    refine lv_aload_n hx hb dX5_book_13 rfl (lv_at hl 0 rfl) ?_
    refine n_get (C := RX5) (T := TX5) (N := 7) hx hb hts (fun _ h => List.mem_cons_of_mem _ (List.mem_append_left _ (List.mem_append_left _ (List.mem_append_right _ h)))) hown hK hP 0 rfl rfl 4 (by decide) (List.mem_of_getElem? (i := 1) rfl) rfl (.ref (x 3)) rfl dX5_book_14 ?_
    refine lv_iload_n hx hb dX5_book_17 rfl (lv_at hl 1 rfl) ?_
    refine callVI (rest := []) (wn := fun u => ([xO x hm kp tr hi, (x 7, .inl (G.2.1, 7, .inl tl))] ++ (wH G hm σ ++ (wH G tr τ ++ ([(x 3, .inr (2, [.ref (x 4), .ref (x 5), .ref (x 6)])), (x 4, .inl (G.2.1, 4, .inl (nF wd))), (x 5, .inl (G.2.1, 4, .inl (nF zs))), (x 6, .inl (G.2.2.1, 160, .inr (.inl nb)))]))))) ⟨hx, hb, hml, hown, hts⟩ (c_X3_isMissing l G H.size x wd k0 (by omega) (by omega)) (cwV 1 hts gX5_book_X3_isMissing rfl rfl rfl (by decide +kernel) ⟨Nat.le_of_ble_eq_true rfl, Nat.le_of_ble_eq_true rfl⟩) noXB (fun _ _ _ => trivial) hK hP hD hS hAq 2 0 (T := TX3) (N := 3) rfl rfl rfl hl.1 rfl (Nat.le_of_ble_eq_true rfl) dX5_book_18 ⟨Nat.le_of_ble_eq_true rfl, Nat.le_of_ble_eq_true rfl⟩ [14, 15] rfl rfl [x 3, x 4] rfl (fun _ => rfl) (fun _ => rfl) (fun u H locs hok hP hD hS => ?_)
    refine z_if_eq hx hb (tgt := 30) dX5_book_21 (by decide) (fun c_2 => ?_) (fun c_2 => ?_)
    · refine lv_aload_n hx hb dX5_book_30 rfl (lv_at hl 0 rfl) ?_
      refine n_get (C := RX5) (T := TX5) (N := 7) hx hb hts (fun _ h => List.mem_cons_of_mem _ (List.mem_append_left _ (List.mem_append_left _ (List.mem_append_right _ h)))) hown hK hP 0 rfl rfl 2 (by decide) (List.mem_of_getElem? (i := 2) rfl) rfl (.ref (tr 0)) rfl dX5_book_31 ?_
      refine lv_aload_n hx hb dX5_book_34 rfl (lv_at hl 0 rfl) ?_
      refine n_get (C := RX5) (T := TX5) (N := 7) hx hb hts (fun _ h => List.mem_cons_of_mem _ (List.mem_append_left _ (List.mem_append_left _ (List.mem_append_right _ h)))) hown hK hP 0 rfl rfl 0 (by decide) (List.mem_of_getElem? (i := 3) rfl) rfl (.ref (hm 0)) rfl dX5_book_35 ?_
      refine callVV (rest := []) (wn := fun u => ([xO x hm kp tr hi, (x 7, .inl (G.2.1, 7, .inl tl))] ++ (wH G hm σ ++ (wH G tr σ ++ ([(x 3, .inr (2, [.ref (x 4), .ref (x 5), .ref (x 6)])), (x 4, .inl (G.2.1, 4, .inl (nF wd))), (x 5, .inl (G.2.1, 4, .inl (nF zs))), (x 6, .inl (G.2.2.1, 160, .inr (.inl nb)))]))))) ⟨hx, hb, hml, hown, hts⟩ (c_X0_become l G H.size tr τ hm σ) (cwV 1 hts gX5_book_X0_become rfl rfl rfl (by decide +kernel) ⟨Nat.le_of_ble_eq_true rfl, Nat.le_of_ble_eq_true rfl⟩) noXB (fun _ _ _ => trivial) hK hP hD hS hAq 0 0 (T := TX0) (N := 11) rfl rfl rfl hl.1 rfl (Nat.le_of_ble_eq_true rfl) dX5_book_38 ⟨Nat.le_of_ble_eq_true rfl, Nat.le_of_ble_eq_true rfl⟩ [8, 9, 10, 11, 12, 13, 2, 3, 4, 5, 6, 7] rfl rfl [tr 0, tr 1, tr 2, tr 3, tr 4, tr 5, hm 0, hm 1, hm 2, hm 3, hm 4, hm 5] rfl (fun _ => rfl) (fun _ => rfl) (fun u H locs hok hP hD hS => ?_)
      refine lv_iconst (v := nI 0) hx hb dX5_book_41 rfl ?_
      refine lv_istore_n (lv' := [(2, .int (nI 0)), (0, .ref (x 0)), (1, .int (nI k0))]) hx hb dX5_book_42 rfl hl (by decide) rfl (fun ls hl => ?_)
      refine W_loop1 (I := fun (i : Nat) => i ≤ zs k0) (wd := fun (i : Nat) => ([xO x hm kp tr hi, (x 7, .inl (G.2.1, 7, .inl tl))] ++ (wH G hm σ ++ (wH G tr (daysN i σ) ++ ([(x 3, .inr (2, [.ref (x 4), .ref (x 5), .ref (x 6)])), (x 4, .inl (G.2.1, 4, .inl (nF wd))), (x 5, .inl (G.2.1, 4, .inl (nF zs))), (x 6, .inl (G.2.2.1, 160, .inr (.inl (bkN nb (wd k0) k0 σ i))))]))))) (lv := fun (i : Nat) => [(2, .int (nI i)), (0, .ref (x 0)), (1, .int (nI k0))]) (μ := fun (i : Nat) => zs k0 - i) ?_ 0 (by omega) hP hD hS (lv_sub hl [0, 1, 2] rfl)
      intro i H locs ls hI0 hP hD hS hl ih
      have hi0 : i ≤ zs k0 := hI0
      have hE := days_Inv hI i
      have hE1 := hE.1.1
      have hE0 := (days_0 σ i).1
      refine lv_iload_n hx hb dX5_book_43 rfl (lv_at hl 0 rfl) ?_
      refine lv_aload_n hx hb dX5_book_44 rfl (lv_at hl 1 rfl) ?_
      refine n_get (C := RX5) (T := TX5) (N := 7) hx hb hts (fun _ h => List.mem_cons_of_mem _ (List.mem_append_left _ (List.mem_append_left _ (List.mem_append_right _ h)))) hown hK hP 0 rfl rfl 4 (by decide) (List.mem_of_getElem? (i := 1) rfl) rfl (.ref (x 3)) rfl dX5_book_45 ?_
      refine n_get (C := RX3) (T := TX3) (N := 3) hx hb hts (fun _ h => List.mem_cons_of_mem _ (List.mem_append_left _ (List.mem_append_right _ h))) hown hK hP 14 rfl rfl 1 (by decide) (List.mem_of_getElem? (i := 4) rfl) rfl (.ref (x 5)) rfl dX5_book_48 ?_
      refine lv_iload_n hx hb dX5_book_51 rfl (lv_at hl 2 rfl) ?_
      refine n_iald hx hb hK hP 16 (v := (nI (zs k0))) rfl (by omega) (by omega) rfl dX5_book_52 ?_
      refine n_icmp_ge hx hb (by omega) (by omega) (tgt := 86) dX5_book_53 (by decide) (fun c_3 => ?_) (fun c_3 => ?_)
      · have hk5 : i = zs k0 := by omega
        subst hk5
        refine lv_aload_n hx hb dX5_book_86 rfl (lv_at hl 1 rfl) ?_
        refine n_get (C := RX5) (T := TX5) (N := 7) hx hb hts (fun _ h => List.mem_cons_of_mem _ (List.mem_append_left _ (List.mem_append_left _ (List.mem_append_right _ h)))) hown hK hP 0 rfl rfl 4 (by decide) (List.mem_of_getElem? (i := 1) rfl) rfl (.ref (x 3)) rfl dX5_book_87 ?_
        refine n_get (C := RX3) (T := TX3) (N := 3) hx hb hts (fun _ h => List.mem_cons_of_mem _ (List.mem_append_left _ (List.mem_append_right _ h))) hown hK hP 14 rfl rfl 1 (by decide) (List.mem_of_getElem? (i := 4) rfl) rfl (.ref (x 5)) rfl dX5_book_90 ?_
        refine lv_iload_n hx hb dX5_book_93 rfl (lv_at hl 2 rfl) ?_
        refine n_iald hx hb hK hP 16 (v := (nI (zs k0))) rfl (by omega) (by omega) rfl dX5_book_94 ?_
        have he : sh_e wd (nI k0).toInt 7 = 7 := by unfold sh_e; (try simp only [hT0, Int.toNat_natCast]); (repeat' split) <;> omega
        exact fin_i hx hb hr hlk hS hP hD (daysN (zs k0) σ) trivial (by rw [he]; first | done | ((try simp only [hT0, Int.toNat_natCast]); first | done | rfl)) (by rw [he]; (try simp only [hT0, Int.toNat_natCast]); exact eqW.rf _) dX5_book_95
      · refine lv_aload_n hx hb dX5_book_56 rfl (lv_at hl 1 rfl) ?_
        refine n_get (C := RX5) (T := TX5) (N := 7) hx hb hts (fun _ h => List.mem_cons_of_mem _ (List.mem_append_left _ (List.mem_append_left _ (List.mem_append_right _ h)))) hown hK hP 0 rfl rfl 4 (by decide) (List.mem_of_getElem? (i := 1) rfl) rfl (.ref (x 3)) rfl dX5_book_57 ?_
        refine lv_iload_n hx hb dX5_book_60 rfl (lv_at hl 2 rfl) ?_
        refine lv_iload_n hx hb dX5_book_61 rfl (lv_at hl 0 rfl) ?_
        refine lv_aload_n hx hb dX5_book_62 rfl (lv_at hl 1 rfl) ?_
        refine n_get (C := RX5) (T := TX5) (N := 7) hx hb hts (fun _ h => List.mem_cons_of_mem _ (List.mem_append_left _ (List.mem_append_left _ (List.mem_append_right _ h)))) hown hK hP 0 rfl rfl 2 (by decide) (List.mem_of_getElem? (i := 2) rfl) rfl (.ref (tr 0)) rfl dX5_book_63 ?_
        refine n_get (C := RX0) (T := TX0) (N := 11) hx hb hts (fun _ h => List.mem_cons_of_mem _ (List.mem_append_right _ h)) hown hK hP 8 rfl rfl 1 (by decide) (List.mem_of_getElem? (i := 5) rfl) rfl (.int (nI ((daysN i σ) 1))) rfl dX5_book_66 ?_
        refine lv_i2l (v := lN ((daysN i σ) 1)) hx hb dX5_book_69 (nI_l (by omega)) ?_
        refine callVV (rest := []) (wn := fun u => ([xO x hm kp tr hi, (x 7, .inl (G.2.1, 7, .inl tl))] ++ (wH G hm σ ++ (wH G tr (daysN i σ) ++ ([(x 3, .inr (2, [.ref (x 4), .ref (x 5), .ref (x 6)])), (x 4, .inl (G.2.1, 4, .inl (nF wd))), (x 5, .inl (G.2.1, 4, .inl (nF zs))), (x 6, .inl (G.2.2.1, 160, .inr (.inl (vp_updL (bkN nb (wd k0) k0 σ i) (40 * k0 + i) (lowN (wd k0) (lN ((daysN i σ) 1)))))))]))))) ⟨hx, hb, hml, hown, hts⟩ (c_X3_putNumber l G H.size x wd zs (bkN nb (wd k0) k0 σ i) k0 i (lN ((daysN i σ) 1)) (by omega) (by omega) (by omega) (by omega)) (cwV 3 hts gX5_book_X3_putNumber rfl rfl rfl (by decide +kernel) ⟨Nat.le_of_ble_eq_true rfl, Nat.le_of_ble_eq_true rfl⟩) noXB (fun _ _ _ => trivial) hK hP hD hS hAq 2 0 (T := TX3) (N := 3) rfl rfl rfl hl.1 rfl (Nat.le_of_ble_eq_true rfl) dX5_book_70 ⟨Nat.le_of_ble_eq_true rfl, Nat.le_of_ble_eq_true rfl⟩ [14, 15, 16, 17] rfl rfl [x 3, x 4, x 5, x 6] rfl (fun _ => rfl) (fun _ => rfl) (fun u H locs hok hP hD hS => ?_)
        refine lv_aload_n hx hb dX5_book_73 rfl (lv_at hl 1 rfl) ?_
        refine n_get (C := RX5) (T := TX5) (N := 7) hx hb hts (fun _ h => List.mem_cons_of_mem _ (List.mem_append_left _ (List.mem_append_left _ (List.mem_append_right _ h)))) hown hK hP 0 rfl rfl 2 (by decide) (List.mem_of_getElem? (i := 2) rfl) rfl (.ref (tr 0)) rfl dX5_book_74 ?_
        refine callVV (rest := []) (wn := fun u => ([xO x hm kp tr hi, (x 7, .inl (G.2.1, 7, .inl tl))] ++ (wH G hm σ ++ (wH G tr (dayN (daysN i σ)) ++ ([(x 3, .inr (2, [.ref (x 4), .ref (x 5), .ref (x 6)])), (x 4, .inl (G.2.1, 4, .inl (nF wd))), (x 5, .inl (G.2.1, 4, .inl (nF zs))), (x 6, .inl (G.2.2.1, 160, .inr (.inl (vp_updL (bkN nb (wd k0) k0 σ i) (40 * k0 + i) (lowN (wd k0) (lN ((daysN i σ) 1)))))))]))))) ⟨hx, hb, hml, hown, hts⟩ (c_X0_goOneDay l G H.size tr (daysN i σ) hE (by omega)) (cwV 0 hts gX5_book_X0_goOneDay rfl rfl rfl (by decide +kernel) ⟨Nat.le_of_ble_eq_true rfl, Nat.le_of_ble_eq_true rfl⟩) noXB (fun _ _ _ => trivial) hK hP hD hS hAq 0 0 (T := TX0) (N := 11) rfl rfl rfl hl.1 rfl (Nat.le_of_ble_eq_true rfl) dX5_book_77 ⟨Nat.le_of_ble_eq_true rfl, Nat.le_of_ble_eq_true rfl⟩ [8, 9, 10, 11, 12, 13] rfl rfl [tr 0, tr 1, tr 2, tr 3, tr 4, tr 5] rfl (fun _ => rfl) (fun _ => rfl) (fun u H locs hok hP hD hS => ?_)
        refine n_iinc (lv' := [(2, .int (nI (i + 1))), (0, .ref (x 0)), (1, .int (nI k0))]) hx hb dX5_book_80 hl (k := 0) rfl (by decide) rfl (fun ls hl => ?_)
        refine lv_goto (tgt := 43) hx hb dX5_book_83 (by decide) ?_
        exact ih (i + 1) _ _ _ (by omega) (by omega) hP hD hS (lv_sub hl [0, 1, 2] rfl)
    · refine lv_aload_n hx hb dX5_book_24 rfl (lv_at hl 0 rfl) ?_
      refine lv_iconst (v := nI 5) hx hb dX5_book_25 rfl ?_
      refine callVI (rest := []) (wn := fun u => ([xO x hm kp tr hi, (x 7, .inl (G.2.1, 7, .inl (tk tl 5)))] ++ (wH G hm σ ++ (wH G tr τ ++ ([(x 3, .inr (2, [.ref (x 4), .ref (x 5), .ref (x 6)])), (x 4, .inl (G.2.1, 4, .inl (nF wd))), (x 5, .inl (G.2.1, 4, .inl (nF zs))), (x 6, .inl (G.2.2.1, 160, .inr (.inl nb)))]))))) ⟨hx, hb, hml, hown, hts⟩ (c_X5_tell l G H.size x hm kp tr hi tl 5 (by omega)) (cwV 1 hts gX5_book_X5_tell rfl rfl rfl (by decide +kernel) ⟨Nat.le_of_ble_eq_true rfl, Nat.le_of_ble_eq_true rfl⟩) noXB (fun _ _ _ => trivial) hK hP hD hS hAq 4 0 (T := TX5) (N := 7) rfl rfl rfl hl.1 rfl (Nat.le_of_ble_eq_true rfl) dX5_book_26 ⟨Nat.le_of_ble_eq_true rfl, Nat.le_of_ble_eq_true rfl⟩ [0, 1] rfl rfl [x 0, x 7] rfl (fun _ => rfl) (fun _ => rfl) (fun u H locs hok hP hD hS => ?_)
      have he : sh_e wd (nI k0).toInt 7 = 5 := by unfold sh_e; (try simp only [hT0, Int.toNat_natCast]); (repeat' split) <;> omega
      exact fin_i hx hb hr hlk hS hP hD τ trivial (by rw [he]; first | done | ((try simp only [hT0, Int.toNat_natCast]); first | done | rfl)) (by rw [he]; (try simp only [hT0, Int.toNat_natCast]); exact eqW.rf _) dX5_book_29
  · refine lv_aload_n hx hb dX5_book_7 rfl (lv_at hl 0 rfl) ?_
    refine lv_iconst (v := nI 0) hx hb dX5_book_8 rfl ?_
    refine callVI (rest := []) (wn := fun u => ([xO x hm kp tr hi, (x 7, .inl (G.2.1, 7, .inl (tk tl 0)))] ++ (wH G hm σ ++ (wH G tr τ ++ ([(x 3, .inr (2, [.ref (x 4), .ref (x 5), .ref (x 6)])), (x 4, .inl (G.2.1, 4, .inl (nF wd))), (x 5, .inl (G.2.1, 4, .inl (nF zs))), (x 6, .inl (G.2.2.1, 160, .inr (.inl nb)))]))))) ⟨hx, hb, hml, hown, hts⟩ (c_X5_tell l G H.size x hm kp tr hi tl 0 (by omega)) (cwV 1 hts gX5_book_X5_tell rfl rfl rfl (by decide +kernel) ⟨Nat.le_of_ble_eq_true rfl, Nat.le_of_ble_eq_true rfl⟩) noXB (fun _ _ _ => trivial) hK hP hD hS hAq 4 0 (T := TX5) (N := 7) rfl rfl rfl hl.1 rfl (Nat.le_of_ble_eq_true rfl) dX5_book_9 ⟨Nat.le_of_ble_eq_true rfl, Nat.le_of_ble_eq_true rfl⟩ [0, 1] rfl rfl [x 0, x 7] rfl (fun _ => rfl) (fun _ => rfl) (fun u H locs hok hP hD hS => ?_)
    have he : sh_e wd a0.toInt 7 = 0 := by unfold sh_e; (try simp only [Int.toNat_natCast]); (repeat' split) <;> omega
    exact fin_i hx hb hr hlk hS hP hD τ trivial (by rw [he]; first | done | ((try simp only [Int.toNat_natCast]); first | done | rfl)) (by rw [he]; (try simp only [Int.toNat_natCast]); exact eqW.rf _) dX5_book_12
set_option maxHeartbeats 400000 in
set_option maxRecDepth 100000 in
theorem c_X6_book (l : Launch) (G : GT) (sz : Nat) (b : Nat → Nat) (ζ : Nat → Nat) (vv : Int64) (tl : Nat → Int32) (wd zs : Nat → Nat) (nb : Nat → Int64) (σ : Sg) (F : Nat → Int32) (a0 : Int32) (hSI : SInv wd zs) (hI : Inv σ) (hd0 : σ 0 ≤ 9999) : MI (S := (Nat → Int32)) l G noX yX6_book wsX6_book ({ frames := 6, cells := 0, slots := 0, locals := 136 } : Room) [.ref (b 0), .int a0] ([mO b ζ vv, (b 4, .inl (G.2.1, 7, .inl tl)), (b 1, .inl (G.2.1, 46, .inl (nF σ))), (b 3, .inl (G.2.1, 46, .inl F)), (b 9, .inl (G.2.1, 4, .inl (nF wd))), (b 10, .inl (G.2.1, 4, .inl (nF zs))), (b 11, .inl (G.2.2.1, 160, .inr (.inl nb)))]) sz (fun _ => True) (fun u => rs (sh_e wd a0.toInt 7) (nI (zs a0.toInt.toNat))) (fun u => [mO b ζ vv, (b 4, .inl (G.2.1, 7, .inl (ts tl (sh_e wd a0.toInt 7)))), (b 1, .inl (G.2.1, 46, .inl (nF σ))), (b 3, .inl (G.2.1, 46, .inl u)), (b 9, .inl (G.2.1, 4, .inl (nF wd))), (b 10, .inl (G.2.1, 4, .inl (nF zs))), (b 11, .inl (G.2.2.1, 160, .inr (.inl (hq (sh_e wd a0.toInt 7) (bkN nb (wd a0.toInt.toNat) a0.toInt.toNat σ (zs a0.toInt.toNat)) nb))))]) := by
  refine MI_enter (cc := cX6_book) (maxL := 4) (ret := (some .int)) (by decide) rfl (Nat.le_of_ble_eq_true rfl) ?_
  intro p e s m below meth c A ls H hx hb hr hlk hml hown hts hAq hS hP hK hD hX hl hnm
  have hown : s.vm.findClass RX6 = some m.cls := hown
  have hl : lv_has ls 4 [(0, .ref (b 0)), (1, .int a0)] := hl
  obtain ⟨⟨i1, i2, i3, i4, i5⟩, ip⟩ := id hI
  refine lv_aload_n hx hb dX6_book_0 rfl (lv_at hl 0 rfl) ?_
  refine lv_iload_n hx hb dX6_book_1 rfl (lv_at hl 1 rfl) ?_
  refine callVI (rest := []) (wn := fun u => [mO b ζ vv, (b 4, .inl (G.2.1, 7, .inl tl)), (b 1, .inl (G.2.1, 46, .inl (nF σ))), (b 3, .inl (G.2.1, 46, .inl F)), (b 9, .inl (G.2.1, 4, .inl (nF wd))), (b 10, .inl (G.2.1, 4, .inl (nF zs))), (b 11, .inl (G.2.2.1, 160, .inr (.inl nb)))]) ⟨hx, hb, hml, hown, hts⟩ (c_X6_wrongSheet l G H.size b ζ vv wd zs a0 hSI) (cwV 1 hts gX6_book_X6_wrongSheet rfl rfl rfl (by decide +kernel) ⟨Nat.le_of_ble_eq_true rfl, Nat.le_of_ble_eq_true rfl⟩) noXB (fun _ _ _ => trivial) hK hP hD hS hAq 5 0 (T := TX6) (N := 18) rfl rfl rfl hl.1 rfl (Nat.le_of_ble_eq_true rfl) dX6_book_2 ⟨Nat.le_of_ble_eq_true rfl, Nat.le_of_ble_eq_true rfl⟩ [0, 4] rfl rfl [b 0, b 9] rfl (fun _ => rfl) (fun _ => rfl) (fun u H locs hok hP hD hS => ?_)
  rcases wsh_c wd a0 with ⟨h1, hw⟩ | ⟨h1, h2, hw⟩ | ⟨h1, h2, hw⟩
  · refine n_top (y := nI 0) hw ?_
    refine lv_istore_n (lv' := [(2, .int (nI 0)), (0, .ref (b 0)), (1, .int a0)]) hx hb dX6_book_5 rfl hl (by decide) rfl (fun ls hl => ?_)
    refine lv_iload_n hx hb dX6_book_6 rfl (lv_at hl 0 rfl) ?_
    refine n_if_lt hx hb (by omega) (tgt := 16) dX6_book_7 (by decide) (fun c_1 => ?_) (fun c_1 => ?_)
    · omega
    · refine lv_aload_n hx hb dX6_book_10 rfl (lv_at hl 1 rfl) ?_
      refine lv_iload_n hx hb dX6_book_11 rfl (lv_at hl 0 rfl) ?_
      refine callVI (rest := []) (wn := fun u => [mO b ζ vv, (b 4, .inl (G.2.1, 7, .inl (tk tl 0))), (b 1, .inl (G.2.1, 46, .inl (nF σ))), (b 3, .inl (G.2.1, 46, .inl F)), (b 9, .inl (G.2.1, 4, .inl (nF wd))), (b 10, .inl (G.2.1, 4, .inl (nF zs))), (b 11, .inl (G.2.2.1, 160, .inr (.inl nb)))]) ⟨hx, hb, hml, hown, hts⟩ (c_X6_no l G H.size b ζ vv tl 0 (by omega)) (cwV 1 hts gX6_book_X6_no rfl rfl rfl (by decide +kernel) ⟨Nat.le_of_ble_eq_true rfl, Nat.le_of_ble_eq_true rfl⟩) noXB (fun _ _ _ => trivial) hK hP hD hS hAq 5 0 (T := TX6) (N := 18) rfl rfl rfl hl.1 rfl (Nat.le_of_ble_eq_true rfl) dX6_book_12 ⟨Nat.le_of_ble_eq_true rfl, Nat.le_of_ble_eq_true rfl⟩ [0, 1] rfl rfl [b 0, b 4] rfl (fun _ => rfl) (fun _ => rfl) (fun u H locs hok hP hD hS => ?_)
      have he : sh_e wd a0.toInt 7 = 0 := by unfold sh_e; (try simp only [Int.toNat_natCast]); (repeat' split) <;> omega
      exact fin_i hx hb hr hlk hS hP hD (F) trivial (by rw [he]; first | done | ((try simp only [Int.toNat_natCast]); first | done | rfl)) (by rw [he]; (try simp only [Int.toNat_natCast]); exact eqW.rf _) dX6_book_15
  · refine n_top (y := nI 5) hw ?_
    obtain ⟨k0, hk0, rfl⟩ := nI_of_rg (n := 3) (x := a0) ⟨by omega, by omega⟩
    have hT0 := nI_T (a := k0) (by omega)
    obtain ⟨s0, s1⟩ := hSI k0 (by omega)
    rw [hT0, Int.toNat_natCast] at h2
    refine lv_istore_n (lv' := [(2, .int (nI 5)), (0, .ref (b 0)), (1, .int (nI k0))]) hx hb dX6_book_5 rfl hl (by decide) rfl (fun ls hl => ?_)
    refine lv_iload_n hx hb dX6_book_6 rfl (lv_at hl 0 rfl) ?_
    refine n_if_lt hx hb (by omega) (tgt := 16) dX6_book_7 (by decide) (fun c_2 => ?_) (fun c_2 => ?_)
    · omega
    · refine lv_aload_n hx hb dX6_book_10 rfl (lv_at hl 1 rfl) ?_
      refine lv_iload_n hx hb dX6_book_11 rfl (lv_at hl 0 rfl) ?_
      refine callVI (rest := []) (wn := fun u => [mO b ζ vv, (b 4, .inl (G.2.1, 7, .inl (tk tl 5))), (b 1, .inl (G.2.1, 46, .inl (nF σ))), (b 3, .inl (G.2.1, 46, .inl F)), (b 9, .inl (G.2.1, 4, .inl (nF wd))), (b 10, .inl (G.2.1, 4, .inl (nF zs))), (b 11, .inl (G.2.2.1, 160, .inr (.inl nb)))]) ⟨hx, hb, hml, hown, hts⟩ (c_X6_no l G H.size b ζ vv tl 5 (by omega)) (cwV 1 hts gX6_book_X6_no rfl rfl rfl (by decide +kernel) ⟨Nat.le_of_ble_eq_true rfl, Nat.le_of_ble_eq_true rfl⟩) noXB (fun _ _ _ => trivial) hK hP hD hS hAq 5 0 (T := TX6) (N := 18) rfl rfl rfl hl.1 rfl (Nat.le_of_ble_eq_true rfl) dX6_book_12 ⟨Nat.le_of_ble_eq_true rfl, Nat.le_of_ble_eq_true rfl⟩ [0, 1] rfl rfl [b 0, b 4] rfl (fun _ => rfl) (fun _ => rfl) (fun u H locs hok hP hD hS => ?_)
      have he : sh_e wd (nI k0).toInt 7 = 5 := by unfold sh_e; (try simp only [hT0, Int.toNat_natCast]); (repeat' split) <;> omega
      exact fin_i hx hb hr hlk hS hP hD (F) trivial (by rw [he]; first | done | ((try simp only [hT0, Int.toNat_natCast]); first | done | rfl)) (by rw [he]; (try simp only [hT0, Int.toNat_natCast]); exact eqW.rf _) dX6_book_15
  · refine n_top (y := (-1)) hw ?_
    have hm1 : ((-1) : Int32).toInt = -1 := by decide
    obtain ⟨k0, hk0, rfl⟩ := nI_of_rg (n := 3) (x := a0) ⟨by omega, by omega⟩
    have hT0 := nI_T (a := k0) (by omega)
    obtain ⟨s0, s1⟩ := hSI k0 (by omega)
    rw [hT0, Int.toNat_natCast] at h2
    refine lv_istore_n (lv' := [(2, .int (-1)), (0, .ref (b 0)), (1, .int (nI k0))]) hx hb dX6_book_5 rfl hl (by decide) rfl (fun ls hl => ?_)
    refine lv_iload_n hx hb dX6_book_6 rfl (lv_at hl 0 rfl) ?_
    refine r_if_lt hx hb (tgt := 16) dX6_book_7 (by decide) (fun c_3 => ?_) (fun c_3 => ?_)
    · refine lv_aload_n hx hb dX6_book_16 rfl (lv_at hl 1 rfl) ?_
      refine callVV (rest := []) (wn := fun u => [mO b ζ vv, (b 4, .inl (G.2.1, 7, .inl tl)), (b 1, .inl (G.2.1, 46, .inl (nF σ))), (b 3, .inl (G.2.1, 46, .inl (nF σ))), (b 9, .inl (G.2.1, 4, .inl (nF wd))), (b 10, .inl (G.2.1, 4, .inl (nF zs))), (b 11, .inl (G.2.2.1, 160, .inr (.inl nb)))]) ⟨hx, hb, hml, hown, hts⟩ (c_X6_setsAside l G H.size b ζ vv σ F) (cwV 0 hts gX6_book_X6_setsAside rfl rfl rfl (by decide +kernel) ⟨Nat.le_of_ble_eq_true rfl, Nat.le_of_ble_eq_true rfl⟩) noXB (fun _ _ _ => trivial) hK hP hD hS hAq 5 0 (T := TX6) (N := 18) rfl rfl rfl hl.1 rfl (Nat.le_of_ble_eq_true rfl) dX6_book_17 ⟨Nat.le_of_ble_eq_true rfl, Nat.le_of_ble_eq_true rfl⟩ [0, 2, 3] rfl rfl [b 0, b 1, b 3] rfl (fun _ => rfl) (fun _ => rfl) (fun u H locs hok hP hD hS => ?_)
      refine lv_iconst (v := nI 0) hx hb dX6_book_20 rfl ?_
      refine lv_istore_n (lv' := [(3, .int (nI 0)), (2, .int (-1)), (0, .ref (b 0)), (1, .int (nI k0))]) hx hb dX6_book_21 rfl hl (by decide) rfl (fun ls hl => ?_)
      refine W_loop1 (I := fun (i : Nat) => i ≤ zs k0) (wd := fun (i : Nat) => [mO b ζ vv, (b 4, .inl (G.2.1, 7, .inl tl)), (b 1, .inl (G.2.1, 46, .inl (nF (daysN i σ)))), (b 3, .inl (G.2.1, 46, .inl (nF σ))), (b 9, .inl (G.2.1, 4, .inl (nF wd))), (b 10, .inl (G.2.1, 4, .inl (nF zs))), (b 11, .inl (G.2.2.1, 160, .inr (.inl (bkN nb (wd k0) k0 σ i))))]) (lv := fun (i : Nat) => [(3, .int (nI i)), (0, .ref (b 0)), (1, .int (nI k0))]) (μ := fun (i : Nat) => zs k0 - i) ?_ 0 (by omega) hP hD hS (lv_sub hl [0, 2, 3] rfl)
      intro i H locs ls hI0 hP hD hS hl ih
      have hi0 : i ≤ zs k0 := hI0
      have hE := days_Inv hI i
      have hE1 := hE.1.1
      have hE0 := (days_0 σ i).1
      refine lv_iload_n hx hb dX6_book_22 rfl (lv_at hl 0 rfl) ?_
      refine lv_aload_n hx hb dX6_book_23 rfl (lv_at hl 1 rfl) ?_
      refine n_get (C := RX6) (T := TX6) (N := 18) hx hb hts (fun _ h => List.mem_cons_of_mem _ (List.mem_append_right _ h)) hown hK hP 0 rfl rfl 15 (by decide) (List.mem_of_getElem? (i := 1) rfl) rfl (.ref (b 10)) rfl dX6_book_24 ?_
      refine lv_iload_n hx hb dX6_book_27 rfl (lv_at hl 2 rfl) ?_
      refine n_iald hx hb hK hP 5 (v := (nI (zs k0))) rfl (by omega) (by omega) rfl dX6_book_28 ?_
      refine n_icmp_ge hx hb (by omega) (by omega) (tgt := 55) dX6_book_29 (by decide) (fun c_4 => ?_) (fun c_4 => ?_)
      · have hk5 : i = zs k0 := by omega
        subst hk5
        refine lv_aload_n hx hb dX6_book_55 rfl (lv_at hl 1 rfl) ?_
        refine callVV (rest := []) (wn := fun u => [mO b ζ vv, (b 4, .inl (G.2.1, 7, .inl tl)), (b 1, .inl (G.2.1, 46, .inl (nF σ))), (b 3, .inl (G.2.1, 46, .inl (nF σ))), (b 9, .inl (G.2.1, 4, .inl (nF wd))), (b 10, .inl (G.2.1, 4, .inl (nF zs))), (b 11, .inl (G.2.2.1, 160, .inr (.inl (bkN nb (wd k0) k0 σ (zs k0)))))]) ⟨hx, hb, hml, hown, hts⟩ (c_X6_laysBack l G H.size b ζ vv σ (nF (daysN (zs k0) σ))) (cwV 0 hts gX6_book_X6_laysBack rfl rfl rfl (by decide +kernel) ⟨Nat.le_of_ble_eq_true rfl, Nat.le_of_ble_eq_true rfl⟩) noXB (fun _ _ _ => trivial) hK hP hD hS hAq 5 0 (T := TX6) (N := 18) rfl rfl rfl hl.1 rfl (Nat.le_of_ble_eq_true rfl) dX6_book_56 ⟨Nat.le_of_ble_eq_true rfl, Nat.le_of_ble_eq_true rfl⟩ [0, 2, 3] rfl rfl [b 0, b 1, b 3] rfl (fun _ => rfl) (fun _ => rfl) (fun u H locs hok hP hD hS => ?_)
        refine lv_aload_n hx hb dX6_book_59 rfl (lv_at hl 1 rfl) ?_
        refine n_get (C := RX6) (T := TX6) (N := 18) hx hb hts (fun _ h => List.mem_cons_of_mem _ (List.mem_append_right _ h)) hown hK hP 0 rfl rfl 15 (by decide) (List.mem_of_getElem? (i := 1) rfl) rfl (.ref (b 10)) rfl dX6_book_60 ?_
        refine lv_iload_n hx hb dX6_book_63 rfl (lv_at hl 2 rfl) ?_
        refine n_iald hx hb hK hP 5 (v := (nI (zs k0))) rfl (by omega) (by omega) rfl dX6_book_64 ?_
        have he : sh_e wd (nI k0).toInt 7 = 7 := by unfold sh_e; (try simp only [hT0, Int.toNat_natCast]); (repeat' split) <;> omega
        exact fin_i hx hb hr hlk hS hP hD (nF σ) trivial (by rw [he]; first | done | ((try simp only [hT0, Int.toNat_natCast]); first | done | rfl)) (by rw [he]; (try simp only [hT0, Int.toNat_natCast]); exact eqW.rf _) dX6_book_65
      · refine lv_aload_n hx hb dX6_book_32 rfl (lv_at hl 1 rfl) ?_
        refine lv_iload_n hx hb dX6_book_33 rfl (lv_at hl 2 rfl) ?_
        refine lv_iload_n hx hb dX6_book_34 rfl (lv_at hl 0 rfl) ?_
        refine lv_aload_n hx hb dX6_book_35 rfl (lv_at hl 1 rfl) ?_
        refine n_get (C := RX6) (T := TX6) (N := 18) hx hb hts (fun _ h => List.mem_cons_of_mem _ (List.mem_append_right _ h)) hown hK hP 0 rfl rfl 0 (by decide) (List.mem_of_getElem? (i := 2) rfl) rfl (.ref (b 1)) rfl dX6_book_36 ?_
        refine lv_iconst (v := nI 1) hx hb dX6_book_39 rfl ?_
        refine n_iald hx hb hK hP 2 (v := (nI ((daysN i σ) 1))) rfl (by omega) (by omega) rfl dX6_book_40 ?_
        refine lv_i2l (v := lN ((daysN i σ) 1)) hx hb dX6_book_41 (nI_l (by omega)) ?_
        refine callVV (rest := []) (wn := fun u => [mO b ζ vv, (b 4, .inl (G.2.1, 7, .inl tl)), (b 1, .inl (G.2.1, 46, .inl (nF (daysN i σ)))), (b 3, .inl (G.2.1, 46, .inl (nF σ))), (b 9, .inl (G.2.1, 4, .inl (nF wd))), (b 10, .inl (G.2.1, 4, .inl (nF zs))), (b 11, .inl (G.2.2.1, 160, .inr (.inl (vp_updL (bkN nb (wd k0) k0 σ i) (40 * k0 + i) (lowN (wd k0) (lN ((daysN i σ) 1)))))))]) ⟨hx, hb, hml, hown, hts⟩ (c_X6_tells l G H.size b ζ vv wd (bkN nb (wd k0) k0 σ i) k0 i (lN ((daysN i σ) 1)) (by omega) (by omega) (by omega)) (cwV 3 hts gX6_book_X6_tells rfl rfl rfl (by decide +kernel) ⟨Nat.le_of_ble_eq_true rfl, Nat.le_of_ble_eq_true rfl⟩) noXB (fun _ _ _ => trivial) hK hP hD hS hAq 5 0 (T := TX6) (N := 18) rfl rfl rfl hl.1 rfl (Nat.le_of_ble_eq_true rfl) dX6_book_42 ⟨Nat.le_of_ble_eq_true rfl, Nat.le_of_ble_eq_true rfl⟩ [0, 4, 6] rfl rfl [b 0, b 9, b 11] rfl (fun _ => rfl) (fun _ => rfl) (fun u H locs hok hP hD hS => ?_)
        refine lv_aload_n hx hb dX6_book_45 rfl (lv_at hl 1 rfl) ?_
        refine callVV (rest := []) (wn := fun u => [mO b ζ vv, (b 4, .inl (G.2.1, 7, .inl tl)), (b 1, .inl (G.2.1, 46, .inl (nF (dayN (daysN i σ))))), (b 3, .inl (G.2.1, 46, .inl (nF σ))), (b 9, .inl (G.2.1, 4, .inl (nF wd))), (b 10, .inl (G.2.1, 4, .inl (nF zs))), (b 11, .inl (G.2.2.1, 160, .inr (.inl (vp_updL (bkN nb (wd k0) k0 σ i) (40 * k0 + i) (lowN (wd k0) (lN ((daysN i σ) 1)))))))]) ⟨hx, hb, hml, hown, hts⟩ (c_X6_day l G H.size b ζ vv (daysN i σ) hE (by omega)) (cwV 0 hts gX6_book_X6_day rfl rfl rfl (by decide +kernel) ⟨Nat.le_of_ble_eq_true rfl, Nat.le_of_ble_eq_true rfl⟩) noXB (fun _ _ _ => trivial) hK hP hD hS hAq 5 0 (T := TX6) (N := 18) rfl rfl rfl hl.1 rfl (Nat.le_of_ble_eq_true rfl) dX6_book_46 ⟨Nat.le_of_ble_eq_true rfl, Nat.le_of_ble_eq_true rfl⟩ [0, 2] rfl rfl [b 0, b 1] rfl (fun _ => rfl) (fun _ => rfl) (fun u H locs hok hP hD hS => ?_)
        refine n_iinc (lv' := [(3, .int (nI (i + 1))), (0, .ref (b 0)), (1, .int (nI k0))]) hx hb dX6_book_49 hl (k := 0) rfl (by decide) rfl (fun ls hl => ?_)
        refine lv_goto (tgt := 22) hx hb dX6_book_52 (by decide) ?_
        exact ih (i + 1) _ _ _ (by omega) (by omega) hP hD hS (lv_sub hl [0, 1, 2] rfl)
    · omega
set_option maxHeartbeats 400000 in
set_option maxRecDepth 100000 in
theorem c_X5_isTrialAsTold (l : Launch) (G : GT) (sz : Nat) (x hm kp tr : Nat → Nat) (hi : Nat) (ρ : Sg) (zs : Nat → Nat) (nb : Nat → Int64) (k : Nat) (hk : k < 4) (hz : zs k ≤ 40) (hIr : Inv ρ) (hd1 : ρ 0 ≤ 9999) : MI (S := Sg) l G noX yX5_isTrialAsTold wsX5_isTrialAsTold ({ frames := 4, cells := 0, slots := 0, locals := 91 } : Room) [.ref (x 0), .int (nI k)] (([xO x hm kp tr hi] ++ (wH G tr ρ ++ ([(x 3, .inr (2, [.ref (x 4), .ref (x 5), .ref (x 6)])), (x 5, .inl (G.2.1, 4, .inl (nF zs))), (x 6, .inl (G.2.2.1, 160, .inr (.inl nb)))])))) sz (fun _ => True) (fun u => zI (fstN (soQ nb k ρ) (zs k) = zs k)) (fun u => ([xO x hm kp tr hi] ++ (wH G tr u ++ ([(x 3, .inr (2, [.ref (x 4), .ref (x 5), .ref (x 6)])), (x 5, .inl (G.2.1, 4, .inl (nF zs))), (x 6, .inl (G.2.2.1, 160, .inr (.inl nb)))])))) := by
  refine MI_enter (cc := cX5_isTrialAsTold) (maxL := 3) (ret := (some .boolean)) (by decide) rfl (Nat.le_of_ble_eq_true rfl) ?_
  intro p e s m below meth c A ls H hx hb hr hlk hml hown hts hAq hS hP hK hD hX hl hnm
  have hown : s.vm.findClass RX5 = some m.cls := hown
  have hl : lv_has ls 3 [(0, .ref (x 0)), (1, .int (nI k))] := hl
  refine lv_iconst (v := nI 0) hx hb dX5_isTrialAsTold_0 rfl ?_
  refine lv_istore_n (lv' := [(2, .int (nI 0)), (0, .ref (x 0)), (1, .int (nI k))]) hx hb dX5_isTrialAsTold_1 rfl hl (by decide) rfl (fun ls hl => ?_)
  refine W_loop1 (I := fun (i : Nat) => i ≤ zs k ∧ NoQ (soQ nb k ρ) i) (wd := fun (i : Nat) => ([xO x hm kp tr hi] ++ (wH G tr (daysN i ρ) ++ ([(x 3, .inr (2, [.ref (x 4), .ref (x 5), .ref (x 6)])), (x 5, .inl (G.2.1, 4, .inl (nF zs))), (x 6, .inl (G.2.2.1, 160, .inr (.inl nb)))])))) (lv := fun (i : Nat) => [(2, .int (nI i)), (0, .ref (x 0)), (1, .int (nI k))]) (μ := fun (i : Nat) => zs k - i) ?_ 0 ⟨by omega, NoQ_0⟩ hP hD hS (lv_sub hl [0, 1, 2] rfl)
  intro i H locs ls hI0 hP hD hS hl ih
  obtain ⟨hi0, hno⟩ := hI0
  have hE := days_Inv hIr i
  have hE1 := hE.1.1
  have hE0 := (days_0 ρ i).1
  refine lv_iload_n hx hb dX5_isTrialAsTold_2 rfl (lv_at hl 0 rfl) ?_
  refine lv_aload_n hx hb dX5_isTrialAsTold_3 rfl (lv_at hl 1 rfl) ?_
  refine n_get (C := RX5) (T := TX5) (N := 7) hx hb hts (fun _ h => List.mem_cons_of_mem _ (List.mem_append_left _ (List.mem_append_left _ (List.mem_append_right _ h)))) hown hK hP 0 rfl rfl 4 (by decide) (List.mem_of_getElem? (i := 1) rfl) rfl (.ref (x 3)) rfl dX5_isTrialAsTold_4 ?_
  refine n_get (C := RX3) (T := TX3) (N := 3) hx hb hts (fun _ h => List.mem_cons_of_mem _ (List.mem_append_left _ (List.mem_append_right _ h))) hown hK hP 7 rfl rfl 1 (by decide) (List.mem_of_getElem? (i := 2) rfl) rfl (.ref (x 5)) rfl dX5_isTrialAsTold_7 ?_
  refine lv_iload_n hx hb dX5_isTrialAsTold_10 rfl (lv_at hl 2 rfl) ?_
  refine n_iald hx hb hK hP 8 (v := (nI (zs k))) rfl (by omega) (by omega) rfl dX5_isTrialAsTold_11 ?_
  refine n_icmp_ge hx hb (by omega) (by omega) (tgt := 51) dX5_isTrialAsTold_12 (by decide) (fun c_1 => ?_) (fun c_1 => ?_)
  · have hk5 : i = zs k := by omega
    subst hk5
    refine lv_iconst (v := nI 1) hx hb dX5_isTrialAsTold_51 rfl ?_
    have hf := fst_none hno
    exact fin_z (ty := .boolean) (by decide) hx hb hr hlk hS hP hD (daysN (zs k) ρ) trivial (zI_t hf).symm (eqW.rf _) dX5_isTrialAsTold_52
  · refine lv_aload_n hx hb dX5_isTrialAsTold_15 rfl (lv_at hl 1 rfl) ?_
    refine n_get (C := RX5) (T := TX5) (N := 7) hx hb hts (fun _ h => List.mem_cons_of_mem _ (List.mem_append_left _ (List.mem_append_left _ (List.mem_append_right _ h)))) hown hK hP 0 rfl rfl 4 (by decide) (List.mem_of_getElem? (i := 1) rfl) rfl (.ref (x 3)) rfl dX5_isTrialAsTold_16 ?_
    refine lv_iload_n hx hb dX5_isTrialAsTold_19 rfl (lv_at hl 2 rfl) ?_
    refine lv_iload_n hx hb dX5_isTrialAsTold_20 rfl (lv_at hl 0 rfl) ?_
    refine callVL (rest := []) (wn := fun u => ([xO x hm kp tr hi] ++ (wH G tr (daysN i ρ) ++ ([(x 3, .inr (2, [.ref (x 4), .ref (x 5), .ref (x 6)])), (x 5, .inl (G.2.1, 4, .inl (nF zs))), (x 6, .inl (G.2.2.1, 160, .inr (.inl nb)))])))) ⟨hx, hb, hml, hown, hts⟩ (c_X3_numberAt l G H.size x zs nb k i (by omega) (by omega) (by omega)) (cwV 2 hts gX5_isTrialAsTold_X3_numberAt rfl rfl rfl (by decide +kernel) ⟨Nat.le_of_ble_eq_true rfl, Nat.le_of_ble_eq_true rfl⟩) noXB (fun _ _ _ => trivial) hK hP hD hS hAq 2 0 (T := TX3) (N := 3) rfl rfl rfl hl.1 rfl (Nat.le_of_ble_eq_true rfl) dX5_isTrialAsTold_21 ⟨Nat.le_of_ble_eq_true rfl, Nat.le_of_ble_eq_true rfl⟩ [7, 8, 9] rfl rfl [x 3, x 5, x 6] rfl (fun _ => rfl) (fun _ => rfl) (fun u H locs hok hP hD hS => ?_)
    refine lv_aload_n hx hb dX5_isTrialAsTold_24 rfl (lv_at hl 1 rfl) ?_
    refine n_get (C := RX5) (T := TX5) (N := 7) hx hb hts (fun _ h => List.mem_cons_of_mem _ (List.mem_append_left _ (List.mem_append_left _ (List.mem_append_right _ h)))) hown hK hP 0 rfl rfl 2 (by decide) (List.mem_of_getElem? (i := 3) rfl) rfl (.ref (tr 0)) rfl dX5_isTrialAsTold_25 ?_
    refine n_get (C := RX0) (T := TX0) (N := 11) hx hb hts (fun _ h => List.mem_cons_of_mem _ (List.mem_append_right _ h)) hown hK hP 1 rfl rfl 1 (by decide) (List.mem_of_getElem? (i := 4) rfl) rfl (.int (nI ((daysN i ρ) 1))) rfl dX5_isTrialAsTold_28 ?_
    refine lv_i2l (v := lN ((daysN i ρ) 1)) hx hb dX5_isTrialAsTold_31 (nI_l (by omega)) ?_
    refine W.lcmp hx hb dX5_isTrialAsTold_32 ?_
    have hlc_2 := lc_all (nb (40 * k + i)) (lN ((daysN i ρ) 1))
    rw [lN_toInt (show (daysN i ρ) 1 < 2147483648 by omega)] at hlc_2
    refine r_if_eq hx hb (tgt := 38) dX5_isTrialAsTold_33 (by decide) (fun c_3 => ?_) (fun c_3 => ?_)
    · refine lv_aload_n hx hb dX5_isTrialAsTold_38 rfl (lv_at hl 1 rfl) ?_
      refine n_get (C := RX5) (T := TX5) (N := 7) hx hb hts (fun _ h => List.mem_cons_of_mem _ (List.mem_append_left _ (List.mem_append_left _ (List.mem_append_right _ h)))) hown hK hP 0 rfl rfl 2 (by decide) (List.mem_of_getElem? (i := 3) rfl) rfl (.ref (tr 0)) rfl dX5_isTrialAsTold_39 ?_
      refine callVV (rest := []) (wn := fun u => ([xO x hm kp tr hi] ++ (wH G tr (dayN (daysN i ρ)) ++ ([(x 3, .inr (2, [.ref (x 4), .ref (x 5), .ref (x 6)])), (x 5, .inl (G.2.1, 4, .inl (nF zs))), (x 6, .inl (G.2.2.1, 160, .inr (.inl nb)))])))) ⟨hx, hb, hml, hown, hts⟩ (c_X0_goOneDay l G H.size tr (daysN i ρ) hE (by omega)) (cwV 0 hts gX5_isTrialAsTold_X0_goOneDay rfl rfl rfl (by decide +kernel) ⟨Nat.le_of_ble_eq_true rfl, Nat.le_of_ble_eq_true rfl⟩) noXB (fun _ _ _ => trivial) hK hP hD hS hAq 0 0 (T := TX0) (N := 11) rfl rfl rfl hl.1 rfl (Nat.le_of_ble_eq_true rfl) dX5_isTrialAsTold_42 ⟨Nat.le_of_ble_eq_true rfl, Nat.le_of_ble_eq_true rfl⟩ [1, 2, 3, 4, 5, 6] rfl rfl [tr 0, tr 1, tr 2, tr 3, tr 4, tr 5] rfl (fun _ => rfl) (fun _ => rfl) (fun u H locs hok hP hD hS => ?_)
      refine n_iinc (lv' := [(2, .int (nI (i + 1))), (0, .ref (x 0)), (1, .int (nI k))]) hx hb dX5_isTrialAsTold_45 hl (k := 0) rfl (by decide) rfl (fun ls hl => ?_)
      refine lv_goto (tgt := 2) hx hb dX5_isTrialAsTold_48 (by decide) ?_
      exact ih (i + 1) _ _ _ (by omega) ⟨by omega, NoQ_S hno (decide_eq_false (by omega))⟩ hP hD hS (lv_sub hl [0, 1, 2] rfl)
    · refine lv_iconst (v := nI 0) hx hb dX5_isTrialAsTold_36 rfl ?_
      have hf := fst_of hno (show soQ nb k ρ i = true from decide_eq_true (by omega)) (show i < zs k by omega)
      exact fin_z (ty := .boolean) (by decide) hx hb hr hlk hS hP hD (daysN i ρ) trivial (zI_f (by omega)).symm (eqW.rf _) dX5_isTrialAsTold_37
set_option maxHeartbeats 400000 in
set_option maxRecDepth 100000 in
theorem c_X6_isSo (l : Launch) (G : GT) (sz : Nat) (b : Nat → Nat) (ζ : Nat → Nat) (vv : Int64) (ρ : Sg) (zs : Nat → Nat) (nb : Nat → Int64) (k : Nat) (hk : k < 4) (hz : zs k ≤ 40) (hIr : Inv ρ) (hd1 : ρ 0 ≤ 9999) : MI (S := Sg) l G noX yX6_isSo wsX6_isSo ({ frames := 6, cells := 0, slots := 0, locals := 136 } : Room) [.ref (b 0), .int (nI k)] ([mO b ζ vv, (b 1, .inl (G.2.1, 46, .inl (nF ρ))), (b 10, .inl (G.2.1, 4, .inl (nF zs))), (b 11, .inl (G.2.2.1, 160, .inr (.inl nb)))]) sz (fun _ => True) (fun u => zI (fstN (soQ nb k ρ) (zs k) = zs k)) (fun u => [mO b ζ vv, (b 1, .inl (G.2.1, 46, .inl (nF u))), (b 10, .inl (G.2.1, 4, .inl (nF zs))), (b 11, .inl (G.2.2.1, 160, .inr (.inl nb)))]) := by
  refine MI_enter (cc := cX6_isSo) (maxL := 4) (ret := (some .boolean)) (by decide) rfl (Nat.le_of_ble_eq_true rfl) ?_
  intro p e s m below meth c A ls H hx hb hr hlk hml hown hts hAq hS hP hK hD hX hl hnm
  have hown : s.vm.findClass RX6 = some m.cls := hown
  have hl : lv_has ls 4 [(0, .ref (b 0)), (1, .int (nI k))] := hl
  refine lv_iconst (v := nI 1) hx hb dX6_isSo_0 rfl ?_
  refine lv_istore_n (lv' := [(2, .int (nI 1)), (0, .ref (b 0)), (1, .int (nI k))]) hx hb dX6_isSo_1 rfl hl (by decide) rfl (fun ls hl => ?_)
  refine lv_iconst (v := nI 0) hx hb dX6_isSo_2 rfl ?_
  refine lv_istore_n (lv' := [(3, .int (nI 0)), (2, .int (nI 1)), (0, .ref (b 0)), (1, .int (nI k))]) hx hb dX6_isSo_3 rfl hl (by decide) rfl (fun ls hl => ?_)
  refine W_loop1 (I := fun (i : Nat) => i ≤ zs k ∧ NoQ (soQ nb k ρ) i) (wd := fun (i : Nat) => [mO b ζ vv, (b 1, .inl (G.2.1, 46, .inl (nF (daysN i ρ)))), (b 10, .inl (G.2.1, 4, .inl (nF zs))), (b 11, .inl (G.2.2.1, 160, .inr (.inl nb)))]) (lv := fun (i : Nat) => [(3, .int (nI i)), (2, .int (nI 1)), (0, .ref (b 0)), (1, .int (nI k))]) (μ := fun (i : Nat) => zs k - i) ?_ 0 ⟨by omega, NoQ_0⟩ hP hD hS (lv_sub hl [0, 1, 2, 3] rfl)
  intro i H locs ls hI0 hP hD hS hl ih
  obtain ⟨hi0, hno⟩ := hI0
  have hE := days_Inv hIr i
  have hE1 := hE.1.1
  have hE0 := (days_0 ρ i).1
  refine lv_iload_n hx hb dX6_isSo_4 rfl (lv_at hl 0 rfl) ?_
  refine lv_aload_n hx hb dX6_isSo_5 rfl (lv_at hl 2 rfl) ?_
  refine n_get (C := RX6) (T := TX6) (N := 18) hx hb hts (fun _ h => List.mem_cons_of_mem _ (List.mem_append_right _ h)) hown hK hP 0 rfl rfl 15 (by decide) (List.mem_of_getElem? (i := 1) rfl) rfl (.ref (b 10)) rfl dX6_isSo_6 ?_
  refine lv_iload_n hx hb dX6_isSo_9 rfl (lv_at hl 3 rfl) ?_
  refine n_iald hx hb hK hP 2 (v := (nI (zs k))) rfl (by omega) (by omega) rfl dX6_isSo_10 ?_
  refine n_icmp_ge hx hb (by omega) (by omega) (tgt := 51) dX6_isSo_11 (by decide) (fun c_1 => ?_) (fun c_1 => ?_)
  · have hk5 : i = zs k := by omega
    subst hk5
    refine lv_iload_n hx hb dX6_isSo_51 rfl (lv_at hl 1 rfl) ?_
    have hf := fst_none hno
    exact fin_z (ty := .boolean) (by decide) hx hb hr hlk hS hP hD (daysN (zs k) ρ) trivial (zI_t hf).symm (eqW.rf _) dX6_isSo_52
  · refine lv_iload_n hx hb dX6_isSo_14 rfl (lv_at hl 1 rfl) ?_
    refine n_if_eq hx hb (by omega) (tgt := 51) dX6_isSo_15 (by decide) (fun c_2 => ?_) (fun c_2 => ?_)
    · omega
    · refine lv_aload_n hx hb dX6_isSo_18 rfl (lv_at hl 2 rfl) ?_
      refine lv_iload_n hx hb dX6_isSo_19 rfl (lv_at hl 3 rfl) ?_
      refine lv_iload_n hx hb dX6_isSo_20 rfl (lv_at hl 0 rfl) ?_
      refine callVL (rest := []) (wn := fun u => [mO b ζ vv, (b 1, .inl (G.2.1, 46, .inl (nF (daysN i ρ)))), (b 10, .inl (G.2.1, 4, .inl (nF zs))), (b 11, .inl (G.2.2.1, 160, .inr (.inl nb)))]) ⟨hx, hb, hml, hown, hts⟩ (c_X6_told l G H.size b ζ vv nb k i (by omega) (by omega)) (cwV 2 hts gX6_isSo_X6_told rfl rfl rfl (by decide +kernel) ⟨Nat.le_of_ble_eq_true rfl, Nat.le_of_ble_eq_true rfl⟩) noXB (fun _ _ _ => trivial) hK hP hD hS hAq 5 0 (T := TX6) (N := 18) rfl rfl rfl hl.1 rfl (Nat.le_of_ble_eq_true rfl) dX6_isSo_21 ⟨Nat.le_of_ble_eq_true rfl, Nat.le_of_ble_eq_true rfl⟩ [0, 3] rfl rfl [b 0, b 11] rfl (fun _ => rfl) (fun _ => rfl) (fun u H locs hok hP hD hS => ?_)
      refine lv_aload_n hx hb dX6_isSo_24 rfl (lv_at hl 2 rfl) ?_
      refine n_get (C := RX6) (T := TX6) (N := 18) hx hb hts (fun _ h => List.mem_cons_of_mem _ (List.mem_append_right _ h)) hown hK hP 0 rfl rfl 0 (by decide) (List.mem_of_getElem? (i := 2) rfl) rfl (.ref (b 1)) rfl dX6_isSo_25 ?_
      refine lv_iconst (v := nI 1) hx hb dX6_isSo_28 rfl ?_
      refine n_iald hx hb hK hP 1 (v := (nI ((daysN i ρ) 1))) rfl (by omega) (by omega) rfl dX6_isSo_29 ?_
      refine lv_i2l (v := lN ((daysN i ρ) 1)) hx hb dX6_isSo_30 (nI_l (by omega)) ?_
      refine W.lcmp hx hb dX6_isSo_31 ?_
      have hlc_3 := lc_all (nb (40 * k + i)) (lN ((daysN i ρ) 1))
      rw [lN_toInt (show (daysN i ρ) 1 < 2147483648 by omega)] at hlc_3
      refine r_if_ne hx hb (tgt := 39) dX6_isSo_32 (by decide) (fun c_4 => ?_) (fun c_4 => ?_)
      · refine lv_iconst (v := nI 0) hx hb dX6_isSo_39 rfl ?_
        refine lv_istore_n (lv' := [(2, .int (nI 0)), (3, .int (nI i)), (0, .ref (b 0)), (1, .int (nI k))]) hx hb dX6_isSo_40 rfl hl (by decide) rfl (fun ls hl => ?_)
        refine lv_aload_n hx hb dX6_isSo_41 rfl (lv_at hl 2 rfl) ?_
        refine callVV (rest := []) (wn := fun u => [mO b ζ vv, (b 1, .inl (G.2.1, 46, .inl (nF (dayN (daysN i ρ))))), (b 10, .inl (G.2.1, 4, .inl (nF zs))), (b 11, .inl (G.2.2.1, 160, .inr (.inl nb)))]) ⟨hx, hb, hml, hown, hts⟩ (c_X6_day l G H.size b ζ vv (daysN i ρ) hE (by omega)) (cwV 0 hts gX6_isSo_X6_day rfl rfl rfl (by decide +kernel) ⟨Nat.le_of_ble_eq_true rfl, Nat.le_of_ble_eq_true rfl⟩) noXB (fun _ _ _ => trivial) hK hP hD hS hAq 5 0 (T := TX6) (N := 18) rfl rfl rfl hl.1 rfl (Nat.le_of_ble_eq_true rfl) dX6_isSo_42 ⟨Nat.le_of_ble_eq_true rfl, Nat.le_of_ble_eq_true rfl⟩ [0, 1] rfl rfl [b 0, b 1] rfl (fun _ => rfl) (fun _ => rfl) (fun u H locs hok hP hD hS => ?_)
        refine n_iinc (lv' := [(3, .int (nI (i + 1))), (2, .int (nI 0)), (0, .ref (b 0)), (1, .int (nI k))]) hx hb dX6_isSo_45 hl (k := 1) rfl (by decide) rfl (fun ls hl => ?_)
        refine lv_goto (tgt := 4) hx hb dX6_isSo_48 (by decide) ?_
        refine lv_iload_n hx hb dX6_isSo_4 rfl (lv_at hl 0 rfl) ?_
        refine lv_aload_n hx hb dX6_isSo_5 rfl (lv_at hl 2 rfl) ?_
        refine n_get (C := RX6) (T := TX6) (N := 18) hx hb hts (fun _ h => List.mem_cons_of_mem _ (List.mem_append_right _ h)) hown hK hP 0 rfl rfl 15 (by decide) (List.mem_of_getElem? (i := 1) rfl) rfl (.ref (b 10)) rfl dX6_isSo_6 ?_
        refine lv_iload_n hx hb dX6_isSo_9 rfl (lv_at hl 3 rfl) ?_
        refine n_iald hx hb hK hP 2 (v := (nI (zs k))) rfl (by omega) (by omega) rfl dX6_isSo_10 ?_
        refine n_icmp_ge hx hb (by omega) (by omega) (tgt := 51) dX6_isSo_11 (by decide) (fun c_5 => ?_) (fun c_5 => ?_)
        · refine lv_iload_n hx hb dX6_isSo_51 rfl (lv_at hl 1 rfl) ?_
          have hf := fst_of hno (show soQ nb k ρ i = true from decide_eq_true (by omega)) (show i < zs k by omega)
          exact fin_z (ty := .boolean) (by decide) hx hb hr hlk hS hP hD (dayN (daysN i ρ)) trivial (zI_f (by omega)).symm (eqW.rf _) dX6_isSo_52
        · refine lv_iload_n hx hb dX6_isSo_14 rfl (lv_at hl 1 rfl) ?_
          refine n_if_eq hx hb (by omega) (tgt := 51) dX6_isSo_15 (by decide) (fun c_6 => ?_) (fun c_6 => ?_)
          · refine lv_iload_n hx hb dX6_isSo_51 rfl (lv_at hl 1 rfl) ?_
            have hf := fst_of hno (show soQ nb k ρ i = true from decide_eq_true (by omega)) (show i < zs k by omega)
            exact fin_z (ty := .boolean) (by decide) hx hb hr hlk hS hP hD (dayN (daysN i ρ)) trivial (zI_f (by omega)).symm (eqW.rf _) dX6_isSo_52
          · omega
      · refine lv_iconst (v := nI 1) hx hb dX6_isSo_35 rfl ?_
        refine lv_goto (tgt := 40) hx hb dX6_isSo_36 (by decide) ?_
        refine lv_istore_n (lv' := [(2, .int (nI 1)), (3, .int (nI i)), (0, .ref (b 0)), (1, .int (nI k))]) hx hb dX6_isSo_40 rfl hl (by decide) rfl (fun ls hl => ?_)
        refine lv_aload_n hx hb dX6_isSo_41 rfl (lv_at hl 2 rfl) ?_
        refine callVV (rest := []) (wn := fun u => [mO b ζ vv, (b 1, .inl (G.2.1, 46, .inl (nF (dayN (daysN i ρ))))), (b 10, .inl (G.2.1, 4, .inl (nF zs))), (b 11, .inl (G.2.2.1, 160, .inr (.inl nb)))]) ⟨hx, hb, hml, hown, hts⟩ (c_X6_day l G H.size b ζ vv (daysN i ρ) hE (by omega)) (cwV 0 hts gX6_isSo_X6_day rfl rfl rfl (by decide +kernel) ⟨Nat.le_of_ble_eq_true rfl, Nat.le_of_ble_eq_true rfl⟩) noXB (fun _ _ _ => trivial) hK hP hD hS hAq 5 0 (T := TX6) (N := 18) rfl rfl rfl hl.1 rfl (Nat.le_of_ble_eq_true rfl) dX6_isSo_42 ⟨Nat.le_of_ble_eq_true rfl, Nat.le_of_ble_eq_true rfl⟩ [0, 1] rfl rfl [b 0, b 1] rfl (fun _ => rfl) (fun _ => rfl) (fun u H locs hok hP hD hS => ?_)
        refine n_iinc (lv' := [(3, .int (nI (i + 1))), (2, .int (nI 1)), (0, .ref (b 0)), (1, .int (nI k))]) hx hb dX6_isSo_45 hl (k := 1) rfl (by decide) rfl (fun ls hl => ?_)
        refine lv_goto (tgt := 4) hx hb dX6_isSo_48 (by decide) ?_
        exact ih (i + 1) _ _ _ (by omega) ⟨by omega, NoQ_S hno (decide_eq_false (by omega))⟩ hP hD hS (lv_sub hl [0, 1, 2, 3] rfl)
set_option maxHeartbeats 400000 in
set_option maxRecDepth 100000 in
theorem c_X5_read (l : Launch) (G : GT) (sz : Nat) (x hm kp tr : Nat → Nat) (hi : Nat) (tl : Nat → Int32) (wd zs : Nat → Nat) (nb : Nat → Int64) (σ τ : Sg) (a0 a1 : Int32) (hSI : SInv wd zs) (hI : Inv σ) (hd0 : σ 0 ≤ 9999) : MI (S := Sg) l G noX yX5_read wsX5_read ({ frames := 5, cells := 0, slots := 0, locals := 113 } : Room) [.ref (x 0), .int a0, .int a1] (([xO x hm kp tr hi, (x 7, .inl (G.2.1, 7, .inl tl))] ++ (wH G hm σ ++ (wH G tr τ ++ ([(x 3, .inr (2, [.ref (x 4), .ref (x 5), .ref (x 6)])), (x 4, .inl (G.2.1, 4, .inl (nF wd))), (x 5, .inl (G.2.1, 4, .inl (nF zs))), (x 6, .inl (G.2.2.1, 160, .inr (.inl nb)))]))))) sz (fun _ => True) (fun u => rs (read_e σ wd a0.toInt a1.toInt) (nI (rdO nb a0.toInt.toNat (zs a0.toInt.toNat) σ a1.toInt.toNat 6))) (fun u => ([xO x hm kp tr hi, (x 7, .inl (G.2.1, 7, .inl (ts tl (read_e σ wd a0.toInt a1.toInt))))] ++ (wH G hm σ ++ (wH G tr u ++ ([(x 3, .inr (2, [.ref (x 4), .ref (x 5), .ref (x 6)])), (x 4, .inl (G.2.1, 4, .inl (nF wd))), (x 5, .inl (G.2.1, 4, .inl (nF zs))), (x 6, .inl (G.2.2.1, 160, .inr (.inl nb)))]))))) := by
  refine MI_enter (cc := cX5_read) (maxL := 6) (ret := (some .int)) (by decide) rfl (Nat.le_of_ble_eq_true rfl) ?_
  intro p e s m below meth c A ls H hx hb hr hlk hml hown hts hAq hS hP hK hD hX hl hnm
  have hown : s.vm.findClass RX5 = some m.cls := hown
  have hl : lv_has ls 6 [(0, .ref (x 0)), (1, .int a0), (2, .int a1)] := hl
  obtain ⟨⟨i1, i2, i3, i4, i5⟩, ip⟩ := id hI
  refine lv_iload_n hx hb dX5_read_0 rfl (lv_at hl 1 rfl) ?_
  refine callSI (rest := []) (wn := fun u => ([xO x hm kp tr hi, (x 7, .inl (G.2.1, 7, .inl tl))] ++ (wH G hm σ ++ (wH G tr τ ++ ([(x 3, .inr (2, [.ref (x 4), .ref (x 5), .ref (x 6)])), (x 4, .inl (G.2.1, 4, .inl (nF wd))), (x 5, .inl (G.2.1, 4, .inl (nF zs))), (x 6, .inl (G.2.2.1, 160, .inr (.inl nb)))]))))) ⟨hx, hb, hml, hown, hts⟩ (c_X3_isOne l G H.size a0) (va_cwS 1 hts gX5_read_X3_isOne rfl rfl rfl (by decide +kernel) ⟨Nat.le_of_ble_eq_true rfl, Nat.le_of_ble_eq_true rfl⟩) noXB (fun _ _ _ => trivial) hK hP hD hS hAq rfl hl.1 rfl (Nat.le_of_ble_eq_true rfl) dX5_read_1 ⟨Nat.le_of_ble_eq_true rfl, Nat.le_of_ble_eq_true rfl⟩ [] rfl rfl [] rfl (fun _ => rfl) (fun _ => rfl) (fun u H locs hok hP hD hS => ?_)
  refine z_if_ne hx hb (tgt := 13) dX5_read_4 (by decide) (fun c_1 => ?_) (fun c_1 => ?_)
  · obtain ⟨k0, hk0, rfl⟩ := nI_of_rg (n := 3) (x := a0) ⟨by omega, by omega⟩
    have hT0 := nI_T (a := k0) (by omega)
    obtain ⟨s0, s1⟩ := hSI k0 (by omega)
    refine lv_aload_n hx hb dX5_read_13 rfl (lv_at hl 0 rfl) ?_
    refine n_get (C := RX5) (T := TX5) (N := 7) hx hb hts (fun _ h => List.mem_cons_of_mem _ (List.mem_append_left _ (List.mem_append_left _ (List.mem_append_right _ h)))) hown hK hP 0 rfl rfl 4 (by decide) (List.mem_of_getElem? (i := 1) rfl) rfl (.ref (x 3)) rfl dX5_read_14 ?_
    refine lv_iload_n hx hb dX5_read_17 rfl (lv_at hl 1 rfl) ?_
    refine callVI (rest := []) (wn := fun u => ([xO x hm kp tr hi, (x 7, .inl (G.2.1, 7, .inl tl))] ++ (wH G hm σ ++ (wH G tr τ ++ ([(x 3, .inr (2, [.ref (x 4), .ref (x 5), .ref (x 6)])), (x 4, .inl (G.2.1, 4, .inl (nF wd))), (x 5, .inl (G.2.1, 4, .inl (nF zs))), (x 6, .inl (G.2.2.1, 160, .inr (.inl nb)))]))))) ⟨hx, hb, hml, hown, hts⟩ (c_X3_isMissing l G H.size x wd k0 (by omega) (by omega)) (cwV 1 hts gX5_read_X3_isMissing rfl rfl rfl (by decide +kernel) ⟨Nat.le_of_ble_eq_true rfl, Nat.le_of_ble_eq_true rfl⟩) noXB (fun _ _ _ => trivial) hK hP hD hS hAq 2 0 (T := TX3) (N := 3) rfl rfl rfl hl.1 rfl (Nat.le_of_ble_eq_true rfl) dX5_read_18 ⟨Nat.le_of_ble_eq_true rfl, Nat.le_of_ble_eq_true rfl⟩ [14, 15] rfl rfl [x 3, x 4] rfl (fun _ => rfl) (fun _ => rfl) (fun u H locs hok hP hD hS => ?_)
    refine z_if_eq hx hb (tgt := 30) dX5_read_21 (by decide) (fun c_2 => ?_) (fun c_2 => ?_)
    · refine lv_aload_n hx hb dX5_read_30 rfl (lv_at hl 0 rfl) ?_
      refine n_get (C := RX5) (T := TX5) (N := 7) hx hb hts (fun _ h => List.mem_cons_of_mem _ (List.mem_append_left _ (List.mem_append_left _ (List.mem_append_right _ h)))) hown hK hP 0 rfl rfl 0 (by decide) (List.mem_of_getElem? (i := 2) rfl) rfl (.ref (hm 0)) rfl dX5_read_31 ?_
      refine lv_iload_n hx hb dX5_read_34 rfl (lv_at hl 2 rfl) ?_
      refine callVI (rest := []) (wn := fun u => ([xO x hm kp tr hi, (x 7, .inl (G.2.1, 7, .inl tl))] ++ (wH G hm σ ++ (wH G tr τ ++ ([(x 3, .inr (2, [.ref (x 4), .ref (x 5), .ref (x 6)])), (x 4, .inl (G.2.1, 4, .inl (nF wd))), (x 5, .inl (G.2.1, 4, .inl (nF zs))), (x 6, .inl (G.2.2.1, 160, .inr (.inl nb)))]))))) ⟨hx, hb, hml, hown, hts⟩ (c_X0_hasOne l G H.size hm σ a1 (by omega)) (cwV 1 hts gX5_read_X0_hasOne rfl rfl rfl (by decide +kernel) ⟨Nat.le_of_ble_eq_true rfl, Nat.le_of_ble_eq_true rfl⟩) noXB (fun _ _ _ => trivial) hK hP hD hS hAq 0 0 (T := TX0) (N := 11) rfl rfl rfl hl.1 rfl (Nat.le_of_ble_eq_true rfl) dX5_read_35 ⟨Nat.le_of_ble_eq_true rfl, Nat.le_of_ble_eq_true rfl⟩ [2, 3, 4, 5, 6, 7] rfl rfl [hm 0, hm 1, hm 2, hm 3, hm 4, hm 5] rfl (fun _ => rfl) (fun _ => rfl) (fun u H locs hok hP hD hS => ?_)
      refine z_if_ne hx hb (tgt := 47) dX5_read_38 (by decide) (fun c_3 => ?_) (fun c_3 => ?_)
      · obtain ⟨k1, hk1, rfl⟩ := nI_of_rg (n := 7) (x := a1) ⟨by omega, by omega⟩
        have hT1 := nI_T (a := k1) (by omega)
        have hp1 : k1 < σ 5 := by omega
        obtain ⟨q10, q11, q12, q13, q14⟩ := ip k1 (by omega)
        refine lv_iconst (v := nI 0) hx hb dX5_read_47 rfl ?_
        refine lv_istore_n (lv' := [(3, .int (nI 0)), (0, .ref (x 0)), (1, .int (nI k0)), (2, .int (nI k1))]) hx hb dX5_read_48 rfl hl (by decide) rfl (fun ls hl => ?_)
        refine lv_iconst (v := nI 0) hx hb dX5_read_49 rfl ?_
        refine lv_istore (lv' := [(4, .int (nI 0)), (3, .int (nI 0)), (0, .ref (x 0)), (1, .int (nI k0)), (2, .int (nI k1))]) hx hb dX5_read_50 hl (by decide) rfl (fun ls hl => ?_)
        refine W_loop2 (I := fun (g : Nat) (τ1 : Sg) => g ≤ 6) (wd := fun (g : Nat) (τ1 : Sg) => ([xO x hm kp tr hi, (x 7, .inl (G.2.1, 7, .inl tl))] ++ (wH G hm σ ++ (wH G tr τ1 ++ ([(x 3, .inr (2, [.ref (x 4), .ref (x 5), .ref (x 6)])), (x 4, .inl (G.2.1, 4, .inl (nF wd))), (x 5, .inl (G.2.1, 4, .inl (nF zs))), (x 6, .inl (G.2.2.1, 160, .inr (.inl nb)))]))))) (lv := fun (g : Nat) (τ1 : Sg) => [(4, .int (nI g)), (3, .int (nI (rdO nb k0 (zs k0) σ k1 g))), (0, .ref (x 0)), (1, .int (nI k0)), (2, .int (nI k1))]) (μ := fun (g : Nat) (τ1 : Sg) => 6 - g) ?_ 0 τ (by omega) hP hD hS (lv_sub hl [0, 1, 2, 3, 4] rfl)
        intro g τ1 H locs ls hI0 hP hD hS hl ih
        have hg6 : g ≤ 6 := hI0
        refine lv_iload hx hb dX5_read_52 (lv_at hl 0 rfl) ?_
        refine lv_bipush (v := nI 6) hx hb dX5_read_54 rfl ?_
        refine n_icmp_ge hx hb (by omega) (by omega) (tgt := 125) dX5_read_56 (by decide) (fun c_4 => ?_) (fun c_4 => ?_)
        · have hk5 : g = 6 := by omega
          subst hk5
          refine lv_iload_n hx hb dX5_read_125 rfl (lv_at hl 1 rfl) ?_
          have he : read_e σ wd (nI k0).toInt (nI k1).toInt = 7 := by unfold read_e sh_e; (try simp only [hT0, hT1, Int.toNat_natCast]); (repeat' split) <;> omega
          exact fin_i hx hb hr hlk hS hP hD τ1 trivial (by rw [he]; first | done | ((try simp only [hT0, hT1, Int.toNat_natCast]); first | done | rfl)) (by rw [he]; (try simp only [hT0, hT1, Int.toNat_natCast]); exact eqW.rf _) dX5_read_126
        · refine lv_iconst (v := nI 0) hx hb dX5_read_59 rfl ?_
          refine lv_istore (lv' := [(5, .int (nI 0)), (4, .int (nI g)), (3, .int (nI (rdO nb k0 (zs k0) σ k1 g))), (0, .ref (x 0)), (1, .int (nI k0)), (2, .int (nI k1))]) hx hb dX5_read_60 hl (by decide) rfl (fun ls hl => ?_)
          refine W_loop2 (I := fun (d : Nat) (τ2 : Sg) => d ≤ 21) (wd := fun (d : Nat) (τ2 : Sg) => ([xO x hm kp tr hi, (x 7, .inl (G.2.1, 7, .inl tl))] ++ (wH G hm σ ++ (wH G tr τ2 ++ ([(x 3, .inr (2, [.ref (x 4), .ref (x 5), .ref (x 6)])), (x 4, .inl (G.2.1, 4, .inl (nF wd))), (x 5, .inl (G.2.1, 4, .inl (nF zs))), (x 6, .inl (G.2.2.1, 160, .inr (.inl nb)))]))))) (lv := fun (d : Nat) (τ2 : Sg) => [(5, .int (nI d)), (4, .int (nI g)), (3, .int (nI (rdI nb k0 (zs k0) σ k1 g d (rdO nb k0 (zs k0) σ k1 g)))), (0, .ref (x 0)), (1, .int (nI k0)), (2, .int (nI k1))]) (μ := fun (d : Nat) (τ2 : Sg) => 21 - d) ?_ 0 τ1 (by omega) hP hD hS (lv_sub hl [0, 1, 2, 3, 4, 5] rfl)
          intro d τ2 H locs ls hI0 hP hD hS hl ih1
          have hd21 : d ≤ 21 := hI0
          refine lv_iload hx hb dX5_read_62 (lv_at hl 0 rfl) ?_
          refine lv_bipush (v := nI 20) hx hb dX5_read_64 rfl ?_
          refine n_icmp_gt hx hb (by omega) (by omega) (tgt := 119) dX5_read_66 (by decide) (fun c_5 => ?_) (fun c_5 => ?_)
          · have hk6 : d = 21 := by omega
            subst hk6
            refine n_iinc (lv' := [(4, .int (nI (g + 1))), (5, .int (nI 21)), (3, .int (nI (rdI nb k0 (zs k0) σ k1 g 21 (rdO nb k0 (zs k0) σ k1 g)))), (0, .ref (x 0)), (1, .int (nI k0)), (2, .int (nI k1))]) hx hb dX5_read_119 hl (k := 1) rfl (by decide) rfl (fun ls hl => ?_)
            refine lv_goto (tgt := 52) hx hb dX5_read_122 (by decide) ?_
            exact ih (g + 1) τ2 _ _ _ (by omega) (by omega) hP hD hS (lv_sub hl [0, 2, 3, 4, 5] rfl)
          · refine lv_aload_n hx hb dX5_read_69 rfl (lv_at hl 3 rfl) ?_
            refine n_get (C := RX5) (T := TX5) (N := 7) hx hb hts (fun _ h => List.mem_cons_of_mem _ (List.mem_append_left _ (List.mem_append_left _ (List.mem_append_right _ h)))) hown hK hP 0 rfl rfl 2 (by decide) (List.mem_of_getElem? (i := 3) rfl) rfl (.ref (tr 0)) rfl dX5_read_70 ?_
            refine lv_aload_n hx hb dX5_read_73 rfl (lv_at hl 3 rfl) ?_
            refine n_get (C := RX5) (T := TX5) (N := 7) hx hb hts (fun _ h => List.mem_cons_of_mem _ (List.mem_append_left _ (List.mem_append_left _ (List.mem_append_right _ h)))) hown hK hP 0 rfl rfl 0 (by decide) (List.mem_of_getElem? (i := 2) rfl) rfl (.ref (hm 0)) rfl dX5_read_74 ?_
            refine callVV (rest := []) (wn := fun u => ([xO x hm kp tr hi, (x 7, .inl (G.2.1, 7, .inl tl))] ++ (wH G hm σ ++ (wH G tr σ ++ ([(x 3, .inr (2, [.ref (x 4), .ref (x 5), .ref (x 6)])), (x 4, .inl (G.2.1, 4, .inl (nF wd))), (x 5, .inl (G.2.1, 4, .inl (nF zs))), (x 6, .inl (G.2.2.1, 160, .inr (.inl nb)))]))))) ⟨hx, hb, hml, hown, hts⟩ (c_X0_become l G H.size tr τ2 hm σ) (cwV 1 hts gX5_read_X0_become rfl rfl rfl (by decide +kernel) ⟨Nat.le_of_ble_eq_true rfl, Nat.le_of_ble_eq_true rfl⟩) noXB (fun _ _ _ => trivial) hK hP hD hS hAq 0 0 (T := TX0) (N := 11) rfl rfl rfl hl.1 rfl (Nat.le_of_ble_eq_true rfl) dX5_read_77 ⟨Nat.le_of_ble_eq_true rfl, Nat.le_of_ble_eq_true rfl⟩ [8, 9, 10, 11, 12, 13, 2, 3, 4, 5, 6, 7] rfl rfl [tr 0, tr 1, tr 2, tr 3, tr 4, tr 5, hm 0, hm 1, hm 2, hm 3, hm 4, hm 5] rfl (fun _ => rfl) (fun _ => rfl) (fun u H locs hok hP hD hS => ?_)
            refine lv_aload_n hx hb dX5_read_80 rfl (lv_at hl 3 rfl) ?_
            refine n_get (C := RX5) (T := TX5) (N := 7) hx hb hts (fun _ h => List.mem_cons_of_mem _ (List.mem_append_left _ (List.mem_append_left _ (List.mem_append_right _ h)))) hown hK hP 0 rfl rfl 2 (by decide) (List.mem_of_getElem? (i := 3) rfl) rfl (.ref (tr 0)) rfl dX5_read_81 ?_
            refine n_get (C := RX0) (T := TX0) (N := 11) hx hb hts (fun _ h => List.mem_cons_of_mem _ (List.mem_append_left _ (List.mem_append_right _ h))) hown hK hP 8 rfl rfl 6 (by decide) (List.mem_of_getElem? (i := 4) rfl) rfl (.ref (tr 1)) rfl dX5_read_84 ?_
            refine lv_iload_n hx hb dX5_read_87 rfl (lv_at hl 5 rfl) ?_
            refine lv_iload hx hb dX5_read_88 (lv_at hl 1 rfl) ?_
            refine n_iast hx hb hK hP hD hS 9 (wn := ([xO x hm kp tr hi, (x 7, .inl (G.2.1, 7, .inl tl))] ++ (wH G hm σ ++ (wH G tr (un σ (pl k1 0) g) ++ ([(x 3, .inr (2, [.ref (x 4), .ref (x 5), .ref (x 6)])), (x 4, .inl (G.2.1, 4, .inl (nF wd))), (x 5, .inl (G.2.1, 4, .inl (nF zs))), (x 6, .inl (G.2.2.1, 160, .inr (.inl nb)))]))))) rfl (by omega) (by omega) (congrArg (fun hole_w : va_W => ([xO x hm kp tr hi, (x 7, .inl (G.2.1, 7, .inl tl))] ++ (wH G hm σ ++ (hole_w ++ ([(x 3, .inr (2, [.ref (x 4), .ref (x 5), .ref (x 6)])), (x 4, .inl (G.2.1, 4, .inl (nF wd))), (x 5, .inl (G.2.1, 4, .inl (nF zs))), (x 6, .inl (G.2.2.1, 160, .inr (.inl nb)))]))))) (wH_p0 G tr σ k1 g)) dX5_read_90 (fun H locs hP hD hS => ?_)
            refine lv_aload_n hx hb dX5_read_91 rfl (lv_at hl 3 rfl) ?_
            refine n_get (C := RX5) (T := TX5) (N := 7) hx hb hts (fun _ h => List.mem_cons_of_mem _ (List.mem_append_left _ (List.mem_append_left _ (List.mem_append_right _ h)))) hown hK hP 0 rfl rfl 2 (by decide) (List.mem_of_getElem? (i := 3) rfl) rfl (.ref (tr 0)) rfl dX5_read_92 ?_
            refine n_get (C := RX0) (T := TX0) (N := 11) hx hb hts (fun _ h => List.mem_cons_of_mem _ (List.mem_append_left _ (List.mem_append_right _ h))) hown hK hP 8 rfl rfl 7 (by decide) (List.mem_of_getElem? (i := 5) rfl) rfl (.ref (tr 2)) rfl dX5_read_95 ?_
            refine lv_iload_n hx hb dX5_read_98 rfl (lv_at hl 5 rfl) ?_
            refine lv_iload hx hb dX5_read_99 (lv_at hl 0 rfl) ?_
            refine n_iast hx hb hK hP hD hS 10 (wn := ([xO x hm kp tr hi, (x 7, .inl (G.2.1, 7, .inl tl))] ++ (wH G hm σ ++ (wH G tr (un (un σ (pl k1 0) g) (pl k1 1) d) ++ ([(x 3, .inr (2, [.ref (x 4), .ref (x 5), .ref (x 6)])), (x 4, .inl (G.2.1, 4, .inl (nF wd))), (x 5, .inl (G.2.1, 4, .inl (nF zs))), (x 6, .inl (G.2.2.1, 160, .inr (.inl nb)))]))))) rfl (by omega) (by omega) (congrArg (fun hole_w : va_W => ([xO x hm kp tr hi, (x 7, .inl (G.2.1, 7, .inl tl))] ++ (wH G hm σ ++ (hole_w ++ ([(x 3, .inr (2, [.ref (x 4), .ref (x 5), .ref (x 6)])), (x 4, .inl (G.2.1, 4, .inl (nF wd))), (x 5, .inl (G.2.1, 4, .inl (nF zs))), (x 6, .inl (G.2.2.1, 160, .inr (.inl nb)))]))))) (wH_p1 G tr (un σ (pl k1 0) g) k1 d)) dX5_read_101 (fun H locs hP hD hS => ?_)
            have hIk : Inv (kn σ k1 g d) := Inv.unp (Inv.unp hI (by decide) (by omega)) (by decide) (by omega)
            have hEk : kn σ k1 g d 0 = σ 0 := (un_ps (by decide)).trans (un_ps (by decide))
            refine lv_aload_n hx hb dX5_read_102 rfl (lv_at hl 3 rfl) ?_
            refine lv_iload_n hx hb dX5_read_103 rfl (lv_at hl 4 rfl) ?_
            refine callVI (rest := []) (wn := fun u => ([xO x hm kp tr hi, (x 7, .inl (G.2.1, 7, .inl tl))] ++ (wH G hm σ ++ (wH G tr u ++ ([(x 3, .inr (2, [.ref (x 4), .ref (x 5), .ref (x 6)])), (x 4, .inl (G.2.1, 4, .inl (nF wd))), (x 5, .inl (G.2.1, 4, .inl (nF zs))), (x 6, .inl (G.2.2.1, 160, .inr (.inl nb)))]))))) ⟨hx, hb, hml, hown, hts⟩ (c_X5_isTrialAsTold l G H.size x hm kp tr hi (kn σ k1 g d) zs nb k0 (by omega) (by omega) hIk (by omega)) (cwV 1 hts gX5_read_X5_isTrialAsTold rfl rfl rfl (by decide +kernel) ⟨Nat.le_of_ble_eq_true rfl, Nat.le_of_ble_eq_true rfl⟩) noXB (fun _ _ _ => trivial) hK hP hD hS hAq 4 0 (T := TX5) (N := 7) rfl rfl rfl hl.1 rfl (Nat.le_of_ble_eq_true rfl) dX5_read_104 ⟨Nat.le_of_ble_eq_true rfl, Nat.le_of_ble_eq_true rfl⟩ [0, 8, 9, 10, 11, 12, 13, 14, 16, 17] rfl rfl [x 0, tr 0, tr 1, tr 2, tr 3, tr 4, tr 5, x 3, x 5, x 6] rfl (fun _ => rfl) (fun _ => rfl) (fun u H locs hok hP hD hS => ?_)
            refine z_if_eq hx hb (tgt := 113) dX5_read_107 (by decide) (fun c_6 => ?_) (fun c_6 => ?_)
            · have hso := c_6
              refine n_iinc (lv' := [(5, .int (nI (d + 1))), (4, .int (nI g)), (3, .int (nI (rdI nb k0 (zs k0) σ k1 g d (rdO nb k0 (zs k0) σ k1 g)))), (0, .ref (x 0)), (1, .int (nI k0)), (2, .int (nI k1))]) hx hb dX5_read_113 hl (k := 0) rfl (by decide) rfl (fun ls hl => ?_)
              refine lv_goto (tgt := 62) hx hb dX5_read_116 (by decide) ?_
              have e1 : rdI nb k0 (zs k0) σ k1 g (d + 1) (rdO nb k0 (zs k0) σ k1 g) = rdI nb k0 (zs k0) σ k1 g d (rdO nb k0 (zs k0) σ k1 g) := by rw [rdI_S]; first | rw [if_pos hso] | rw [if_neg hso, Nat.add_zero]
              exact ih1 (d + 1) u _ _ _ (by omega) (by omega) hP hD hS (by rw [e1]; exact (lv_sub hl [0, 1, 2, 3, 4, 5] rfl))
            · have hso := c_6
              refine n_iinc (lv' := [(3, .int (nI ((rdI nb k0 (zs k0) σ k1 g d (rdO nb k0 (zs k0) σ k1 g)) + 1))), (5, .int (nI d)), (4, .int (nI g)), (0, .ref (x 0)), (1, .int (nI k0)), (2, .int (nI k1))]) hx hb dX5_read_110 hl (k := 2) rfl (by decide) rfl (fun ls hl => ?_)
              refine n_iinc (lv' := [(5, .int (nI (d + 1))), (3, .int (nI ((rdI nb k0 (zs k0) σ k1 g d (rdO nb k0 (zs k0) σ k1 g)) + 1))), (4, .int (nI g)), (0, .ref (x 0)), (1, .int (nI k0)), (2, .int (nI k1))]) hx hb dX5_read_113 hl (k := 1) rfl (by decide) rfl (fun ls hl => ?_)
              refine lv_goto (tgt := 62) hx hb dX5_read_116 (by decide) ?_
              have e1 : rdI nb k0 (zs k0) σ k1 g (d + 1) (rdO nb k0 (zs k0) σ k1 g) = (rdI nb k0 (zs k0) σ k1 g d (rdO nb k0 (zs k0) σ k1 g)) + 1 := by rw [rdI_S]; first | rw [if_pos hso] | rw [if_neg hso, Nat.add_zero]
              exact ih1 (d + 1) u _ _ _ (by omega) (by omega) hP hD hS (by rw [e1]; exact (lv_sub hl [0, 2, 1, 3, 4, 5] rfl))
      · refine lv_aload_n hx hb dX5_read_41 rfl (lv_at hl 0 rfl) ?_
        refine lv_iconst (v := nI 0) hx hb dX5_read_42 rfl ?_
        refine callVI (rest := []) (wn := fun u => ([xO x hm kp tr hi, (x 7, .inl (G.2.1, 7, .inl (tk tl 0)))] ++ (wH G hm σ ++ (wH G tr τ ++ ([(x 3, .inr (2, [.ref (x 4), .ref (x 5), .ref (x 6)])), (x 4, .inl (G.2.1, 4, .inl (nF wd))), (x 5, .inl (G.2.1, 4, .inl (nF zs))), (x 6, .inl (G.2.2.1, 160, .inr (.inl nb)))]))))) ⟨hx, hb, hml, hown, hts⟩ (c_X5_tell l G H.size x hm kp tr hi tl 0 (by omega)) (cwV 1 hts gX5_read_X5_tell rfl rfl rfl (by decide +kernel) ⟨Nat.le_of_ble_eq_true rfl, Nat.le_of_ble_eq_true rfl⟩) noXB (fun _ _ _ => trivial) hK hP hD hS hAq 4 0 (T := TX5) (N := 7) rfl rfl rfl hl.1 rfl (Nat.le_of_ble_eq_true rfl) dX5_read_43 ⟨Nat.le_of_ble_eq_true rfl, Nat.le_of_ble_eq_true rfl⟩ [0, 1] rfl rfl [x 0, x 7] rfl (fun _ => rfl) (fun _ => rfl) (fun u H locs hok hP hD hS => ?_)
        have he : read_e σ wd (nI k0).toInt a1.toInt = 0 := by unfold read_e sh_e; (try simp only [hT0, Int.toNat_natCast]); (repeat' split) <;> omega
        exact fin_i hx hb hr hlk hS hP hD τ trivial (by rw [he]; first | done | ((try simp only [hT0, Int.toNat_natCast]); first | done | rfl)) (by rw [he]; (try simp only [hT0, Int.toNat_natCast]); exact eqW.rf _) dX5_read_46
    · refine lv_aload_n hx hb dX5_read_24 rfl (lv_at hl 0 rfl) ?_
      refine lv_iconst (v := nI 5) hx hb dX5_read_25 rfl ?_
      refine callVI (rest := []) (wn := fun u => ([xO x hm kp tr hi, (x 7, .inl (G.2.1, 7, .inl (tk tl 5)))] ++ (wH G hm σ ++ (wH G tr τ ++ ([(x 3, .inr (2, [.ref (x 4), .ref (x 5), .ref (x 6)])), (x 4, .inl (G.2.1, 4, .inl (nF wd))), (x 5, .inl (G.2.1, 4, .inl (nF zs))), (x 6, .inl (G.2.2.1, 160, .inr (.inl nb)))]))))) ⟨hx, hb, hml, hown, hts⟩ (c_X5_tell l G H.size x hm kp tr hi tl 5 (by omega)) (cwV 1 hts gX5_read_X5_tell rfl rfl rfl (by decide +kernel) ⟨Nat.le_of_ble_eq_true rfl, Nat.le_of_ble_eq_true rfl⟩) noXB (fun _ _ _ => trivial) hK hP hD hS hAq 4 0 (T := TX5) (N := 7) rfl rfl rfl hl.1 rfl (Nat.le_of_ble_eq_true rfl) dX5_read_26 ⟨Nat.le_of_ble_eq_true rfl, Nat.le_of_ble_eq_true rfl⟩ [0, 1] rfl rfl [x 0, x 7] rfl (fun _ => rfl) (fun _ => rfl) (fun u H locs hok hP hD hS => ?_)
      have he : read_e σ wd (nI k0).toInt a1.toInt = 5 := by unfold read_e sh_e; (try simp only [hT0, Int.toNat_natCast]); (repeat' split) <;> omega
      exact fin_i hx hb hr hlk hS hP hD τ trivial (by rw [he]; first | done | ((try simp only [hT0, Int.toNat_natCast]); first | done | rfl)) (by rw [he]; (try simp only [hT0, Int.toNat_natCast]); exact eqW.rf _) dX5_read_29
  · refine lv_aload_n hx hb dX5_read_7 rfl (lv_at hl 0 rfl) ?_
    refine lv_iconst (v := nI 0) hx hb dX5_read_8 rfl ?_
    refine callVI (rest := []) (wn := fun u => ([xO x hm kp tr hi, (x 7, .inl (G.2.1, 7, .inl (tk tl 0)))] ++ (wH G hm σ ++ (wH G tr τ ++ ([(x 3, .inr (2, [.ref (x 4), .ref (x 5), .ref (x 6)])), (x 4, .inl (G.2.1, 4, .inl (nF wd))), (x 5, .inl (G.2.1, 4, .inl (nF zs))), (x 6, .inl (G.2.2.1, 160, .inr (.inl nb)))]))))) ⟨hx, hb, hml, hown, hts⟩ (c_X5_tell l G H.size x hm kp tr hi tl 0 (by omega)) (cwV 1 hts gX5_read_X5_tell rfl rfl rfl (by decide +kernel) ⟨Nat.le_of_ble_eq_true rfl, Nat.le_of_ble_eq_true rfl⟩) noXB (fun _ _ _ => trivial) hK hP hD hS hAq 4 0 (T := TX5) (N := 7) rfl rfl rfl hl.1 rfl (Nat.le_of_ble_eq_true rfl) dX5_read_9 ⟨Nat.le_of_ble_eq_true rfl, Nat.le_of_ble_eq_true rfl⟩ [0, 1] rfl rfl [x 0, x 7] rfl (fun _ => rfl) (fun _ => rfl) (fun u H locs hok hP hD hS => ?_)
    have he : read_e σ wd a0.toInt a1.toInt = 0 := by unfold read_e sh_e; (try simp only [Int.toNat_natCast]); (repeat' split) <;> omega
    exact fin_i hx hb hr hlk hS hP hD τ trivial (by rw [he]; first | done | ((try simp only [Int.toNat_natCast]); first | done | rfl)) (by rw [he]; (try simp only [Int.toNat_natCast]); exact eqW.rf _) dX5_read_12
set_option maxHeartbeats 400000 in
set_option maxRecDepth 100000 in
theorem c_X6_read (l : Launch) (G : GT) (sz : Nat) (b : Nat → Nat) (ζ : Nat → Nat) (vv : Int64) (tl : Nat → Int32) (wd zs : Nat → Nat) (nb : Nat → Int64) (σ : Sg) (F : Nat → Int32) (a0 a1 : Int32) (hSI : SInv wd zs) (hI : Inv σ) (hd0 : σ 0 ≤ 9999) : MI (S := (Nat → Int32)) l G noX yX6_read wsX6_read ({ frames := 7, cells := 0, slots := 0, locals := 159 } : Room) [.ref (b 0), .int a0, .int a1] ([mO b ζ vv, (b 4, .inl (G.2.1, 7, .inl tl)), (b 1, .inl (G.2.1, 46, .inl (nF σ))), (b 3, .inl (G.2.1, 46, .inl F)), (b 9, .inl (G.2.1, 4, .inl (nF wd))), (b 10, .inl (G.2.1, 4, .inl (nF zs))), (b 11, .inl (G.2.2.1, 160, .inr (.inl nb)))]) sz (fun _ => True) (fun u => rs (read_e σ wd a0.toInt a1.toInt) (nI (rdO nb a0.toInt.toNat (zs a0.toInt.toNat) σ a1.toInt.toNat 6))) (fun u => [mO b ζ vv, (b 4, .inl (G.2.1, 7, .inl (ts tl (read_e σ wd a0.toInt a1.toInt)))), (b 1, .inl (G.2.1, 46, .inl (nF σ))), (b 3, .inl (G.2.1, 46, .inl u)), (b 9, .inl (G.2.1, 4, .inl (nF wd))), (b 10, .inl (G.2.1, 4, .inl (nF zs))), (b 11, .inl (G.2.2.1, 160, .inr (.inl nb)))]) := by
  refine MI_enter (cc := cX6_read) (maxL := 7) (ret := (some .int)) (by decide) rfl (Nat.le_of_ble_eq_true rfl) ?_
  intro p e s m below meth c A ls H hx hb hr hlk hml hown hts hAq hS hP hK hD hX hl hnm
  have hown : s.vm.findClass RX6 = some m.cls := hown
  have hl : lv_has ls 7 [(0, .ref (b 0)), (1, .int a0), (2, .int a1)] := hl
  obtain ⟨⟨i1, i2, i3, i4, i5⟩, ip⟩ := id hI
  refine lv_aload_n hx hb dX6_read_0 rfl (lv_at hl 0 rfl) ?_
  refine lv_iload_n hx hb dX6_read_1 rfl (lv_at hl 1 rfl) ?_
  refine callVI (rest := []) (wn := fun u => [mO b ζ vv, (b 4, .inl (G.2.1, 7, .inl tl)), (b 1, .inl (G.2.1, 46, .inl (nF σ))), (b 3, .inl (G.2.1, 46, .inl F)), (b 9, .inl (G.2.1, 4, .inl (nF wd))), (b 10, .inl (G.2.1, 4, .inl (nF zs))), (b 11, .inl (G.2.2.1, 160, .inr (.inl nb)))]) ⟨hx, hb, hml, hown, hts⟩ (c_X6_wrongSheet l G H.size b ζ vv wd zs a0 hSI) (cwV 1 hts gX6_read_X6_wrongSheet rfl rfl rfl (by decide +kernel) ⟨Nat.le_of_ble_eq_true rfl, Nat.le_of_ble_eq_true rfl⟩) noXB (fun _ _ _ => trivial) hK hP hD hS hAq 5 0 (T := TX6) (N := 18) rfl rfl rfl hl.1 rfl (Nat.le_of_ble_eq_true rfl) dX6_read_2 ⟨Nat.le_of_ble_eq_true rfl, Nat.le_of_ble_eq_true rfl⟩ [0, 4] rfl rfl [b 0, b 9] rfl (fun _ => rfl) (fun _ => rfl) (fun u H locs hok hP hD hS => ?_)
  rcases wsh_c wd a0 with ⟨h1, hw⟩ | ⟨h1, h2, hw⟩ | ⟨h1, h2, hw⟩
  · refine n_top (y := nI 0) hw ?_
    refine lv_istore_n (lv' := [(3, .int (nI 0)), (0, .ref (b 0)), (1, .int a0), (2, .int a1)]) hx hb dX6_read_5 rfl hl (by decide) rfl (fun ls hl => ?_)
    refine lv_iload_n hx hb dX6_read_6 rfl (lv_at hl 0 rfl) ?_
    refine n_if_ge hx hb (by omega) (tgt := 20) dX6_read_7 (by decide) (fun c_1 => ?_) (fun c_1 => ?_)
    · refine lv_iload_n hx hb dX6_read_20 rfl (lv_at hl 0 rfl) ?_
      refine n_if_lt hx hb (by omega) (tgt := 30) dX6_read_21 (by decide) (fun c_2 => ?_) (fun c_2 => ?_)
      · omega
      · refine lv_aload_n hx hb dX6_read_24 rfl (lv_at hl 1 rfl) ?_
        refine lv_iload_n hx hb dX6_read_25 rfl (lv_at hl 0 rfl) ?_
        refine callVI (rest := []) (wn := fun u => [mO b ζ vv, (b 4, .inl (G.2.1, 7, .inl (tk tl 0))), (b 1, .inl (G.2.1, 46, .inl (nF σ))), (b 3, .inl (G.2.1, 46, .inl F)), (b 9, .inl (G.2.1, 4, .inl (nF wd))), (b 10, .inl (G.2.1, 4, .inl (nF zs))), (b 11, .inl (G.2.2.1, 160, .inr (.inl nb)))]) ⟨hx, hb, hml, hown, hts⟩ (c_X6_no l G H.size b ζ vv tl 0 (by omega)) (cwV 1 hts gX6_read_X6_no rfl rfl rfl (by decide +kernel) ⟨Nat.le_of_ble_eq_true rfl, Nat.le_of_ble_eq_true rfl⟩) noXB (fun _ _ _ => trivial) hK hP hD hS hAq 5 0 (T := TX6) (N := 18) rfl rfl rfl hl.1 rfl (Nat.le_of_ble_eq_true rfl) dX6_read_26 ⟨Nat.le_of_ble_eq_true rfl, Nat.le_of_ble_eq_true rfl⟩ [0, 1] rfl rfl [b 0, b 4] rfl (fun _ => rfl) (fun _ => rfl) (fun u H locs hok hP hD hS => ?_)
        have he : read_e σ wd a0.toInt a1.toInt = 0 := by unfold read_e sh_e; (try simp only [Int.toNat_natCast]); (repeat' split) <;> omega
        exact fin_i hx hb hr hlk hS hP hD (F) trivial (by rw [he]; first | done | ((try simp only [Int.toNat_natCast]); first | done | rfl)) (by rw [he]; (try simp only [Int.toNat_natCast]); exact eqW.rf _) dX6_read_29
    · omega
  · refine n_top (y := nI 5) hw ?_
    obtain ⟨k0, hk0, rfl⟩ := nI_of_rg (n := 3) (x := a0) ⟨by omega, by omega⟩
    have hT0 := nI_T (a := k0) (by omega)
    obtain ⟨s0, s1⟩ := hSI k0 (by omega)
    rw [hT0, Int.toNat_natCast] at h2
    refine lv_istore_n (lv' := [(3, .int (nI 5)), (0, .ref (b 0)), (1, .int (nI k0)), (2, .int a1)]) hx hb dX6_read_5 rfl hl (by decide) rfl (fun ls hl => ?_)
    refine lv_iload_n hx hb dX6_read_6 rfl (lv_at hl 0 rfl) ?_
    refine n_if_ge hx hb (by omega) (tgt := 20) dX6_read_7 (by decide) (fun c_3 => ?_) (fun c_3 => ?_)
    · refine lv_iload_n hx hb dX6_read_20 rfl (lv_at hl 0 rfl) ?_
      refine n_if_lt hx hb (by omega) (tgt := 30) dX6_read_21 (by decide) (fun c_4 => ?_) (fun c_4 => ?_)
      · omega
      · refine lv_aload_n hx hb dX6_read_24 rfl (lv_at hl 1 rfl) ?_
        refine lv_iload_n hx hb dX6_read_25 rfl (lv_at hl 0 rfl) ?_
        refine callVI (rest := []) (wn := fun u => [mO b ζ vv, (b 4, .inl (G.2.1, 7, .inl (tk tl 5))), (b 1, .inl (G.2.1, 46, .inl (nF σ))), (b 3, .inl (G.2.1, 46, .inl F)), (b 9, .inl (G.2.1, 4, .inl (nF wd))), (b 10, .inl (G.2.1, 4, .inl (nF zs))), (b 11, .inl (G.2.2.1, 160, .inr (.inl nb)))]) ⟨hx, hb, hml, hown, hts⟩ (c_X6_no l G H.size b ζ vv tl 5 (by omega)) (cwV 1 hts gX6_read_X6_no rfl rfl rfl (by decide +kernel) ⟨Nat.le_of_ble_eq_true rfl, Nat.le_of_ble_eq_true rfl⟩) noXB (fun _ _ _ => trivial) hK hP hD hS hAq 5 0 (T := TX6) (N := 18) rfl rfl rfl hl.1 rfl (Nat.le_of_ble_eq_true rfl) dX6_read_26 ⟨Nat.le_of_ble_eq_true rfl, Nat.le_of_ble_eq_true rfl⟩ [0, 1] rfl rfl [b 0, b 4] rfl (fun _ => rfl) (fun _ => rfl) (fun u H locs hok hP hD hS => ?_)
        have he : read_e σ wd (nI k0).toInt a1.toInt = 5 := by unfold read_e sh_e; (try simp only [hT0, Int.toNat_natCast]); (repeat' split) <;> omega
        exact fin_i hx hb hr hlk hS hP hD (F) trivial (by rw [he]; first | done | ((try simp only [hT0, Int.toNat_natCast]); first | done | rfl)) (by rw [he]; (try simp only [hT0, Int.toNat_natCast]); exact eqW.rf _) dX6_read_29
    · omega
  · refine n_top (y := (-1)) hw ?_
    have hm1 : ((-1) : Int32).toInt = -1 := by decide
    obtain ⟨k0, hk0, rfl⟩ := nI_of_rg (n := 3) (x := a0) ⟨by omega, by omega⟩
    have hT0 := nI_T (a := k0) (by omega)
    obtain ⟨s0, s1⟩ := hSI k0 (by omega)
    rw [hT0, Int.toNat_natCast] at h2
    refine lv_istore_n (lv' := [(3, .int (-1)), (0, .ref (b 0)), (1, .int (nI k0)), (2, .int a1)]) hx hb dX6_read_5 rfl hl (by decide) rfl (fun ls hl => ?_)
    refine lv_iload_n hx hb dX6_read_6 rfl (lv_at hl 0 rfl) ?_
    refine r_if_ge hx hb (tgt := 20) dX6_read_7 (by decide) (fun c_5 => ?_) (fun c_5 => ?_)
    · omega
    · refine lv_aload_n hx hb dX6_read_10 rfl (lv_at hl 1 rfl) ?_
      refine lv_iload_n hx hb dX6_read_11 rfl (lv_at hl 3 rfl) ?_
      refine callVI (rest := []) (wn := fun u => [mO b ζ vv, (b 4, .inl (G.2.1, 7, .inl tl)), (b 1, .inl (G.2.1, 46, .inl (nF σ))), (b 3, .inl (G.2.1, 46, .inl F)), (b 9, .inl (G.2.1, 4, .inl (nF wd))), (b 10, .inl (G.2.1, 4, .inl (nF zs))), (b 11, .inl (G.2.2.1, 160, .inr (.inl nb)))]) ⟨hx, hb, hml, hown, hts⟩ (c_X6_isPerson l G H.size b ζ vv σ a1 (by omega)) (cwV 1 hts gX6_read_X6_isPerson rfl rfl rfl (by decide +kernel) ⟨Nat.le_of_ble_eq_true rfl, Nat.le_of_ble_eq_true rfl⟩) noXB (fun _ _ _ => trivial) hK hP hD hS hAq 5 0 (T := TX6) (N := 18) rfl rfl rfl hl.1 rfl (Nat.le_of_ble_eq_true rfl) dX6_read_12 ⟨Nat.le_of_ble_eq_true rfl, Nat.le_of_ble_eq_true rfl⟩ [0, 2] rfl rfl [b 0, b 1] rfl (fun _ => rfl) (fun _ => rfl) (fun u H locs hok hP hD hS => ?_)
      refine z_if_ne hx hb (tgt := 20) dX6_read_15 (by decide) (fun c_6 => ?_) (fun c_6 => ?_)
      · obtain ⟨k1, hk1, rfl⟩ := nI_of_rg (n := 7) (x := a1) ⟨by omega, by omega⟩
        have hT1 := nI_T (a := k1) (by omega)
        have hp1 : k1 < σ 5 := by omega
        obtain ⟨q10, q11, q12, q13, q14⟩ := ip k1 (by omega)
        refine lv_iload_n hx hb dX6_read_20 rfl (lv_at hl 0 rfl) ?_
        refine r_if_lt hx hb (tgt := 30) dX6_read_21 (by decide) (fun c_7 => ?_) (fun c_7 => ?_)
        · refine lv_iconst (v := nI 0) hx hb dX6_read_30 rfl ?_
          refine lv_istore (lv' := [(4, .int (nI 0)), (3, .int (-1)), (0, .ref (b 0)), (1, .int (nI k0)), (2, .int (nI k1))]) hx hb dX6_read_31 hl (by decide) rfl (fun ls hl => ?_)
          refine lv_aload_n hx hb dX6_read_33 rfl (lv_at hl 2 rfl) ?_
          refine callVV (rest := []) (wn := fun u => [mO b ζ vv, (b 4, .inl (G.2.1, 7, .inl tl)), (b 1, .inl (G.2.1, 46, .inl (nF σ))), (b 3, .inl (G.2.1, 46, .inl (nF σ))), (b 9, .inl (G.2.1, 4, .inl (nF wd))), (b 10, .inl (G.2.1, 4, .inl (nF zs))), (b 11, .inl (G.2.2.1, 160, .inr (.inl nb)))]) ⟨hx, hb, hml, hown, hts⟩ (c_X6_setsAside l G H.size b ζ vv σ F) (cwV 0 hts gX6_read_X6_setsAside rfl rfl rfl (by decide +kernel) ⟨Nat.le_of_ble_eq_true rfl, Nat.le_of_ble_eq_true rfl⟩) noXB (fun _ _ _ => trivial) hK hP hD hS hAq 5 0 (T := TX6) (N := 18) rfl rfl rfl hl.1 rfl (Nat.le_of_ble_eq_true rfl) dX6_read_34 ⟨Nat.le_of_ble_eq_true rfl, Nat.le_of_ble_eq_true rfl⟩ [0, 2, 3] rfl rfl [b 0, b 1, b 3] rfl (fun _ => rfl) (fun _ => rfl) (fun u H locs hok hP hD hS => ?_)
          refine lv_iconst (v := nI 0) hx hb dX6_read_37 rfl ?_
          refine lv_istore (lv' := [(5, .int (nI 0)), (4, .int (nI 0)), (3, .int (-1)), (0, .ref (b 0)), (1, .int (nI k0)), (2, .int (nI k1))]) hx hb dX6_read_38 hl (by decide) rfl (fun ls hl => ?_)
          refine W_loop1 (I := fun (g : Nat) => g ≤ 6) (wd := fun (g : Nat) => [mO b ζ vv, (b 4, .inl (G.2.1, 7, .inl tl)), (b 1, .inl (G.2.1, 46, .inl (nF σ))), (b 3, .inl (G.2.1, 46, .inl (nF σ))), (b 9, .inl (G.2.1, 4, .inl (nF wd))), (b 10, .inl (G.2.1, 4, .inl (nF zs))), (b 11, .inl (G.2.2.1, 160, .inr (.inl nb)))]) (lv := fun (g : Nat) => [(5, .int (nI g)), (4, .int (nI (rdO nb k0 (zs k0) σ k1 g))), (0, .ref (b 0)), (1, .int (nI k0)), (2, .int (nI k1))]) (μ := fun (g : Nat) => 6 - g) ?_ 0 (by omega) hP hD hS (lv_sub hl [0, 1, 3, 4, 5] rfl)
          intro g H locs ls hI0 hP hD hS hl ih
          have hg6 : g ≤ 6 := hI0
          refine lv_iload hx hb dX6_read_40 (lv_at hl 0 rfl) ?_
          refine lv_bipush (v := nI 6) hx hb dX6_read_42 rfl ?_
          refine n_icmp_ge hx hb (by omega) (by omega) (tgt := 107) dX6_read_44 (by decide) (fun c_8 => ?_) (fun c_8 => ?_)
          · have hk5 : g = 6 := by omega
            subst hk5
            refine lv_iload hx hb dX6_read_107 (lv_at hl 1 rfl) ?_
            have he : read_e σ wd (nI k0).toInt (nI k1).toInt = 7 := by unfold read_e sh_e; (try simp only [hT0, hT1, Int.toNat_natCast]); (repeat' split) <;> omega
            exact fin_i hx hb hr hlk hS hP hD (nF σ) trivial (by rw [he]; first | done | ((try simp only [hT0, hT1, Int.toNat_natCast]); first | done | rfl)) (by rw [he]; (try simp only [hT0, hT1, Int.toNat_natCast]); exact eqW.rf _) dX6_read_109
          · refine lv_iconst (v := nI 0) hx hb dX6_read_47 rfl ?_
            refine lv_istore (lv' := [(6, .int (nI 0)), (5, .int (nI g)), (4, .int (nI (rdO nb k0 (zs k0) σ k1 g))), (0, .ref (b 0)), (1, .int (nI k0)), (2, .int (nI k1))]) hx hb dX6_read_48 hl (by decide) rfl (fun ls hl => ?_)
            refine W_loop1 (I := fun (d : Nat) => d ≤ 21) (wd := fun (d : Nat) => [mO b ζ vv, (b 4, .inl (G.2.1, 7, .inl tl)), (b 1, .inl (G.2.1, 46, .inl (nF σ))), (b 3, .inl (G.2.1, 46, .inl (nF σ))), (b 9, .inl (G.2.1, 4, .inl (nF wd))), (b 10, .inl (G.2.1, 4, .inl (nF zs))), (b 11, .inl (G.2.2.1, 160, .inr (.inl nb)))]) (lv := fun (d : Nat) => [(6, .int (nI d)), (5, .int (nI g)), (4, .int (nI (rdI nb k0 (zs k0) σ k1 g d (rdO nb k0 (zs k0) σ k1 g)))), (0, .ref (b 0)), (1, .int (nI k0)), (2, .int (nI k1))]) (μ := fun (d : Nat) => 21 - d) ?_ 0 (by omega) hP hD hS (lv_sub hl [0, 1, 2, 3, 4, 5] rfl)
            intro d H locs ls hI0 hP hD hS hl ih1
            have hd21 : d ≤ 21 := hI0
            refine lv_iload hx hb dX6_read_50 (lv_at hl 0 rfl) ?_
            refine lv_bipush (v := nI 20) hx hb dX6_read_52 rfl ?_
            refine n_icmp_gt hx hb (by omega) (by omega) (tgt := 101) dX6_read_54 (by decide) (fun c_9 => ?_) (fun c_9 => ?_)
            · have hk6 : d = 21 := by omega
              subst hk6
              refine n_iinc (lv' := [(5, .int (nI (g + 1))), (6, .int (nI 21)), (4, .int (nI (rdI nb k0 (zs k0) σ k1 g 21 (rdO nb k0 (zs k0) σ k1 g)))), (0, .ref (b 0)), (1, .int (nI k0)), (2, .int (nI k1))]) hx hb dX6_read_101 hl (k := 1) rfl (by decide) rfl (fun ls hl => ?_)
              refine lv_goto (tgt := 40) hx hb dX6_read_104 (by decide) ?_
              exact ih (g + 1) _ _ _ (by omega) (by omega) hP hD hS (lv_sub hl [0, 2, 3, 4, 5] rfl)
            · refine lv_aload_n hx hb dX6_read_57 rfl (lv_at hl 3 rfl) ?_
              refine lv_iload_n hx hb dX6_read_58 rfl (lv_at hl 5 rfl) ?_
              refine lv_iconst (v := nI 0) hx hb dX6_read_59 rfl ?_
              refine lv_iload hx hb dX6_read_60 (lv_at hl 1 rfl) ?_
              refine callVV (rest := []) (wn := fun u => [mO b ζ vv, (b 4, .inl (G.2.1, 7, .inl tl)), (b 1, .inl (G.2.1, 46, .inl (nF (un σ (pl k1 0) g)))), (b 3, .inl (G.2.1, 46, .inl (nF σ))), (b 9, .inl (G.2.1, 4, .inl (nF wd))), (b 10, .inl (G.2.1, 4, .inl (nF zs))), (b 11, .inl (G.2.2.1, 160, .inr (.inl nb)))]) ⟨hx, hb, hml, hown, hts⟩ (c_X6_puts l G H.size b ζ vv σ k1 0 g (by omega) (by omega)) (cwV 3 hts gX6_read_X6_puts rfl rfl rfl (by decide +kernel) ⟨Nat.le_of_ble_eq_true rfl, Nat.le_of_ble_eq_true rfl⟩) noXB (fun _ _ _ => trivial) hK hP hD hS hAq 5 0 (T := TX6) (N := 18) rfl rfl rfl hl.1 rfl (Nat.le_of_ble_eq_true rfl) dX6_read_62 ⟨Nat.le_of_ble_eq_true rfl, Nat.le_of_ble_eq_true rfl⟩ [0, 2] rfl rfl [b 0, b 1] rfl (fun _ => rfl) (fun _ => rfl) (fun u H locs hok hP hD hS => ?_)
              refine lv_aload_n hx hb dX6_read_65 rfl (lv_at hl 3 rfl) ?_
              refine lv_iload_n hx hb dX6_read_66 rfl (lv_at hl 5 rfl) ?_
              refine lv_iconst (v := nI 1) hx hb dX6_read_67 rfl ?_
              refine lv_iload hx hb dX6_read_68 (lv_at hl 0 rfl) ?_
              refine callVV (rest := []) (wn := fun u => [mO b ζ vv, (b 4, .inl (G.2.1, 7, .inl tl)), (b 1, .inl (G.2.1, 46, .inl (nF (un (un σ (pl k1 0) g) (pl k1 1) d)))), (b 3, .inl (G.2.1, 46, .inl (nF σ))), (b 9, .inl (G.2.1, 4, .inl (nF wd))), (b 10, .inl (G.2.1, 4, .inl (nF zs))), (b 11, .inl (G.2.2.1, 160, .inr (.inl nb)))]) ⟨hx, hb, hml, hown, hts⟩ (c_X6_puts l G H.size b ζ vv (un σ (pl k1 0) g) k1 1 d (by omega) (by omega)) (cwV 3 hts gX6_read_X6_puts rfl rfl rfl (by decide +kernel) ⟨Nat.le_of_ble_eq_true rfl, Nat.le_of_ble_eq_true rfl⟩) noXB (fun _ _ _ => trivial) hK hP hD hS hAq 5 0 (T := TX6) (N := 18) rfl rfl rfl hl.1 rfl (Nat.le_of_ble_eq_true rfl) dX6_read_70 ⟨Nat.le_of_ble_eq_true rfl, Nat.le_of_ble_eq_true rfl⟩ [0, 2] rfl rfl [b 0, b 1] rfl (fun _ => rfl) (fun _ => rfl) (fun u H locs hok hP hD hS => ?_)
              have hIk : Inv (kn σ k1 g d) := Inv.unp (Inv.unp hI (by decide) (by omega)) (by decide) (by omega)
              have hEk : kn σ k1 g d 0 = σ 0 := (un_ps (by decide)).trans (un_ps (by decide))
              refine lv_iload hx hb dX6_read_73 (lv_at hl 2 rfl) ?_
              refine lv_aload_n hx hb dX6_read_75 rfl (lv_at hl 3 rfl) ?_
              refine lv_iload_n hx hb dX6_read_76 rfl (lv_at hl 4 rfl) ?_
              refine callVI (rest := [.int (nI (rdI nb k0 (zs k0) σ k1 g d (rdO nb k0 (zs k0) σ k1 g)))]) (wn := fun u => [mO b ζ vv, (b 4, .inl (G.2.1, 7, .inl tl)), (b 1, .inl (G.2.1, 46, .inl (nF u))), (b 3, .inl (G.2.1, 46, .inl (nF σ))), (b 9, .inl (G.2.1, 4, .inl (nF wd))), (b 10, .inl (G.2.1, 4, .inl (nF zs))), (b 11, .inl (G.2.2.1, 160, .inr (.inl nb)))]) ⟨hx, hb, hml, hown, hts⟩ (c_X6_isSo l G H.size b ζ vv (kn σ k1 g d) zs nb k0 (by omega) (by omega) hIk (by omega)) (cwV 1 hts gX6_read_X6_isSo rfl rfl rfl (by decide +kernel) ⟨Nat.le_of_ble_eq_true rfl, Nat.le_of_ble_eq_true rfl⟩) noXB (fun _ _ _ => trivial) hK hP hD hS hAq 5 0 (T := TX6) (N := 18) rfl rfl rfl hl.1 rfl (Nat.le_of_ble_eq_true rfl) dX6_read_77 ⟨Nat.le_of_ble_eq_true rfl, Nat.le_of_ble_eq_true rfl⟩ [0, 2, 5, 6] rfl rfl [b 0, b 1, b 10, b 11] rfl (fun _ => rfl) (fun _ => rfl) (fun u H locs hok hP hD hS => ?_)
              refine z_if_eq hx hb (tgt := 87) dX6_read_80 (by decide) (fun c_10 => ?_) (fun c_10 => ?_)
              · have hso := c_10
                refine lv_iconst (v := nI 0) hx hb dX6_read_87 rfl ?_
                refine n_iadd hx hb dX6_read_88 ?_
                refine lv_istore (lv' := [(4, .int (nI ((rdI nb k0 (zs k0) σ k1 g d (rdO nb k0 (zs k0) σ k1 g)) + 0))), (6, .int (nI d)), (5, .int (nI g)), (0, .ref (b 0)), (1, .int (nI k0)), (2, .int (nI k1))]) hx hb dX6_read_89 hl (by decide) rfl (fun ls hl => ?_)
                refine lv_aload_n hx hb dX6_read_91 rfl (lv_at hl 3 rfl) ?_
                refine callVV (rest := []) (wn := fun u => [mO b ζ vv, (b 4, .inl (G.2.1, 7, .inl tl)), (b 1, .inl (G.2.1, 46, .inl (nF σ))), (b 3, .inl (G.2.1, 46, .inl (nF σ))), (b 9, .inl (G.2.1, 4, .inl (nF wd))), (b 10, .inl (G.2.1, 4, .inl (nF zs))), (b 11, .inl (G.2.2.1, 160, .inr (.inl nb)))]) ⟨hx, hb, hml, hown, hts⟩ (c_X6_laysBack l G H.size b ζ vv σ (nF u)) (cwV 0 hts gX6_read_X6_laysBack rfl rfl rfl (by decide +kernel) ⟨Nat.le_of_ble_eq_true rfl, Nat.le_of_ble_eq_true rfl⟩) noXB (fun _ _ _ => trivial) hK hP hD hS hAq 5 0 (T := TX6) (N := 18) rfl rfl rfl hl.1 rfl (Nat.le_of_ble_eq_true rfl) dX6_read_92 ⟨Nat.le_of_ble_eq_true rfl, Nat.le_of_ble_eq_true rfl⟩ [0, 2, 3] rfl rfl [b 0, b 1, b 3] rfl (fun _ => rfl) (fun _ => rfl) (fun u H locs hok hP hD hS => ?_)
                refine n_iinc (lv' := [(6, .int (nI (d + 1))), (4, .int (nI ((rdI nb k0 (zs k0) σ k1 g d (rdO nb k0 (zs k0) σ k1 g)) + 0))), (5, .int (nI g)), (0, .ref (b 0)), (1, .int (nI k0)), (2, .int (nI k1))]) hx hb dX6_read_95 hl (k := 1) rfl (by decide) rfl (fun ls hl => ?_)
                refine lv_goto (tgt := 50) hx hb dX6_read_98 (by decide) ?_
                have e1 : rdI nb k0 (zs k0) σ k1 g (d + 1) (rdO nb k0 (zs k0) σ k1 g) = (rdI nb k0 (zs k0) σ k1 g d (rdO nb k0 (zs k0) σ k1 g)) + 0 := by rw [rdI_S]; first | rw [if_pos hso] | rw [if_neg hso]
                exact ih1 (d + 1) _ _ _ (by omega) (by omega) hP hD hS (by rw [e1]; exact (lv_sub hl [0, 2, 1, 3, 4, 5] rfl))
              · have hso := c_10
                refine lv_iconst (v := nI 1) hx hb dX6_read_83 rfl ?_
                refine lv_goto (tgt := 88) hx hb dX6_read_84 (by decide) ?_
                refine n_iadd hx hb dX6_read_88 ?_
                refine lv_istore (lv' := [(4, .int (nI ((rdI nb k0 (zs k0) σ k1 g d (rdO nb k0 (zs k0) σ k1 g)) + 1))), (6, .int (nI d)), (5, .int (nI g)), (0, .ref (b 0)), (1, .int (nI k0)), (2, .int (nI k1))]) hx hb dX6_read_89 hl (by decide) rfl (fun ls hl => ?_)
                refine lv_aload_n hx hb dX6_read_91 rfl (lv_at hl 3 rfl) ?_
                refine callVV (rest := []) (wn := fun u => [mO b ζ vv, (b 4, .inl (G.2.1, 7, .inl tl)), (b 1, .inl (G.2.1, 46, .inl (nF σ))), (b 3, .inl (G.2.1, 46, .inl (nF σ))), (b 9, .inl (G.2.1, 4, .inl (nF wd))), (b 10, .inl (G.2.1, 4, .inl (nF zs))), (b 11, .inl (G.2.2.1, 160, .inr (.inl nb)))]) ⟨hx, hb, hml, hown, hts⟩ (c_X6_laysBack l G H.size b ζ vv σ (nF u)) (cwV 0 hts gX6_read_X6_laysBack rfl rfl rfl (by decide +kernel) ⟨Nat.le_of_ble_eq_true rfl, Nat.le_of_ble_eq_true rfl⟩) noXB (fun _ _ _ => trivial) hK hP hD hS hAq 5 0 (T := TX6) (N := 18) rfl rfl rfl hl.1 rfl (Nat.le_of_ble_eq_true rfl) dX6_read_92 ⟨Nat.le_of_ble_eq_true rfl, Nat.le_of_ble_eq_true rfl⟩ [0, 2, 3] rfl rfl [b 0, b 1, b 3] rfl (fun _ => rfl) (fun _ => rfl) (fun u H locs hok hP hD hS => ?_)
                refine n_iinc (lv' := [(6, .int (nI (d + 1))), (4, .int (nI ((rdI nb k0 (zs k0) σ k1 g d (rdO nb k0 (zs k0) σ k1 g)) + 1))), (5, .int (nI g)), (0, .ref (b 0)), (1, .int (nI k0)), (2, .int (nI k1))]) hx hb dX6_read_95 hl (k := 1) rfl (by decide) rfl (fun ls hl => ?_)
                refine lv_goto (tgt := 50) hx hb dX6_read_98 (by decide) ?_
                have e1 : rdI nb k0 (zs k0) σ k1 g (d + 1) (rdO nb k0 (zs k0) σ k1 g) = (rdI nb k0 (zs k0) σ k1 g d (rdO nb k0 (zs k0) σ k1 g)) + 1 := by rw [rdI_S]; first | rw [if_pos hso] | rw [if_neg hso, Nat.add_zero]
                exact ih1 (d + 1) _ _ _ (by omega) (by omega) hP hD hS (by rw [e1]; exact (lv_sub hl [0, 2, 1, 3, 4, 5] rfl))
        · omega
      · refine lv_iconst (v := nI 0) hx hb dX6_read_18 rfl ?_
        refine lv_istore_n (lv' := [(3, .int (nI 0)), (0, .ref (b 0)), (1, .int (nI k0)), (2, .int a1)]) hx hb dX6_read_19 rfl hl (by decide) rfl (fun ls hl => ?_)
        refine lv_iload_n hx hb dX6_read_20 rfl (lv_at hl 0 rfl) ?_
        refine n_if_lt hx hb (by omega) (tgt := 30) dX6_read_21 (by decide) (fun c_11 => ?_) (fun c_11 => ?_)
        · omega
        · refine lv_aload_n hx hb dX6_read_24 rfl (lv_at hl 1 rfl) ?_
          refine lv_iload_n hx hb dX6_read_25 rfl (lv_at hl 0 rfl) ?_
          refine callVI (rest := []) (wn := fun u => [mO b ζ vv, (b 4, .inl (G.2.1, 7, .inl (tk tl 0))), (b 1, .inl (G.2.1, 46, .inl (nF σ))), (b 3, .inl (G.2.1, 46, .inl F)), (b 9, .inl (G.2.1, 4, .inl (nF wd))), (b 10, .inl (G.2.1, 4, .inl (nF zs))), (b 11, .inl (G.2.2.1, 160, .inr (.inl nb)))]) ⟨hx, hb, hml, hown, hts⟩ (c_X6_no l G H.size b ζ vv tl 0 (by omega)) (cwV 1 hts gX6_read_X6_no rfl rfl rfl (by decide +kernel) ⟨Nat.le_of_ble_eq_true rfl, Nat.le_of_ble_eq_true rfl⟩) noXB (fun _ _ _ => trivial) hK hP hD hS hAq 5 0 (T := TX6) (N := 18) rfl rfl rfl hl.1 rfl (Nat.le_of_ble_eq_true rfl) dX6_read_26 ⟨Nat.le_of_ble_eq_true rfl, Nat.le_of_ble_eq_true rfl⟩ [0, 1] rfl rfl [b 0, b 4] rfl (fun _ => rfl) (fun _ => rfl) (fun u H locs hok hP hD hS => ?_)
          have he : read_e σ wd (nI k0).toInt a1.toInt = 0 := by unfold read_e sh_e; (try simp only [hT0, Int.toNat_natCast]); (repeat' split) <;> omega
          exact fin_i hx hb hr hlk hS hP hD (F) trivial (by rw [he]; first | done | ((try simp only [hT0, Int.toNat_natCast]); first | done | rfl)) (by rw [he]; (try simp only [hT0, Int.toNat_natCast]); exact eqW.rf _) dX6_read_29
