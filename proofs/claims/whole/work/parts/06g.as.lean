set_option maxHeartbeats 400000 in
set_option maxRecDepth 100000 in
theorem c_X2_isUnder (l : Launch) (G : GT) (sz : Nat) (t k j : Nat) (hk : k < 6) (hj : j < 6) : MI (S := Unit) l G (XZ t) yX2_isUnder wsX2_isUnder ({ frames := 1, cells := 0, slots := 0, locals := 20 } : Room) [.int (nI k), .int (nI j)] (([] : va_W)) sz (fun _ => True) (fun _ => zI (k = j ∨ j = 0 ∨ (k = 4 ∧ j = 1) ∨ (k = 5 ∧ j = 2))) (fun _ => ([] : va_W)) := by
  refine MI_enter (cc := cX2_isUnder) (maxL := 4) (ret := (some .boolean)) (by decide) rfl (Nat.le_of_ble_eq_true rfl) ?_
  intro p e s m below meth c A ls H hx hb hr hlk hml hown hts hAq hS hP hK hD hX hl hnm
  have hown : s.vm.findClass RX2 = some m.cls := hown
  have hl : lv_has ls 4 [(0, .int (nI k)), (1, .int (nI j))] := hl
  rcases (show k = 0 ∨ k = 1 ∨ k = 2 ∨ k = 3 ∨ k = 4 ∨ k = 5 by omega) with rfl | rfl | rfl | rfl | rfl | rfl
  · refine lv_iload_n hx hb dX2_isUnder_0 rfl (lv_at hl 0 rfl) ?_
    refine lv_istore_n (lv' := [(2, .int (nI 0)), (0, .int (nI 0)), (1, .int (nI j))]) hx hb dX2_isUnder_1 rfl hl (by decide) rfl (fun ls hl => ?_)
    refine lv_iconst (v := nI 0) hx hb dX2_isUnder_2 rfl ?_
    refine lv_istore_n (lv' := [(3, .int (nI 0)), (2, .int (nI 0)), (0, .int (nI 0)), (1, .int (nI j))]) hx hb dX2_isUnder_3 rfl hl (by decide) rfl (fun ls hl => ?_)
    refine lv_iload_n hx hb dX2_isUnder_4 rfl (lv_at hl 0 rfl) ?_
    refine lv_bipush (v := nI 6) hx hb dX2_isUnder_5 rfl ?_
    refine n_icmp_ge hx hb (by omega) (by omega) (tgt := 36) dX2_isUnder_7 (by decide) (fun c_1 => ?_) (fun c_1 => ?_)
    · omega
    · refine lv_iload_n hx hb dX2_isUnder_10 rfl (lv_at hl 1 rfl) ?_
      refine callSI (rest := []) (wn := fun u => ([] : va_W)) ⟨hx, hb, hml, hown, hts⟩ (c_X2_isOne l G H.size (nI 0)) (va_cwS 1 hts gX2_isUnder_X2_isOne rfl rfl rfl (by decide +kernel) ⟨Nat.le_of_ble_eq_true rfl, Nat.le_of_ble_eq_true rfl⟩) noXB (fun _ _ _ => trivial) hK hP hD hS hAq rfl hl.1 rfl (Nat.le_of_ble_eq_true rfl) dX2_isUnder_11 ⟨Nat.le_of_ble_eq_true rfl, Nat.le_of_ble_eq_true rfl⟩ [] rfl rfl [] rfl (fun _ => rfl) (fun _ => rfl) (fun u H locs hok hP hD hS => ?_)
      refine z_if_eq hx hb (tgt := 36) dX2_isUnder_14 (by decide) (fun c_2 => ?_) (fun c_2 => ?_)
      · exact absurd (by decide) c_2
      · refine lv_iload_n hx hb dX2_isUnder_17 rfl (lv_at hl 1 rfl) ?_
        refine lv_iload_n hx hb dX2_isUnder_18 rfl (lv_at hl 3 rfl) ?_
        refine n_icmp_ne hx hb (by omega) (by omega) (tgt := 24) dX2_isUnder_19 (by decide) (fun c_3 => ?_) (fun c_3 => ?_)
        · refine va_gets hx hb hX.1 hS hown (hts _ (List.mem_of_getElem? (i := 1) rfl)) (fun _ h => h) dX2_isUnder_24 ?_
          refine lv_iload_n hx hb dX2_isUnder_27 rfl (lv_at hl 1 rfl) ?_
          refine va_ti hx hb hX.2 hS (N := 6) (vp_in_iff.mpr (by rw [nI_T (by decide)]; omega)) (v := .int (-1)) rfl dX2_isUnder_28 ?_
          refine lv_istore_n (lv' := [(2, .int (-1)), (3, .int (nI 0)), (0, .int (nI 0)), (1, .int (nI j))]) hx hb dX2_isUnder_29 rfl hl (by decide) rfl (fun ls hl => ?_)
          refine n_iinc (lv' := [(3, .int (nI 1)), (2, .int (-1)), (0, .int (nI 0)), (1, .int (nI j))]) hx hb dX2_isUnder_30 hl (k := 1) rfl (by decide) rfl (fun ls hl => ?_)
          refine lv_goto (tgt := 4) hx hb dX2_isUnder_33 (by decide) ?_
          refine lv_iload_n hx hb dX2_isUnder_4 rfl (lv_at hl 0 rfl) ?_
          refine lv_bipush (v := nI 6) hx hb dX2_isUnder_5 rfl ?_
          refine n_icmp_ge hx hb (by omega) (by omega) (tgt := 36) dX2_isUnder_7 (by decide) (fun c_4 => ?_) (fun c_4 => ?_)
          · omega
          · refine lv_iload_n hx hb dX2_isUnder_10 rfl (lv_at hl 1 rfl) ?_
            refine callSI (rest := []) (wn := fun u => ([] : va_W)) ⟨hx, hb, hml, hown, hts⟩ (c_X2_isOne l G H.size (-1)) (va_cwS 1 hts gX2_isUnder_X2_isOne rfl rfl rfl (by decide +kernel) ⟨Nat.le_of_ble_eq_true rfl, Nat.le_of_ble_eq_true rfl⟩) noXB (fun _ _ _ => trivial) hK hP hD hS hAq rfl hl.1 rfl (Nat.le_of_ble_eq_true rfl) dX2_isUnder_11 ⟨Nat.le_of_ble_eq_true rfl, Nat.le_of_ble_eq_true rfl⟩ [] rfl rfl [] rfl (fun _ => rfl) (fun _ => rfl) (fun u H locs hok hP hD hS => ?_)
            refine z_if_eq hx hb (tgt := 36) dX2_isUnder_14 (by decide) (fun c_5 => ?_) (fun c_5 => ?_)
            · refine lv_iconst (v := nI 0) hx hb dX2_isUnder_36 rfl ?_
              exact fin_z (ty := .boolean) (by decide) hx hb hr hlk hS hP hD () trivial (zI_f (by omega)).symm (eqW.rf _) dX2_isUnder_37
            · exact absurd c_5 (by decide)
        · refine lv_iconst (v := nI 1) hx hb dX2_isUnder_22 rfl ?_
          exact fin_z (ty := .boolean) (by decide) hx hb hr hlk hS hP hD () trivial (zI_t (by omega)).symm (eqW.rf _) dX2_isUnder_23
  · refine lv_iload_n hx hb dX2_isUnder_0 rfl (lv_at hl 0 rfl) ?_
    refine lv_istore_n (lv' := [(2, .int (nI 1)), (0, .int (nI 1)), (1, .int (nI j))]) hx hb dX2_isUnder_1 rfl hl (by decide) rfl (fun ls hl => ?_)
    refine lv_iconst (v := nI 0) hx hb dX2_isUnder_2 rfl ?_
    refine lv_istore_n (lv' := [(3, .int (nI 0)), (2, .int (nI 1)), (0, .int (nI 1)), (1, .int (nI j))]) hx hb dX2_isUnder_3 rfl hl (by decide) rfl (fun ls hl => ?_)
    refine lv_iload_n hx hb dX2_isUnder_4 rfl (lv_at hl 0 rfl) ?_
    refine lv_bipush (v := nI 6) hx hb dX2_isUnder_5 rfl ?_
    refine n_icmp_ge hx hb (by omega) (by omega) (tgt := 36) dX2_isUnder_7 (by decide) (fun c_6 => ?_) (fun c_6 => ?_)
    · omega
    · refine lv_iload_n hx hb dX2_isUnder_10 rfl (lv_at hl 1 rfl) ?_
      refine callSI (rest := []) (wn := fun u => ([] : va_W)) ⟨hx, hb, hml, hown, hts⟩ (c_X2_isOne l G H.size (nI 1)) (va_cwS 1 hts gX2_isUnder_X2_isOne rfl rfl rfl (by decide +kernel) ⟨Nat.le_of_ble_eq_true rfl, Nat.le_of_ble_eq_true rfl⟩) noXB (fun _ _ _ => trivial) hK hP hD hS hAq rfl hl.1 rfl (Nat.le_of_ble_eq_true rfl) dX2_isUnder_11 ⟨Nat.le_of_ble_eq_true rfl, Nat.le_of_ble_eq_true rfl⟩ [] rfl rfl [] rfl (fun _ => rfl) (fun _ => rfl) (fun u H locs hok hP hD hS => ?_)
      refine z_if_eq hx hb (tgt := 36) dX2_isUnder_14 (by decide) (fun c_7 => ?_) (fun c_7 => ?_)
      · exact absurd (by decide) c_7
      · refine lv_iload_n hx hb dX2_isUnder_17 rfl (lv_at hl 1 rfl) ?_
        refine lv_iload_n hx hb dX2_isUnder_18 rfl (lv_at hl 3 rfl) ?_
        refine n_icmp_ne hx hb (by omega) (by omega) (tgt := 24) dX2_isUnder_19 (by decide) (fun c_8 => ?_) (fun c_8 => ?_)
        · refine va_gets hx hb hX.1 hS hown (hts _ (List.mem_of_getElem? (i := 1) rfl)) (fun _ h => h) dX2_isUnder_24 ?_
          refine lv_iload_n hx hb dX2_isUnder_27 rfl (lv_at hl 1 rfl) ?_
          refine va_ti hx hb hX.2 hS (N := 6) (vp_in_iff.mpr (by rw [nI_T (by decide)]; omega)) (v := .int (nI 0)) rfl dX2_isUnder_28 ?_
          refine lv_istore_n (lv' := [(2, .int (nI 0)), (3, .int (nI 0)), (0, .int (nI 1)), (1, .int (nI j))]) hx hb dX2_isUnder_29 rfl hl (by decide) rfl (fun ls hl => ?_)
          refine n_iinc (lv' := [(3, .int (nI 1)), (2, .int (nI 0)), (0, .int (nI 1)), (1, .int (nI j))]) hx hb dX2_isUnder_30 hl (k := 1) rfl (by decide) rfl (fun ls hl => ?_)
          refine lv_goto (tgt := 4) hx hb dX2_isUnder_33 (by decide) ?_
          refine lv_iload_n hx hb dX2_isUnder_4 rfl (lv_at hl 0 rfl) ?_
          refine lv_bipush (v := nI 6) hx hb dX2_isUnder_5 rfl ?_
          refine n_icmp_ge hx hb (by omega) (by omega) (tgt := 36) dX2_isUnder_7 (by decide) (fun c_9 => ?_) (fun c_9 => ?_)
          · omega
          · refine lv_iload_n hx hb dX2_isUnder_10 rfl (lv_at hl 1 rfl) ?_
            refine callSI (rest := []) (wn := fun u => ([] : va_W)) ⟨hx, hb, hml, hown, hts⟩ (c_X2_isOne l G H.size (nI 0)) (va_cwS 1 hts gX2_isUnder_X2_isOne rfl rfl rfl (by decide +kernel) ⟨Nat.le_of_ble_eq_true rfl, Nat.le_of_ble_eq_true rfl⟩) noXB (fun _ _ _ => trivial) hK hP hD hS hAq rfl hl.1 rfl (Nat.le_of_ble_eq_true rfl) dX2_isUnder_11 ⟨Nat.le_of_ble_eq_true rfl, Nat.le_of_ble_eq_true rfl⟩ [] rfl rfl [] rfl (fun _ => rfl) (fun _ => rfl) (fun u H locs hok hP hD hS => ?_)
            refine z_if_eq hx hb (tgt := 36) dX2_isUnder_14 (by decide) (fun c_10 => ?_) (fun c_10 => ?_)
            · exact absurd (by decide) c_10
            · refine lv_iload_n hx hb dX2_isUnder_17 rfl (lv_at hl 1 rfl) ?_
              refine lv_iload_n hx hb dX2_isUnder_18 rfl (lv_at hl 3 rfl) ?_
              refine n_icmp_ne hx hb (by omega) (by omega) (tgt := 24) dX2_isUnder_19 (by decide) (fun c_11 => ?_) (fun c_11 => ?_)
              · refine va_gets hx hb hX.1 hS hown (hts _ (List.mem_of_getElem? (i := 1) rfl)) (fun _ h => h) dX2_isUnder_24 ?_
                refine lv_iload_n hx hb dX2_isUnder_27 rfl (lv_at hl 1 rfl) ?_
                refine va_ti hx hb hX.2 hS (N := 6) (vp_in_iff.mpr (by rw [nI_T (by decide)]; omega)) (v := .int (-1)) rfl dX2_isUnder_28 ?_
                refine lv_istore_n (lv' := [(2, .int (-1)), (3, .int (nI 1)), (0, .int (nI 1)), (1, .int (nI j))]) hx hb dX2_isUnder_29 rfl hl (by decide) rfl (fun ls hl => ?_)
                refine n_iinc (lv' := [(3, .int (nI 2)), (2, .int (-1)), (0, .int (nI 1)), (1, .int (nI j))]) hx hb dX2_isUnder_30 hl (k := 1) rfl (by decide) rfl (fun ls hl => ?_)
                refine lv_goto (tgt := 4) hx hb dX2_isUnder_33 (by decide) ?_
                refine lv_iload_n hx hb dX2_isUnder_4 rfl (lv_at hl 0 rfl) ?_
                refine lv_bipush (v := nI 6) hx hb dX2_isUnder_5 rfl ?_
                refine n_icmp_ge hx hb (by omega) (by omega) (tgt := 36) dX2_isUnder_7 (by decide) (fun c_12 => ?_) (fun c_12 => ?_)
                · omega
                · refine lv_iload_n hx hb dX2_isUnder_10 rfl (lv_at hl 1 rfl) ?_
                  refine callSI (rest := []) (wn := fun u => ([] : va_W)) ⟨hx, hb, hml, hown, hts⟩ (c_X2_isOne l G H.size (-1)) (va_cwS 1 hts gX2_isUnder_X2_isOne rfl rfl rfl (by decide +kernel) ⟨Nat.le_of_ble_eq_true rfl, Nat.le_of_ble_eq_true rfl⟩) noXB (fun _ _ _ => trivial) hK hP hD hS hAq rfl hl.1 rfl (Nat.le_of_ble_eq_true rfl) dX2_isUnder_11 ⟨Nat.le_of_ble_eq_true rfl, Nat.le_of_ble_eq_true rfl⟩ [] rfl rfl [] rfl (fun _ => rfl) (fun _ => rfl) (fun u H locs hok hP hD hS => ?_)
                  refine z_if_eq hx hb (tgt := 36) dX2_isUnder_14 (by decide) (fun c_13 => ?_) (fun c_13 => ?_)
                  · refine lv_iconst (v := nI 0) hx hb dX2_isUnder_36 rfl ?_
                    exact fin_z (ty := .boolean) (by decide) hx hb hr hlk hS hP hD () trivial (zI_f (by omega)).symm (eqW.rf _) dX2_isUnder_37
                  · exact absurd c_13 (by decide)
              · refine lv_iconst (v := nI 1) hx hb dX2_isUnder_22 rfl ?_
                exact fin_z (ty := .boolean) (by decide) hx hb hr hlk hS hP hD () trivial (zI_t (by omega)).symm (eqW.rf _) dX2_isUnder_23
        · refine lv_iconst (v := nI 1) hx hb dX2_isUnder_22 rfl ?_
          exact fin_z (ty := .boolean) (by decide) hx hb hr hlk hS hP hD () trivial (zI_t (by omega)).symm (eqW.rf _) dX2_isUnder_23
  · refine lv_iload_n hx hb dX2_isUnder_0 rfl (lv_at hl 0 rfl) ?_
    refine lv_istore_n (lv' := [(2, .int (nI 2)), (0, .int (nI 2)), (1, .int (nI j))]) hx hb dX2_isUnder_1 rfl hl (by decide) rfl (fun ls hl => ?_)
    refine lv_iconst (v := nI 0) hx hb dX2_isUnder_2 rfl ?_
    refine lv_istore_n (lv' := [(3, .int (nI 0)), (2, .int (nI 2)), (0, .int (nI 2)), (1, .int (nI j))]) hx hb dX2_isUnder_3 rfl hl (by decide) rfl (fun ls hl => ?_)
    refine lv_iload_n hx hb dX2_isUnder_4 rfl (lv_at hl 0 rfl) ?_
    refine lv_bipush (v := nI 6) hx hb dX2_isUnder_5 rfl ?_
    refine n_icmp_ge hx hb (by omega) (by omega) (tgt := 36) dX2_isUnder_7 (by decide) (fun c_14 => ?_) (fun c_14 => ?_)
    · omega
    · refine lv_iload_n hx hb dX2_isUnder_10 rfl (lv_at hl 1 rfl) ?_
      refine callSI (rest := []) (wn := fun u => ([] : va_W)) ⟨hx, hb, hml, hown, hts⟩ (c_X2_isOne l G H.size (nI 2)) (va_cwS 1 hts gX2_isUnder_X2_isOne rfl rfl rfl (by decide +kernel) ⟨Nat.le_of_ble_eq_true rfl, Nat.le_of_ble_eq_true rfl⟩) noXB (fun _ _ _ => trivial) hK hP hD hS hAq rfl hl.1 rfl (Nat.le_of_ble_eq_true rfl) dX2_isUnder_11 ⟨Nat.le_of_ble_eq_true rfl, Nat.le_of_ble_eq_true rfl⟩ [] rfl rfl [] rfl (fun _ => rfl) (fun _ => rfl) (fun u H locs hok hP hD hS => ?_)
      refine z_if_eq hx hb (tgt := 36) dX2_isUnder_14 (by decide) (fun c_15 => ?_) (fun c_15 => ?_)
      · exact absurd (by decide) c_15
      · refine lv_iload_n hx hb dX2_isUnder_17 rfl (lv_at hl 1 rfl) ?_
        refine lv_iload_n hx hb dX2_isUnder_18 rfl (lv_at hl 3 rfl) ?_
        refine n_icmp_ne hx hb (by omega) (by omega) (tgt := 24) dX2_isUnder_19 (by decide) (fun c_16 => ?_) (fun c_16 => ?_)
        · refine va_gets hx hb hX.1 hS hown (hts _ (List.mem_of_getElem? (i := 1) rfl)) (fun _ h => h) dX2_isUnder_24 ?_
          refine lv_iload_n hx hb dX2_isUnder_27 rfl (lv_at hl 1 rfl) ?_
          refine va_ti hx hb hX.2 hS (N := 6) (vp_in_iff.mpr (by rw [nI_T (by decide)]; omega)) (v := .int (nI 0)) rfl dX2_isUnder_28 ?_
          refine lv_istore_n (lv' := [(2, .int (nI 0)), (3, .int (nI 0)), (0, .int (nI 2)), (1, .int (nI j))]) hx hb dX2_isUnder_29 rfl hl (by decide) rfl (fun ls hl => ?_)
          refine n_iinc (lv' := [(3, .int (nI 1)), (2, .int (nI 0)), (0, .int (nI 2)), (1, .int (nI j))]) hx hb dX2_isUnder_30 hl (k := 1) rfl (by decide) rfl (fun ls hl => ?_)
          refine lv_goto (tgt := 4) hx hb dX2_isUnder_33 (by decide) ?_
          refine lv_iload_n hx hb dX2_isUnder_4 rfl (lv_at hl 0 rfl) ?_
          refine lv_bipush (v := nI 6) hx hb dX2_isUnder_5 rfl ?_
          refine n_icmp_ge hx hb (by omega) (by omega) (tgt := 36) dX2_isUnder_7 (by decide) (fun c_17 => ?_) (fun c_17 => ?_)
          · omega
          · refine lv_iload_n hx hb dX2_isUnder_10 rfl (lv_at hl 1 rfl) ?_
            refine callSI (rest := []) (wn := fun u => ([] : va_W)) ⟨hx, hb, hml, hown, hts⟩ (c_X2_isOne l G H.size (nI 0)) (va_cwS 1 hts gX2_isUnder_X2_isOne rfl rfl rfl (by decide +kernel) ⟨Nat.le_of_ble_eq_true rfl, Nat.le_of_ble_eq_true rfl⟩) noXB (fun _ _ _ => trivial) hK hP hD hS hAq rfl hl.1 rfl (Nat.le_of_ble_eq_true rfl) dX2_isUnder_11 ⟨Nat.le_of_ble_eq_true rfl, Nat.le_of_ble_eq_true rfl⟩ [] rfl rfl [] rfl (fun _ => rfl) (fun _ => rfl) (fun u H locs hok hP hD hS => ?_)
            refine z_if_eq hx hb (tgt := 36) dX2_isUnder_14 (by decide) (fun c_18 => ?_) (fun c_18 => ?_)
            · exact absurd (by decide) c_18
            · refine lv_iload_n hx hb dX2_isUnder_17 rfl (lv_at hl 1 rfl) ?_
              refine lv_iload_n hx hb dX2_isUnder_18 rfl (lv_at hl 3 rfl) ?_
              refine n_icmp_ne hx hb (by omega) (by omega) (tgt := 24) dX2_isUnder_19 (by decide) (fun c_19 => ?_) (fun c_19 => ?_)
              · refine va_gets hx hb hX.1 hS hown (hts _ (List.mem_of_getElem? (i := 1) rfl)) (fun _ h => h) dX2_isUnder_24 ?_
                refine lv_iload_n hx hb dX2_isUnder_27 rfl (lv_at hl 1 rfl) ?_
                refine va_ti hx hb hX.2 hS (N := 6) (vp_in_iff.mpr (by rw [nI_T (by decide)]; omega)) (v := .int (-1)) rfl dX2_isUnder_28 ?_
                refine lv_istore_n (lv' := [(2, .int (-1)), (3, .int (nI 1)), (0, .int (nI 2)), (1, .int (nI j))]) hx hb dX2_isUnder_29 rfl hl (by decide) rfl (fun ls hl => ?_)
                refine n_iinc (lv' := [(3, .int (nI 2)), (2, .int (-1)), (0, .int (nI 2)), (1, .int (nI j))]) hx hb dX2_isUnder_30 hl (k := 1) rfl (by decide) rfl (fun ls hl => ?_)
                refine lv_goto (tgt := 4) hx hb dX2_isUnder_33 (by decide) ?_
                refine lv_iload_n hx hb dX2_isUnder_4 rfl (lv_at hl 0 rfl) ?_
                refine lv_bipush (v := nI 6) hx hb dX2_isUnder_5 rfl ?_
                refine n_icmp_ge hx hb (by omega) (by omega) (tgt := 36) dX2_isUnder_7 (by decide) (fun c_20 => ?_) (fun c_20 => ?_)
                · omega
                · refine lv_iload_n hx hb dX2_isUnder_10 rfl (lv_at hl 1 rfl) ?_
                  refine callSI (rest := []) (wn := fun u => ([] : va_W)) ⟨hx, hb, hml, hown, hts⟩ (c_X2_isOne l G H.size (-1)) (va_cwS 1 hts gX2_isUnder_X2_isOne rfl rfl rfl (by decide +kernel) ⟨Nat.le_of_ble_eq_true rfl, Nat.le_of_ble_eq_true rfl⟩) noXB (fun _ _ _ => trivial) hK hP hD hS hAq rfl hl.1 rfl (Nat.le_of_ble_eq_true rfl) dX2_isUnder_11 ⟨Nat.le_of_ble_eq_true rfl, Nat.le_of_ble_eq_true rfl⟩ [] rfl rfl [] rfl (fun _ => rfl) (fun _ => rfl) (fun u H locs hok hP hD hS => ?_)
                  refine z_if_eq hx hb (tgt := 36) dX2_isUnder_14 (by decide) (fun c_21 => ?_) (fun c_21 => ?_)
                  · refine lv_iconst (v := nI 0) hx hb dX2_isUnder_36 rfl ?_
                    exact fin_z (ty := .boolean) (by decide) hx hb hr hlk hS hP hD () trivial (zI_f (by omega)).symm (eqW.rf _) dX2_isUnder_37
                  · exact absurd c_21 (by decide)
              · refine lv_iconst (v := nI 1) hx hb dX2_isUnder_22 rfl ?_
                exact fin_z (ty := .boolean) (by decide) hx hb hr hlk hS hP hD () trivial (zI_t (by omega)).symm (eqW.rf _) dX2_isUnder_23
        · refine lv_iconst (v := nI 1) hx hb dX2_isUnder_22 rfl ?_
          exact fin_z (ty := .boolean) (by decide) hx hb hr hlk hS hP hD () trivial (zI_t (by omega)).symm (eqW.rf _) dX2_isUnder_23
  · refine lv_iload_n hx hb dX2_isUnder_0 rfl (lv_at hl 0 rfl) ?_
    refine lv_istore_n (lv' := [(2, .int (nI 3)), (0, .int (nI 3)), (1, .int (nI j))]) hx hb dX2_isUnder_1 rfl hl (by decide) rfl (fun ls hl => ?_)
    refine lv_iconst (v := nI 0) hx hb dX2_isUnder_2 rfl ?_
    refine lv_istore_n (lv' := [(3, .int (nI 0)), (2, .int (nI 3)), (0, .int (nI 3)), (1, .int (nI j))]) hx hb dX2_isUnder_3 rfl hl (by decide) rfl (fun ls hl => ?_)
    refine lv_iload_n hx hb dX2_isUnder_4 rfl (lv_at hl 0 rfl) ?_
    refine lv_bipush (v := nI 6) hx hb dX2_isUnder_5 rfl ?_
    refine n_icmp_ge hx hb (by omega) (by omega) (tgt := 36) dX2_isUnder_7 (by decide) (fun c_22 => ?_) (fun c_22 => ?_)
    · omega
    · refine lv_iload_n hx hb dX2_isUnder_10 rfl (lv_at hl 1 rfl) ?_
      refine callSI (rest := []) (wn := fun u => ([] : va_W)) ⟨hx, hb, hml, hown, hts⟩ (c_X2_isOne l G H.size (nI 3)) (va_cwS 1 hts gX2_isUnder_X2_isOne rfl rfl rfl (by decide +kernel) ⟨Nat.le_of_ble_eq_true rfl, Nat.le_of_ble_eq_true rfl⟩) noXB (fun _ _ _ => trivial) hK hP hD hS hAq rfl hl.1 rfl (Nat.le_of_ble_eq_true rfl) dX2_isUnder_11 ⟨Nat.le_of_ble_eq_true rfl, Nat.le_of_ble_eq_true rfl⟩ [] rfl rfl [] rfl (fun _ => rfl) (fun _ => rfl) (fun u H locs hok hP hD hS => ?_)
      refine z_if_eq hx hb (tgt := 36) dX2_isUnder_14 (by decide) (fun c_23 => ?_) (fun c_23 => ?_)
      · exact absurd (by decide) c_23
      · refine lv_iload_n hx hb dX2_isUnder_17 rfl (lv_at hl 1 rfl) ?_
        refine lv_iload_n hx hb dX2_isUnder_18 rfl (lv_at hl 3 rfl) ?_
        refine n_icmp_ne hx hb (by omega) (by omega) (tgt := 24) dX2_isUnder_19 (by decide) (fun c_24 => ?_) (fun c_24 => ?_)
        · refine va_gets hx hb hX.1 hS hown (hts _ (List.mem_of_getElem? (i := 1) rfl)) (fun _ h => h) dX2_isUnder_24 ?_
          refine lv_iload_n hx hb dX2_isUnder_27 rfl (lv_at hl 1 rfl) ?_
          refine va_ti hx hb hX.2 hS (N := 6) (vp_in_iff.mpr (by rw [nI_T (by decide)]; omega)) (v := .int (nI 0)) rfl dX2_isUnder_28 ?_
          refine lv_istore_n (lv' := [(2, .int (nI 0)), (3, .int (nI 0)), (0, .int (nI 3)), (1, .int (nI j))]) hx hb dX2_isUnder_29 rfl hl (by decide) rfl (fun ls hl => ?_)
          refine n_iinc (lv' := [(3, .int (nI 1)), (2, .int (nI 0)), (0, .int (nI 3)), (1, .int (nI j))]) hx hb dX2_isUnder_30 hl (k := 1) rfl (by decide) rfl (fun ls hl => ?_)
          refine lv_goto (tgt := 4) hx hb dX2_isUnder_33 (by decide) ?_
          refine lv_iload_n hx hb dX2_isUnder_4 rfl (lv_at hl 0 rfl) ?_
          refine lv_bipush (v := nI 6) hx hb dX2_isUnder_5 rfl ?_
          refine n_icmp_ge hx hb (by omega) (by omega) (tgt := 36) dX2_isUnder_7 (by decide) (fun c_25 => ?_) (fun c_25 => ?_)
          · omega
          · refine lv_iload_n hx hb dX2_isUnder_10 rfl (lv_at hl 1 rfl) ?_
            refine callSI (rest := []) (wn := fun u => ([] : va_W)) ⟨hx, hb, hml, hown, hts⟩ (c_X2_isOne l G H.size (nI 0)) (va_cwS 1 hts gX2_isUnder_X2_isOne rfl rfl rfl (by decide +kernel) ⟨Nat.le_of_ble_eq_true rfl, Nat.le_of_ble_eq_true rfl⟩) noXB (fun _ _ _ => trivial) hK hP hD hS hAq rfl hl.1 rfl (Nat.le_of_ble_eq_true rfl) dX2_isUnder_11 ⟨Nat.le_of_ble_eq_true rfl, Nat.le_of_ble_eq_true rfl⟩ [] rfl rfl [] rfl (fun _ => rfl) (fun _ => rfl) (fun u H locs hok hP hD hS => ?_)
            refine z_if_eq hx hb (tgt := 36) dX2_isUnder_14 (by decide) (fun c_26 => ?_) (fun c_26 => ?_)
            · exact absurd (by decide) c_26
            · refine lv_iload_n hx hb dX2_isUnder_17 rfl (lv_at hl 1 rfl) ?_
              refine lv_iload_n hx hb dX2_isUnder_18 rfl (lv_at hl 3 rfl) ?_
              refine n_icmp_ne hx hb (by omega) (by omega) (tgt := 24) dX2_isUnder_19 (by decide) (fun c_27 => ?_) (fun c_27 => ?_)
              · refine va_gets hx hb hX.1 hS hown (hts _ (List.mem_of_getElem? (i := 1) rfl)) (fun _ h => h) dX2_isUnder_24 ?_
                refine lv_iload_n hx hb dX2_isUnder_27 rfl (lv_at hl 1 rfl) ?_
                refine va_ti hx hb hX.2 hS (N := 6) (vp_in_iff.mpr (by rw [nI_T (by decide)]; omega)) (v := .int (-1)) rfl dX2_isUnder_28 ?_
                refine lv_istore_n (lv' := [(2, .int (-1)), (3, .int (nI 1)), (0, .int (nI 3)), (1, .int (nI j))]) hx hb dX2_isUnder_29 rfl hl (by decide) rfl (fun ls hl => ?_)
                refine n_iinc (lv' := [(3, .int (nI 2)), (2, .int (-1)), (0, .int (nI 3)), (1, .int (nI j))]) hx hb dX2_isUnder_30 hl (k := 1) rfl (by decide) rfl (fun ls hl => ?_)
                refine lv_goto (tgt := 4) hx hb dX2_isUnder_33 (by decide) ?_
                refine lv_iload_n hx hb dX2_isUnder_4 rfl (lv_at hl 0 rfl) ?_
                refine lv_bipush (v := nI 6) hx hb dX2_isUnder_5 rfl ?_
                refine n_icmp_ge hx hb (by omega) (by omega) (tgt := 36) dX2_isUnder_7 (by decide) (fun c_28 => ?_) (fun c_28 => ?_)
                · omega
                · refine lv_iload_n hx hb dX2_isUnder_10 rfl (lv_at hl 1 rfl) ?_
                  refine callSI (rest := []) (wn := fun u => ([] : va_W)) ⟨hx, hb, hml, hown, hts⟩ (c_X2_isOne l G H.size (-1)) (va_cwS 1 hts gX2_isUnder_X2_isOne rfl rfl rfl (by decide +kernel) ⟨Nat.le_of_ble_eq_true rfl, Nat.le_of_ble_eq_true rfl⟩) noXB (fun _ _ _ => trivial) hK hP hD hS hAq rfl hl.1 rfl (Nat.le_of_ble_eq_true rfl) dX2_isUnder_11 ⟨Nat.le_of_ble_eq_true rfl, Nat.le_of_ble_eq_true rfl⟩ [] rfl rfl [] rfl (fun _ => rfl) (fun _ => rfl) (fun u H locs hok hP hD hS => ?_)
                  refine z_if_eq hx hb (tgt := 36) dX2_isUnder_14 (by decide) (fun c_29 => ?_) (fun c_29 => ?_)
                  · refine lv_iconst (v := nI 0) hx hb dX2_isUnder_36 rfl ?_
                    exact fin_z (ty := .boolean) (by decide) hx hb hr hlk hS hP hD () trivial (zI_f (by omega)).symm (eqW.rf _) dX2_isUnder_37
                  · exact absurd c_29 (by decide)
              · refine lv_iconst (v := nI 1) hx hb dX2_isUnder_22 rfl ?_
                exact fin_z (ty := .boolean) (by decide) hx hb hr hlk hS hP hD () trivial (zI_t (by omega)).symm (eqW.rf _) dX2_isUnder_23
        · refine lv_iconst (v := nI 1) hx hb dX2_isUnder_22 rfl ?_
          exact fin_z (ty := .boolean) (by decide) hx hb hr hlk hS hP hD () trivial (zI_t (by omega)).symm (eqW.rf _) dX2_isUnder_23
  · refine lv_iload_n hx hb dX2_isUnder_0 rfl (lv_at hl 0 rfl) ?_
    refine lv_istore_n (lv' := [(2, .int (nI 4)), (0, .int (nI 4)), (1, .int (nI j))]) hx hb dX2_isUnder_1 rfl hl (by decide) rfl (fun ls hl => ?_)
    refine lv_iconst (v := nI 0) hx hb dX2_isUnder_2 rfl ?_
    refine lv_istore_n (lv' := [(3, .int (nI 0)), (2, .int (nI 4)), (0, .int (nI 4)), (1, .int (nI j))]) hx hb dX2_isUnder_3 rfl hl (by decide) rfl (fun ls hl => ?_)
    refine lv_iload_n hx hb dX2_isUnder_4 rfl (lv_at hl 0 rfl) ?_
    refine lv_bipush (v := nI 6) hx hb dX2_isUnder_5 rfl ?_
    refine n_icmp_ge hx hb (by omega) (by omega) (tgt := 36) dX2_isUnder_7 (by decide) (fun c_30 => ?_) (fun c_30 => ?_)
    · omega
    · refine lv_iload_n hx hb dX2_isUnder_10 rfl (lv_at hl 1 rfl) ?_
      refine callSI (rest := []) (wn := fun u => ([] : va_W)) ⟨hx, hb, hml, hown, hts⟩ (c_X2_isOne l G H.size (nI 4)) (va_cwS 1 hts gX2_isUnder_X2_isOne rfl rfl rfl (by decide +kernel) ⟨Nat.le_of_ble_eq_true rfl, Nat.le_of_ble_eq_true rfl⟩) noXB (fun _ _ _ => trivial) hK hP hD hS hAq rfl hl.1 rfl (Nat.le_of_ble_eq_true rfl) dX2_isUnder_11 ⟨Nat.le_of_ble_eq_true rfl, Nat.le_of_ble_eq_true rfl⟩ [] rfl rfl [] rfl (fun _ => rfl) (fun _ => rfl) (fun u H locs hok hP hD hS => ?_)
      refine z_if_eq hx hb (tgt := 36) dX2_isUnder_14 (by decide) (fun c_31 => ?_) (fun c_31 => ?_)
      · exact absurd (by decide) c_31
      · refine lv_iload_n hx hb dX2_isUnder_17 rfl (lv_at hl 1 rfl) ?_
        refine lv_iload_n hx hb dX2_isUnder_18 rfl (lv_at hl 3 rfl) ?_
        refine n_icmp_ne hx hb (by omega) (by omega) (tgt := 24) dX2_isUnder_19 (by decide) (fun c_32 => ?_) (fun c_32 => ?_)
        · refine va_gets hx hb hX.1 hS hown (hts _ (List.mem_of_getElem? (i := 1) rfl)) (fun _ h => h) dX2_isUnder_24 ?_
          refine lv_iload_n hx hb dX2_isUnder_27 rfl (lv_at hl 1 rfl) ?_
          refine va_ti hx hb hX.2 hS (N := 6) (vp_in_iff.mpr (by rw [nI_T (by decide)]; omega)) (v := .int (nI 1)) rfl dX2_isUnder_28 ?_
          refine lv_istore_n (lv' := [(2, .int (nI 1)), (3, .int (nI 0)), (0, .int (nI 4)), (1, .int (nI j))]) hx hb dX2_isUnder_29 rfl hl (by decide) rfl (fun ls hl => ?_)
          refine n_iinc (lv' := [(3, .int (nI 1)), (2, .int (nI 1)), (0, .int (nI 4)), (1, .int (nI j))]) hx hb dX2_isUnder_30 hl (k := 1) rfl (by decide) rfl (fun ls hl => ?_)
          refine lv_goto (tgt := 4) hx hb dX2_isUnder_33 (by decide) ?_
          refine lv_iload_n hx hb dX2_isUnder_4 rfl (lv_at hl 0 rfl) ?_
          refine lv_bipush (v := nI 6) hx hb dX2_isUnder_5 rfl ?_
          refine n_icmp_ge hx hb (by omega) (by omega) (tgt := 36) dX2_isUnder_7 (by decide) (fun c_33 => ?_) (fun c_33 => ?_)
          · omega
          · refine lv_iload_n hx hb dX2_isUnder_10 rfl (lv_at hl 1 rfl) ?_
            refine callSI (rest := []) (wn := fun u => ([] : va_W)) ⟨hx, hb, hml, hown, hts⟩ (c_X2_isOne l G H.size (nI 1)) (va_cwS 1 hts gX2_isUnder_X2_isOne rfl rfl rfl (by decide +kernel) ⟨Nat.le_of_ble_eq_true rfl, Nat.le_of_ble_eq_true rfl⟩) noXB (fun _ _ _ => trivial) hK hP hD hS hAq rfl hl.1 rfl (Nat.le_of_ble_eq_true rfl) dX2_isUnder_11 ⟨Nat.le_of_ble_eq_true rfl, Nat.le_of_ble_eq_true rfl⟩ [] rfl rfl [] rfl (fun _ => rfl) (fun _ => rfl) (fun u H locs hok hP hD hS => ?_)
            refine z_if_eq hx hb (tgt := 36) dX2_isUnder_14 (by decide) (fun c_34 => ?_) (fun c_34 => ?_)
            · exact absurd (by decide) c_34
            · refine lv_iload_n hx hb dX2_isUnder_17 rfl (lv_at hl 1 rfl) ?_
              refine lv_iload_n hx hb dX2_isUnder_18 rfl (lv_at hl 3 rfl) ?_
              refine n_icmp_ne hx hb (by omega) (by omega) (tgt := 24) dX2_isUnder_19 (by decide) (fun c_35 => ?_) (fun c_35 => ?_)
              · refine va_gets hx hb hX.1 hS hown (hts _ (List.mem_of_getElem? (i := 1) rfl)) (fun _ h => h) dX2_isUnder_24 ?_
                refine lv_iload_n hx hb dX2_isUnder_27 rfl (lv_at hl 1 rfl) ?_
                refine va_ti hx hb hX.2 hS (N := 6) (vp_in_iff.mpr (by rw [nI_T (by decide)]; omega)) (v := .int (nI 0)) rfl dX2_isUnder_28 ?_
                refine lv_istore_n (lv' := [(2, .int (nI 0)), (3, .int (nI 1)), (0, .int (nI 4)), (1, .int (nI j))]) hx hb dX2_isUnder_29 rfl hl (by decide) rfl (fun ls hl => ?_)
                refine n_iinc (lv' := [(3, .int (nI 2)), (2, .int (nI 0)), (0, .int (nI 4)), (1, .int (nI j))]) hx hb dX2_isUnder_30 hl (k := 1) rfl (by decide) rfl (fun ls hl => ?_)
                refine lv_goto (tgt := 4) hx hb dX2_isUnder_33 (by decide) ?_
                refine lv_iload_n hx hb dX2_isUnder_4 rfl (lv_at hl 0 rfl) ?_
                refine lv_bipush (v := nI 6) hx hb dX2_isUnder_5 rfl ?_
                refine n_icmp_ge hx hb (by omega) (by omega) (tgt := 36) dX2_isUnder_7 (by decide) (fun c_36 => ?_) (fun c_36 => ?_)
                · omega
                · refine lv_iload_n hx hb dX2_isUnder_10 rfl (lv_at hl 1 rfl) ?_
                  refine callSI (rest := []) (wn := fun u => ([] : va_W)) ⟨hx, hb, hml, hown, hts⟩ (c_X2_isOne l G H.size (nI 0)) (va_cwS 1 hts gX2_isUnder_X2_isOne rfl rfl rfl (by decide +kernel) ⟨Nat.le_of_ble_eq_true rfl, Nat.le_of_ble_eq_true rfl⟩) noXB (fun _ _ _ => trivial) hK hP hD hS hAq rfl hl.1 rfl (Nat.le_of_ble_eq_true rfl) dX2_isUnder_11 ⟨Nat.le_of_ble_eq_true rfl, Nat.le_of_ble_eq_true rfl⟩ [] rfl rfl [] rfl (fun _ => rfl) (fun _ => rfl) (fun u H locs hok hP hD hS => ?_)
                  refine z_if_eq hx hb (tgt := 36) dX2_isUnder_14 (by decide) (fun c_37 => ?_) (fun c_37 => ?_)
                  · exact absurd (by decide) c_37
                  · refine lv_iload_n hx hb dX2_isUnder_17 rfl (lv_at hl 1 rfl) ?_
                    refine lv_iload_n hx hb dX2_isUnder_18 rfl (lv_at hl 3 rfl) ?_
                    refine n_icmp_ne hx hb (by omega) (by omega) (tgt := 24) dX2_isUnder_19 (by decide) (fun c_38 => ?_) (fun c_38 => ?_)
                    · refine va_gets hx hb hX.1 hS hown (hts _ (List.mem_of_getElem? (i := 1) rfl)) (fun _ h => h) dX2_isUnder_24 ?_
                      refine lv_iload_n hx hb dX2_isUnder_27 rfl (lv_at hl 1 rfl) ?_
                      refine va_ti hx hb hX.2 hS (N := 6) (vp_in_iff.mpr (by rw [nI_T (by decide)]; omega)) (v := .int (-1)) rfl dX2_isUnder_28 ?_
                      refine lv_istore_n (lv' := [(2, .int (-1)), (3, .int (nI 2)), (0, .int (nI 4)), (1, .int (nI j))]) hx hb dX2_isUnder_29 rfl hl (by decide) rfl (fun ls hl => ?_)
                      refine n_iinc (lv' := [(3, .int (nI 3)), (2, .int (-1)), (0, .int (nI 4)), (1, .int (nI j))]) hx hb dX2_isUnder_30 hl (k := 1) rfl (by decide) rfl (fun ls hl => ?_)
                      refine lv_goto (tgt := 4) hx hb dX2_isUnder_33 (by decide) ?_
                      refine lv_iload_n hx hb dX2_isUnder_4 rfl (lv_at hl 0 rfl) ?_
                      refine lv_bipush (v := nI 6) hx hb dX2_isUnder_5 rfl ?_
                      refine n_icmp_ge hx hb (by omega) (by omega) (tgt := 36) dX2_isUnder_7 (by decide) (fun c_39 => ?_) (fun c_39 => ?_)
                      · omega
                      · refine lv_iload_n hx hb dX2_isUnder_10 rfl (lv_at hl 1 rfl) ?_
                        refine callSI (rest := []) (wn := fun u => ([] : va_W)) ⟨hx, hb, hml, hown, hts⟩ (c_X2_isOne l G H.size (-1)) (va_cwS 1 hts gX2_isUnder_X2_isOne rfl rfl rfl (by decide +kernel) ⟨Nat.le_of_ble_eq_true rfl, Nat.le_of_ble_eq_true rfl⟩) noXB (fun _ _ _ => trivial) hK hP hD hS hAq rfl hl.1 rfl (Nat.le_of_ble_eq_true rfl) dX2_isUnder_11 ⟨Nat.le_of_ble_eq_true rfl, Nat.le_of_ble_eq_true rfl⟩ [] rfl rfl [] rfl (fun _ => rfl) (fun _ => rfl) (fun u H locs hok hP hD hS => ?_)
                        refine z_if_eq hx hb (tgt := 36) dX2_isUnder_14 (by decide) (fun c_40 => ?_) (fun c_40 => ?_)
                        · refine lv_iconst (v := nI 0) hx hb dX2_isUnder_36 rfl ?_
                          exact fin_z (ty := .boolean) (by decide) hx hb hr hlk hS hP hD () trivial (zI_f (by omega)).symm (eqW.rf _) dX2_isUnder_37
                        · exact absurd c_40 (by decide)
                    · refine lv_iconst (v := nI 1) hx hb dX2_isUnder_22 rfl ?_
                      exact fin_z (ty := .boolean) (by decide) hx hb hr hlk hS hP hD () trivial (zI_t (by omega)).symm (eqW.rf _) dX2_isUnder_23
              · refine lv_iconst (v := nI 1) hx hb dX2_isUnder_22 rfl ?_
                exact fin_z (ty := .boolean) (by decide) hx hb hr hlk hS hP hD () trivial (zI_t (by omega)).symm (eqW.rf _) dX2_isUnder_23
        · refine lv_iconst (v := nI 1) hx hb dX2_isUnder_22 rfl ?_
          exact fin_z (ty := .boolean) (by decide) hx hb hr hlk hS hP hD () trivial (zI_t (by omega)).symm (eqW.rf _) dX2_isUnder_23
  · refine lv_iload_n hx hb dX2_isUnder_0 rfl (lv_at hl 0 rfl) ?_
    refine lv_istore_n (lv' := [(2, .int (nI 5)), (0, .int (nI 5)), (1, .int (nI j))]) hx hb dX2_isUnder_1 rfl hl (by decide) rfl (fun ls hl => ?_)
    refine lv_iconst (v := nI 0) hx hb dX2_isUnder_2 rfl ?_
    refine lv_istore_n (lv' := [(3, .int (nI 0)), (2, .int (nI 5)), (0, .int (nI 5)), (1, .int (nI j))]) hx hb dX2_isUnder_3 rfl hl (by decide) rfl (fun ls hl => ?_)
    refine lv_iload_n hx hb dX2_isUnder_4 rfl (lv_at hl 0 rfl) ?_
    refine lv_bipush (v := nI 6) hx hb dX2_isUnder_5 rfl ?_
    refine n_icmp_ge hx hb (by omega) (by omega) (tgt := 36) dX2_isUnder_7 (by decide) (fun c_41 => ?_) (fun c_41 => ?_)
    · omega
    · refine lv_iload_n hx hb dX2_isUnder_10 rfl (lv_at hl 1 rfl) ?_
      refine callSI (rest := []) (wn := fun u => ([] : va_W)) ⟨hx, hb, hml, hown, hts⟩ (c_X2_isOne l G H.size (nI 5)) (va_cwS 1 hts gX2_isUnder_X2_isOne rfl rfl rfl (by decide +kernel) ⟨Nat.le_of_ble_eq_true rfl, Nat.le_of_ble_eq_true rfl⟩) noXB (fun _ _ _ => trivial) hK hP hD hS hAq rfl hl.1 rfl (Nat.le_of_ble_eq_true rfl) dX2_isUnder_11 ⟨Nat.le_of_ble_eq_true rfl, Nat.le_of_ble_eq_true rfl⟩ [] rfl rfl [] rfl (fun _ => rfl) (fun _ => rfl) (fun u H locs hok hP hD hS => ?_)
      refine z_if_eq hx hb (tgt := 36) dX2_isUnder_14 (by decide) (fun c_42 => ?_) (fun c_42 => ?_)
      · exact absurd (by decide) c_42
      · refine lv_iload_n hx hb dX2_isUnder_17 rfl (lv_at hl 1 rfl) ?_
        refine lv_iload_n hx hb dX2_isUnder_18 rfl (lv_at hl 3 rfl) ?_
        refine n_icmp_ne hx hb (by omega) (by omega) (tgt := 24) dX2_isUnder_19 (by decide) (fun c_43 => ?_) (fun c_43 => ?_)
        · refine va_gets hx hb hX.1 hS hown (hts _ (List.mem_of_getElem? (i := 1) rfl)) (fun _ h => h) dX2_isUnder_24 ?_
          refine lv_iload_n hx hb dX2_isUnder_27 rfl (lv_at hl 1 rfl) ?_
          refine va_ti hx hb hX.2 hS (N := 6) (vp_in_iff.mpr (by rw [nI_T (by decide)]; omega)) (v := .int (nI 2)) rfl dX2_isUnder_28 ?_
          refine lv_istore_n (lv' := [(2, .int (nI 2)), (3, .int (nI 0)), (0, .int (nI 5)), (1, .int (nI j))]) hx hb dX2_isUnder_29 rfl hl (by decide) rfl (fun ls hl => ?_)
          refine n_iinc (lv' := [(3, .int (nI 1)), (2, .int (nI 2)), (0, .int (nI 5)), (1, .int (nI j))]) hx hb dX2_isUnder_30 hl (k := 1) rfl (by decide) rfl (fun ls hl => ?_)
          refine lv_goto (tgt := 4) hx hb dX2_isUnder_33 (by decide) ?_
          refine lv_iload_n hx hb dX2_isUnder_4 rfl (lv_at hl 0 rfl) ?_
          refine lv_bipush (v := nI 6) hx hb dX2_isUnder_5 rfl ?_
          refine n_icmp_ge hx hb (by omega) (by omega) (tgt := 36) dX2_isUnder_7 (by decide) (fun c_44 => ?_) (fun c_44 => ?_)
          · omega
          · refine lv_iload_n hx hb dX2_isUnder_10 rfl (lv_at hl 1 rfl) ?_
            refine callSI (rest := []) (wn := fun u => ([] : va_W)) ⟨hx, hb, hml, hown, hts⟩ (c_X2_isOne l G H.size (nI 2)) (va_cwS 1 hts gX2_isUnder_X2_isOne rfl rfl rfl (by decide +kernel) ⟨Nat.le_of_ble_eq_true rfl, Nat.le_of_ble_eq_true rfl⟩) noXB (fun _ _ _ => trivial) hK hP hD hS hAq rfl hl.1 rfl (Nat.le_of_ble_eq_true rfl) dX2_isUnder_11 ⟨Nat.le_of_ble_eq_true rfl, Nat.le_of_ble_eq_true rfl⟩ [] rfl rfl [] rfl (fun _ => rfl) (fun _ => rfl) (fun u H locs hok hP hD hS => ?_)
            refine z_if_eq hx hb (tgt := 36) dX2_isUnder_14 (by decide) (fun c_45 => ?_) (fun c_45 => ?_)
            · exact absurd (by decide) c_45
            · refine lv_iload_n hx hb dX2_isUnder_17 rfl (lv_at hl 1 rfl) ?_
              refine lv_iload_n hx hb dX2_isUnder_18 rfl (lv_at hl 3 rfl) ?_
              refine n_icmp_ne hx hb (by omega) (by omega) (tgt := 24) dX2_isUnder_19 (by decide) (fun c_46 => ?_) (fun c_46 => ?_)
              · refine va_gets hx hb hX.1 hS hown (hts _ (List.mem_of_getElem? (i := 1) rfl)) (fun _ h => h) dX2_isUnder_24 ?_
                refine lv_iload_n hx hb dX2_isUnder_27 rfl (lv_at hl 1 rfl) ?_
                refine va_ti hx hb hX.2 hS (N := 6) (vp_in_iff.mpr (by rw [nI_T (by decide)]; omega)) (v := .int (nI 0)) rfl dX2_isUnder_28 ?_
                refine lv_istore_n (lv' := [(2, .int (nI 0)), (3, .int (nI 1)), (0, .int (nI 5)), (1, .int (nI j))]) hx hb dX2_isUnder_29 rfl hl (by decide) rfl (fun ls hl => ?_)
                refine n_iinc (lv' := [(3, .int (nI 2)), (2, .int (nI 0)), (0, .int (nI 5)), (1, .int (nI j))]) hx hb dX2_isUnder_30 hl (k := 1) rfl (by decide) rfl (fun ls hl => ?_)
                refine lv_goto (tgt := 4) hx hb dX2_isUnder_33 (by decide) ?_
                refine lv_iload_n hx hb dX2_isUnder_4 rfl (lv_at hl 0 rfl) ?_
                refine lv_bipush (v := nI 6) hx hb dX2_isUnder_5 rfl ?_
                refine n_icmp_ge hx hb (by omega) (by omega) (tgt := 36) dX2_isUnder_7 (by decide) (fun c_47 => ?_) (fun c_47 => ?_)
                · omega
                · refine lv_iload_n hx hb dX2_isUnder_10 rfl (lv_at hl 1 rfl) ?_
                  refine callSI (rest := []) (wn := fun u => ([] : va_W)) ⟨hx, hb, hml, hown, hts⟩ (c_X2_isOne l G H.size (nI 0)) (va_cwS 1 hts gX2_isUnder_X2_isOne rfl rfl rfl (by decide +kernel) ⟨Nat.le_of_ble_eq_true rfl, Nat.le_of_ble_eq_true rfl⟩) noXB (fun _ _ _ => trivial) hK hP hD hS hAq rfl hl.1 rfl (Nat.le_of_ble_eq_true rfl) dX2_isUnder_11 ⟨Nat.le_of_ble_eq_true rfl, Nat.le_of_ble_eq_true rfl⟩ [] rfl rfl [] rfl (fun _ => rfl) (fun _ => rfl) (fun u H locs hok hP hD hS => ?_)
                  refine z_if_eq hx hb (tgt := 36) dX2_isUnder_14 (by decide) (fun c_48 => ?_) (fun c_48 => ?_)
                  · exact absurd (by decide) c_48
                  · refine lv_iload_n hx hb dX2_isUnder_17 rfl (lv_at hl 1 rfl) ?_
                    refine lv_iload_n hx hb dX2_isUnder_18 rfl (lv_at hl 3 rfl) ?_
                    refine n_icmp_ne hx hb (by omega) (by omega) (tgt := 24) dX2_isUnder_19 (by decide) (fun c_49 => ?_) (fun c_49 => ?_)
                    · refine va_gets hx hb hX.1 hS hown (hts _ (List.mem_of_getElem? (i := 1) rfl)) (fun _ h => h) dX2_isUnder_24 ?_
                      refine lv_iload_n hx hb dX2_isUnder_27 rfl (lv_at hl 1 rfl) ?_
                      refine va_ti hx hb hX.2 hS (N := 6) (vp_in_iff.mpr (by rw [nI_T (by decide)]; omega)) (v := .int (-1)) rfl dX2_isUnder_28 ?_
                      refine lv_istore_n (lv' := [(2, .int (-1)), (3, .int (nI 2)), (0, .int (nI 5)), (1, .int (nI j))]) hx hb dX2_isUnder_29 rfl hl (by decide) rfl (fun ls hl => ?_)
                      refine n_iinc (lv' := [(3, .int (nI 3)), (2, .int (-1)), (0, .int (nI 5)), (1, .int (nI j))]) hx hb dX2_isUnder_30 hl (k := 1) rfl (by decide) rfl (fun ls hl => ?_)
                      refine lv_goto (tgt := 4) hx hb dX2_isUnder_33 (by decide) ?_
                      refine lv_iload_n hx hb dX2_isUnder_4 rfl (lv_at hl 0 rfl) ?_
                      refine lv_bipush (v := nI 6) hx hb dX2_isUnder_5 rfl ?_
                      refine n_icmp_ge hx hb (by omega) (by omega) (tgt := 36) dX2_isUnder_7 (by decide) (fun c_50 => ?_) (fun c_50 => ?_)
                      · omega
                      · refine lv_iload_n hx hb dX2_isUnder_10 rfl (lv_at hl 1 rfl) ?_
                        refine callSI (rest := []) (wn := fun u => ([] : va_W)) ⟨hx, hb, hml, hown, hts⟩ (c_X2_isOne l G H.size (-1)) (va_cwS 1 hts gX2_isUnder_X2_isOne rfl rfl rfl (by decide +kernel) ⟨Nat.le_of_ble_eq_true rfl, Nat.le_of_ble_eq_true rfl⟩) noXB (fun _ _ _ => trivial) hK hP hD hS hAq rfl hl.1 rfl (Nat.le_of_ble_eq_true rfl) dX2_isUnder_11 ⟨Nat.le_of_ble_eq_true rfl, Nat.le_of_ble_eq_true rfl⟩ [] rfl rfl [] rfl (fun _ => rfl) (fun _ => rfl) (fun u H locs hok hP hD hS => ?_)
                        refine z_if_eq hx hb (tgt := 36) dX2_isUnder_14 (by decide) (fun c_51 => ?_) (fun c_51 => ?_)
                        · refine lv_iconst (v := nI 0) hx hb dX2_isUnder_36 rfl ?_
                          exact fin_z (ty := .boolean) (by decide) hx hb hr hlk hS hP hD () trivial (zI_f (by omega)).symm (eqW.rf _) dX2_isUnder_37
                        · exact absurd c_51 (by decide)
                    · refine lv_iconst (v := nI 1) hx hb dX2_isUnder_22 rfl ?_
                      exact fin_z (ty := .boolean) (by decide) hx hb hr hlk hS hP hD () trivial (zI_t (by omega)).symm (eqW.rf _) dX2_isUnder_23
              · refine lv_iconst (v := nI 1) hx hb dX2_isUnder_22 rfl ?_
                exact fin_z (ty := .boolean) (by decide) hx hb hr hlk hS hP hD () trivial (zI_t (by omega)).symm (eqW.rf _) dX2_isUnder_23
        · refine lv_iconst (v := nI 1) hx hb dX2_isUnder_22 rfl ?_
          exact fin_z (ty := .boolean) (by decide) hx hb hr hlk hS hP hD () trivial (zI_t (by omega)).symm (eqW.rf _) dX2_isUnder_23
set_option maxHeartbeats 400000 in
set_option maxRecDepth 100000 in
theorem c_X5_as (l : Launch) (G : GT) (sz : Nat) (x hm kp tr : Nat → Nat) (hi : Nat) (tl : Nat → Int32) (σ : Sg) (t : Nat) (a0 a1 : Int32) (hI : Inv σ) : MI (S := Unit) l G (XZ t) yX5_as wsX5_as ({ frames := 2, cells := 0, slots := 0, locals := 43 } : Room) [.ref (x 0), .int a0, .int a1] (([xO x hm kp tr hi, (x 7, .inl (G.2.1, 7, .inl tl))] ++ (wH G hm σ))) sz (fun _ => True) (fun _ => rs (as_e σ a0.toInt a1.toInt) (nI (σ (pl a0.toInt.toNat 2)))) (fun _ => ([xO x hm kp tr hi, (x 7, .inl (G.2.1, 7, .inl (ts tl (as_e σ a0.toInt a1.toInt))))] ++ (wH G hm σ))) := by
  refine MI_enter (cc := cX5_as) (maxL := 3) (ret := (some .int)) (by decide) rfl (Nat.le_of_ble_eq_true rfl) ?_
  intro p e s m below meth c A ls H hx hb hr hlk hml hown hts hAq hS hP hK hD hX hl hnm
  have hown : s.vm.findClass RX5 = some m.cls := hown
  have hl : lv_has ls 3 [(0, .ref (x 0)), (1, .int a0), (2, .int a1)] := hl
  obtain ⟨⟨i1, i2, i3, i4, i5⟩, ip⟩ := id hI
  refine lv_aload_n hx hb dX5_as_0 rfl (lv_at hl 0 rfl) ?_
  refine n_get (C := RX5) (T := TX5) (N := 7) hx hb hts (fun _ h => List.mem_cons_of_mem _ (List.mem_append_left _ (List.mem_append_right _ h))) hown hK hP 0 rfl rfl 0 (by decide) (List.mem_of_getElem? (i := 1) rfl) rfl (.ref (hm 0)) rfl dX5_as_1 ?_
  refine lv_iload_n hx hb dX5_as_4 rfl (lv_at hl 1 rfl) ?_
  refine callVI (rest := []) (wn := fun u => ([xO x hm kp tr hi, (x 7, .inl (G.2.1, 7, .inl tl))] ++ (wH G hm σ))) ⟨hx, hb, hml, hown, hts⟩ (c_X0_hasOne l G H.size hm σ a0 (by omega)) (cwV 1 hts gX5_as_X0_hasOne rfl rfl rfl (by decide +kernel) ⟨Nat.le_of_ble_eq_true rfl, Nat.le_of_ble_eq_true rfl⟩) noXB (fun _ _ _ => trivial) hK hP hD hS hAq 0 0 (T := TX0) (N := 11) rfl rfl rfl hl.1 rfl (Nat.le_of_ble_eq_true rfl) dX5_as_5 ⟨Nat.le_of_ble_eq_true rfl, Nat.le_of_ble_eq_true rfl⟩ [2, 3, 4, 5, 6, 7] rfl rfl [hm 0, hm 1, hm 2, hm 3, hm 4, hm 5] rfl (fun _ => rfl) (fun _ => rfl) (fun u H locs hok hP hD hS => ?_)
  refine z_if_eq hx hb (tgt := 18) dX5_as_8 (by decide) (fun c_1 => ?_) (fun c_1 => ?_)
  · refine lv_aload_n hx hb dX5_as_18 rfl (lv_at hl 0 rfl) ?_
    refine lv_iconst (v := nI 0) hx hb dX5_as_19 rfl ?_
    refine callVI (rest := []) (wn := fun u => ([xO x hm kp tr hi, (x 7, .inl (G.2.1, 7, .inl (tk tl 0)))] ++ (wH G hm σ))) ⟨hx, hb, hml, hown, hts⟩ (c_X5_tell l G H.size x hm kp tr hi tl 0 (by omega)) (cwV 1 hts gX5_as_X5_tell rfl rfl rfl (by decide +kernel) ⟨Nat.le_of_ble_eq_true rfl, Nat.le_of_ble_eq_true rfl⟩) noXB (fun _ _ _ => trivial) hK hP hD hS hAq 4 0 (T := TX5) (N := 7) rfl rfl rfl hl.1 rfl (Nat.le_of_ble_eq_true rfl) dX5_as_20 ⟨Nat.le_of_ble_eq_true rfl, Nat.le_of_ble_eq_true rfl⟩ [0, 1] rfl rfl [x 0, x 7] rfl (fun _ => rfl) (fun _ => rfl) (fun u H locs hok hP hD hS => ?_)
    have he : as_e σ a0.toInt a1.toInt = 0 := by unfold as_e; (try simp only [Int.toNat_natCast]); (repeat' split) <;> omega
    exact fin_i hx hb hr hlk hS hP hD () trivial (by rw [he]; first | done | ((try simp only [Int.toNat_natCast]); first | done | rfl)) (by rw [he]; (try simp only [Int.toNat_natCast]); exact eqW.rf _) dX5_as_23
  · obtain ⟨k0, hk0, rfl⟩ := nI_of_rg (n := 7) (x := a0) ⟨by omega, by omega⟩
    have hT0 := nI_T (a := k0) (by omega)
    have hp0 : k0 < σ 5 := by omega
    obtain ⟨q00, q01, q02, q03, q04⟩ := ip k0 (by omega)
    refine lv_iload_n hx hb dX5_as_11 rfl (lv_at hl 2 rfl) ?_
    refine callSI (rest := []) (wn := fun u => ([xO x hm kp tr hi, (x 7, .inl (G.2.1, 7, .inl tl))] ++ (wH G hm σ))) ⟨hx, hb, hml, hown, hts⟩ (c_X2_isOne l G H.size a1) (va_cwS 1 hts gX5_as_X2_isOne rfl rfl rfl (by decide +kernel) ⟨Nat.le_of_ble_eq_true rfl, Nat.le_of_ble_eq_true rfl⟩) noXB (fun _ _ _ => trivial) hK hP hD hS hAq rfl hl.1 rfl (Nat.le_of_ble_eq_true rfl) dX5_as_12 ⟨Nat.le_of_ble_eq_true rfl, Nat.le_of_ble_eq_true rfl⟩ [] rfl rfl [] rfl (fun _ => rfl) (fun _ => rfl) (fun u H locs hok hP hD hS => ?_)
    refine z_if_ne hx hb (tgt := 24) dX5_as_15 (by decide) (fun c_2 => ?_) (fun c_2 => ?_)
    · obtain ⟨w1, hw1, rfl⟩ := nI_of_rg (n := 5) (x := a1) ⟨by omega, by omega⟩
      have hT1 := nI_T (a := w1) (by omega)
      refine lv_aload_n hx hb dX5_as_24 rfl (lv_at hl 0 rfl) ?_
      refine n_get (C := RX5) (T := TX5) (N := 7) hx hb hts (fun _ h => List.mem_cons_of_mem _ (List.mem_append_left _ (List.mem_append_right _ h))) hown hK hP 0 rfl rfl 0 (by decide) (List.mem_of_getElem? (i := 1) rfl) rfl (.ref (hm 0)) rfl dX5_as_25 ?_
      refine n_get (C := RX0) (T := TX0) (N := 11) hx hb hts (fun _ h => List.mem_cons_of_mem _ (List.mem_append_right _ h)) hown hK hP 2 rfl rfl 6 (by decide) (List.mem_of_getElem? (i := 2) rfl) rfl (.ref (hm 1)) rfl dX5_as_28 ?_
      refine lv_iload_n hx hb dX5_as_31 rfl (lv_at hl 1 rfl) ?_
      refine n_iald hx hb hK hP 3 (v := (nI (σ (pl k0 0)))) rfl (by omega) (by omega) rfl dX5_as_32 ?_
      refine lv_iload_n hx hb dX5_as_33 rfl (lv_at hl 2 rfl) ?_
      refine callSI (rest := []) (wn := fun u => ([xO x hm kp tr hi, (x 7, .inl (G.2.1, 7, .inl tl))] ++ (wH G hm σ))) ⟨hx, hb, hml, hown, hts⟩ (c_X2_isUnder l G H.size t (σ (pl k0 0)) w1 (by omega) (by omega)) (va_cwS 2 hts gX5_as_X2_isUnder rfl rfl rfl (by decide +kernel) ⟨Nat.le_of_ble_eq_true rfl, Nat.le_of_ble_eq_true rfl⟩) XZB (XZ_at hX hS hD hAq [] rfl) hK hP hD hS hAq rfl hl.1 rfl (Nat.le_of_ble_eq_true rfl) dX5_as_34 ⟨Nat.le_of_ble_eq_true rfl, Nat.le_of_ble_eq_true rfl⟩ [] rfl rfl [] rfl (fun _ => rfl) (fun _ => rfl) (fun u H locs hok hP hD hS => ?_)
      refine z_if_ne hx hb (tgt := 46) dX5_as_37 (by decide) (fun c_3 => ?_) (fun c_3 => ?_)
      · refine lv_aload_n hx hb dX5_as_46 rfl (lv_at hl 0 rfl) ?_
        refine n_get (C := RX5) (T := TX5) (N := 7) hx hb hts (fun _ h => List.mem_cons_of_mem _ (List.mem_append_left _ (List.mem_append_right _ h))) hown hK hP 0 rfl rfl 0 (by decide) (List.mem_of_getElem? (i := 1) rfl) rfl (.ref (hm 0)) rfl dX5_as_47 ?_
        refine n_get (C := RX0) (T := TX0) (N := 11) hx hb hts (fun _ h => List.mem_cons_of_mem _ (List.mem_append_right _ h)) hown hK hP 2 rfl rfl 8 (by decide) (List.mem_of_getElem? (i := 3) rfl) rfl (.ref (hm 3)) rfl dX5_as_50 ?_
        refine lv_iload_n hx hb dX5_as_53 rfl (lv_at hl 1 rfl) ?_
        refine n_iald hx hb hK hP 5 (v := (nI (σ (pl k0 2)))) rfl (by omega) (by omega) rfl dX5_as_54 ?_
        have he : as_e σ (nI k0).toInt (nI w1).toInt = 7 := by unfold as_e; (try simp only [hT0, hT1, Int.toNat_natCast]); (repeat' split) <;> omega
        exact fin_i hx hb hr hlk hS hP hD () trivial (by rw [he]; first | done | ((try simp only [hT0, hT1, Int.toNat_natCast]); first | done | rfl)) (by rw [he]; (try simp only [hT0, hT1, Int.toNat_natCast]); exact eqW.rf _) dX5_as_55
      · refine lv_aload_n hx hb dX5_as_40 rfl (lv_at hl 0 rfl) ?_
        refine lv_iconst (v := nI 2) hx hb dX5_as_41 rfl ?_
        refine callVI (rest := []) (wn := fun u => ([xO x hm kp tr hi, (x 7, .inl (G.2.1, 7, .inl (tk tl 2)))] ++ (wH G hm σ))) ⟨hx, hb, hml, hown, hts⟩ (c_X5_tell l G H.size x hm kp tr hi tl 2 (by omega)) (cwV 1 hts gX5_as_X5_tell rfl rfl rfl (by decide +kernel) ⟨Nat.le_of_ble_eq_true rfl, Nat.le_of_ble_eq_true rfl⟩) noXB (fun _ _ _ => trivial) hK hP hD hS hAq 4 0 (T := TX5) (N := 7) rfl rfl rfl hl.1 rfl (Nat.le_of_ble_eq_true rfl) dX5_as_42 ⟨Nat.le_of_ble_eq_true rfl, Nat.le_of_ble_eq_true rfl⟩ [0, 1] rfl rfl [x 0, x 7] rfl (fun _ => rfl) (fun _ => rfl) (fun u H locs hok hP hD hS => ?_)
        have he : as_e σ (nI k0).toInt (nI w1).toInt = 2 := by unfold as_e; (try simp only [hT0, hT1, Int.toNat_natCast]); (repeat' split) <;> omega
        exact fin_i hx hb hr hlk hS hP hD () trivial (by rw [he]; first | done | ((try simp only [hT0, hT1, Int.toNat_natCast]); first | done | rfl)) (by rw [he]; (try simp only [hT0, hT1, Int.toNat_natCast]); exact eqW.rf _) dX5_as_45
    · refine lv_aload_n hx hb dX5_as_18 rfl (lv_at hl 0 rfl) ?_
      refine lv_iconst (v := nI 0) hx hb dX5_as_19 rfl ?_
      refine callVI (rest := []) (wn := fun u => ([xO x hm kp tr hi, (x 7, .inl (G.2.1, 7, .inl (tk tl 0)))] ++ (wH G hm σ))) ⟨hx, hb, hml, hown, hts⟩ (c_X5_tell l G H.size x hm kp tr hi tl 0 (by omega)) (cwV 1 hts gX5_as_X5_tell rfl rfl rfl (by decide +kernel) ⟨Nat.le_of_ble_eq_true rfl, Nat.le_of_ble_eq_true rfl⟩) noXB (fun _ _ _ => trivial) hK hP hD hS hAq 4 0 (T := TX5) (N := 7) rfl rfl rfl hl.1 rfl (Nat.le_of_ble_eq_true rfl) dX5_as_20 ⟨Nat.le_of_ble_eq_true rfl, Nat.le_of_ble_eq_true rfl⟩ [0, 1] rfl rfl [x 0, x 7] rfl (fun _ => rfl) (fun _ => rfl) (fun u H locs hok hP hD hS => ?_)
      have he : as_e σ (nI k0).toInt a1.toInt = 0 := by unfold as_e; (try simp only [hT0, Int.toNat_natCast]); (repeat' split) <;> omega
      exact fin_i hx hb hr hlk hS hP hD () trivial (by rw [he]; first | done | ((try simp only [hT0, Int.toNat_natCast]); first | done | rfl)) (by rw [he]; (try simp only [hT0, Int.toNat_natCast]); exact eqW.rf _) dX5_as_23
set_option maxHeartbeats 400000 in
set_option maxRecDepth 100000 in
theorem c_X6_as (l : Launch) (G : GT) (sz : Nat) (b : Nat → Nat) (ζ : Nat → Nat) (vv : Int64) (tl : Nat → Int32) (σ : Sg) (a0 a1 : Int32) (hI : Inv σ) : MI (S := Unit) l G noX yX6_as wsX6_as ({ frames := 2, cells := 0, slots := 0, locals := 43 } : Room) [.ref (b 0), .int a0, .int a1] ([mO b ζ vv, (b 4, .inl (G.2.1, 7, .inl tl)), (b 1, .inl (G.2.1, 46, .inl (nF σ)))]) sz (fun _ => True) (fun _ => rs (as_e σ a0.toInt a1.toInt) (nI (σ (pl a0.toInt.toNat 2)))) (fun _ => [mO b ζ vv, (b 4, .inl (G.2.1, 7, .inl (ts tl (as_e σ a0.toInt a1.toInt)))), (b 1, .inl (G.2.1, 46, .inl (nF σ)))]) := by
  refine MI_enter (cc := cX6_as) (maxL := 4) (ret := (some .int)) (by decide) rfl (Nat.le_of_ble_eq_true rfl) ?_
  intro p e s m below meth c A ls H hx hb hr hlk hml hown hts hAq hS hP hK hD hX hl hnm
  have hown : s.vm.findClass RX6 = some m.cls := hown
  have hl : lv_has ls 4 [(0, .ref (b 0)), (1, .int a0), (2, .int a1)] := hl
  obtain ⟨⟨i1, i2, i3, i4, i5⟩, ip⟩ := id hI
  refine lv_aload_n hx hb dX6_as_0 rfl (lv_at hl 0 rfl) ?_
  refine lv_iload_n hx hb dX6_as_1 rfl (lv_at hl 1 rfl) ?_
  refine callVI (rest := []) (wn := fun u => [mO b ζ vv, (b 4, .inl (G.2.1, 7, .inl tl)), (b 1, .inl (G.2.1, 46, .inl (nF σ)))]) ⟨hx, hb, hml, hown, hts⟩ (c_X6_isPerson l G H.size b ζ vv σ a0 (by omega)) (cwV 1 hts gX6_as_X6_isPerson rfl rfl rfl (by decide +kernel) ⟨Nat.le_of_ble_eq_true rfl, Nat.le_of_ble_eq_true rfl⟩) noXB (fun _ _ _ => trivial) hK hP hD hS hAq 5 0 (T := TX6) (N := 18) rfl rfl rfl hl.1 rfl (Nat.le_of_ble_eq_true rfl) dX6_as_2 ⟨Nat.le_of_ble_eq_true rfl, Nat.le_of_ble_eq_true rfl⟩ [0, 2] rfl rfl [b 0, b 1] rfl (fun _ => rfl) (fun _ => rfl) (fun u H locs hok hP hD hS => ?_)
  refine z_if_eq hx hb (tgt := 17) dX6_as_5 (by decide) (fun c_1 => ?_) (fun c_1 => ?_)
  · refine lv_aload_n hx hb dX6_as_17 rfl (lv_at hl 0 rfl) ?_
    refine lv_iconst (v := nI 0) hx hb dX6_as_18 rfl ?_
    refine callVI (rest := []) (wn := fun u => [mO b ζ vv, (b 4, .inl (G.2.1, 7, .inl (tk tl 0))), (b 1, .inl (G.2.1, 46, .inl (nF σ)))]) ⟨hx, hb, hml, hown, hts⟩ (c_X6_no l G H.size b ζ vv tl 0 (by omega)) (cwV 1 hts gX6_as_X6_no rfl rfl rfl (by decide +kernel) ⟨Nat.le_of_ble_eq_true rfl, Nat.le_of_ble_eq_true rfl⟩) noXB (fun _ _ _ => trivial) hK hP hD hS hAq 5 0 (T := TX6) (N := 18) rfl rfl rfl hl.1 rfl (Nat.le_of_ble_eq_true rfl) dX6_as_19 ⟨Nat.le_of_ble_eq_true rfl, Nat.le_of_ble_eq_true rfl⟩ [0, 1] rfl rfl [b 0, b 4] rfl (fun _ => rfl) (fun _ => rfl) (fun u H locs hok hP hD hS => ?_)
    have he : as_e σ a0.toInt a1.toInt = 0 := by unfold as_e; (try simp only [Int.toNat_natCast]); (repeat' split) <;> omega
    exact fin_i hx hb hr hlk hS hP hD () trivial (by rw [he]; first | done | ((try simp only [Int.toNat_natCast]); first | done | rfl)) (by rw [he]; (try simp only [Int.toNat_natCast]); exact eqW.rf _) dX6_as_22
  · obtain ⟨k0, hk0, rfl⟩ := nI_of_rg (n := 7) (x := a0) ⟨by omega, by omega⟩
    have hT0 := nI_T (a := k0) (by omega)
    have hp0 : k0 < σ 5 := by omega
    obtain ⟨q00, q01, q02, q03, q04⟩ := ip k0 (by omega)
    refine lv_iload_n hx hb dX6_as_8 rfl (lv_at hl 2 rfl) ?_
    refine lv_iconst (v := nI 0) hx hb dX6_as_9 rfl ?_
    refine lv_iconst (v := nI 5) hx hb dX6_as_10 rfl ?_
    refine callSI (rest := []) (wn := fun u => [mO b ζ vv, (b 4, .inl (G.2.1, 7, .inl tl)), (b 1, .inl (G.2.1, 46, .inl (nF σ)))]) ⟨hx, hb, hml, hown, hts⟩ (c_X6_in1 l G H.size a1 (nI 0) (nI 5)) (va_cwS 3 hts gX6_as_X6_in1 rfl rfl rfl (by decide +kernel) ⟨Nat.le_of_ble_eq_true rfl, Nat.le_of_ble_eq_true rfl⟩) noXB (fun _ _ _ => trivial) hK hP hD hS hAq rfl hl.1 rfl (Nat.le_of_ble_eq_true rfl) dX6_as_11 ⟨Nat.le_of_ble_eq_true rfl, Nat.le_of_ble_eq_true rfl⟩ [] rfl rfl [] rfl (fun _ => rfl) (fun _ => rfl) (fun u H locs hok hP hD hS => ?_)
    refine n_top (y := zI ((0 : Int) ≤ a1.toInt ∧ a1.toInt ≤ 5)) (zI_c (by rw [nI_T (show 0 < 2147483648 by decide), nI_T (show 5 < 2147483648 by decide)]; exact Iff.rfl)) ?_
    refine z_if_ne hx hb (tgt := 23) dX6_as_14 (by decide) (fun c_2 => ?_) (fun c_2 => ?_)
    · obtain ⟨w1, hw1, rfl⟩ := nI_of_rg (n := 5) (x := a1) ⟨by omega, by omega⟩
      have hT1 := nI_T (a := w1) (by omega)
      refine lv_aload_n hx hb dX6_as_23 rfl (lv_at hl 0 rfl) ?_
      refine lv_iload_n hx hb dX6_as_24 rfl (lv_at hl 1 rfl) ?_
      refine lv_iconst (v := nI 0) hx hb dX6_as_25 rfl ?_
      refine callVI (rest := []) (wn := fun u => [mO b ζ vv, (b 4, .inl (G.2.1, 7, .inl tl)), (b 1, .inl (G.2.1, 46, .inl (nF σ)))]) ⟨hx, hb, hml, hown, hts⟩ (c_X6_get l G H.size b ζ vv σ k0 0 (by omega) (by omega)) (cwV 2 hts gX6_as_X6_get rfl rfl rfl (by decide +kernel) ⟨Nat.le_of_ble_eq_true rfl, Nat.le_of_ble_eq_true rfl⟩) noXB (fun _ _ _ => trivial) hK hP hD hS hAq 5 0 (T := TX6) (N := 18) rfl rfl rfl hl.1 rfl (Nat.le_of_ble_eq_true rfl) dX6_as_26 ⟨Nat.le_of_ble_eq_true rfl, Nat.le_of_ble_eq_true rfl⟩ [0, 2] rfl rfl [b 0, b 1] rfl (fun _ => rfl) (fun _ => rfl) (fun u H locs hok hP hD hS => ?_)
      refine lv_istore_n (lv' := [(3, .int (nI (σ (pl k0 0)))), (0, .ref (b 0)), (1, .int (nI k0)), (2, .int (nI w1))]) hx hb dX6_as_29 rfl hl (by decide) rfl (fun ls hl => ?_)
      refine lv_iload_n hx hb dX6_as_30 rfl (lv_at hl 0 rfl) ?_
      refine lv_iload_n hx hb dX6_as_31 rfl (lv_at hl 3 rfl) ?_
      refine n_icmp_eq hx hb (by omega) (by omega) (tgt := 62) dX6_as_32 (by decide) (fun c_3 => ?_) (fun c_3 => ?_)
      · refine lv_iload_n hx hb dX6_as_62 rfl (lv_at hl 0 rfl) ?_
        refine lv_iload_n hx hb dX6_as_63 rfl (lv_at hl 3 rfl) ?_
        refine n_icmp_ne hx hb (by omega) (by omega) (tgt := 76) dX6_as_64 (by decide) (fun c_4 => ?_) (fun c_4 => ?_)
        · refine lv_aload_n hx hb dX6_as_76 rfl (lv_at hl 1 rfl) ?_
          refine lv_iconst (v := nI 2) hx hb dX6_as_77 rfl ?_
          refine callVI (rest := []) (wn := fun u => [mO b ζ vv, (b 4, .inl (G.2.1, 7, .inl (tk tl 2))), (b 1, .inl (G.2.1, 46, .inl (nF σ)))]) ⟨hx, hb, hml, hown, hts⟩ (c_X6_no l G H.size b ζ vv tl 2 (by omega)) (cwV 1 hts gX6_as_X6_no rfl rfl rfl (by decide +kernel) ⟨Nat.le_of_ble_eq_true rfl, Nat.le_of_ble_eq_true rfl⟩) noXB (fun _ _ _ => trivial) hK hP hD hS hAq 5 0 (T := TX6) (N := 18) rfl rfl rfl hl.1 rfl (Nat.le_of_ble_eq_true rfl) dX6_as_78 ⟨Nat.le_of_ble_eq_true rfl, Nat.le_of_ble_eq_true rfl⟩ [0, 1] rfl rfl [b 0, b 4] rfl (fun _ => rfl) (fun _ => rfl) (fun u H locs hok hP hD hS => ?_)
          have he : as_e σ (nI k0).toInt (nI w1).toInt = 2 := by unfold as_e; (try simp only [hT0, hT1, Int.toNat_natCast]); (repeat' split) <;> omega
          exact fin_i hx hb hr hlk hS hP hD () trivial (by rw [he]; first | done | ((try simp only [hT0, hT1, Int.toNat_natCast]); first | done | rfl)) (by rw [he]; (try simp only [hT0, hT1, Int.toNat_natCast]); exact eqW.rf _) dX6_as_81
        · refine lv_aload_n hx hb dX6_as_67 rfl (lv_at hl 1 rfl) ?_
          refine lv_iload_n hx hb dX6_as_68 rfl (lv_at hl 2 rfl) ?_
          refine lv_iconst (v := nI 2) hx hb dX6_as_69 rfl ?_
          refine callVI (rest := []) (wn := fun u => [mO b ζ vv, (b 4, .inl (G.2.1, 7, .inl tl)), (b 1, .inl (G.2.1, 46, .inl (nF σ)))]) ⟨hx, hb, hml, hown, hts⟩ (c_X6_get l G H.size b ζ vv σ k0 2 (by omega) (by omega)) (cwV 2 hts gX6_as_X6_get rfl rfl rfl (by decide +kernel) ⟨Nat.le_of_ble_eq_true rfl, Nat.le_of_ble_eq_true rfl⟩) noXB (fun _ _ _ => trivial) hK hP hD hS hAq 5 0 (T := TX6) (N := 18) rfl rfl rfl hl.1 rfl (Nat.le_of_ble_eq_true rfl) dX6_as_70 ⟨Nat.le_of_ble_eq_true rfl, Nat.le_of_ble_eq_true rfl⟩ [0, 2] rfl rfl [b 0, b 1] rfl (fun _ => rfl) (fun _ => rfl) (fun u H locs hok hP hD hS => ?_)
          refine lv_goto (tgt := 81) hx hb dX6_as_73 (by decide) ?_
          have he : as_e σ (nI k0).toInt (nI w1).toInt = 7 := by unfold as_e; (try simp only [hT0, hT1, Int.toNat_natCast]); (repeat' split) <;> omega
          exact fin_i hx hb hr hlk hS hP hD () trivial (by rw [he]; first | done | ((try simp only [hT0, hT1, Int.toNat_natCast]); first | done | rfl)) (by rw [he]; (try simp only [hT0, hT1, Int.toNat_natCast]); exact eqW.rf _) dX6_as_81
      · refine lv_iload_n hx hb dX6_as_35 rfl (lv_at hl 0 rfl) ?_
        refine n_if_eq hx hb (by omega) (tgt := 62) dX6_as_36 (by decide) (fun c_5 => ?_) (fun c_5 => ?_)
        · refine lv_iload_n hx hb dX6_as_62 rfl (lv_at hl 0 rfl) ?_
          refine lv_iload_n hx hb dX6_as_63 rfl (lv_at hl 3 rfl) ?_
          refine n_icmp_ne hx hb (by omega) (by omega) (tgt := 76) dX6_as_64 (by decide) (fun c_6 => ?_) (fun c_6 => ?_)
          · refine lv_aload_n hx hb dX6_as_76 rfl (lv_at hl 1 rfl) ?_
            refine lv_iconst (v := nI 2) hx hb dX6_as_77 rfl ?_
            refine callVI (rest := []) (wn := fun u => [mO b ζ vv, (b 4, .inl (G.2.1, 7, .inl (tk tl 2))), (b 1, .inl (G.2.1, 46, .inl (nF σ)))]) ⟨hx, hb, hml, hown, hts⟩ (c_X6_no l G H.size b ζ vv tl 2 (by omega)) (cwV 1 hts gX6_as_X6_no rfl rfl rfl (by decide +kernel) ⟨Nat.le_of_ble_eq_true rfl, Nat.le_of_ble_eq_true rfl⟩) noXB (fun _ _ _ => trivial) hK hP hD hS hAq 5 0 (T := TX6) (N := 18) rfl rfl rfl hl.1 rfl (Nat.le_of_ble_eq_true rfl) dX6_as_78 ⟨Nat.le_of_ble_eq_true rfl, Nat.le_of_ble_eq_true rfl⟩ [0, 1] rfl rfl [b 0, b 4] rfl (fun _ => rfl) (fun _ => rfl) (fun u H locs hok hP hD hS => ?_)
            have he : as_e σ (nI k0).toInt (nI w1).toInt = 2 := by unfold as_e; (try simp only [hT0, hT1, Int.toNat_natCast]); (repeat' split) <;> omega
            exact fin_i hx hb hr hlk hS hP hD () trivial (by rw [he]; first | done | ((try simp only [hT0, hT1, Int.toNat_natCast]); first | done | rfl)) (by rw [he]; (try simp only [hT0, hT1, Int.toNat_natCast]); exact eqW.rf _) dX6_as_81
          · refine lv_aload_n hx hb dX6_as_67 rfl (lv_at hl 1 rfl) ?_
            refine lv_iload_n hx hb dX6_as_68 rfl (lv_at hl 2 rfl) ?_
            refine lv_iconst (v := nI 2) hx hb dX6_as_69 rfl ?_
            refine callVI (rest := []) (wn := fun u => [mO b ζ vv, (b 4, .inl (G.2.1, 7, .inl tl)), (b 1, .inl (G.2.1, 46, .inl (nF σ)))]) ⟨hx, hb, hml, hown, hts⟩ (c_X6_get l G H.size b ζ vv σ k0 2 (by omega) (by omega)) (cwV 2 hts gX6_as_X6_get rfl rfl rfl (by decide +kernel) ⟨Nat.le_of_ble_eq_true rfl, Nat.le_of_ble_eq_true rfl⟩) noXB (fun _ _ _ => trivial) hK hP hD hS hAq 5 0 (T := TX6) (N := 18) rfl rfl rfl hl.1 rfl (Nat.le_of_ble_eq_true rfl) dX6_as_70 ⟨Nat.le_of_ble_eq_true rfl, Nat.le_of_ble_eq_true rfl⟩ [0, 2] rfl rfl [b 0, b 1] rfl (fun _ => rfl) (fun _ => rfl) (fun u H locs hok hP hD hS => ?_)
            refine lv_goto (tgt := 81) hx hb dX6_as_73 (by decide) ?_
            have he : as_e σ (nI k0).toInt (nI w1).toInt = 7 := by unfold as_e; (try simp only [hT0, hT1, Int.toNat_natCast]); (repeat' split) <;> omega
            exact fin_i hx hb hr hlk hS hP hD () trivial (by rw [he]; first | done | ((try simp only [hT0, hT1, Int.toNat_natCast]); first | done | rfl)) (by rw [he]; (try simp only [hT0, hT1, Int.toNat_natCast]); exact eqW.rf _) dX6_as_81
        · refine lv_iload_n hx hb dX6_as_39 rfl (lv_at hl 0 rfl) ?_
          refine lv_iconst (v := nI 4) hx hb dX6_as_40 rfl ?_
          refine n_icmp_ne hx hb (by omega) (by omega) (tgt := 48) dX6_as_41 (by decide) (fun c_7 => ?_) (fun c_7 => ?_)
          · refine lv_iload_n hx hb dX6_as_48 rfl (lv_at hl 0 rfl) ?_
            refine lv_iconst (v := nI 5) hx hb dX6_as_49 rfl ?_
            refine n_icmp_ne hx hb (by omega) (by omega) (tgt := 57) dX6_as_50 (by decide) (fun c_8 => ?_) (fun c_8 => ?_)
            · refine lv_iconst (v := nI 0) hx hb dX6_as_57 rfl ?_
              refine lv_istore_n (lv' := [(3, .int (nI 0)), (0, .ref (b 0)), (1, .int (nI k0)), (2, .int (nI w1))]) hx hb dX6_as_58 rfl hl (by decide) rfl (fun ls hl => ?_)
              refine lv_goto (tgt := 30) hx hb dX6_as_59 (by decide) ?_
              refine lv_iload_n hx hb dX6_as_30 rfl (lv_at hl 0 rfl) ?_
              refine lv_iload_n hx hb dX6_as_31 rfl (lv_at hl 3 rfl) ?_
              refine n_icmp_eq hx hb (by omega) (by omega) (tgt := 62) dX6_as_32 (by decide) (fun c_9 => ?_) (fun c_9 => ?_)
              · refine lv_iload_n hx hb dX6_as_62 rfl (lv_at hl 0 rfl) ?_
                refine lv_iload_n hx hb dX6_as_63 rfl (lv_at hl 3 rfl) ?_
                refine n_icmp_ne hx hb (by omega) (by omega) (tgt := 76) dX6_as_64 (by decide) (fun c_10 => ?_) (fun c_10 => ?_)
                · refine lv_aload_n hx hb dX6_as_76 rfl (lv_at hl 1 rfl) ?_
                  refine lv_iconst (v := nI 2) hx hb dX6_as_77 rfl ?_
                  refine callVI (rest := []) (wn := fun u => [mO b ζ vv, (b 4, .inl (G.2.1, 7, .inl (tk tl 2))), (b 1, .inl (G.2.1, 46, .inl (nF σ)))]) ⟨hx, hb, hml, hown, hts⟩ (c_X6_no l G H.size b ζ vv tl 2 (by omega)) (cwV 1 hts gX6_as_X6_no rfl rfl rfl (by decide +kernel) ⟨Nat.le_of_ble_eq_true rfl, Nat.le_of_ble_eq_true rfl⟩) noXB (fun _ _ _ => trivial) hK hP hD hS hAq 5 0 (T := TX6) (N := 18) rfl rfl rfl hl.1 rfl (Nat.le_of_ble_eq_true rfl) dX6_as_78 ⟨Nat.le_of_ble_eq_true rfl, Nat.le_of_ble_eq_true rfl⟩ [0, 1] rfl rfl [b 0, b 4] rfl (fun _ => rfl) (fun _ => rfl) (fun u H locs hok hP hD hS => ?_)
                  have he : as_e σ (nI k0).toInt (nI w1).toInt = 2 := by unfold as_e; (try simp only [hT0, hT1, Int.toNat_natCast]); (repeat' split) <;> omega
                  exact fin_i hx hb hr hlk hS hP hD () trivial (by rw [he]; first | done | ((try simp only [hT0, hT1, Int.toNat_natCast]); first | done | rfl)) (by rw [he]; (try simp only [hT0, hT1, Int.toNat_natCast]); exact eqW.rf _) dX6_as_81
                · refine lv_aload_n hx hb dX6_as_67 rfl (lv_at hl 1 rfl) ?_
                  refine lv_iload_n hx hb dX6_as_68 rfl (lv_at hl 2 rfl) ?_
                  refine lv_iconst (v := nI 2) hx hb dX6_as_69 rfl ?_
                  refine callVI (rest := []) (wn := fun u => [mO b ζ vv, (b 4, .inl (G.2.1, 7, .inl tl)), (b 1, .inl (G.2.1, 46, .inl (nF σ)))]) ⟨hx, hb, hml, hown, hts⟩ (c_X6_get l G H.size b ζ vv σ k0 2 (by omega) (by omega)) (cwV 2 hts gX6_as_X6_get rfl rfl rfl (by decide +kernel) ⟨Nat.le_of_ble_eq_true rfl, Nat.le_of_ble_eq_true rfl⟩) noXB (fun _ _ _ => trivial) hK hP hD hS hAq 5 0 (T := TX6) (N := 18) rfl rfl rfl hl.1 rfl (Nat.le_of_ble_eq_true rfl) dX6_as_70 ⟨Nat.le_of_ble_eq_true rfl, Nat.le_of_ble_eq_true rfl⟩ [0, 2] rfl rfl [b 0, b 1] rfl (fun _ => rfl) (fun _ => rfl) (fun u H locs hok hP hD hS => ?_)
                  refine lv_goto (tgt := 81) hx hb dX6_as_73 (by decide) ?_
                  have he : as_e σ (nI k0).toInt (nI w1).toInt = 7 := by unfold as_e; (try simp only [hT0, hT1, Int.toNat_natCast]); (repeat' split) <;> omega
                  exact fin_i hx hb hr hlk hS hP hD () trivial (by rw [he]; first | done | ((try simp only [hT0, hT1, Int.toNat_natCast]); first | done | rfl)) (by rw [he]; (try simp only [hT0, hT1, Int.toNat_natCast]); exact eqW.rf _) dX6_as_81
              · refine lv_iload_n hx hb dX6_as_35 rfl (lv_at hl 0 rfl) ?_
                refine n_if_eq hx hb (by omega) (tgt := 62) dX6_as_36 (by decide) (fun c_11 => ?_) (fun c_11 => ?_)
                · refine lv_iload_n hx hb dX6_as_62 rfl (lv_at hl 0 rfl) ?_
                  refine lv_iload_n hx hb dX6_as_63 rfl (lv_at hl 3 rfl) ?_
                  refine n_icmp_ne hx hb (by omega) (by omega) (tgt := 76) dX6_as_64 (by decide) (fun c_12 => ?_) (fun c_12 => ?_)
                  · refine lv_aload_n hx hb dX6_as_76 rfl (lv_at hl 1 rfl) ?_
                    refine lv_iconst (v := nI 2) hx hb dX6_as_77 rfl ?_
                    refine callVI (rest := []) (wn := fun u => [mO b ζ vv, (b 4, .inl (G.2.1, 7, .inl (tk tl 2))), (b 1, .inl (G.2.1, 46, .inl (nF σ)))]) ⟨hx, hb, hml, hown, hts⟩ (c_X6_no l G H.size b ζ vv tl 2 (by omega)) (cwV 1 hts gX6_as_X6_no rfl rfl rfl (by decide +kernel) ⟨Nat.le_of_ble_eq_true rfl, Nat.le_of_ble_eq_true rfl⟩) noXB (fun _ _ _ => trivial) hK hP hD hS hAq 5 0 (T := TX6) (N := 18) rfl rfl rfl hl.1 rfl (Nat.le_of_ble_eq_true rfl) dX6_as_78 ⟨Nat.le_of_ble_eq_true rfl, Nat.le_of_ble_eq_true rfl⟩ [0, 1] rfl rfl [b 0, b 4] rfl (fun _ => rfl) (fun _ => rfl) (fun u H locs hok hP hD hS => ?_)
                    have he : as_e σ (nI k0).toInt (nI w1).toInt = 2 := by unfold as_e; (try simp only [hT0, hT1, Int.toNat_natCast]); (repeat' split) <;> omega
                    exact fin_i hx hb hr hlk hS hP hD () trivial (by rw [he]; first | done | ((try simp only [hT0, hT1, Int.toNat_natCast]); first | done | rfl)) (by rw [he]; (try simp only [hT0, hT1, Int.toNat_natCast]); exact eqW.rf _) dX6_as_81
                  · refine lv_aload_n hx hb dX6_as_67 rfl (lv_at hl 1 rfl) ?_
                    refine lv_iload_n hx hb dX6_as_68 rfl (lv_at hl 2 rfl) ?_
                    refine lv_iconst (v := nI 2) hx hb dX6_as_69 rfl ?_
                    refine callVI (rest := []) (wn := fun u => [mO b ζ vv, (b 4, .inl (G.2.1, 7, .inl tl)), (b 1, .inl (G.2.1, 46, .inl (nF σ)))]) ⟨hx, hb, hml, hown, hts⟩ (c_X6_get l G H.size b ζ vv σ k0 2 (by omega) (by omega)) (cwV 2 hts gX6_as_X6_get rfl rfl rfl (by decide +kernel) ⟨Nat.le_of_ble_eq_true rfl, Nat.le_of_ble_eq_true rfl⟩) noXB (fun _ _ _ => trivial) hK hP hD hS hAq 5 0 (T := TX6) (N := 18) rfl rfl rfl hl.1 rfl (Nat.le_of_ble_eq_true rfl) dX6_as_70 ⟨Nat.le_of_ble_eq_true rfl, Nat.le_of_ble_eq_true rfl⟩ [0, 2] rfl rfl [b 0, b 1] rfl (fun _ => rfl) (fun _ => rfl) (fun u H locs hok hP hD hS => ?_)
                    refine lv_goto (tgt := 81) hx hb dX6_as_73 (by decide) ?_
                    have he : as_e σ (nI k0).toInt (nI w1).toInt = 7 := by unfold as_e; (try simp only [hT0, hT1, Int.toNat_natCast]); (repeat' split) <;> omega
                    exact fin_i hx hb hr hlk hS hP hD () trivial (by rw [he]; first | done | ((try simp only [hT0, hT1, Int.toNat_natCast]); first | done | rfl)) (by rw [he]; (try simp only [hT0, hT1, Int.toNat_natCast]); exact eqW.rf _) dX6_as_81
                · omega
            · refine lv_iconst (v := nI 2) hx hb dX6_as_53 rfl ?_
              refine lv_goto (tgt := 58) hx hb dX6_as_54 (by decide) ?_
              refine lv_istore_n (lv' := [(3, .int (nI 2)), (0, .ref (b 0)), (1, .int (nI k0)), (2, .int (nI w1))]) hx hb dX6_as_58 rfl hl (by decide) rfl (fun ls hl => ?_)
              refine lv_goto (tgt := 30) hx hb dX6_as_59 (by decide) ?_
              refine lv_iload_n hx hb dX6_as_30 rfl (lv_at hl 0 rfl) ?_
              refine lv_iload_n hx hb dX6_as_31 rfl (lv_at hl 3 rfl) ?_
              refine n_icmp_eq hx hb (by omega) (by omega) (tgt := 62) dX6_as_32 (by decide) (fun c_13 => ?_) (fun c_13 => ?_)
              · refine lv_iload_n hx hb dX6_as_62 rfl (lv_at hl 0 rfl) ?_
                refine lv_iload_n hx hb dX6_as_63 rfl (lv_at hl 3 rfl) ?_
                refine n_icmp_ne hx hb (by omega) (by omega) (tgt := 76) dX6_as_64 (by decide) (fun c_14 => ?_) (fun c_14 => ?_)
                · refine lv_aload_n hx hb dX6_as_76 rfl (lv_at hl 1 rfl) ?_
                  refine lv_iconst (v := nI 2) hx hb dX6_as_77 rfl ?_
                  refine callVI (rest := []) (wn := fun u => [mO b ζ vv, (b 4, .inl (G.2.1, 7, .inl (tk tl 2))), (b 1, .inl (G.2.1, 46, .inl (nF σ)))]) ⟨hx, hb, hml, hown, hts⟩ (c_X6_no l G H.size b ζ vv tl 2 (by omega)) (cwV 1 hts gX6_as_X6_no rfl rfl rfl (by decide +kernel) ⟨Nat.le_of_ble_eq_true rfl, Nat.le_of_ble_eq_true rfl⟩) noXB (fun _ _ _ => trivial) hK hP hD hS hAq 5 0 (T := TX6) (N := 18) rfl rfl rfl hl.1 rfl (Nat.le_of_ble_eq_true rfl) dX6_as_78 ⟨Nat.le_of_ble_eq_true rfl, Nat.le_of_ble_eq_true rfl⟩ [0, 1] rfl rfl [b 0, b 4] rfl (fun _ => rfl) (fun _ => rfl) (fun u H locs hok hP hD hS => ?_)
                  have he : as_e σ (nI k0).toInt (nI w1).toInt = 2 := by unfold as_e; (try simp only [hT0, hT1, Int.toNat_natCast]); (repeat' split) <;> omega
                  exact fin_i hx hb hr hlk hS hP hD () trivial (by rw [he]; first | done | ((try simp only [hT0, hT1, Int.toNat_natCast]); first | done | rfl)) (by rw [he]; (try simp only [hT0, hT1, Int.toNat_natCast]); exact eqW.rf _) dX6_as_81
                · refine lv_aload_n hx hb dX6_as_67 rfl (lv_at hl 1 rfl) ?_
                  refine lv_iload_n hx hb dX6_as_68 rfl (lv_at hl 2 rfl) ?_
                  refine lv_iconst (v := nI 2) hx hb dX6_as_69 rfl ?_
                  refine callVI (rest := []) (wn := fun u => [mO b ζ vv, (b 4, .inl (G.2.1, 7, .inl tl)), (b 1, .inl (G.2.1, 46, .inl (nF σ)))]) ⟨hx, hb, hml, hown, hts⟩ (c_X6_get l G H.size b ζ vv σ k0 2 (by omega) (by omega)) (cwV 2 hts gX6_as_X6_get rfl rfl rfl (by decide +kernel) ⟨Nat.le_of_ble_eq_true rfl, Nat.le_of_ble_eq_true rfl⟩) noXB (fun _ _ _ => trivial) hK hP hD hS hAq 5 0 (T := TX6) (N := 18) rfl rfl rfl hl.1 rfl (Nat.le_of_ble_eq_true rfl) dX6_as_70 ⟨Nat.le_of_ble_eq_true rfl, Nat.le_of_ble_eq_true rfl⟩ [0, 2] rfl rfl [b 0, b 1] rfl (fun _ => rfl) (fun _ => rfl) (fun u H locs hok hP hD hS => ?_)
                  refine lv_goto (tgt := 81) hx hb dX6_as_73 (by decide) ?_
                  have he : as_e σ (nI k0).toInt (nI w1).toInt = 7 := by unfold as_e; (try simp only [hT0, hT1, Int.toNat_natCast]); (repeat' split) <;> omega
                  exact fin_i hx hb hr hlk hS hP hD () trivial (by rw [he]; first | done | ((try simp only [hT0, hT1, Int.toNat_natCast]); first | done | rfl)) (by rw [he]; (try simp only [hT0, hT1, Int.toNat_natCast]); exact eqW.rf _) dX6_as_81
              · refine lv_iload_n hx hb dX6_as_35 rfl (lv_at hl 0 rfl) ?_
                refine n_if_eq hx hb (by omega) (tgt := 62) dX6_as_36 (by decide) (fun c_15 => ?_) (fun c_15 => ?_)
                · omega
                · refine lv_iload_n hx hb dX6_as_39 rfl (lv_at hl 0 rfl) ?_
                  refine lv_iconst (v := nI 4) hx hb dX6_as_40 rfl ?_
                  refine n_icmp_ne hx hb (by omega) (by omega) (tgt := 48) dX6_as_41 (by decide) (fun c_16 => ?_) (fun c_16 => ?_)
                  · refine lv_iload_n hx hb dX6_as_48 rfl (lv_at hl 0 rfl) ?_
                    refine lv_iconst (v := nI 5) hx hb dX6_as_49 rfl ?_
                    refine n_icmp_ne hx hb (by omega) (by omega) (tgt := 57) dX6_as_50 (by decide) (fun c_17 => ?_) (fun c_17 => ?_)
                    · refine lv_iconst (v := nI 0) hx hb dX6_as_57 rfl ?_
                      refine lv_istore_n (lv' := [(3, .int (nI 0)), (0, .ref (b 0)), (1, .int (nI k0)), (2, .int (nI w1))]) hx hb dX6_as_58 rfl hl (by decide) rfl (fun ls hl => ?_)
                      refine lv_goto (tgt := 30) hx hb dX6_as_59 (by decide) ?_
                      refine lv_iload_n hx hb dX6_as_30 rfl (lv_at hl 0 rfl) ?_
                      refine lv_iload_n hx hb dX6_as_31 rfl (lv_at hl 3 rfl) ?_
                      refine n_icmp_eq hx hb (by omega) (by omega) (tgt := 62) dX6_as_32 (by decide) (fun c_18 => ?_) (fun c_18 => ?_)
                      · refine lv_iload_n hx hb dX6_as_62 rfl (lv_at hl 0 rfl) ?_
                        refine lv_iload_n hx hb dX6_as_63 rfl (lv_at hl 3 rfl) ?_
                        refine n_icmp_ne hx hb (by omega) (by omega) (tgt := 76) dX6_as_64 (by decide) (fun c_19 => ?_) (fun c_19 => ?_)
                        · refine lv_aload_n hx hb dX6_as_76 rfl (lv_at hl 1 rfl) ?_
                          refine lv_iconst (v := nI 2) hx hb dX6_as_77 rfl ?_
                          refine callVI (rest := []) (wn := fun u => [mO b ζ vv, (b 4, .inl (G.2.1, 7, .inl (tk tl 2))), (b 1, .inl (G.2.1, 46, .inl (nF σ)))]) ⟨hx, hb, hml, hown, hts⟩ (c_X6_no l G H.size b ζ vv tl 2 (by omega)) (cwV 1 hts gX6_as_X6_no rfl rfl rfl (by decide +kernel) ⟨Nat.le_of_ble_eq_true rfl, Nat.le_of_ble_eq_true rfl⟩) noXB (fun _ _ _ => trivial) hK hP hD hS hAq 5 0 (T := TX6) (N := 18) rfl rfl rfl hl.1 rfl (Nat.le_of_ble_eq_true rfl) dX6_as_78 ⟨Nat.le_of_ble_eq_true rfl, Nat.le_of_ble_eq_true rfl⟩ [0, 1] rfl rfl [b 0, b 4] rfl (fun _ => rfl) (fun _ => rfl) (fun u H locs hok hP hD hS => ?_)
                          have he : as_e σ (nI k0).toInt (nI w1).toInt = 2 := by unfold as_e; (try simp only [hT0, hT1, Int.toNat_natCast]); (repeat' split) <;> omega
                          exact fin_i hx hb hr hlk hS hP hD () trivial (by rw [he]; first | done | ((try simp only [hT0, hT1, Int.toNat_natCast]); first | done | rfl)) (by rw [he]; (try simp only [hT0, hT1, Int.toNat_natCast]); exact eqW.rf _) dX6_as_81
                        · refine lv_aload_n hx hb dX6_as_67 rfl (lv_at hl 1 rfl) ?_
                          refine lv_iload_n hx hb dX6_as_68 rfl (lv_at hl 2 rfl) ?_
                          refine lv_iconst (v := nI 2) hx hb dX6_as_69 rfl ?_
                          refine callVI (rest := []) (wn := fun u => [mO b ζ vv, (b 4, .inl (G.2.1, 7, .inl tl)), (b 1, .inl (G.2.1, 46, .inl (nF σ)))]) ⟨hx, hb, hml, hown, hts⟩ (c_X6_get l G H.size b ζ vv σ k0 2 (by omega) (by omega)) (cwV 2 hts gX6_as_X6_get rfl rfl rfl (by decide +kernel) ⟨Nat.le_of_ble_eq_true rfl, Nat.le_of_ble_eq_true rfl⟩) noXB (fun _ _ _ => trivial) hK hP hD hS hAq 5 0 (T := TX6) (N := 18) rfl rfl rfl hl.1 rfl (Nat.le_of_ble_eq_true rfl) dX6_as_70 ⟨Nat.le_of_ble_eq_true rfl, Nat.le_of_ble_eq_true rfl⟩ [0, 2] rfl rfl [b 0, b 1] rfl (fun _ => rfl) (fun _ => rfl) (fun u H locs hok hP hD hS => ?_)
                          refine lv_goto (tgt := 81) hx hb dX6_as_73 (by decide) ?_
                          have he : as_e σ (nI k0).toInt (nI w1).toInt = 7 := by unfold as_e; (try simp only [hT0, hT1, Int.toNat_natCast]); (repeat' split) <;> omega
                          exact fin_i hx hb hr hlk hS hP hD () trivial (by rw [he]; first | done | ((try simp only [hT0, hT1, Int.toNat_natCast]); first | done | rfl)) (by rw [he]; (try simp only [hT0, hT1, Int.toNat_natCast]); exact eqW.rf _) dX6_as_81
                      · refine lv_iload_n hx hb dX6_as_35 rfl (lv_at hl 0 rfl) ?_
                        refine n_if_eq hx hb (by omega) (tgt := 62) dX6_as_36 (by decide) (fun c_20 => ?_) (fun c_20 => ?_)
                        · refine lv_iload_n hx hb dX6_as_62 rfl (lv_at hl 0 rfl) ?_
                          refine lv_iload_n hx hb dX6_as_63 rfl (lv_at hl 3 rfl) ?_
                          refine n_icmp_ne hx hb (by omega) (by omega) (tgt := 76) dX6_as_64 (by decide) (fun c_21 => ?_) (fun c_21 => ?_)
                          · refine lv_aload_n hx hb dX6_as_76 rfl (lv_at hl 1 rfl) ?_
                            refine lv_iconst (v := nI 2) hx hb dX6_as_77 rfl ?_
                            refine callVI (rest := []) (wn := fun u => [mO b ζ vv, (b 4, .inl (G.2.1, 7, .inl (tk tl 2))), (b 1, .inl (G.2.1, 46, .inl (nF σ)))]) ⟨hx, hb, hml, hown, hts⟩ (c_X6_no l G H.size b ζ vv tl 2 (by omega)) (cwV 1 hts gX6_as_X6_no rfl rfl rfl (by decide +kernel) ⟨Nat.le_of_ble_eq_true rfl, Nat.le_of_ble_eq_true rfl⟩) noXB (fun _ _ _ => trivial) hK hP hD hS hAq 5 0 (T := TX6) (N := 18) rfl rfl rfl hl.1 rfl (Nat.le_of_ble_eq_true rfl) dX6_as_78 ⟨Nat.le_of_ble_eq_true rfl, Nat.le_of_ble_eq_true rfl⟩ [0, 1] rfl rfl [b 0, b 4] rfl (fun _ => rfl) (fun _ => rfl) (fun u H locs hok hP hD hS => ?_)
                            have he : as_e σ (nI k0).toInt (nI w1).toInt = 2 := by unfold as_e; (try simp only [hT0, hT1, Int.toNat_natCast]); (repeat' split) <;> omega
                            exact fin_i hx hb hr hlk hS hP hD () trivial (by rw [he]; first | done | ((try simp only [hT0, hT1, Int.toNat_natCast]); first | done | rfl)) (by rw [he]; (try simp only [hT0, hT1, Int.toNat_natCast]); exact eqW.rf _) dX6_as_81
                          · refine lv_aload_n hx hb dX6_as_67 rfl (lv_at hl 1 rfl) ?_
                            refine lv_iload_n hx hb dX6_as_68 rfl (lv_at hl 2 rfl) ?_
                            refine lv_iconst (v := nI 2) hx hb dX6_as_69 rfl ?_
                            refine callVI (rest := []) (wn := fun u => [mO b ζ vv, (b 4, .inl (G.2.1, 7, .inl tl)), (b 1, .inl (G.2.1, 46, .inl (nF σ)))]) ⟨hx, hb, hml, hown, hts⟩ (c_X6_get l G H.size b ζ vv σ k0 2 (by omega) (by omega)) (cwV 2 hts gX6_as_X6_get rfl rfl rfl (by decide +kernel) ⟨Nat.le_of_ble_eq_true rfl, Nat.le_of_ble_eq_true rfl⟩) noXB (fun _ _ _ => trivial) hK hP hD hS hAq 5 0 (T := TX6) (N := 18) rfl rfl rfl hl.1 rfl (Nat.le_of_ble_eq_true rfl) dX6_as_70 ⟨Nat.le_of_ble_eq_true rfl, Nat.le_of_ble_eq_true rfl⟩ [0, 2] rfl rfl [b 0, b 1] rfl (fun _ => rfl) (fun _ => rfl) (fun u H locs hok hP hD hS => ?_)
                            refine lv_goto (tgt := 81) hx hb dX6_as_73 (by decide) ?_
                            have he : as_e σ (nI k0).toInt (nI w1).toInt = 7 := by unfold as_e; (try simp only [hT0, hT1, Int.toNat_natCast]); (repeat' split) <;> omega
                            exact fin_i hx hb hr hlk hS hP hD () trivial (by rw [he]; first | done | ((try simp only [hT0, hT1, Int.toNat_natCast]); first | done | rfl)) (by rw [he]; (try simp only [hT0, hT1, Int.toNat_natCast]); exact eqW.rf _) dX6_as_81
                        · omega
                    · omega
                  · omega
          · refine lv_iconst (v := nI 1) hx hb dX6_as_44 rfl ?_
            refine lv_goto (tgt := 58) hx hb dX6_as_45 (by decide) ?_
            refine lv_istore_n (lv' := [(3, .int (nI 1)), (0, .ref (b 0)), (1, .int (nI k0)), (2, .int (nI w1))]) hx hb dX6_as_58 rfl hl (by decide) rfl (fun ls hl => ?_)
            refine lv_goto (tgt := 30) hx hb dX6_as_59 (by decide) ?_
            refine lv_iload_n hx hb dX6_as_30 rfl (lv_at hl 0 rfl) ?_
            refine lv_iload_n hx hb dX6_as_31 rfl (lv_at hl 3 rfl) ?_
            refine n_icmp_eq hx hb (by omega) (by omega) (tgt := 62) dX6_as_32 (by decide) (fun c_22 => ?_) (fun c_22 => ?_)
            · refine lv_iload_n hx hb dX6_as_62 rfl (lv_at hl 0 rfl) ?_
              refine lv_iload_n hx hb dX6_as_63 rfl (lv_at hl 3 rfl) ?_
              refine n_icmp_ne hx hb (by omega) (by omega) (tgt := 76) dX6_as_64 (by decide) (fun c_23 => ?_) (fun c_23 => ?_)
              · refine lv_aload_n hx hb dX6_as_76 rfl (lv_at hl 1 rfl) ?_
                refine lv_iconst (v := nI 2) hx hb dX6_as_77 rfl ?_
                refine callVI (rest := []) (wn := fun u => [mO b ζ vv, (b 4, .inl (G.2.1, 7, .inl (tk tl 2))), (b 1, .inl (G.2.1, 46, .inl (nF σ)))]) ⟨hx, hb, hml, hown, hts⟩ (c_X6_no l G H.size b ζ vv tl 2 (by omega)) (cwV 1 hts gX6_as_X6_no rfl rfl rfl (by decide +kernel) ⟨Nat.le_of_ble_eq_true rfl, Nat.le_of_ble_eq_true rfl⟩) noXB (fun _ _ _ => trivial) hK hP hD hS hAq 5 0 (T := TX6) (N := 18) rfl rfl rfl hl.1 rfl (Nat.le_of_ble_eq_true rfl) dX6_as_78 ⟨Nat.le_of_ble_eq_true rfl, Nat.le_of_ble_eq_true rfl⟩ [0, 1] rfl rfl [b 0, b 4] rfl (fun _ => rfl) (fun _ => rfl) (fun u H locs hok hP hD hS => ?_)
                have he : as_e σ (nI k0).toInt (nI w1).toInt = 2 := by unfold as_e; (try simp only [hT0, hT1, Int.toNat_natCast]); (repeat' split) <;> omega
                exact fin_i hx hb hr hlk hS hP hD () trivial (by rw [he]; first | done | ((try simp only [hT0, hT1, Int.toNat_natCast]); first | done | rfl)) (by rw [he]; (try simp only [hT0, hT1, Int.toNat_natCast]); exact eqW.rf _) dX6_as_81
              · refine lv_aload_n hx hb dX6_as_67 rfl (lv_at hl 1 rfl) ?_
                refine lv_iload_n hx hb dX6_as_68 rfl (lv_at hl 2 rfl) ?_
                refine lv_iconst (v := nI 2) hx hb dX6_as_69 rfl ?_
                refine callVI (rest := []) (wn := fun u => [mO b ζ vv, (b 4, .inl (G.2.1, 7, .inl tl)), (b 1, .inl (G.2.1, 46, .inl (nF σ)))]) ⟨hx, hb, hml, hown, hts⟩ (c_X6_get l G H.size b ζ vv σ k0 2 (by omega) (by omega)) (cwV 2 hts gX6_as_X6_get rfl rfl rfl (by decide +kernel) ⟨Nat.le_of_ble_eq_true rfl, Nat.le_of_ble_eq_true rfl⟩) noXB (fun _ _ _ => trivial) hK hP hD hS hAq 5 0 (T := TX6) (N := 18) rfl rfl rfl hl.1 rfl (Nat.le_of_ble_eq_true rfl) dX6_as_70 ⟨Nat.le_of_ble_eq_true rfl, Nat.le_of_ble_eq_true rfl⟩ [0, 2] rfl rfl [b 0, b 1] rfl (fun _ => rfl) (fun _ => rfl) (fun u H locs hok hP hD hS => ?_)
                refine lv_goto (tgt := 81) hx hb dX6_as_73 (by decide) ?_
                have he : as_e σ (nI k0).toInt (nI w1).toInt = 7 := by unfold as_e; (try simp only [hT0, hT1, Int.toNat_natCast]); (repeat' split) <;> omega
                exact fin_i hx hb hr hlk hS hP hD () trivial (by rw [he]; first | done | ((try simp only [hT0, hT1, Int.toNat_natCast]); first | done | rfl)) (by rw [he]; (try simp only [hT0, hT1, Int.toNat_natCast]); exact eqW.rf _) dX6_as_81
            · refine lv_iload_n hx hb dX6_as_35 rfl (lv_at hl 0 rfl) ?_
              refine n_if_eq hx hb (by omega) (tgt := 62) dX6_as_36 (by decide) (fun c_24 => ?_) (fun c_24 => ?_)
              · omega
              · refine lv_iload_n hx hb dX6_as_39 rfl (lv_at hl 0 rfl) ?_
                refine lv_iconst (v := nI 4) hx hb dX6_as_40 rfl ?_
                refine n_icmp_ne hx hb (by omega) (by omega) (tgt := 48) dX6_as_41 (by decide) (fun c_25 => ?_) (fun c_25 => ?_)
                · refine lv_iload_n hx hb dX6_as_48 rfl (lv_at hl 0 rfl) ?_
                  refine lv_iconst (v := nI 5) hx hb dX6_as_49 rfl ?_
                  refine n_icmp_ne hx hb (by omega) (by omega) (tgt := 57) dX6_as_50 (by decide) (fun c_26 => ?_) (fun c_26 => ?_)
                  · refine lv_iconst (v := nI 0) hx hb dX6_as_57 rfl ?_
                    refine lv_istore_n (lv' := [(3, .int (nI 0)), (0, .ref (b 0)), (1, .int (nI k0)), (2, .int (nI w1))]) hx hb dX6_as_58 rfl hl (by decide) rfl (fun ls hl => ?_)
                    refine lv_goto (tgt := 30) hx hb dX6_as_59 (by decide) ?_
                    refine lv_iload_n hx hb dX6_as_30 rfl (lv_at hl 0 rfl) ?_
                    refine lv_iload_n hx hb dX6_as_31 rfl (lv_at hl 3 rfl) ?_
                    refine n_icmp_eq hx hb (by omega) (by omega) (tgt := 62) dX6_as_32 (by decide) (fun c_27 => ?_) (fun c_27 => ?_)
                    · refine lv_iload_n hx hb dX6_as_62 rfl (lv_at hl 0 rfl) ?_
                      refine lv_iload_n hx hb dX6_as_63 rfl (lv_at hl 3 rfl) ?_
                      refine n_icmp_ne hx hb (by omega) (by omega) (tgt := 76) dX6_as_64 (by decide) (fun c_28 => ?_) (fun c_28 => ?_)
                      · refine lv_aload_n hx hb dX6_as_76 rfl (lv_at hl 1 rfl) ?_
                        refine lv_iconst (v := nI 2) hx hb dX6_as_77 rfl ?_
                        refine callVI (rest := []) (wn := fun u => [mO b ζ vv, (b 4, .inl (G.2.1, 7, .inl (tk tl 2))), (b 1, .inl (G.2.1, 46, .inl (nF σ)))]) ⟨hx, hb, hml, hown, hts⟩ (c_X6_no l G H.size b ζ vv tl 2 (by omega)) (cwV 1 hts gX6_as_X6_no rfl rfl rfl (by decide +kernel) ⟨Nat.le_of_ble_eq_true rfl, Nat.le_of_ble_eq_true rfl⟩) noXB (fun _ _ _ => trivial) hK hP hD hS hAq 5 0 (T := TX6) (N := 18) rfl rfl rfl hl.1 rfl (Nat.le_of_ble_eq_true rfl) dX6_as_78 ⟨Nat.le_of_ble_eq_true rfl, Nat.le_of_ble_eq_true rfl⟩ [0, 1] rfl rfl [b 0, b 4] rfl (fun _ => rfl) (fun _ => rfl) (fun u H locs hok hP hD hS => ?_)
                        have he : as_e σ (nI k0).toInt (nI w1).toInt = 2 := by unfold as_e; (try simp only [hT0, hT1, Int.toNat_natCast]); (repeat' split) <;> omega
                        exact fin_i hx hb hr hlk hS hP hD () trivial (by rw [he]; first | done | ((try simp only [hT0, hT1, Int.toNat_natCast]); first | done | rfl)) (by rw [he]; (try simp only [hT0, hT1, Int.toNat_natCast]); exact eqW.rf _) dX6_as_81
                      · refine lv_aload_n hx hb dX6_as_67 rfl (lv_at hl 1 rfl) ?_
                        refine lv_iload_n hx hb dX6_as_68 rfl (lv_at hl 2 rfl) ?_
                        refine lv_iconst (v := nI 2) hx hb dX6_as_69 rfl ?_
                        refine callVI (rest := []) (wn := fun u => [mO b ζ vv, (b 4, .inl (G.2.1, 7, .inl tl)), (b 1, .inl (G.2.1, 46, .inl (nF σ)))]) ⟨hx, hb, hml, hown, hts⟩ (c_X6_get l G H.size b ζ vv σ k0 2 (by omega) (by omega)) (cwV 2 hts gX6_as_X6_get rfl rfl rfl (by decide +kernel) ⟨Nat.le_of_ble_eq_true rfl, Nat.le_of_ble_eq_true rfl⟩) noXB (fun _ _ _ => trivial) hK hP hD hS hAq 5 0 (T := TX6) (N := 18) rfl rfl rfl hl.1 rfl (Nat.le_of_ble_eq_true rfl) dX6_as_70 ⟨Nat.le_of_ble_eq_true rfl, Nat.le_of_ble_eq_true rfl⟩ [0, 2] rfl rfl [b 0, b 1] rfl (fun _ => rfl) (fun _ => rfl) (fun u H locs hok hP hD hS => ?_)
                        refine lv_goto (tgt := 81) hx hb dX6_as_73 (by decide) ?_
                        have he : as_e σ (nI k0).toInt (nI w1).toInt = 7 := by unfold as_e; (try simp only [hT0, hT1, Int.toNat_natCast]); (repeat' split) <;> omega
                        exact fin_i hx hb hr hlk hS hP hD () trivial (by rw [he]; first | done | ((try simp only [hT0, hT1, Int.toNat_natCast]); first | done | rfl)) (by rw [he]; (try simp only [hT0, hT1, Int.toNat_natCast]); exact eqW.rf _) dX6_as_81
                    · refine lv_iload_n hx hb dX6_as_35 rfl (lv_at hl 0 rfl) ?_
                      refine n_if_eq hx hb (by omega) (tgt := 62) dX6_as_36 (by decide) (fun c_29 => ?_) (fun c_29 => ?_)
                      · refine lv_iload_n hx hb dX6_as_62 rfl (lv_at hl 0 rfl) ?_
                        refine lv_iload_n hx hb dX6_as_63 rfl (lv_at hl 3 rfl) ?_
                        refine n_icmp_ne hx hb (by omega) (by omega) (tgt := 76) dX6_as_64 (by decide) (fun c_30 => ?_) (fun c_30 => ?_)
                        · refine lv_aload_n hx hb dX6_as_76 rfl (lv_at hl 1 rfl) ?_
                          refine lv_iconst (v := nI 2) hx hb dX6_as_77 rfl ?_
                          refine callVI (rest := []) (wn := fun u => [mO b ζ vv, (b 4, .inl (G.2.1, 7, .inl (tk tl 2))), (b 1, .inl (G.2.1, 46, .inl (nF σ)))]) ⟨hx, hb, hml, hown, hts⟩ (c_X6_no l G H.size b ζ vv tl 2 (by omega)) (cwV 1 hts gX6_as_X6_no rfl rfl rfl (by decide +kernel) ⟨Nat.le_of_ble_eq_true rfl, Nat.le_of_ble_eq_true rfl⟩) noXB (fun _ _ _ => trivial) hK hP hD hS hAq 5 0 (T := TX6) (N := 18) rfl rfl rfl hl.1 rfl (Nat.le_of_ble_eq_true rfl) dX6_as_78 ⟨Nat.le_of_ble_eq_true rfl, Nat.le_of_ble_eq_true rfl⟩ [0, 1] rfl rfl [b 0, b 4] rfl (fun _ => rfl) (fun _ => rfl) (fun u H locs hok hP hD hS => ?_)
                          have he : as_e σ (nI k0).toInt (nI w1).toInt = 2 := by unfold as_e; (try simp only [hT0, hT1, Int.toNat_natCast]); (repeat' split) <;> omega
                          exact fin_i hx hb hr hlk hS hP hD () trivial (by rw [he]; first | done | ((try simp only [hT0, hT1, Int.toNat_natCast]); first | done | rfl)) (by rw [he]; (try simp only [hT0, hT1, Int.toNat_natCast]); exact eqW.rf _) dX6_as_81
                        · refine lv_aload_n hx hb dX6_as_67 rfl (lv_at hl 1 rfl) ?_
                          refine lv_iload_n hx hb dX6_as_68 rfl (lv_at hl 2 rfl) ?_
                          refine lv_iconst (v := nI 2) hx hb dX6_as_69 rfl ?_
                          refine callVI (rest := []) (wn := fun u => [mO b ζ vv, (b 4, .inl (G.2.1, 7, .inl tl)), (b 1, .inl (G.2.1, 46, .inl (nF σ)))]) ⟨hx, hb, hml, hown, hts⟩ (c_X6_get l G H.size b ζ vv σ k0 2 (by omega) (by omega)) (cwV 2 hts gX6_as_X6_get rfl rfl rfl (by decide +kernel) ⟨Nat.le_of_ble_eq_true rfl, Nat.le_of_ble_eq_true rfl⟩) noXB (fun _ _ _ => trivial) hK hP hD hS hAq 5 0 (T := TX6) (N := 18) rfl rfl rfl hl.1 rfl (Nat.le_of_ble_eq_true rfl) dX6_as_70 ⟨Nat.le_of_ble_eq_true rfl, Nat.le_of_ble_eq_true rfl⟩ [0, 2] rfl rfl [b 0, b 1] rfl (fun _ => rfl) (fun _ => rfl) (fun u H locs hok hP hD hS => ?_)
                          refine lv_goto (tgt := 81) hx hb dX6_as_73 (by decide) ?_
                          have he : as_e σ (nI k0).toInt (nI w1).toInt = 7 := by unfold as_e; (try simp only [hT0, hT1, Int.toNat_natCast]); (repeat' split) <;> omega
                          exact fin_i hx hb hr hlk hS hP hD () trivial (by rw [he]; first | done | ((try simp only [hT0, hT1, Int.toNat_natCast]); first | done | rfl)) (by rw [he]; (try simp only [hT0, hT1, Int.toNat_natCast]); exact eqW.rf _) dX6_as_81
                      · omega
                  · omega
                · omega
    · refine lv_aload_n hx hb dX6_as_17 rfl (lv_at hl 0 rfl) ?_
      refine lv_iconst (v := nI 0) hx hb dX6_as_18 rfl ?_
      refine callVI (rest := []) (wn := fun u => [mO b ζ vv, (b 4, .inl (G.2.1, 7, .inl (tk tl 0))), (b 1, .inl (G.2.1, 46, .inl (nF σ)))]) ⟨hx, hb, hml, hown, hts⟩ (c_X6_no l G H.size b ζ vv tl 0 (by omega)) (cwV 1 hts gX6_as_X6_no rfl rfl rfl (by decide +kernel) ⟨Nat.le_of_ble_eq_true rfl, Nat.le_of_ble_eq_true rfl⟩) noXB (fun _ _ _ => trivial) hK hP hD hS hAq 5 0 (T := TX6) (N := 18) rfl rfl rfl hl.1 rfl (Nat.le_of_ble_eq_true rfl) dX6_as_19 ⟨Nat.le_of_ble_eq_true rfl, Nat.le_of_ble_eq_true rfl⟩ [0, 1] rfl rfl [b 0, b 4] rfl (fun _ => rfl) (fun _ => rfl) (fun u H locs hok hP hD hS => ?_)
      have he : as_e σ (nI k0).toInt a1.toInt = 0 := by unfold as_e; (try simp only [hT0, Int.toNat_natCast]); (repeat' split) <;> omega
      exact fin_i hx hb hr hlk hS hP hD () trivial (by rw [he]; first | done | ((try simp only [hT0, Int.toNat_natCast]); first | done | rfl)) (by rw [he]; (try simp only [hT0, Int.toNat_natCast]); exact eqW.rf _) dX6_as_22
