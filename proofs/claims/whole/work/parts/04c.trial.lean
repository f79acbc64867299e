set_option maxHeartbeats 400000 in
set_option maxRecDepth 100000 in
theorem c_X5_tryAsItIs (l : Launch) (G : GT) (sz : Nat) (x hm kp tr : Nat → Nat) (hi : Nat) (σ τ : Sg) (n : Nat) (hI : Inv σ) (hd0 : σ 0 + n < 1000000) : MV (S := Unit) l G noX yX5_tryAsItIs wsX5_tryAsItIs ({ frames := 5, cells := 0, slots := 0, locals := 113 } : Room) [.ref (x 0), .int (nI n)] (([xO x hm kp tr hi] ++ (wH G hm σ ++ (wH G tr τ)))) sz (fun _ => True) (fun _ => ([xO x hm kp tr hi] ++ (wH G hm σ ++ (wH G tr (daysN n σ))))) := by
  refine MV_enter (cc := cX5_tryAsItIs) (maxL := 2) (ret := none) (by decide) rfl (Nat.le_of_ble_eq_true rfl) ?_
  intro p e s m below meth c A ls H hx hb hr hlk hml hown hts hAq hS hP hK hD hX hl hnm
  have hown : s.vm.findClass RX5 = some m.cls := hown
  have hl : lv_has ls 2 [(0, .ref (x 0)), (1, .int (nI n))] := hl
  refine lv_aload_n hx hb dX5_tryAsItIs_0 rfl (lv_at hl 0 rfl) ?_
  refine n_get (C := RX5) (T := TX5) (N := 7) hx hb hts (fun _ h => List.mem_cons_of_mem _ (List.mem_append_left _ (List.mem_append_right _ h))) hown hK hP 0 rfl rfl 2 (by decide) (List.mem_of_getElem? (i := 1) rfl) rfl (.ref (tr 0)) rfl dX5_tryAsItIs_1 ?_
  refine lv_aload_n hx hb dX5_tryAsItIs_4 rfl (lv_at hl 0 rfl) ?_
  refine n_get (C := RX5) (T := TX5) (N := 7) hx hb hts (fun _ h => List.mem_cons_of_mem _ (List.mem_append_left _ (List.mem_append_right _ h))) hown hK hP 0 rfl rfl 0 (by decide) (List.mem_of_getElem? (i := 2) rfl) rfl (.ref (hm 0)) rfl dX5_tryAsItIs_5 ?_
  refine callVV (rest := []) (wn := fun u => ([xO x hm kp tr hi] ++ (wH G hm σ ++ (wH G tr σ)))) ⟨hx, hb, hml, hown, hts⟩ (c_X0_become l G H.size tr τ hm σ) (cwV 1 hts gX5_tryAsItIs_X0_become rfl rfl rfl (by decide +kernel) ⟨Nat.le_of_ble_eq_true rfl, Nat.le_of_ble_eq_true rfl⟩) noXB (fun _ _ _ => trivial) hK hP hD hS hAq 0 0 (T := TX0) (N := 11) rfl rfl rfl hl.1 rfl (Nat.le_of_ble_eq_true rfl) dX5_tryAsItIs_8 ⟨Nat.le_of_ble_eq_true rfl, Nat.le_of_ble_eq_true rfl⟩ [7, 8, 9, 10, 11, 12, 1, 2, 3, 4, 5, 6] rfl rfl [tr 0, tr 1, tr 2, tr 3, tr 4, tr 5, hm 0, hm 1, hm 2, hm 3, hm 4, hm 5] rfl (fun _ => rfl) (fun _ => rfl) (fun u H locs hok hP hD hS => ?_)
  refine lv_aload_n hx hb dX5_tryAsItIs_11 rfl (lv_at hl 0 rfl) ?_
  refine n_get (C := RX5) (T := TX5) (N := 7) hx hb hts (fun _ h => List.mem_cons_of_mem _ (List.mem_append_left _ (List.mem_append_right _ h))) hown hK hP 0 rfl rfl 2 (by decide) (List.mem_of_getElem? (i := 1) rfl) rfl (.ref (tr 0)) rfl dX5_tryAsItIs_12 ?_
  refine lv_iload_n hx hb dX5_tryAsItIs_15 rfl (lv_at hl 1 rfl) ?_
  refine callVV (rest := []) (wn := fun u => ([xO x hm kp tr hi] ++ (wH G hm σ ++ (wH G tr (daysN n σ))))) ⟨hx, hb, hml, hown, hts⟩ (c_X0_goOn l G H.size tr σ n hI (by omega)) (cwV 1 hts gX5_tryAsItIs_X0_goOn rfl rfl rfl (by decide +kernel) ⟨Nat.le_of_ble_eq_true rfl, Nat.le_of_ble_eq_true rfl⟩) noXB (fun _ _ _ => trivial) hK hP hD hS hAq 0 0 (T := TX0) (N := 11) rfl rfl rfl hl.1 rfl (Nat.le_of_ble_eq_true rfl) dX5_tryAsItIs_16 ⟨Nat.le_of_ble_eq_true rfl, Nat.le_of_ble_eq_true rfl⟩ [7, 8, 9, 10, 11, 12] rfl rfl [tr 0, tr 1, tr 2, tr 3, tr 4, tr 5] rfl (fun _ => rfl) (fun _ => rfl) (fun u H locs hok hP hD hS => ?_)
  exact fin_v hx hb hr hlk hS hP hD () trivial (eqW.rf _) dX5_tryAsItIs_19
set_option maxHeartbeats 400000 in
set_option maxRecDepth 100000 in
theorem c_X5_isTrialFed (l : Launch) (G : GT) (sz : Nat) (x hm kp tr : Nat → Nat) (hi : Nat) (σ ρ : Sg) (n : Nat) (hI : Inv σ) (hIr : Inv ρ) (hd1 : ρ 0 + n < 1000000) (h4 : ρ 4 ≤ σ 4) : MI (S := Sg) l G noX yX5_isTrialFed wsX5_isTrialFed ({ frames := 4, cells := 0, slots := 0, locals := 91 } : Room) [.ref (x 0), .int (nI n)] (([xO x hm kp tr hi] ++ (wH G hm σ ++ (wH G tr ρ)))) sz (fun _ => True) (fun u => zI (daysN n ρ 4 ≤ σ 4)) (fun u => ([xO x hm kp tr hi] ++ (wH G hm σ ++ (wH G tr u)))) := by
  refine MI_enter (cc := cX5_isTrialFed) (maxL := 3) (ret := (some .boolean)) (by decide) rfl (Nat.le_of_ble_eq_true rfl) ?_
  intro p e s m below meth c A ls H hx hb hr hlk hml hown hts hAq hS hP hK hD hX hl hnm
  have hown : s.vm.findClass RX5 = some m.cls := hown
  have hl : lv_has ls 3 [(0, .ref (x 0)), (1, .int (nI n))] := hl
  obtain ⟨⟨i1, i2, i3, i4, i5⟩, ip⟩ := id hI
  refine lv_iconst (v := nI 0) hx hb dX5_isTrialFed_0 rfl ?_
  refine lv_istore_n (lv' := [(2, .int (nI 0)), (0, .ref (x 0)), (1, .int (nI n))]) hx hb dX5_isTrialFed_1 rfl hl (by decide) rfl (fun ls hl => ?_)
  refine W_loop1 (I := fun (k : Nat) => k ≤ n ∧ daysN k ρ 4 ≤ σ 4) (wd := fun (k : Nat) => ([xO x hm kp tr hi] ++ (wH G hm σ ++ (wH G tr (daysN k ρ))))) (lv := fun (k : Nat) => [(2, .int (nI k)), (0, .ref (x 0)), (1, .int (nI n))]) (μ := fun (k : Nat) => n - k) ?_ 0 ⟨by omega, h4⟩ hP hD hS (lv_sub hl [0, 1, 2] rfl)
  intro k H locs ls hI0 hP hD hS hl ih
  obtain ⟨hk, h4k⟩ := hI0
  have hE := days_Inv hIr k
  have hE0 := (days_0 ρ k).1
  have hE1 : daysN (k + 1) ρ 4 ≤ 9999 := (days_Inv hIr (k + 1)).1.2.2.2.1
  refine lv_iload_n hx hb dX5_isTrialFed_2 rfl (lv_at hl 0 rfl) ?_
  refine lv_iload_n hx hb dX5_isTrialFed_3 rfl (lv_at hl 2 rfl) ?_
  refine n_icmp_ge hx hb (by omega) (by omega) (tgt := 39) dX5_isTrialFed_4 (by decide) (fun c_1 => ?_) (fun c_1 => ?_)
  · have hk5 : k = n := by omega
    subst hk5
    refine lv_iconst (v := nI 1) hx hb dX5_isTrialFed_39 rfl ?_
    exact fin_z (ty := .boolean) (by decide) hx hb hr hlk hS hP hD (daysN k ρ) trivial (zI_t (by omega)).symm (eqW.rf _) dX5_isTrialFed_40
  · refine lv_aload_n hx hb dX5_isTrialFed_7 rfl (lv_at hl 1 rfl) ?_
    refine n_get (C := RX5) (T := TX5) (N := 7) hx hb hts (fun _ h => List.mem_cons_of_mem _ (List.mem_append_left _ (List.mem_append_right _ h))) hown hK hP 0 rfl rfl 2 (by decide) (List.mem_of_getElem? (i := 1) rfl) rfl (.ref (tr 0)) rfl dX5_isTrialFed_8 ?_
    refine callVV (rest := []) (wn := fun u => ([xO x hm kp tr hi] ++ (wH G hm σ ++ (wH G tr (dayN (daysN k ρ)))))) ⟨hx, hb, hml, hown, hts⟩ (c_X0_goOneDay l G H.size tr (daysN k ρ) hE (by omega)) (cwV 0 hts gX5_isTrialFed_X0_goOneDay rfl rfl rfl (by decide +kernel) ⟨Nat.le_of_ble_eq_true rfl, Nat.le_of_ble_eq_true rfl⟩) noXB (fun _ _ _ => trivial) hK hP hD hS hAq 0 0 (T := TX0) (N := 11) rfl rfl rfl hl.1 rfl (Nat.le_of_ble_eq_true rfl) dX5_isTrialFed_11 ⟨Nat.le_of_ble_eq_true rfl, Nat.le_of_ble_eq_true rfl⟩ [7, 8, 9, 10, 11, 12] rfl rfl [tr 0, tr 1, tr 2, tr 3, tr 4, tr 5] rfl (fun _ => rfl) (fun _ => rfl) (fun u H locs hok hP hD hS => ?_)
    refine lv_aload_n hx hb dX5_isTrialFed_14 rfl (lv_at hl 1 rfl) ?_
    refine n_get (C := RX5) (T := TX5) (N := 7) hx hb hts (fun _ h => List.mem_cons_of_mem _ (List.mem_append_left _ (List.mem_append_right _ h))) hown hK hP 0 rfl rfl 2 (by decide) (List.mem_of_getElem? (i := 1) rfl) rfl (.ref (tr 0)) rfl dX5_isTrialFed_15 ?_
    refine n_get (C := RX0) (T := TX0) (N := 11) hx hb hts (fun _ h => List.mem_cons_of_mem _ (List.mem_append_right _ h)) hown hK hP 7 rfl rfl 4 (by decide) (List.mem_of_getElem? (i := 2) rfl) rfl (.int (nI ((daysN (k + 1) ρ) 4))) rfl dX5_isTrialFed_18 ?_
    refine lv_aload_n hx hb dX5_isTrialFed_21 rfl (lv_at hl 1 rfl) ?_
    refine n_get (C := RX5) (T := TX5) (N := 7) hx hb hts (fun _ h => List.mem_cons_of_mem _ (List.mem_append_left _ (List.mem_append_right _ h))) hown hK hP 0 rfl rfl 0 (by decide) (List.mem_of_getElem? (i := 3) rfl) rfl (.ref (hm 0)) rfl dX5_isTrialFed_22 ?_
    refine n_get (C := RX0) (T := TX0) (N := 11) hx hb hts (fun _ h => List.mem_cons_of_mem _ (List.mem_append_right _ h)) hown hK hP 1 rfl rfl 4 (by decide) (List.mem_of_getElem? (i := 2) rfl) rfl (.int (nI (σ 4))) rfl dX5_isTrialFed_25 ?_
    refine n_icmp_le hx hb (by omega) (by omega) (tgt := 33) dX5_isTrialFed_28 (by decide) (fun c_2 => ?_) (fun c_2 => ?_)
    · refine n_iinc (lv' := [(2, .int (nI (k + 1))), (0, .ref (x 0)), (1, .int (nI n))]) hx hb dX5_isTrialFed_33 hl (k := 0) rfl (by decide) rfl (fun ls hl => ?_)
      refine lv_goto (tgt := 2) hx hb dX5_isTrialFed_36 (by decide) ?_
      exact ih (k + 1) _ _ _ (by omega) ⟨by omega, by omega⟩ hP hD hS (lv_sub hl [0, 1, 2] rfl)
    · refine lv_iconst (v := nI 0) hx hb dX5_isTrialFed_31 rfl ?_
      have h9 := days_4m hIr (k + 1) (n - (k + 1))
      rw [show k + 1 + (n - (k + 1)) = n by omega] at h9
      exact fin_z (ty := .boolean) (by decide) hx hb hr hlk hS hP hD (daysN (k + 1) ρ) trivial (zI_f (by omega)).symm (eqW.rf _) dX5_isTrialFed_32
set_option maxHeartbeats 400000 in
set_option maxRecDepth 100000 in
theorem c_X6_thenAt (l : Launch) (G : GT) (sz : Nat) (b : Nat → Nat) (ζ : Nat → Nat) (vv : Int64) (σ σ1 : Sg) (q n : Nat) (hI1 : Inv σ1) (hd1 : σ1 0 + n < 1000000) (hq : q < 46) : MI (S := Unit) l G noX yX6_thenAt wsX6_thenAt ({ frames := 7, cells := 0, slots := 0, locals := 158 } : Room) [.ref (b 0), .int (nI q), .int (nI n)] ([mO b ζ vv, (b 1, .inl (G.2.1, 46, .inl (nF σ1))), (b 3, .inl (G.2.1, 46, .inl (nF σ)))]) sz (fun _ => True) (fun _ => nI (daysN n σ1 q)) (fun _ => [mO b ζ vv, (b 1, .inl (G.2.1, 46, .inl (nF σ))), (b 3, .inl (G.2.1, 46, .inl (nF σ)))]) := by
  refine MI_enter (cc := cX6_thenAt) (maxL := 4) (ret := (some .int)) (by decide) rfl (Nat.le_of_ble_eq_true rfl) ?_
  intro p e s m below meth c A ls H hx hb hr hlk hml hown hts hAq hS hP hK hD hX hl hnm
  have hown : s.vm.findClass RX6 = some m.cls := hown
  have hl : lv_has ls 4 [(0, .ref (b 0)), (1, .int (nI q)), (2, .int (nI n))] := hl
  refine lv_aload_n hx hb dX6_thenAt_0 rfl (lv_at hl 0 rfl) ?_
  refine lv_iload_n hx hb dX6_thenAt_1 rfl (lv_at hl 2 rfl) ?_
  refine callVV (rest := []) (wn := fun u => [mO b ζ vv, (b 1, .inl (G.2.1, 46, .inl (nF (daysN n σ1)))), (b 3, .inl (G.2.1, 46, .inl (nF σ)))]) ⟨hx, hb, hml, hown, hts⟩ (c_X6_goes l G H.size b ζ vv σ1 n hI1 (by omega)) (cwV 1 hts gX6_thenAt_X6_goes rfl rfl rfl (by decide +kernel) ⟨Nat.le_of_ble_eq_true rfl, Nat.le_of_ble_eq_true rfl⟩) noXB (fun _ _ _ => trivial) hK hP hD hS hAq 5 0 (T := TX6) (N := 18) rfl rfl rfl hl.1 rfl (Nat.le_of_ble_eq_true rfl) dX6_thenAt_2 ⟨Nat.le_of_ble_eq_true rfl, Nat.le_of_ble_eq_true rfl⟩ [0, 1] rfl rfl [b 0, b 1] rfl (fun _ => rfl) (fun _ => rfl) (fun u H locs hok hP hD hS => ?_)
  refine lv_aload_n hx hb dX6_thenAt_5 rfl (lv_at hl 0 rfl) ?_
  refine n_get (C := RX6) (T := TX6) (N := 18) hx hb hts (fun _ h => List.mem_cons_of_mem _ (List.mem_append_right _ h)) hown hK hP 0 rfl rfl 0 (by decide) (List.mem_of_getElem? (i := 1) rfl) rfl (.ref (b 1)) rfl dX6_thenAt_6 ?_
  refine lv_iload_n hx hb dX6_thenAt_9 rfl (lv_at hl 1 rfl) ?_
  refine n_iald hx hb hK hP 1 (v := (nI ((daysN n σ1) q))) rfl (by omega) (by omega) rfl dX6_thenAt_10 ?_
  refine lv_istore_n (lv' := [(3, .int (nI ((daysN n σ1) q))), (0, .ref (b 0)), (1, .int (nI q)), (2, .int (nI n))]) hx hb dX6_thenAt_11 rfl hl (by decide) rfl (fun ls hl => ?_)
  refine lv_aload_n hx hb dX6_thenAt_12 rfl (lv_at hl 1 rfl) ?_
  refine callVV (rest := []) (wn := fun u => [mO b ζ vv, (b 1, .inl (G.2.1, 46, .inl (nF σ))), (b 3, .inl (G.2.1, 46, .inl (nF σ)))]) ⟨hx, hb, hml, hown, hts⟩ (c_X6_laysBack l G H.size b ζ vv σ (nF (daysN n σ1))) (cwV 0 hts gX6_thenAt_X6_laysBack rfl rfl rfl (by decide +kernel) ⟨Nat.le_of_ble_eq_true rfl, Nat.le_of_ble_eq_true rfl⟩) noXB (fun _ _ _ => trivial) hK hP hD hS hAq 5 0 (T := TX6) (N := 18) rfl rfl rfl hl.1 rfl (Nat.le_of_ble_eq_true rfl) dX6_thenAt_13 ⟨Nat.le_of_ble_eq_true rfl, Nat.le_of_ble_eq_true rfl⟩ [0, 1, 2] rfl rfl [b 0, b 1, b 3] rfl (fun _ => rfl) (fun _ => rfl) (fun u H locs hok hP hD hS => ?_)
  refine lv_iload_n hx hb dX6_thenAt_16 rfl (lv_at hl 0 rfl) ?_
  exact fin_i hx hb hr hlk hS hP hD () trivial rfl (eqW.rf _) dX6_thenAt_17
set_option maxHeartbeats 400000 in
set_option maxRecDepth 100000 in
theorem c_X6_isAhead (l : Launch) (G : GT) (sz : Nat) (a0 : Int32) : MI (S := Unit) l G noX yX6_isAhead wsX6_isAhead ({ frames := 1, cells := 0, slots := 0, locals := 22 } : Room) [.int a0] (([] : va_W)) sz (fun _ => True) (fun _ => zI ((0 : Int) ≤ a0.toInt ∧ a0.toInt ≤ 100)) (fun _ => ([] : va_W)) := by
  refine MI_enter (cc := cX6_isAhead) (maxL := 1) (ret := (some .boolean)) (by decide) rfl (Nat.le_of_ble_eq_true rfl) ?_
  intro p e s m below meth c A ls H hx hb hr hlk hml hown hts hAq hS hP hK hD hX hl hnm
  have hown : s.vm.findClass RX6 = some m.cls := hown
  have hl : lv_has ls 1 [(0, .int a0)] := hl
  refine lv_iload_n hx hb dX6_isAhead_0 rfl (lv_at hl 0 rfl) ?_
  refine lv_iconst (v := nI 0) hx hb dX6_isAhead_1 rfl ?_
  refine lv_bipush (v := nI 100) hx hb dX6_isAhead_2 rfl ?_
  refine callSI (rest := []) (wn := fun u => ([] : va_W)) ⟨hx, hb, hml, hown, hts⟩ (c_X6_in1 l G H.size a0 (nI 0) (nI 100)) (va_cwS 3 hts gX6_isAhead_X6_in1 rfl rfl rfl (by decide +kernel) ⟨Nat.le_of_ble_eq_true rfl, Nat.le_of_ble_eq_true rfl⟩) noXB (fun _ _ _ => trivial) hK hP hD hS hAq rfl hl.1 rfl (Nat.le_of_ble_eq_true rfl) dX6_isAhead_4 ⟨Nat.le_of_ble_eq_true rfl, Nat.le_of_ble_eq_true rfl⟩ [] rfl rfl [] rfl (fun _ => rfl) (fun _ => rfl) (fun u H locs hok hP hD hS => ?_)
  refine n_top (y := zI ((0 : Int) ≤ a0.toInt ∧ a0.toInt ≤ 100)) (zI_c (by rw [nI_T (show 0 < 2147483648 by decide), nI_T (show 100 < 2147483648 by decide)]; exact Iff.rfl)) ?_
  exact fin_z (ty := .boolean) zI_n hx hb hr hlk hS hP hD () trivial rfl (eqW.rf _) dX6_isAhead_7
set_option maxHeartbeats 400000 in
set_option maxRecDepth 100000 in
theorem c_X6_isSoon (l : Launch) (G : GT) (sz : Nat) (a0 : Int32) : MI (S := Unit) l G noX yX6_isSoon wsX6_isSoon ({ frames := 1, cells := 0, slots := 0, locals := 22 } : Room) [.int a0] (([] : va_W)) sz (fun _ => True) (fun _ => zI ((1 : Int) ≤ a0.toInt ∧ a0.toInt ≤ 60)) (fun _ => ([] : va_W)) := by
  refine MI_enter (cc := cX6_isSoon) (maxL := 1) (ret := (some .boolean)) (by decide) rfl (Nat.le_of_ble_eq_true rfl) ?_
  intro p e s m below meth c A ls H hx hb hr hlk hml hown hts hAq hS hP hK hD hX hl hnm
  have hown : s.vm.findClass RX6 = some m.cls := hown
  have hl : lv_has ls 1 [(0, .int a0)] := hl
  refine lv_iload_n hx hb dX6_isSoon_0 rfl (lv_at hl 0 rfl) ?_
  refine lv_iconst (v := nI 1) hx hb dX6_isSoon_1 rfl ?_
  refine lv_bipush (v := nI 60) hx hb dX6_isSoon_2 rfl ?_
  refine callSI (rest := []) (wn := fun u => ([] : va_W)) ⟨hx, hb, hml, hown, hts⟩ (c_X6_in1 l G H.size a0 (nI 1) (nI 60)) (va_cwS 3 hts gX6_isSoon_X6_in1 rfl rfl rfl (by decide +kernel) ⟨Nat.le_of_ble_eq_true rfl, Nat.le_of_ble_eq_true rfl⟩) noXB (fun _ _ _ => trivial) hK hP hD hS hAq rfl hl.1 rfl (Nat.le_of_ble_eq_true rfl) dX6_isSoon_4 ⟨Nat.le_of_ble_eq_true rfl, Nat.le_of_ble_eq_true rfl⟩ [] rfl rfl [] rfl (fun _ => rfl) (fun _ => rfl) (fun u H locs hok hP hD hS => ?_)
  refine n_top (y := zI ((1 : Int) ≤ a0.toInt ∧ a0.toInt ≤ 60)) (zI_c (by rw [nI_T (show 1 < 2147483648 by decide), nI_T (show 60 < 2147483648 by decide)]; exact Iff.rfl)) ?_
  exact fin_z (ty := .boolean) zI_n hx hb hr hlk hS hP hD () trivial rfl (eqW.rf _) dX6_isSoon_7
set_option maxHeartbeats 400000 in
set_option maxRecDepth 100000 in
theorem c_X6_firstBy (l : Launch) (G : GT) (sz : Nat) (b : Nat → Nat) (ζ : Nat → Nat) (vv : Int64) (tl : Nat → Int32) (σ : Sg) (F : Nat → Int32) (q v : Nat) (hI : Inv σ) (hd0 : σ 0 ≤ 9999) (hq : q < 46) (hv : v < 2147483648) : MI (S := Unit) l G noX yX6_firstBy wsX6_firstBy ({ frames := 6, cells := 0, slots := 0, locals := 136 } : Room) [.ref (b 0), .int (nI q), .int (nI v)] ([mO b ζ vv, (b 4, .inl (G.2.1, 7, .inl tl)), (b 1, .inl (G.2.1, 46, .inl (nF σ))), (b 3, .inl (G.2.1, 46, .inl F))]) sz (fun _ => True) (fun _ => rs (fb_e σ q v) (nI (fbN σ q v))) (fun _ => [mO b ζ vv, (b 4, .inl (G.2.1, 7, .inl (ts tl (fb_e σ q v)))), (b 1, .inl (G.2.1, 46, .inl (nF σ))), (b 3, .inl (G.2.1, 46, .inl (nF σ)))]) := by
  refine MI_enter (cc := cX6_firstBy) (maxL := 4) (ret := (some .int)) (by decide) rfl (Nat.le_of_ble_eq_true rfl) ?_
  intro p e s m below meth c A ls H hx hb hr hlk hml hown hts hAq hS hP hK hD hX hl hnm
  have hown : s.vm.findClass RX6 = some m.cls := hown
  have hl : lv_has ls 4 [(0, .ref (b 0)), (1, .int (nI q)), (2, .int (nI v))] := hl
  obtain ⟨⟨i1, i2, i3, i4, i5⟩, ip⟩ := id hI
  refine lv_aload_n hx hb dX6_firstBy_0 rfl (lv_at hl 0 rfl) ?_
  refine callVV (rest := []) (wn := fun u => [mO b ζ vv, (b 4, .inl (G.2.1, 7, .inl tl)), (b 1, .inl (G.2.1, 46, .inl (nF σ))), (b 3, .inl (G.2.1, 46, .inl (nF σ)))]) ⟨hx, hb, hml, hown, hts⟩ (c_X6_setsAside l G H.size b ζ vv σ F) (cwV 0 hts gX6_firstBy_X6_setsAside rfl rfl rfl (by decide +kernel) ⟨Nat.le_of_ble_eq_true rfl, Nat.le_of_ble_eq_true rfl⟩) noXB (fun _ _ _ => trivial) hK hP hD hS hAq 5 0 (T := TX6) (N := 18) rfl rfl rfl hl.1 rfl (Nat.le_of_ble_eq_true rfl) dX6_firstBy_1 ⟨Nat.le_of_ble_eq_true rfl, Nat.le_of_ble_eq_true rfl⟩ [0, 2, 3] rfl rfl [b 0, b 1, b 3] rfl (fun _ => rfl) (fun _ => rfl) (fun u H locs hok hP hD hS => ?_)
  refine lv_iconst (v := nI 0) hx hb dX6_firstBy_4 rfl ?_
  refine lv_istore_n (lv' := [(3, .int (nI 0)), (0, .ref (b 0)), (1, .int (nI q)), (2, .int (nI v))]) hx hb dX6_firstBy_5 rfl hl (by decide) rfl (fun ls hl => ?_)
  refine W_loop1 (I := fun (k : Nat) => k ≤ 101 ∧ NoQ (fbQ σ q v) k) (wd := fun (k : Nat) => [mO b ζ vv, (b 4, .inl (G.2.1, 7, .inl tl)), (b 1, .inl (G.2.1, 46, .inl (nF (daysN k σ)))), (b 3, .inl (G.2.1, 46, .inl (nF σ)))]) (lv := fun (k : Nat) => [(3, .int (nI k)), (0, .ref (b 0)), (1, .int (nI q)), (2, .int (nI v))]) (μ := fun (k : Nat) => 101 - k) ?_ 0 ⟨by omega, NoQ_0⟩ hP hD hS (lv_sub hl [0, 1, 2, 3] rfl)
  intro k H locs ls hI0 hP hD hS hl ih
  obtain ⟨hk, hno⟩ := hI0
  have hE := days_Inv hI k
  have hE0 := (days_0 σ k).1
  have hlt := days_lt hI k (by omega) hq
  refine lv_iload_n hx hb dX6_firstBy_6 rfl (lv_at hl 0 rfl) ?_
  refine lv_bipush (v := nI 100) hx hb dX6_firstBy_7 rfl ?_
  refine n_icmp_gt hx hb (by omega) (by omega) (tgt := 32) dX6_firstBy_9 (by decide) (fun c_1 => ?_) (fun c_1 => ?_)
  · have hk5 : k = 101 := by omega
    subst hk5
    refine lv_aload_n hx hb dX6_firstBy_32 rfl (lv_at hl 1 rfl) ?_
    refine callVV (rest := []) (wn := fun u => [mO b ζ vv, (b 4, .inl (G.2.1, 7, .inl tl)), (b 1, .inl (G.2.1, 46, .inl (nF σ))), (b 3, .inl (G.2.1, 46, .inl (nF σ)))]) ⟨hx, hb, hml, hown, hts⟩ (c_X6_laysBack l G H.size b ζ vv σ (nF (daysN 101 σ))) (cwV 0 hts gX6_firstBy_X6_laysBack rfl rfl rfl (by decide +kernel) ⟨Nat.le_of_ble_eq_true rfl, Nat.le_of_ble_eq_true rfl⟩) noXB (fun _ _ _ => trivial) hK hP hD hS hAq 5 0 (T := TX6) (N := 18) rfl rfl rfl hl.1 rfl (Nat.le_of_ble_eq_true rfl) dX6_firstBy_33 ⟨Nat.le_of_ble_eq_true rfl, Nat.le_of_ble_eq_true rfl⟩ [0, 2, 3] rfl rfl [b 0, b 1, b 3] rfl (fun _ => rfl) (fun _ => rfl) (fun u H locs hok hP hD hS => ?_)
    refine lv_iload_n hx hb dX6_firstBy_36 rfl (lv_at hl 0 rfl) ?_
    refine lv_bipush (v := nI 100) hx hb dX6_firstBy_37 rfl ?_
    refine n_icmp_le hx hb (by omega) (by omega) (tgt := 50) dX6_firstBy_39 (by decide) (fun c_2 => ?_) (fun c_2 => ?_)
    · omega
    · refine lv_aload_n hx hb dX6_firstBy_42 rfl (lv_at hl 1 rfl) ?_
      refine lv_iconst (v := nI 3) hx hb dX6_firstBy_43 rfl ?_
      refine callVI (rest := []) (wn := fun u => [mO b ζ vv, (b 4, .inl (G.2.1, 7, .inl (tk tl 3))), (b 1, .inl (G.2.1, 46, .inl (nF σ))), (b 3, .inl (G.2.1, 46, .inl (nF σ)))]) ⟨hx, hb, hml, hown, hts⟩ (c_X6_no l G H.size b ζ vv tl 3 (by omega)) (cwV 1 hts gX6_firstBy_X6_no rfl rfl rfl (by decide +kernel) ⟨Nat.le_of_ble_eq_true rfl, Nat.le_of_ble_eq_true rfl⟩) noXB (fun _ _ _ => trivial) hK hP hD hS hAq 5 0 (T := TX6) (N := 18) rfl rfl rfl hl.1 rfl (Nat.le_of_ble_eq_true rfl) dX6_firstBy_44 ⟨Nat.le_of_ble_eq_true rfl, Nat.le_of_ble_eq_true rfl⟩ [0, 1] rfl rfl [b 0, b 4] rfl (fun _ => rfl) (fun _ => rfl) (fun u H locs hok hP hD hS => ?_)
      refine lv_goto (tgt := 51) hx hb dX6_firstBy_47 (by decide) ?_
      have hf : fbN σ q v = 101 := fst_none hno
      have he : fb_e σ q v = 3 := by unfold fb_e; rw [hf, if_neg (by omega)]
      exact fin_i hx hb hr hlk hS hP hD () trivial (by rw [he]; rfl) (by rw [he]; exact eqW.rf _) dX6_firstBy_51
  · refine lv_aload_n hx hb dX6_firstBy_12 rfl (lv_at hl 1 rfl) ?_
    refine n_get (C := RX6) (T := TX6) (N := 18) hx hb hts (fun _ h => List.mem_cons_of_mem _ (List.mem_append_right _ h)) hown hK hP 0 rfl rfl 0 (by decide) (List.mem_of_getElem? (i := 1) rfl) rfl (.ref (b 1)) rfl dX6_firstBy_13 ?_
    refine lv_iload_n hx hb dX6_firstBy_16 rfl (lv_at hl 2 rfl) ?_
    refine n_iald hx hb hK hP 2 (v := (nI ((daysN k σ) q))) rfl (by omega) (by omega) rfl dX6_firstBy_17 ?_
    refine lv_iload_n hx hb dX6_firstBy_18 rfl (lv_at hl 3 rfl) ?_
    refine n_icmp_ge hx hb (by omega) (by omega) (tgt := 32) dX6_firstBy_19 (by decide) (fun c_3 => ?_) (fun c_3 => ?_)
    · refine lv_aload_n hx hb dX6_firstBy_32 rfl (lv_at hl 1 rfl) ?_
      refine callVV (rest := []) (wn := fun u => [mO b ζ vv, (b 4, .inl (G.2.1, 7, .inl tl)), (b 1, .inl (G.2.1, 46, .inl (nF σ))), (b 3, .inl (G.2.1, 46, .inl (nF σ)))]) ⟨hx, hb, hml, hown, hts⟩ (c_X6_laysBack l G H.size b ζ vv σ (nF (daysN k σ))) (cwV 0 hts gX6_firstBy_X6_laysBack rfl rfl rfl (by decide +kernel) ⟨Nat.le_of_ble_eq_true rfl, Nat.le_of_ble_eq_true rfl⟩) noXB (fun _ _ _ => trivial) hK hP hD hS hAq 5 0 (T := TX6) (N := 18) rfl rfl rfl hl.1 rfl (Nat.le_of_ble_eq_true rfl) dX6_firstBy_33 ⟨Nat.le_of_ble_eq_true rfl, Nat.le_of_ble_eq_true rfl⟩ [0, 2, 3] rfl rfl [b 0, b 1, b 3] rfl (fun _ => rfl) (fun _ => rfl) (fun u H locs hok hP hD hS => ?_)
      refine lv_iload_n hx hb dX6_firstBy_36 rfl (lv_at hl 0 rfl) ?_
      refine lv_bipush (v := nI 100) hx hb dX6_firstBy_37 rfl ?_
      refine n_icmp_le hx hb (by omega) (by omega) (tgt := 50) dX6_firstBy_39 (by decide) (fun c_4 => ?_) (fun c_4 => ?_)
      · refine lv_iload_n hx hb dX6_firstBy_50 rfl (lv_at hl 0 rfl) ?_
        have hf : fbN σ q v = k := fst_of hno (decide_eq_true (by omega)) (by omega)
        have he : fb_e σ q v = 7 := by unfold fb_e; rw [hf, if_pos (by omega)]
        exact fin_i hx hb hr hlk hS hP hD () trivial (by rw [he, hf]; rfl) (by rw [he]; exact eqW.rf _) dX6_firstBy_51
      · omega
    · refine lv_aload_n hx hb dX6_firstBy_22 rfl (lv_at hl 1 rfl) ?_
      refine callVV (rest := []) (wn := fun u => [mO b ζ vv, (b 4, .inl (G.2.1, 7, .inl tl)), (b 1, .inl (G.2.1, 46, .inl (nF (dayN (daysN k σ))))), (b 3, .inl (G.2.1, 46, .inl (nF σ)))]) ⟨hx, hb, hml, hown, hts⟩ (c_X6_day l G H.size b ζ vv (daysN k σ) hE (by omega)) (cwV 0 hts gX6_firstBy_X6_day rfl rfl rfl (by decide +kernel) ⟨Nat.le_of_ble_eq_true rfl, Nat.le_of_ble_eq_true rfl⟩) noXB (fun _ _ _ => trivial) hK hP hD hS hAq 5 0 (T := TX6) (N := 18) rfl rfl rfl hl.1 rfl (Nat.le_of_ble_eq_true rfl) dX6_firstBy_23 ⟨Nat.le_of_ble_eq_true rfl, Nat.le_of_ble_eq_true rfl⟩ [0, 2] rfl rfl [b 0, b 1] rfl (fun _ => rfl) (fun _ => rfl) (fun u H locs hok hP hD hS => ?_)
      refine n_iinc (lv' := [(3, .int (nI (k + 1))), (0, .ref (b 0)), (1, .int (nI q)), (2, .int (nI v))]) hx hb dX6_firstBy_26 hl (k := 0) rfl (by decide) rfl (fun ls hl => ?_)
      refine lv_goto (tgt := 6) hx hb dX6_firstBy_29 (by decide) ?_
      exact ih (k + 1) _ _ _ (by omega) ⟨by omega, NoQ_S hno (decide_eq_false (by omega))⟩ hP hD hS (lv_sub hl [0, 1, 2, 3] rfl)
set_option maxHeartbeats 400000 in
set_option maxRecDepth 100000 in
theorem c_X5_on (l : Launch) (G : GT) (sz : Nat) (x hm kp tr : Nat → Nat) (hi : Nat) (tl : Nat → Int32) (σ τ : Sg) (a0 a1 : Int32) (hI : Inv σ) (hd0 : σ 0 ≤ 9999) : MI (S := Sg) l G noX yX5_on wsX5_on ({ frames := 6, cells := 0, slots := 0, locals := 134 } : Room) [.ref (x 0), .int a0, .int a1] (([xO x hm kp tr hi, (x 7, .inl (G.2.1, 7, .inl tl))] ++ (wH G hm σ ++ (wH G tr τ)))) sz (fun _ => True) (fun u => rs (on_e a0.toInt a1.toInt) (nI (daysN a0.toInt.toNat σ (1 + a1.toInt.toNat)))) (fun u => ([xO x hm kp tr hi, (x 7, .inl (G.2.1, 7, .inl (ts tl (on_e a0.toInt a1.toInt))))] ++ (wH G hm σ ++ (wH G tr u)))) := by
  refine MI_enter (cc := cX5_on) (maxL := 3) (ret := (some .int)) (by decide) rfl (Nat.le_of_ble_eq_true rfl) ?_
  intro p e s m below meth c A ls H hx hb hr hlk hml hown hts hAq hS hP hK hD hX hl hnm
  have hown : s.vm.findClass RX5 = some m.cls := hown
  have hl : lv_has ls 3 [(0, .ref (x 0)), (1, .int a0), (2, .int a1)] := hl
  obtain ⟨⟨i1, i2, i3, i4, i5⟩, ip⟩ := id hI
  refine lv_iload_n hx hb dX5_on_0 rfl (lv_at hl 1 rfl) ?_
  refine lv_iconst (v := nI 0) hx hb dX5_on_1 rfl ?_
  refine lv_bipush (v := nI 100) hx hb dX5_on_2 rfl ?_
  refine callSI (rest := []) (wn := fun u => ([xO x hm kp tr hi, (x 7, .inl (G.2.1, 7, .inl tl))] ++ (wH G hm σ ++ (wH G tr τ)))) ⟨hx, hb, hml, hown, hts⟩ (c_X5_isWithin l G H.size a0 (nI 0) (nI 100)) (va_cwS 3 hts gX5_on_X5_isWithin rfl rfl rfl (by decide +kernel) ⟨Nat.le_of_ble_eq_true rfl, Nat.le_of_ble_eq_true rfl⟩) noXB (fun _ _ _ => trivial) hK hP hD hS hAq rfl hl.1 rfl (Nat.le_of_ble_eq_true rfl) dX5_on_4 ⟨Nat.le_of_ble_eq_true rfl, Nat.le_of_ble_eq_true rfl⟩ [] rfl rfl [] rfl (fun _ => rfl) (fun _ => rfl) (fun u H locs hok hP hD hS => ?_)
  refine n_top (y := zI ((0 : Int) ≤ a0.toInt ∧ a0.toInt ≤ 100)) (zI_c (by rw [nI_T (show 0 < 2147483648 by decide), nI_T (show 100 < 2147483648 by decide)]; exact Iff.rfl)) ?_
  refine z_if_eq hx hb (tgt := 19) dX5_on_7 (by decide) (fun c_1 => ?_) (fun c_1 => ?_)
  · refine lv_aload_n hx hb dX5_on_19 rfl (lv_at hl 0 rfl) ?_
    refine lv_iconst (v := nI 0) hx hb dX5_on_20 rfl ?_
    refine callVI (rest := []) (wn := fun u => ([xO x hm kp tr hi, (x 7, .inl (G.2.1, 7, .inl (tk tl 0)))] ++ (wH G hm σ ++ (wH G tr τ)))) ⟨hx, hb, hml, hown, hts⟩ (c_X5_tell l G H.size x hm kp tr hi tl 0 (by omega)) (cwV 1 hts gX5_on_X5_tell rfl rfl rfl (by decide +kernel) ⟨Nat.le_of_ble_eq_true rfl, Nat.le_of_ble_eq_true rfl⟩) noXB (fun _ _ _ => trivial) hK hP hD hS hAq 4 0 (T := TX5) (N := 7) rfl rfl rfl hl.1 rfl (Nat.le_of_ble_eq_true rfl) dX5_on_21 ⟨Nat.le_of_ble_eq_true rfl, Nat.le_of_ble_eq_true rfl⟩ [0, 1] rfl rfl [x 0, x 7] rfl (fun _ => rfl) (fun _ => rfl) (fun u H locs hok hP hD hS => ?_)
    have he : on_e a0.toInt a1.toInt = 0 := by unfold on_e; (try simp only [Int.toNat_natCast]); (repeat' split) <;> omega
    exact fin_i hx hb hr hlk hS hP hD τ trivial (by rw [he]; first | done | ((try simp only [Int.toNat_natCast]); first | done | rfl)) (by rw [he]; (try simp only [Int.toNat_natCast]); exact eqW.rf _) dX5_on_24
  · obtain ⟨n0, hn0, rfl⟩ := nI_of_rg (n := 100) (x := a0) ⟨by omega, by omega⟩
    have hT0 := nI_T (a := n0) (by omega)
    refine lv_iload_n hx hb dX5_on_10 rfl (lv_at hl 2 rfl) ?_
    refine lv_iconst (v := nI 0) hx hb dX5_on_11 rfl ?_
    refine lv_iconst (v := nI 3) hx hb dX5_on_12 rfl ?_
    refine callSI (rest := []) (wn := fun u => ([xO x hm kp tr hi, (x 7, .inl (G.2.1, 7, .inl tl))] ++ (wH G hm σ ++ (wH G tr τ)))) ⟨hx, hb, hml, hown, hts⟩ (c_X5_isWithin l G H.size a1 (nI 0) (nI 3)) (va_cwS 3 hts gX5_on_X5_isWithin rfl rfl rfl (by decide +kernel) ⟨Nat.le_of_ble_eq_true rfl, Nat.le_of_ble_eq_true rfl⟩) noXB (fun _ _ _ => trivial) hK hP hD hS hAq rfl hl.1 rfl (Nat.le_of_ble_eq_true rfl) dX5_on_13 ⟨Nat.le_of_ble_eq_true rfl, Nat.le_of_ble_eq_true rfl⟩ [] rfl rfl [] rfl (fun _ => rfl) (fun _ => rfl) (fun u H locs hok hP hD hS => ?_)
    refine n_top (y := zI ((0 : Int) ≤ a1.toInt ∧ a1.toInt ≤ 3)) (zI_c (by rw [nI_T (show 0 < 2147483648 by decide), nI_T (show 3 < 2147483648 by decide)]; exact Iff.rfl)) ?_
    refine z_if_ne hx hb (tgt := 25) dX5_on_16 (by decide) (fun c_2 => ?_) (fun c_2 => ?_)
    · obtain ⟨w1, hw1, rfl⟩ := nI_of_rg (n := 3) (x := a1) ⟨by omega, by omega⟩
      have hT1 := nI_T (a := w1) (by omega)
      refine lv_aload_n hx hb dX5_on_25 rfl (lv_at hl 0 rfl) ?_
      refine lv_iload_n hx hb dX5_on_26 rfl (lv_at hl 1 rfl) ?_
      refine callVV (rest := []) (wn := fun u => ([xO x hm kp tr hi, (x 7, .inl (G.2.1, 7, .inl tl))] ++ (wH G hm σ ++ (wH G tr (daysN n0 σ))))) ⟨hx, hb, hml, hown, hts⟩ (c_X5_tryAsItIs l G H.size x hm kp tr hi σ τ n0 hI (by omega)) (cwV 1 hts gX5_on_X5_tryAsItIs rfl rfl rfl (by decide +kernel) ⟨Nat.le_of_ble_eq_true rfl, Nat.le_of_ble_eq_true rfl⟩) noXB (fun _ _ _ => trivial) hK hP hD hS hAq 4 0 (T := TX5) (N := 7) rfl rfl rfl hl.1 rfl (Nat.le_of_ble_eq_true rfl) dX5_on_27 ⟨Nat.le_of_ble_eq_true rfl, Nat.le_of_ble_eq_true rfl⟩ [0, 2, 3, 4, 5, 6, 7, 8, 9, 10, 11, 12, 13] rfl rfl [x 0, hm 0, hm 1, hm 2, hm 3, hm 4, hm 5, tr 0, tr 1, tr 2, tr 3, tr 4, tr 5] rfl (fun _ => rfl) (fun _ => rfl) (fun u H locs hok hP hD hS => ?_)
      have dE := days_Inv hI n0
      refine lv_iload_n hx hb dX5_on_30 rfl (lv_at hl 2 rfl) ?_
      rcases (show w1 = 0 ∨ w1 = 1 ∨ w1 = 2 ∨ w1 = 3 by omega) with rfl | rfl | rfl | rfl
      · refine n_tableIn (a := 0) rfl hx hb (off := 25) (tgt := 56) dX5_on_31 (by decide) (by decide) (by decide) (by decide) ?_
        refine lv_aload_n hx hb dX5_on_56 rfl (lv_at hl 0 rfl) ?_
        refine n_get (C := RX5) (T := TX5) (N := 7) hx hb hts (fun _ h => List.mem_cons_of_mem _ (List.mem_append_left _ (List.mem_append_right _ h))) hown hK hP 0 rfl rfl 2 (by decide) (List.mem_of_getElem? (i := 1) rfl) rfl (.ref (tr 0)) rfl dX5_on_57 ?_
        refine n_get (C := RX0) (T := TX0) (N := 11) hx hb hts (fun _ h => List.mem_cons_of_mem _ (List.mem_append_right _ h)) hown hK hP 8 rfl rfl 1 (by decide) (List.mem_of_getElem? (i := 2) rfl) rfl (.int (nI ((daysN n0 σ) 1))) rfl dX5_on_60 ?_
        have he : on_e (nI n0).toInt (nI 0).toInt = 7 := by unfold on_e; (try simp only [hT0, hT1, Int.toNat_natCast]); (repeat' split) <;> omega
        exact fin_i hx hb hr hlk hS hP hD (daysN n0 σ) trivial (by rw [he]; first | done | ((try simp only [hT0, hT1, Int.toNat_natCast]); first | done | rfl)) (by rw [he]; (try simp only [hT0, hT1, Int.toNat_natCast]); exact eqW.rf _) dX5_on_63
      · refine n_tableIn (a := 1) rfl hx hb (off := 33) (tgt := 64) dX5_on_31 (by decide) (by decide) (by decide) (by decide) ?_
        refine lv_aload_n hx hb dX5_on_64 rfl (lv_at hl 0 rfl) ?_
        refine n_get (C := RX5) (T := TX5) (N := 7) hx hb hts (fun _ h => List.mem_cons_of_mem _ (List.mem_append_left _ (List.mem_append_right _ h))) hown hK hP 0 rfl rfl 2 (by decide) (List.mem_of_getElem? (i := 1) rfl) rfl (.ref (tr 0)) rfl dX5_on_65 ?_
        refine n_get (C := RX0) (T := TX0) (N := 11) hx hb hts (fun _ h => List.mem_cons_of_mem _ (List.mem_append_right _ h)) hown hK hP 8 rfl rfl 2 (by decide) (List.mem_of_getElem? (i := 3) rfl) rfl (.int (nI ((daysN n0 σ) 2))) rfl dX5_on_68 ?_
        have he : on_e (nI n0).toInt (nI 1).toInt = 7 := by unfold on_e; (try simp only [hT0, hT1, Int.toNat_natCast]); (repeat' split) <;> omega
        exact fin_i hx hb hr hlk hS hP hD (daysN n0 σ) trivial (by rw [he]; first | done | ((try simp only [hT0, hT1, Int.toNat_natCast]); first | done | rfl)) (by rw [he]; (try simp only [hT0, hT1, Int.toNat_natCast]); exact eqW.rf _) dX5_on_71
      · refine n_tableIn (a := 2) rfl hx hb (off := 41) (tgt := 72) dX5_on_31 (by decide) (by decide) (by decide) (by decide) ?_
        refine lv_aload_n hx hb dX5_on_72 rfl (lv_at hl 0 rfl) ?_
        refine n_get (C := RX5) (T := TX5) (N := 7) hx hb hts (fun _ h => List.mem_cons_of_mem _ (List.mem_append_left _ (List.mem_append_right _ h))) hown hK hP 0 rfl rfl 2 (by decide) (List.mem_of_getElem? (i := 1) rfl) rfl (.ref (tr 0)) rfl dX5_on_73 ?_
        refine n_get (C := RX0) (T := TX0) (N := 11) hx hb hts (fun _ h => List.mem_cons_of_mem _ (List.mem_append_right _ h)) hown hK hP 8 rfl rfl 3 (by decide) (List.mem_of_getElem? (i := 4) rfl) rfl (.int (nI ((daysN n0 σ) 3))) rfl dX5_on_76 ?_
        have he : on_e (nI n0).toInt (nI 2).toInt = 7 := by unfold on_e; (try simp only [hT0, hT1, Int.toNat_natCast]); (repeat' split) <;> omega
        exact fin_i hx hb hr hlk hS hP hD (daysN n0 σ) trivial (by rw [he]; first | done | ((try simp only [hT0, hT1, Int.toNat_natCast]); first | done | rfl)) (by rw [he]; (try simp only [hT0, hT1, Int.toNat_natCast]); exact eqW.rf _) dX5_on_79
      · refine n_tableOut (a := 3) rfl hx hb (tgt := 80) dX5_on_31 (by decide) (by decide) ?_
        refine lv_aload_n hx hb dX5_on_80 rfl (lv_at hl 0 rfl) ?_
        refine n_get (C := RX5) (T := TX5) (N := 7) hx hb hts (fun _ h => List.mem_cons_of_mem _ (List.mem_append_left _ (List.mem_append_right _ h))) hown hK hP 0 rfl rfl 2 (by decide) (List.mem_of_getElem? (i := 1) rfl) rfl (.ref (tr 0)) rfl dX5_on_81 ?_
        refine n_get (C := RX0) (T := TX0) (N := 11) hx hb hts (fun _ h => List.mem_cons_of_mem _ (List.mem_append_right _ h)) hown hK hP 8 rfl rfl 4 (by decide) (List.mem_of_getElem? (i := 5) rfl) rfl (.int (nI ((daysN n0 σ) 4))) rfl dX5_on_84 ?_
        have he : on_e (nI n0).toInt (nI 3).toInt = 7 := by unfold on_e; (try simp only [hT0, hT1, Int.toNat_natCast]); (repeat' split) <;> omega
        exact fin_i hx hb hr hlk hS hP hD (daysN n0 σ) trivial (by rw [he]; first | done | ((try simp only [hT0, hT1, Int.toNat_natCast]); first | done | rfl)) (by rw [he]; (try simp only [hT0, hT1, Int.toNat_natCast]); exact eqW.rf _) dX5_on_87
    · refine lv_aload_n hx hb dX5_on_19 rfl (lv_at hl 0 rfl) ?_
      refine lv_iconst (v := nI 0) hx hb dX5_on_20 rfl ?_
      refine callVI (rest := []) (wn := fun u => ([xO x hm kp tr hi, (x 7, .inl (G.2.1, 7, .inl (tk tl 0)))] ++ (wH G hm σ ++ (wH G tr τ)))) ⟨hx, hb, hml, hown, hts⟩ (c_X5_tell l G H.size x hm kp tr hi tl 0 (by omega)) (cwV 1 hts gX5_on_X5_tell rfl rfl rfl (by decide +kernel) ⟨Nat.le_of_ble_eq_true rfl, Nat.le_of_ble_eq_true rfl⟩) noXB (fun _ _ _ => trivial) hK hP hD hS hAq 4 0 (T := TX5) (N := 7) rfl rfl rfl hl.1 rfl (Nat.le_of_ble_eq_true rfl) dX5_on_21 ⟨Nat.le_of_ble_eq_true rfl, Nat.le_of_ble_eq_true rfl⟩ [0, 1] rfl rfl [x 0, x 7] rfl (fun _ => rfl) (fun _ => rfl) (fun u H locs hok hP hD hS => ?_)
      have he : on_e (nI n0).toInt a1.toInt = 0 := by unfold on_e; (try simp only [hT0, Int.toNat_natCast]); (repeat' split) <;> omega
      exact fin_i hx hb hr hlk hS hP hD τ trivial (by rw [he]; first | done | ((try simp only [hT0, Int.toNat_natCast]); first | done | rfl)) (by rw [he]; (try simp only [hT0, Int.toNat_natCast]); exact eqW.rf _) dX5_on_24
set_option maxHeartbeats 400000 in
set_option maxRecDepth 100000 in
theorem c_X6_on (l : Launch) (G : GT) (sz : Nat) (b : Nat → Nat) (ζ : Nat → Nat) (vv : Int64) (tl : Nat → Int32) (σ : Sg) (F : Nat → Int32) (a0 a1 : Int32) (hI : Inv σ) (hd0 : σ 0 ≤ 9999) : MI (S := Nat → Int32) l G noX yX6_on wsX6_on ({ frames := 8, cells := 0, slots := 0, locals := 181 } : Room) [.ref (b 0), .int a0, .int a1] ([mO b ζ vv, (b 4, .inl (G.2.1, 7, .inl tl)), (b 1, .inl (G.2.1, 46, .inl (nF σ))), (b 3, .inl (G.2.1, 46, .inl F))]) sz (fun _ => True) (fun u => rs (on_e a0.toInt a1.toInt) (nI (daysN a0.toInt.toNat σ (1 + a1.toInt.toNat)))) (fun u => [mO b ζ vv, (b 4, .inl (G.2.1, 7, .inl (ts tl (on_e a0.toInt a1.toInt)))), (b 1, .inl (G.2.1, 46, .inl (nF σ))), (b 3, .inl (G.2.1, 46, .inl u))]) := by
  refine MI_enter (cc := cX6_on) (maxL := 3) (ret := (some .int)) (by decide) rfl (Nat.le_of_ble_eq_true rfl) ?_
  intro p e s m below meth c A ls H hx hb hr hlk hml hown hts hAq hS hP hK hD hX hl hnm
  have hown : s.vm.findClass RX6 = some m.cls := hown
  have hl : lv_has ls 3 [(0, .ref (b 0)), (1, .int a0), (2, .int a1)] := hl
  obtain ⟨⟨i1, i2, i3, i4, i5⟩, ip⟩ := id hI
  refine lv_iload_n hx hb dX6_on_0 rfl (lv_at hl 1 rfl) ?_
  refine callSI (rest := []) (wn := fun u => [mO b ζ vv, (b 4, .inl (G.2.1, 7, .inl tl)), (b 1, .inl (G.2.1, 46, .inl (nF σ))), (b 3, .inl (G.2.1, 46, .inl F))]) ⟨hx, hb, hml, hown, hts⟩ (c_X6_isAhead l G H.size a0) (va_cwS 1 hts gX6_on_X6_isAhead rfl rfl rfl (by decide +kernel) ⟨Nat.le_of_ble_eq_true rfl, Nat.le_of_ble_eq_true rfl⟩) noXB (fun _ _ _ => trivial) hK hP hD hS hAq rfl hl.1 rfl (Nat.le_of_ble_eq_true rfl) dX6_on_1 ⟨Nat.le_of_ble_eq_true rfl, Nat.le_of_ble_eq_true rfl⟩ [] rfl rfl [] rfl (fun _ => rfl) (fun _ => rfl) (fun u H locs hok hP hD hS => ?_)
  refine z_if_eq hx hb (tgt := 16) dX6_on_4 (by decide) (fun c_1 => ?_) (fun c_1 => ?_)
  · refine lv_aload_n hx hb dX6_on_16 rfl (lv_at hl 0 rfl) ?_
    refine lv_iconst (v := nI 0) hx hb dX6_on_17 rfl ?_
    refine callVI (rest := []) (wn := fun u => [mO b ζ vv, (b 4, .inl (G.2.1, 7, .inl (tk tl 0))), (b 1, .inl (G.2.1, 46, .inl (nF σ))), (b 3, .inl (G.2.1, 46, .inl F))]) ⟨hx, hb, hml, hown, hts⟩ (c_X6_no l G H.size b ζ vv tl 0 (by omega)) (cwV 1 hts gX6_on_X6_no rfl rfl rfl (by decide +kernel) ⟨Nat.le_of_ble_eq_true rfl, Nat.le_of_ble_eq_true rfl⟩) noXB (fun _ _ _ => trivial) hK hP hD hS hAq 5 0 (T := TX6) (N := 18) rfl rfl rfl hl.1 rfl (Nat.le_of_ble_eq_true rfl) dX6_on_18 ⟨Nat.le_of_ble_eq_true rfl, Nat.le_of_ble_eq_true rfl⟩ [0, 1] rfl rfl [b 0, b 4] rfl (fun _ => rfl) (fun _ => rfl) (fun u H locs hok hP hD hS => ?_)
    have he : on_e a0.toInt a1.toInt = 0 := by unfold on_e; (try simp only [Int.toNat_natCast]); (repeat' split) <;> omega
    exact fin_i hx hb hr hlk hS hP hD (F) trivial (by rw [he]; first | done | ((try simp only [Int.toNat_natCast]); first | done | rfl)) (by rw [he]; (try simp only [Int.toNat_natCast]); exact eqW.rf _) dX6_on_21
  · obtain ⟨n0, hn0, rfl⟩ := nI_of_rg (n := 100) (x := a0) ⟨by omega, by omega⟩
    have hT0 := nI_T (a := n0) (by omega)
    refine lv_iload_n hx hb dX6_on_7 rfl (lv_at hl 2 rfl) ?_
    refine lv_iconst (v := nI 0) hx hb dX6_on_8 rfl ?_
    refine lv_iconst (v := nI 3) hx hb dX6_on_9 rfl ?_
    refine callSI (rest := []) (wn := fun u => [mO b ζ vv, (b 4, .inl (G.2.1, 7, .inl tl)), (b 1, .inl (G.2.1, 46, .inl (nF σ))), (b 3, .inl (G.2.1, 46, .inl F))]) ⟨hx, hb, hml, hown, hts⟩ (c_X6_in1 l G H.size a1 (nI 0) (nI 3)) (va_cwS 3 hts gX6_on_X6_in1 rfl rfl rfl (by decide +kernel) ⟨Nat.le_of_ble_eq_true rfl, Nat.le_of_ble_eq_true rfl⟩) noXB (fun _ _ _ => trivial) hK hP hD hS hAq rfl hl.1 rfl (Nat.le_of_ble_eq_true rfl) dX6_on_10 ⟨Nat.le_of_ble_eq_true rfl, Nat.le_of_ble_eq_true rfl⟩ [] rfl rfl [] rfl (fun _ => rfl) (fun _ => rfl) (fun u H locs hok hP hD hS => ?_)
    refine n_top (y := zI ((0 : Int) ≤ a1.toInt ∧ a1.toInt ≤ 3)) (zI_c (by rw [nI_T (show 0 < 2147483648 by decide), nI_T (show 3 < 2147483648 by decide)]; exact Iff.rfl)) ?_
    refine z_if_ne hx hb (tgt := 22) dX6_on_13 (by decide) (fun c_2 => ?_) (fun c_2 => ?_)
    · obtain ⟨w1, hw1, rfl⟩ := nI_of_rg (n := 3) (x := a1) ⟨by omega, by omega⟩
      have hT1 := nI_T (a := w1) (by omega)
      refine lv_aload_n hx hb dX6_on_22 rfl (lv_at hl 0 rfl) ?_
      refine callVV (rest := []) (wn := fun u => [mO b ζ vv, (b 4, .inl (G.2.1, 7, .inl tl)), (b 1, .inl (G.2.1, 46, .inl (nF σ))), (b 3, .inl (G.2.1, 46, .inl (nF σ)))]) ⟨hx, hb, hml, hown, hts⟩ (c_X6_setsAside l G H.size b ζ vv σ F) (cwV 0 hts gX6_on_X6_setsAside rfl rfl rfl (by decide +kernel) ⟨Nat.le_of_ble_eq_true rfl, Nat.le_of_ble_eq_true rfl⟩) noXB (fun _ _ _ => trivial) hK hP hD hS hAq 5 0 (T := TX6) (N := 18) rfl rfl rfl hl.1 rfl (Nat.le_of_ble_eq_true rfl) dX6_on_23 ⟨Nat.le_of_ble_eq_true rfl, Nat.le_of_ble_eq_true rfl⟩ [0, 2, 3] rfl rfl [b 0, b 1, b 3] rfl (fun _ => rfl) (fun _ => rfl) (fun u H locs hok hP hD hS => ?_)
      refine lv_aload_n hx hb dX6_on_26 rfl (lv_at hl 0 rfl) ?_
      refine lv_iconst (v := nI 1) hx hb dX6_on_27 rfl ?_
      refine lv_iload_n hx hb dX6_on_28 rfl (lv_at hl 2 rfl) ?_
      refine n_iadd hx hb dX6_on_29 ?_
      refine lv_iload_n hx hb dX6_on_30 rfl (lv_at hl 1 rfl) ?_
      refine callVI (rest := []) (wn := fun u => [mO b ζ vv, (b 4, .inl (G.2.1, 7, .inl tl)), (b 1, .inl (G.2.1, 46, .inl (nF σ))), (b 3, .inl (G.2.1, 46, .inl (nF σ)))]) ⟨hx, hb, hml, hown, hts⟩ (c_X6_thenAt l G H.size b ζ vv σ σ (1 + w1) n0 hI (by omega) (by omega)) (cwV 2 hts gX6_on_X6_thenAt rfl rfl rfl (by decide +kernel) ⟨Nat.le_of_ble_eq_true rfl, Nat.le_of_ble_eq_true rfl⟩) noXB (fun _ _ _ => trivial) hK hP hD hS hAq 5 0 (T := TX6) (N := 18) rfl rfl rfl hl.1 rfl (Nat.le_of_ble_eq_true rfl) dX6_on_31 ⟨Nat.le_of_ble_eq_true rfl, Nat.le_of_ble_eq_true rfl⟩ [0, 2, 3] rfl rfl [b 0, b 1, b 3] rfl (fun _ => rfl) (fun _ => rfl) (fun u H locs hok hP hD hS => ?_)
      have he : on_e (nI n0).toInt (nI w1).toInt = 7 := by unfold on_e; (try simp only [hT0, hT1, Int.toNat_natCast]); (repeat' split) <;> omega
      exact fin_i hx hb hr hlk hS hP hD (nF σ) trivial (by rw [he]; first | done | ((try simp only [hT0, hT1, Int.toNat_natCast]); first | done | rfl)) (by rw [he]; (try simp only [hT0, hT1, Int.toNat_natCast]); exact eqW.rf _) dX6_on_34
    · refine lv_aload_n hx hb dX6_on_16 rfl (lv_at hl 0 rfl) ?_
      refine lv_iconst (v := nI 0) hx hb dX6_on_17 rfl ?_
      refine callVI (rest := []) (wn := fun u => [mO b ζ vv, (b 4, .inl (G.2.1, 7, .inl (tk tl 0))), (b 1, .inl (G.2.1, 46, .inl (nF σ))), (b 3, .inl (G.2.1, 46, .inl F))]) ⟨hx, hb, hml, hown, hts⟩ (c_X6_no l G H.size b ζ vv tl 0 (by omega)) (cwV 1 hts gX6_on_X6_no rfl rfl rfl (by decide +kernel) ⟨Nat.le_of_ble_eq_true rfl, Nat.le_of_ble_eq_true rfl⟩) noXB (fun _ _ _ => trivial) hK hP hD hS hAq 5 0 (T := TX6) (N := 18) rfl rfl rfl hl.1 rfl (Nat.le_of_ble_eq_true rfl) dX6_on_18 ⟨Nat.le_of_ble_eq_true rfl, Nat.le_of_ble_eq_true rfl⟩ [0, 1] rfl rfl [b 0, b 4] rfl (fun _ => rfl) (fun _ => rfl) (fun u H locs hok hP hD hS => ?_)
      have he : on_e (nI n0).toInt a1.toInt = 0 := by unfold on_e; (try simp only [hT0, Int.toNat_natCast]); (repeat' split) <;> omega
      exact fin_i hx hb hr hlk hS hP hD (F) trivial (by rw [he]; first | done | ((try simp only [hT0, Int.toNat_natCast]); first | done | rfl)) (by rw [he]; (try simp only [hT0, Int.toNat_natCast]); exact eqW.rf _) dX6_on_21
set_option maxHeartbeats 400000 in
set_option maxRecDepth 100000 in
theorem c_X5_then (l : Launch) (G : GT) (sz : Nat) (x hm kp tr : Nat → Nat) (hi : Nat) (tl : Nat → Int32) (σ τ : Sg) (a0 a1 a2 : Int32) (hI : Inv σ) (hd0 : σ 0 ≤ 9999) : MI (S := Sg) l G noX yX5_then wsX5_then ({ frames := 6, cells := 0, slots := 0, locals := 134 } : Room) [.ref (x 0), .int a0, .int a1, .int a2] (([xO x hm kp tr hi, (x 7, .inl (G.2.1, 7, .inl tl))] ++ (wH G hm σ ++ (wH G tr τ)))) sz (fun _ => True) (fun u => rs (then_e σ a0.toInt a1.toInt a2.toInt) (nI (daysN a1.toInt.toNat σ (pl a0.toInt.toNat (3 + a2.toInt.toNat))))) (fun u => ([xO x hm kp tr hi, (x 7, .inl (G.2.1, 7, .inl (ts tl (then_e σ a0.toInt a1.toInt a2.toInt))))] ++ (wH G hm σ ++ (wH G tr u)))) := by
  refine MI_enter (cc := cX5_then) (maxL := 4) (ret := (some .int)) (by decide) rfl (Nat.le_of_ble_eq_true rfl) ?_
  intro p e s m below meth c A ls H hx hb hr hlk hml hown hts hAq hS hP hK hD hX hl hnm
  have hown : s.vm.findClass RX5 = some m.cls := hown
  have hl : lv_has ls 4 [(0, .ref (x 0)), (1, .int a0), (2, .int a1), (3, .int a2)] := hl
  obtain ⟨⟨i1, i2, i3, i4, i5⟩, ip⟩ := id hI
  refine lv_aload_n hx hb dX5_then_0 rfl (lv_at hl 0 rfl) ?_
  refine n_get (C := RX5) (T := TX5) (N := 7) hx hb hts (fun _ h => List.mem_cons_of_mem _ (List.mem_append_left _ (List.mem_append_right _ h))) hown hK hP 0 rfl rfl 0 (by decide) (List.mem_of_getElem? (i := 1) rfl) rfl (.ref (hm 0)) rfl dX5_then_1 ?_
  refine lv_iload_n hx hb dX5_then_4 rfl (lv_at hl 1 rfl) ?_
  refine callVI (rest := []) (wn := fun u => ([xO x hm kp tr hi, (x 7, .inl (G.2.1, 7, .inl tl))] ++ (wH G hm σ ++ (wH G tr τ)))) ⟨hx, hb, hml, hown, hts⟩ (c_X0_hasOne l G H.size hm σ a0 (by omega)) (cwV 1 hts gX5_then_X0_hasOne rfl rfl rfl (by decide +kernel) ⟨Nat.le_of_ble_eq_true rfl, Nat.le_of_ble_eq_true rfl⟩) noXB (fun _ _ _ => trivial) hK hP hD hS hAq 0 0 (T := TX0) (N := 11) rfl rfl rfl hl.1 rfl (Nat.le_of_ble_eq_true rfl) dX5_then_5 ⟨Nat.le_of_ble_eq_true rfl, Nat.le_of_ble_eq_true rfl⟩ [2, 3, 4, 5, 6, 7] rfl rfl [hm 0, hm 1, hm 2, hm 3, hm 4, hm 5] rfl (fun _ => rfl) (fun _ => rfl) (fun u H locs hok hP hD hS => ?_)
  refine z_if_ne hx hb (tgt := 17) dX5_then_8 (by decide) (fun c_1 => ?_) (fun c_1 => ?_)
  · obtain ⟨k0, hk0, rfl⟩ := nI_of_rg (n := 7) (x := a0) ⟨by omega, by omega⟩
    have hT0 := nI_T (a := k0) (by omega)
    have hp0 : k0 < σ 5 := by omega
    obtain ⟨q00, q01, q02, q03, q04⟩ := ip k0 (by omega)
    refine lv_iload_n hx hb dX5_then_17 rfl (lv_at hl 2 rfl) ?_
    refine lv_iconst (v := nI 0) hx hb dX5_then_18 rfl ?_
    refine lv_bipush (v := nI 100) hx hb dX5_then_19 rfl ?_
    refine callSI (rest := []) (wn := fun u => ([xO x hm kp tr hi, (x 7, .inl (G.2.1, 7, .inl tl))] ++ (wH G hm σ ++ (wH G tr τ)))) ⟨hx, hb, hml, hown, hts⟩ (c_X5_isWithin l G H.size a1 (nI 0) (nI 100)) (va_cwS 3 hts gX5_then_X5_isWithin rfl rfl rfl (by decide +kernel) ⟨Nat.le_of_ble_eq_true rfl, Nat.le_of_ble_eq_true rfl⟩) noXB (fun _ _ _ => trivial) hK hP hD hS hAq rfl hl.1 rfl (Nat.le_of_ble_eq_true rfl) dX5_then_21 ⟨Nat.le_of_ble_eq_true rfl, Nat.le_of_ble_eq_true rfl⟩ [] rfl rfl [] rfl (fun _ => rfl) (fun _ => rfl) (fun u H locs hok hP hD hS => ?_)
    refine n_top (y := zI ((0 : Int) ≤ a1.toInt ∧ a1.toInt ≤ 100)) (zI_c (by rw [nI_T (show 0 < 2147483648 by decide), nI_T (show 100 < 2147483648 by decide)]; exact Iff.rfl)) ?_
    refine z_if_eq hx hb (tgt := 36) dX5_then_24 (by decide) (fun c_2 => ?_) (fun c_2 => ?_)
    · refine lv_aload_n hx hb dX5_then_36 rfl (lv_at hl 0 rfl) ?_
      refine lv_iconst (v := nI 0) hx hb dX5_then_37 rfl ?_
      refine callVI (rest := []) (wn := fun u => ([xO x hm kp tr hi, (x 7, .inl (G.2.1, 7, .inl (tk tl 0)))] ++ (wH G hm σ ++ (wH G tr τ)))) ⟨hx, hb, hml, hown, hts⟩ (c_X5_tell l G H.size x hm kp tr hi tl 0 (by omega)) (cwV 1 hts gX5_then_X5_tell rfl rfl rfl (by decide +kernel) ⟨Nat.le_of_ble_eq_true rfl, Nat.le_of_ble_eq_true rfl⟩) noXB (fun _ _ _ => trivial) hK hP hD hS hAq 4 0 (T := TX5) (N := 7) rfl rfl rfl hl.1 rfl (Nat.le_of_ble_eq_true rfl) dX5_then_38 ⟨Nat.le_of_ble_eq_true rfl, Nat.le_of_ble_eq_true rfl⟩ [0, 1] rfl rfl [x 0, x 7] rfl (fun _ => rfl) (fun _ => rfl) (fun u H locs hok hP hD hS => ?_)
      have he : then_e σ (nI k0).toInt a1.toInt a2.toInt = 0 := by unfold then_e; (try simp only [hT0, Int.toNat_natCast]); (repeat' split) <;> omega
      exact fin_i hx hb hr hlk hS hP hD τ trivial (by rw [he]; first | done | ((try simp only [hT0, Int.toNat_natCast]); first | done | rfl)) (by rw [he]; (try simp only [hT0, Int.toNat_natCast]); exact eqW.rf _) dX5_then_41
    · obtain ⟨n1, hn1, rfl⟩ := nI_of_rg (n := 100) (x := a1) ⟨by omega, by omega⟩
      have hT1 := nI_T (a := n1) (by omega)
      refine lv_iload_n hx hb dX5_then_27 rfl (lv_at hl 3 rfl) ?_
      refine lv_iconst (v := nI 0) hx hb dX5_then_28 rfl ?_
      refine lv_iconst (v := nI 1) hx hb dX5_then_29 rfl ?_
      refine callSI (rest := []) (wn := fun u => ([xO x hm kp tr hi, (x 7, .inl (G.2.1, 7, .inl tl))] ++ (wH G hm σ ++ (wH G tr τ)))) ⟨hx, hb, hml, hown, hts⟩ (c_X5_isWithin l G H.size a2 (nI 0) (nI 1)) (va_cwS 3 hts gX5_then_X5_isWithin rfl rfl rfl (by decide +kernel) ⟨Nat.le_of_ble_eq_true rfl, Nat.le_of_ble_eq_true rfl⟩) noXB (fun _ _ _ => trivial) hK hP hD hS hAq rfl hl.1 rfl (Nat.le_of_ble_eq_true rfl) dX5_then_30 ⟨Nat.le_of_ble_eq_true rfl, Nat.le_of_ble_eq_true rfl⟩ [] rfl rfl [] rfl (fun _ => rfl) (fun _ => rfl) (fun u H locs hok hP hD hS => ?_)
      refine n_top (y := zI ((0 : Int) ≤ a2.toInt ∧ a2.toInt ≤ 1)) (zI_c (by rw [nI_T (show 0 < 2147483648 by decide), nI_T (show 1 < 2147483648 by decide)]; exact Iff.rfl)) ?_
      refine z_if_ne hx hb (tgt := 42) dX5_then_33 (by decide) (fun c_3 => ?_) (fun c_3 => ?_)
      · obtain ⟨w2, hw2, rfl⟩ := nI_of_rg (n := 1) (x := a2) ⟨by omega, by omega⟩
        have hT2 := nI_T (a := w2) (by omega)
        refine lv_aload_n hx hb dX5_then_42 rfl (lv_at hl 0 rfl) ?_
        refine lv_iload_n hx hb dX5_then_43 rfl (lv_at hl 2 rfl) ?_
        refine callVV (rest := []) (wn := fun u => ([xO x hm kp tr hi, (x 7, .inl (G.2.1, 7, .inl tl))] ++ (wH G hm σ ++ (wH G tr (daysN n1 σ))))) ⟨hx, hb, hml, hown, hts⟩ (c_X5_tryAsItIs l G H.size x hm kp tr hi σ τ n1 hI (by omega)) (cwV 1 hts gX5_then_X5_tryAsItIs rfl rfl rfl (by decide +kernel) ⟨Nat.le_of_ble_eq_true rfl, Nat.le_of_ble_eq_true rfl⟩) noXB (fun _ _ _ => trivial) hK hP hD hS hAq 4 0 (T := TX5) (N := 7) rfl rfl rfl hl.1 rfl (Nat.le_of_ble_eq_true rfl) dX5_then_44 ⟨Nat.le_of_ble_eq_true rfl, Nat.le_of_ble_eq_true rfl⟩ [0, 2, 3, 4, 5, 6, 7, 8, 9, 10, 11, 12, 13] rfl rfl [x 0, hm 0, hm 1, hm 2, hm 3, hm 4, hm 5, tr 0, tr 1, tr 2, tr 3, tr 4, tr 5] rfl (fun _ => rfl) (fun _ => rfl) (fun u H locs hok hP hD hS => ?_)
        rcases (show w2 = 0 ∨ w2 = 1 by omega) with rfl | rfl
        · refine lv_iload_n hx hb dX5_then_47 rfl (lv_at hl 3 rfl) ?_
          refine n_if_ne hx hb (by omega) (tgt := 63) dX5_then_48 (by decide) (fun c_4 => ?_) (fun c_4 => ?_)
          · omega
          · refine lv_aload_n hx hb dX5_then_51 rfl (lv_at hl 0 rfl) ?_
            refine n_get (C := RX5) (T := TX5) (N := 7) hx hb hts (fun _ h => List.mem_cons_of_mem _ (List.mem_append_left _ (List.mem_append_right _ h))) hown hK hP 0 rfl rfl 2 (by decide) (List.mem_of_getElem? (i := 2) rfl) rfl (.ref (tr 0)) rfl dX5_then_52 ?_
            refine n_get (C := RX0) (T := TX0) (N := 11) hx hb hts (fun _ h => List.mem_cons_of_mem _ (List.mem_append_right _ h)) hown hK hP 8 rfl rfl 9 (by decide) (List.mem_of_getElem? (i := 3) rfl) rfl (.ref (tr 4)) rfl dX5_then_55 ?_
            refine lv_iload_n hx hb dX5_then_58 rfl (lv_at hl 1 rfl) ?_
            refine n_iald hx hb hK hP 12 (v := (nI ((daysN n1 σ) (pl k0 3)))) rfl (by omega) (by omega) rfl dX5_then_59 ?_
            refine lv_goto (tgt := 72) hx hb dX5_then_60 (by decide) ?_
            have he : then_e σ (nI k0).toInt (nI n1).toInt (nI 0).toInt = 7 := by unfold then_e; (try simp only [hT0, hT1, hT2, Int.toNat_natCast]); (repeat' split) <;> omega
            exact fin_i hx hb hr hlk hS hP hD (daysN n1 σ) trivial (by rw [he]; first | done | ((try simp only [hT0, hT1, hT2, Int.toNat_natCast]); first | done | rfl)) (by rw [he]; (try simp only [hT0, hT1, hT2, Int.toNat_natCast]); exact eqW.rf _) dX5_then_72
        · refine lv_iload_n hx hb dX5_then_47 rfl (lv_at hl 3 rfl) ?_
          refine n_if_ne hx hb (by omega) (tgt := 63) dX5_then_48 (by decide) (fun c_5 => ?_) (fun c_5 => ?_)
          · refine lv_aload_n hx hb dX5_then_63 rfl (lv_at hl 0 rfl) ?_
            refine n_get (C := RX5) (T := TX5) (N := 7) hx hb hts (fun _ h => List.mem_cons_of_mem _ (List.mem_append_left _ (List.mem_append_right _ h))) hown hK hP 0 rfl rfl 2 (by decide) (List.mem_of_getElem? (i := 2) rfl) rfl (.ref (tr 0)) rfl dX5_then_64 ?_
            refine n_get (C := RX0) (T := TX0) (N := 11) hx hb hts (fun _ h => List.mem_cons_of_mem _ (List.mem_append_right _ h)) hown hK hP 8 rfl rfl 10 (by decide) (List.mem_of_getElem? (i := 4) rfl) rfl (.ref (tr 5)) rfl dX5_then_67 ?_
            refine lv_iload_n hx hb dX5_then_70 rfl (lv_at hl 1 rfl) ?_
            refine n_iald hx hb hK hP 13 (v := (nI ((daysN n1 σ) (pl k0 4)))) rfl (by omega) (by omega) rfl dX5_then_71 ?_
            have he : then_e σ (nI k0).toInt (nI n1).toInt (nI 1).toInt = 7 := by unfold then_e; (try simp only [hT0, hT1, hT2, Int.toNat_natCast]); (repeat' split) <;> omega
            exact fin_i hx hb hr hlk hS hP hD (daysN n1 σ) trivial (by rw [he]; first | done | ((try simp only [hT0, hT1, hT2, Int.toNat_natCast]); first | done | rfl)) (by rw [he]; (try simp only [hT0, hT1, hT2, Int.toNat_natCast]); exact eqW.rf _) dX5_then_72
          · omega
      · refine lv_aload_n hx hb dX5_then_36 rfl (lv_at hl 0 rfl) ?_
        refine lv_iconst (v := nI 0) hx hb dX5_then_37 rfl ?_
        refine callVI (rest := []) (wn := fun u => ([xO x hm kp tr hi, (x 7, .inl (G.2.1, 7, .inl (tk tl 0)))] ++ (wH G hm σ ++ (wH G tr τ)))) ⟨hx, hb, hml, hown, hts⟩ (c_X5_tell l G H.size x hm kp tr hi tl 0 (by omega)) (cwV 1 hts gX5_then_X5_tell rfl rfl rfl (by decide +kernel) ⟨Nat.le_of_ble_eq_true rfl, Nat.le_of_ble_eq_true rfl⟩) noXB (fun _ _ _ => trivial) hK hP hD hS hAq 4 0 (T := TX5) (N := 7) rfl rfl rfl hl.1 rfl (Nat.le_of_ble_eq_true rfl) dX5_then_38 ⟨Nat.le_of_ble_eq_true rfl, Nat.le_of_ble_eq_true rfl⟩ [0, 1] rfl rfl [x 0, x 7] rfl (fun _ => rfl) (fun _ => rfl) (fun u H locs hok hP hD hS => ?_)
        have he : then_e σ (nI k0).toInt (nI n1).toInt a2.toInt = 0 := by unfold then_e; (try simp only [hT0, hT1, Int.toNat_natCast]); (repeat' split) <;> omega
        exact fin_i hx hb hr hlk hS hP hD τ trivial (by rw [he]; first | done | ((try simp only [hT0, hT1, Int.toNat_natCast]); first | done | rfl)) (by rw [he]; (try simp only [hT0, hT1, Int.toNat_natCast]); exact eqW.rf _) dX5_then_41
  · refine lv_aload_n hx hb dX5_then_11 rfl (lv_at hl 0 rfl) ?_
    refine lv_iconst (v := nI 0) hx hb dX5_then_12 rfl ?_
    refine callVI (rest := []) (wn := fun u => ([xO x hm kp tr hi, (x 7, .inl (G.2.1, 7, .inl (tk tl 0)))] ++ (wH G hm σ ++ (wH G tr τ)))) ⟨hx, hb, hml, hown, hts⟩ (c_X5_tell l G H.size x hm kp tr hi tl 0 (by omega)) (cwV 1 hts gX5_then_X5_tell rfl rfl rfl (by decide +kernel) ⟨Nat.le_of_ble_eq_true rfl, Nat.le_of_ble_eq_true rfl⟩) noXB (fun _ _ _ => trivial) hK hP hD hS hAq 4 0 (T := TX5) (N := 7) rfl rfl rfl hl.1 rfl (Nat.le_of_ble_eq_true rfl) dX5_then_13 ⟨Nat.le_of_ble_eq_true rfl, Nat.le_of_ble_eq_true rfl⟩ [0, 1] rfl rfl [x 0, x 7] rfl (fun _ => rfl) (fun _ => rfl) (fun u H locs hok hP hD hS => ?_)
    have he : then_e σ a0.toInt a1.toInt a2.toInt = 0 := by unfold then_e; (try simp only [Int.toNat_natCast]); (repeat' split) <;> omega
    exact fin_i hx hb hr hlk hS hP hD τ trivial (by rw [he]; first | done | ((try simp only [Int.toNat_natCast]); first | done | rfl)) (by rw [he]; (try simp only [Int.toNat_natCast]); exact eqW.rf _) dX5_then_16
set_option maxHeartbeats 400000 in
set_option maxRecDepth 100000 in
theorem c_X6_then (l : Launch) (G : GT) (sz : Nat) (b : Nat → Nat) (ζ : Nat → Nat) (vv : Int64) (tl : Nat → Int32) (σ : Sg) (F : Nat → Int32) (a0 a1 a2 : Int32) (hI : Inv σ) (hd0 : σ 0 ≤ 9999) : MI (S := Nat → Int32) l G noX yX6_then wsX6_then ({ frames := 8, cells := 0, slots := 0, locals := 181 } : Room) [.ref (b 0), .int a0, .int a1, .int a2] ([mO b ζ vv, (b 4, .inl (G.2.1, 7, .inl tl)), (b 1, .inl (G.2.1, 46, .inl (nF σ))), (b 3, .inl (G.2.1, 46, .inl F))]) sz (fun _ => True) (fun u => rs (then_e σ a0.toInt a1.toInt a2.toInt) (nI (daysN a1.toInt.toNat σ (pl a0.toInt.toNat (3 + a2.toInt.toNat))))) (fun u => [mO b ζ vv, (b 4, .inl (G.2.1, 7, .inl (ts tl (then_e σ a0.toInt a1.toInt a2.toInt)))), (b 1, .inl (G.2.1, 46, .inl (nF σ))), (b 3, .inl (G.2.1, 46, .inl u))]) := by
  refine MI_enter (cc := cX6_then) (maxL := 4) (ret := (some .int)) (by decide) rfl (Nat.le_of_ble_eq_true rfl) ?_
  intro p e s m below meth c A ls H hx hb hr hlk hml hown hts hAq hS hP hK hD hX hl hnm
  have hown : s.vm.findClass RX6 = some m.cls := hown
  have hl : lv_has ls 4 [(0, .ref (b 0)), (1, .int a0), (2, .int a1), (3, .int a2)] := hl
  obtain ⟨⟨i1, i2, i3, i4, i5⟩, ip⟩ := id hI
  refine lv_aload_n hx hb dX6_then_0 rfl (lv_at hl 0 rfl) ?_
  refine lv_iload_n hx hb dX6_then_1 rfl (lv_at hl 1 rfl) ?_
  refine callVI (rest := []) (wn := fun u => [mO b ζ vv, (b 4, .inl (G.2.1, 7, .inl tl)), (b 1, .inl (G.2.1, 46, .inl (nF σ))), (b 3, .inl (G.2.1, 46, .inl F))]) ⟨hx, hb, hml, hown, hts⟩ (c_X6_isPerson l G H.size b ζ vv σ a0 (by omega)) (cwV 1 hts gX6_then_X6_isPerson rfl rfl rfl (by decide +kernel) ⟨Nat.le_of_ble_eq_true rfl, Nat.le_of_ble_eq_true rfl⟩) noXB (fun _ _ _ => trivial) hK hP hD hS hAq 5 0 (T := TX6) (N := 18) rfl rfl rfl hl.1 rfl (Nat.le_of_ble_eq_true rfl) dX6_then_2 ⟨Nat.le_of_ble_eq_true rfl, Nat.le_of_ble_eq_true rfl⟩ [0, 2] rfl rfl [b 0, b 1] rfl (fun _ => rfl) (fun _ => rfl) (fun u H locs hok hP hD hS => ?_)
  refine z_if_eq hx hb (tgt := 24) dX6_then_5 (by decide) (fun c_1 => ?_) (fun c_1 => ?_)
  · refine lv_aload_n hx hb dX6_then_24 rfl (lv_at hl 0 rfl) ?_
    refine lv_iconst (v := nI 0) hx hb dX6_then_25 rfl ?_
    refine callVI (rest := []) (wn := fun u => [mO b ζ vv, (b 4, .inl (G.2.1, 7, .inl (tk tl 0))), (b 1, .inl (G.2.1, 46, .inl (nF σ))), (b 3, .inl (G.2.1, 46, .inl F))]) ⟨hx, hb, hml, hown, hts⟩ (c_X6_no l G H.size b ζ vv tl 0 (by omega)) (cwV 1 hts gX6_then_X6_no rfl rfl rfl (by decide +kernel) ⟨Nat.le_of_ble_eq_true rfl, Nat.le_of_ble_eq_true rfl⟩) noXB (fun _ _ _ => trivial) hK hP hD hS hAq 5 0 (T := TX6) (N := 18) rfl rfl rfl hl.1 rfl (Nat.le_of_ble_eq_true rfl) dX6_then_26 ⟨Nat.le_of_ble_eq_true rfl, Nat.le_of_ble_eq_true rfl⟩ [0, 1] rfl rfl [b 0, b 4] rfl (fun _ => rfl) (fun _ => rfl) (fun u H locs hok hP hD hS => ?_)
    have he : then_e σ a0.toInt a1.toInt a2.toInt = 0 := by unfold then_e; (try simp only [Int.toNat_natCast]); (repeat' split) <;> omega
    exact fin_i hx hb hr hlk hS hP hD (F) trivial (by rw [he]; first | done | ((try simp only [Int.toNat_natCast]); first | done | rfl)) (by rw [he]; (try simp only [Int.toNat_natCast]); exact eqW.rf _) dX6_then_29
  · obtain ⟨k0, hk0, rfl⟩ := nI_of_rg (n := 7) (x := a0) ⟨by omega, by omega⟩
    have hT0 := nI_T (a := k0) (by omega)
    have hp0 : k0 < σ 5 := by omega
    obtain ⟨q00, q01, q02, q03, q04⟩ := ip k0 (by omega)
    refine lv_iload_n hx hb dX6_then_8 rfl (lv_at hl 2 rfl) ?_
    refine callSI (rest := []) (wn := fun u => [mO b ζ vv, (b 4, .inl (G.2.1, 7, .inl tl)), (b 1, .inl (G.2.1, 46, .inl (nF σ))), (b 3, .inl (G.2.1, 46, .inl F))]) ⟨hx, hb, hml, hown, hts⟩ (c_X6_isAhead l G H.size a1) (va_cwS 1 hts gX6_then_X6_isAhead rfl rfl rfl (by decide +kernel) ⟨Nat.le_of_ble_eq_true rfl, Nat.le_of_ble_eq_true rfl⟩) noXB (fun _ _ _ => trivial) hK hP hD hS hAq rfl hl.1 rfl (Nat.le_of_ble_eq_true rfl) dX6_then_9 ⟨Nat.le_of_ble_eq_true rfl, Nat.le_of_ble_eq_true rfl⟩ [] rfl rfl [] rfl (fun _ => rfl) (fun _ => rfl) (fun u H locs hok hP hD hS => ?_)
    refine z_if_eq hx hb (tgt := 24) dX6_then_12 (by decide) (fun c_2 => ?_) (fun c_2 => ?_)
    · refine lv_aload_n hx hb dX6_then_24 rfl (lv_at hl 0 rfl) ?_
      refine lv_iconst (v := nI 0) hx hb dX6_then_25 rfl ?_
      refine callVI (rest := []) (wn := fun u => [mO b ζ vv, (b 4, .inl (G.2.1, 7, .inl (tk tl 0))), (b 1, .inl (G.2.1, 46, .inl (nF σ))), (b 3, .inl (G.2.1, 46, .inl F))]) ⟨hx, hb, hml, hown, hts⟩ (c_X6_no l G H.size b ζ vv tl 0 (by omega)) (cwV 1 hts gX6_then_X6_no rfl rfl rfl (by decide +kernel) ⟨Nat.le_of_ble_eq_true rfl, Nat.le_of_ble_eq_true rfl⟩) noXB (fun _ _ _ => trivial) hK hP hD hS hAq 5 0 (T := TX6) (N := 18) rfl rfl rfl hl.1 rfl (Nat.le_of_ble_eq_true rfl) dX6_then_26 ⟨Nat.le_of_ble_eq_true rfl, Nat.le_of_ble_eq_true rfl⟩ [0, 1] rfl rfl [b 0, b 4] rfl (fun _ => rfl) (fun _ => rfl) (fun u H locs hok hP hD hS => ?_)
      have he : then_e σ (nI k0).toInt a1.toInt a2.toInt = 0 := by unfold then_e; (try simp only [hT0, Int.toNat_natCast]); (repeat' split) <;> omega
      exact fin_i hx hb hr hlk hS hP hD (F) trivial (by rw [he]; first | done | ((try simp only [hT0, Int.toNat_natCast]); first | done | rfl)) (by rw [he]; (try simp only [hT0, Int.toNat_natCast]); exact eqW.rf _) dX6_then_29
    · obtain ⟨n1, hn1, rfl⟩ := nI_of_rg (n := 100) (x := a1) ⟨by omega, by omega⟩
      have hT1 := nI_T (a := n1) (by omega)
      refine lv_iload_n hx hb dX6_then_15 rfl (lv_at hl 3 rfl) ?_
      refine lv_iconst (v := nI 0) hx hb dX6_then_16 rfl ?_
      refine lv_iconst (v := nI 1) hx hb dX6_then_17 rfl ?_
      refine callSI (rest := []) (wn := fun u => [mO b ζ vv, (b 4, .inl (G.2.1, 7, .inl tl)), (b 1, .inl (G.2.1, 46, .inl (nF σ))), (b 3, .inl (G.2.1, 46, .inl F))]) ⟨hx, hb, hml, hown, hts⟩ (c_X6_in1 l G H.size a2 (nI 0) (nI 1)) (va_cwS 3 hts gX6_then_X6_in1 rfl rfl rfl (by decide +kernel) ⟨Nat.le_of_ble_eq_true rfl, Nat.le_of_ble_eq_true rfl⟩) noXB (fun _ _ _ => trivial) hK hP hD hS hAq rfl hl.1 rfl (Nat.le_of_ble_eq_true rfl) dX6_then_18 ⟨Nat.le_of_ble_eq_true rfl, Nat.le_of_ble_eq_true rfl⟩ [] rfl rfl [] rfl (fun _ => rfl) (fun _ => rfl) (fun u H locs hok hP hD hS => ?_)
      refine n_top (y := zI ((0 : Int) ≤ a2.toInt ∧ a2.toInt ≤ 1)) (zI_c (by rw [nI_T (show 0 < 2147483648 by decide), nI_T (show 1 < 2147483648 by decide)]; exact Iff.rfl)) ?_
      refine z_if_ne hx hb (tgt := 30) dX6_then_21 (by decide) (fun c_3 => ?_) (fun c_3 => ?_)
      · obtain ⟨w2, hw2, rfl⟩ := nI_of_rg (n := 1) (x := a2) ⟨by omega, by omega⟩
        have hT2 := nI_T (a := w2) (by omega)
        refine lv_aload_n hx hb dX6_then_30 rfl (lv_at hl 0 rfl) ?_
        refine callVV (rest := []) (wn := fun u => [mO b ζ vv, (b 4, .inl (G.2.1, 7, .inl tl)), (b 1, .inl (G.2.1, 46, .inl (nF σ))), (b 3, .inl (G.2.1, 46, .inl (nF σ)))]) ⟨hx, hb, hml, hown, hts⟩ (c_X6_setsAside l G H.size b ζ vv σ F) (cwV 0 hts gX6_then_X6_setsAside rfl rfl rfl (by decide +kernel) ⟨Nat.le_of_ble_eq_true rfl, Nat.le_of_ble_eq_true rfl⟩) noXB (fun _ _ _ => trivial) hK hP hD hS hAq 5 0 (T := TX6) (N := 18) rfl rfl rfl hl.1 rfl (Nat.le_of_ble_eq_true rfl) dX6_then_31 ⟨Nat.le_of_ble_eq_true rfl, Nat.le_of_ble_eq_true rfl⟩ [0, 2, 3] rfl rfl [b 0, b 1, b 3] rfl (fun _ => rfl) (fun _ => rfl) (fun u H locs hok hP hD hS => ?_)
        refine lv_aload_n hx hb dX6_then_34 rfl (lv_at hl 0 rfl) ?_
        refine lv_bipush (v := nI 6) hx hb dX6_then_35 rfl ?_
        refine lv_iconst (v := nI 5) hx hb dX6_then_37 rfl ?_
        refine lv_iload_n hx hb dX6_then_38 rfl (lv_at hl 1 rfl) ?_
        refine n_imul hx hb dX6_then_39 ?_
        refine n_iadd hx hb dX6_then_40 ?_
        refine lv_iconst (v := nI 3) hx hb dX6_then_41 rfl ?_
        refine n_iadd hx hb dX6_then_42 ?_
        refine lv_iload_n hx hb dX6_then_43 rfl (lv_at hl 3 rfl) ?_
        refine n_iadd hx hb dX6_then_44 ?_
        refine n_top (y := nI (pl k0 (3 + w2))) (congrArg nI (by unfold pl; omega)) ?_
        have hpq := pl_lt (k := k0) (c := 3 + w2) (by omega) (by omega)
        refine lv_iload_n hx hb dX6_then_45 rfl (lv_at hl 2 rfl) ?_
        refine callVI (rest := []) (wn := fun u => [mO b ζ vv, (b 4, .inl (G.2.1, 7, .inl tl)), (b 1, .inl (G.2.1, 46, .inl (nF σ))), (b 3, .inl (G.2.1, 46, .inl (nF σ)))]) ⟨hx, hb, hml, hown, hts⟩ (c_X6_thenAt l G H.size b ζ vv σ σ (pl k0 (3 + w2)) n1 hI (by omega) (by omega)) (cwV 2 hts gX6_then_X6_thenAt rfl rfl rfl (by decide +kernel) ⟨Nat.le_of_ble_eq_true rfl, Nat.le_of_ble_eq_true rfl⟩) noXB (fun _ _ _ => trivial) hK hP hD hS hAq 5 0 (T := TX6) (N := 18) rfl rfl rfl hl.1 rfl (Nat.le_of_ble_eq_true rfl) dX6_then_46 ⟨Nat.le_of_ble_eq_true rfl, Nat.le_of_ble_eq_true rfl⟩ [0, 2, 3] rfl rfl [b 0, b 1, b 3] rfl (fun _ => rfl) (fun _ => rfl) (fun u H locs hok hP hD hS => ?_)
        have he : then_e σ (nI k0).toInt (nI n1).toInt (nI w2).toInt = 7 := by unfold then_e; (try simp only [hT0, hT1, hT2, Int.toNat_natCast]); (repeat' split) <;> omega
        exact fin_i hx hb hr hlk hS hP hD (nF σ) trivial (by rw [he]; first | done | ((try simp only [hT0, hT1, hT2, Int.toNat_natCast]); first | done | rfl)) (by rw [he]; (try simp only [hT0, hT1, hT2, Int.toNat_natCast]); exact eqW.rf _) dX6_then_49
      · refine lv_aload_n hx hb dX6_then_24 rfl (lv_at hl 0 rfl) ?_
        refine lv_iconst (v := nI 0) hx hb dX6_then_25 rfl ?_
        refine callVI (rest := []) (wn := fun u => [mO b ζ vv, (b 4, .inl (G.2.1, 7, .inl (tk tl 0))), (b 1, .inl (G.2.1, 46, .inl (nF σ))), (b 3, .inl (G.2.1, 46, .inl F))]) ⟨hx, hb, hml, hown, hts⟩ (c_X6_no l G H.size b ζ vv tl 0 (by omega)) (cwV 1 hts gX6_then_X6_no rfl rfl rfl (by decide +kernel) ⟨Nat.le_of_ble_eq_true rfl, Nat.le_of_ble_eq_true rfl⟩) noXB (fun _ _ _ => trivial) hK hP hD hS hAq 5 0 (T := TX6) (N := 18) rfl rfl rfl hl.1 rfl (Nat.le_of_ble_eq_true rfl) dX6_then_26 ⟨Nat.le_of_ble_eq_true rfl, Nat.le_of_ble_eq_true rfl⟩ [0, 1] rfl rfl [b 0, b 4] rfl (fun _ => rfl) (fun _ => rfl) (fun u H locs hok hP hD hS => ?_)
        have he : then_e σ (nI k0).toInt (nI n1).toInt a2.toInt = 0 := by unfold then_e; (try simp only [hT0, hT1, Int.toNat_natCast]); (repeat' split) <;> omega
        exact fin_i hx hb hr hlk hS hP hD (F) trivial (by rw [he]; first | done | ((try simp only [hT0, hT1, Int.toNat_natCast]); first | done | rfl)) (by rw [he]; (try simp only [hT0, hT1, Int.toNat_natCast]); exact eqW.rf _) dX6_then_29
set_option maxHeartbeats 400000 in
set_option maxRecDepth 100000 in
theorem c_X5_hunger (l : Launch) (G : GT) (sz : Nat) (x hm kp tr : Nat → Nat) (hi : Nat) (tl : Nat → Int32) (σ τ : Sg) (hI : Inv σ) (hd0 : σ 0 ≤ 9999) : MI (S := Sg) l G noX yX5_hunger wsX5_hunger ({ frames := 4, cells := 0, slots := 0, locals := 91 } : Room) [.ref (x 0)] (([xO x hm kp tr hi, (x 7, .inl (G.2.1, 7, .inl tl))] ++ (wH G hm σ ++ (wH G tr τ)))) sz (fun _ => True) (fun u => rs (hunger_e σ) (nI (fbN σ 4 (σ 4 + 1)))) (fun u => ([xO x hm kp tr hi, (x 7, .inl (G.2.1, 7, .inl (ts tl (hunger_e σ))))] ++ (wH G hm σ ++ (wH G tr u)))) := by
  refine MI_enter (cc := cX5_hunger) (maxL := 2) (ret := (some .int)) (by decide) rfl (Nat.le_of_ble_eq_true rfl) ?_
  intro p e s m below meth c A ls H hx hb hr hlk hml hown hts hAq hS hP hK hD hX hl hnm
  have hown : s.vm.findClass RX5 = some m.cls := hown
  have hl : lv_has ls 2 [(0, .ref (x 0))] := hl
  obtain ⟨⟨i1, i2, i3, i4, i5⟩, ip⟩ := id hI
  refine lv_aload_n hx hb dX5_hunger_0 rfl (lv_at hl 0 rfl) ?_
  refine n_get (C := RX5) (T := TX5) (N := 7) hx hb hts (fun _ h => List.mem_cons_of_mem _ (List.mem_append_left _ (List.mem_append_right _ h))) hown hK hP 0 rfl rfl 2 (by decide) (List.mem_of_getElem? (i := 1) rfl) rfl (.ref (tr 0)) rfl dX5_hunger_1 ?_
  refine lv_aload_n hx hb dX5_hunger_4 rfl (lv_at hl 0 rfl) ?_
  refine n_get (C := RX5) (T := TX5) (N := 7) hx hb hts (fun _ h => List.mem_cons_of_mem _ (List.mem_append_left _ (List.mem_append_right _ h))) hown hK hP 0 rfl rfl 0 (by decide) (List.mem_of_getElem? (i := 2) rfl) rfl (.ref (hm 0)) rfl dX5_hunger_5 ?_
  refine callVV (rest := []) (wn := fun u => ([xO x hm kp tr hi, (x 7, .inl (G.2.1, 7, .inl tl))] ++ (wH G hm σ ++ (wH G tr σ)))) ⟨hx, hb, hml, hown, hts⟩ (c_X0_become l G H.size tr τ hm σ) (cwV 1 hts gX5_hunger_X0_become rfl rfl rfl (by decide +kernel) ⟨Nat.le_of_ble_eq_true rfl, Nat.le_of_ble_eq_true rfl⟩) noXB (fun _ _ _ => trivial) hK hP hD hS hAq 0 0 (T := TX0) (N := 11) rfl rfl rfl hl.1 rfl (Nat.le_of_ble_eq_true rfl) dX5_hunger_8 ⟨Nat.le_of_ble_eq_true rfl, Nat.le_of_ble_eq_true rfl⟩ [8, 9, 10, 11, 12, 13, 2, 3, 4, 5, 6, 7] rfl rfl [tr 0, tr 1, tr 2, tr 3, tr 4, tr 5, hm 0, hm 1, hm 2, hm 3, hm 4, hm 5] rfl (fun _ => rfl) (fun _ => rfl) (fun u H locs hok hP hD hS => ?_)
  refine lv_iconst (v := nI 1) hx hb dX5_hunger_11 rfl ?_
  refine lv_istore_n (lv' := [(1, .int (nI 1)), (0, .ref (x 0))]) hx hb dX5_hunger_12 rfl hl (by decide) rfl (fun ls hl => ?_)
  refine W_loop1 (I := fun (k : Nat) => k ≤ 100 ∧ NoQ (fbQ σ 4 (σ 4 + 1)) (k + 1)) (wd := fun (k : Nat) => ([xO x hm kp tr hi, (x 7, .inl (G.2.1, 7, .inl tl))] ++ (wH G hm σ ++ (wH G tr (daysN k σ))))) (lv := fun (k : Nat) => [(1, .int (nI (k + 1))), (0, .ref (x 0))]) (μ := fun (k : Nat) => 100 - k) ?_ 0 ⟨by omega, NoQ_S NoQ_0 (decide_eq_false (by show ¬ σ 4 + 1 ≤ σ 4; omega))⟩ hP hD hS (lv_sub hl [0, 1] rfl)
  intro k H locs ls hI0 hP hD hS hl ih
  obtain ⟨hk, hno⟩ := hI0
  have hE := days_Inv hI k
  have hE0 := (days_0 σ k).1
  have hE1 := days_Inv hI (k + 1)
  obtain ⟨⟨j1, j2, j3, j4, j5⟩, jp⟩ := id hE
  obtain ⟨⟨l1, l2, l3, l4, l5⟩, lp⟩ := id hE1
  refine lv_iload_n hx hb dX5_hunger_13 rfl (lv_at hl 0 rfl) ?_
  refine lv_bipush (v := nI 100) hx hb dX5_hunger_14 rfl ?_
  refine n_icmp_gt hx hb (by omega) (by omega) (tgt := 51) dX5_hunger_16 (by decide) (fun c_1 => ?_) (fun c_1 => ?_)
  · have hk5 : k = 100 := by omega
    subst hk5
    refine lv_aload_n hx hb dX5_hunger_51 rfl (lv_at hl 1 rfl) ?_
    refine lv_iconst (v := nI 3) hx hb dX5_hunger_52 rfl ?_
    refine callVI (rest := []) (wn := fun u => ([xO x hm kp tr hi, (x 7, .inl (G.2.1, 7, .inl (tk tl 3)))] ++ (wH G hm σ ++ (wH G tr (daysN 100 σ))))) ⟨hx, hb, hml, hown, hts⟩ (c_X5_tell l G H.size x hm kp tr hi tl 3 (by omega)) (cwV 1 hts gX5_hunger_X5_tell rfl rfl rfl (by decide +kernel) ⟨Nat.le_of_ble_eq_true rfl, Nat.le_of_ble_eq_true rfl⟩) noXB (fun _ _ _ => trivial) hK hP hD hS hAq 4 0 (T := TX5) (N := 7) rfl rfl rfl hl.1 rfl (Nat.le_of_ble_eq_true rfl) dX5_hunger_53 ⟨Nat.le_of_ble_eq_true rfl, Nat.le_of_ble_eq_true rfl⟩ [0, 1] rfl rfl [x 0, x 7] rfl (fun _ => rfl) (fun _ => rfl) (fun u H locs hok hP hD hS => ?_)
    have hf : fbN σ 4 (σ 4 + 1) = 101 := fst_none hno
    have hq : fb_e σ 4 (σ 4 + 1) = 3 := by unfold fb_e; rw [hf, if_neg (by omega)]
    have he : hunger_e σ = 3 := by unfold hunger_e; (try simp only [Int.toNat_natCast]); exact hq
    exact fin_i hx hb hr hlk hS hP hD (daysN 100 σ) trivial (by rw [he]; first | done | ((try simp only [Int.toNat_natCast]); first | done | rfl)) (by rw [he]; (try simp only [Int.toNat_natCast]); exact eqW.rf _) dX5_hunger_56
  · refine lv_aload_n hx hb dX5_hunger_19 rfl (lv_at hl 1 rfl) ?_
    refine n_get (C := RX5) (T := TX5) (N := 7) hx hb hts (fun _ h => List.mem_cons_of_mem _ (List.mem_append_left _ (List.mem_append_right _ h))) hown hK hP 0 rfl rfl 2 (by decide) (List.mem_of_getElem? (i := 1) rfl) rfl (.ref (tr 0)) rfl dX5_hunger_20 ?_
    refine callVV (rest := []) (wn := fun u => ([xO x hm kp tr hi, (x 7, .inl (G.2.1, 7, .inl tl))] ++ (wH G hm σ ++ (wH G tr (dayN (daysN k σ)))))) ⟨hx, hb, hml, hown, hts⟩ (c_X0_goOneDay l G H.size tr (daysN k σ) hE (by omega)) (cwV 0 hts gX5_hunger_X0_goOneDay rfl rfl rfl (by decide +kernel) ⟨Nat.le_of_ble_eq_true rfl, Nat.le_of_ble_eq_true rfl⟩) noXB (fun _ _ _ => trivial) hK hP hD hS hAq 0 0 (T := TX0) (N := 11) rfl rfl rfl hl.1 rfl (Nat.le_of_ble_eq_true rfl) dX5_hunger_23 ⟨Nat.le_of_ble_eq_true rfl, Nat.le_of_ble_eq_true rfl⟩ [8, 9, 10, 11, 12, 13] rfl rfl [tr 0, tr 1, tr 2, tr 3, tr 4, tr 5] rfl (fun _ => rfl) (fun _ => rfl) (fun u H locs hok hP hD hS => ?_)
    refine lv_aload_n hx hb dX5_hunger_26 rfl (lv_at hl 1 rfl) ?_
    refine n_get (C := RX5) (T := TX5) (N := 7) hx hb hts (fun _ h => List.mem_cons_of_mem _ (List.mem_append_left _ (List.mem_append_right _ h))) hown hK hP 0 rfl rfl 2 (by decide) (List.mem_of_getElem? (i := 1) rfl) rfl (.ref (tr 0)) rfl dX5_hunger_27 ?_
    refine n_get (C := RX0) (T := TX0) (N := 11) hx hb hts (fun _ h => List.mem_cons_of_mem _ (List.mem_append_right _ h)) hown hK hP 8 rfl rfl 4 (by decide) (List.mem_of_getElem? (i := 3) rfl) rfl (.int (nI ((daysN (k + 1) σ) 4))) rfl dX5_hunger_30 ?_
    refine lv_aload_n hx hb dX5_hunger_33 rfl (lv_at hl 1 rfl) ?_
    refine n_get (C := RX5) (T := TX5) (N := 7) hx hb hts (fun _ h => List.mem_cons_of_mem _ (List.mem_append_left _ (List.mem_append_right _ h))) hown hK hP 0 rfl rfl 0 (by decide) (List.mem_of_getElem? (i := 2) rfl) rfl (.ref (hm 0)) rfl dX5_hunger_34 ?_
    refine n_get (C := RX0) (T := TX0) (N := 11) hx hb hts (fun _ h => List.mem_cons_of_mem _ (List.mem_append_right _ h)) hown hK hP 2 rfl rfl 4 (by decide) (List.mem_of_getElem? (i := 3) rfl) rfl (.int (nI (σ 4))) rfl dX5_hunger_37 ?_
    refine n_icmp_le hx hb (by omega) (by omega) (tgt := 45) dX5_hunger_40 (by decide) (fun c_2 => ?_) (fun c_2 => ?_)
    · refine n_iinc (lv' := [(1, .int (nI ((k + 1) + 1))), (0, .ref (x 0))]) hx hb dX5_hunger_45 hl (k := 0) rfl (by decide) rfl (fun ls hl => ?_)
      refine lv_goto (tgt := 13) hx hb dX5_hunger_48 (by decide) ?_
      exact ih (k + 1) _ _ _ (by omega) ⟨by omega, NoQ_S hno (decide_eq_false (by omega))⟩ hP hD hS (lv_sub hl [0, 1] rfl)
    · refine lv_iload_n hx hb dX5_hunger_43 rfl (lv_at hl 0 rfl) ?_
      have hf : fbN σ 4 (σ 4 + 1) = k + 1 := fst_of hno (decide_eq_true (by omega)) (by omega)
      have hq : fb_e σ 4 (σ 4 + 1) = 7 := by unfold fb_e; rw [hf, if_pos (by omega)]
      have he : hunger_e σ = 7 := by unfold hunger_e; (try simp only [Int.toNat_natCast]); exact hq
      exact fin_i hx hb hr hlk hS hP hD (daysN (k + 1) σ) trivial (by rw [he]; (try simp only [Int.toNat_natCast]); first | (rw [hf]; rfl) | rfl) (by rw [he]; (try simp only [Int.toNat_natCast]); exact eqW.rf _) dX5_hunger_44
set_option maxHeartbeats 400000 in
set_option maxRecDepth 100000 in
theorem c_X5_comes (l : Launch) (G : GT) (sz : Nat) (x hm kp tr : Nat → Nat) (hi : Nat) (tl : Nat → Int32) (σ τ : Sg) (a0 : Int32) (hI : Inv σ) (hd0 : σ 0 ≤ 9999) : MI (S := Sg) l G noX yX5_comes wsX5_comes ({ frames := 4, cells := 0, slots := 0, locals := 91 } : Room) [.ref (x 0), .int a0] (([xO x hm kp tr hi, (x 7, .inl (G.2.1, 7, .inl tl))] ++ (wH G hm σ ++ (wH G tr τ)))) sz (fun _ => True) (fun u => rs (comes_e σ a0.toInt) (nI (fbN σ 3 a0.toInt.toNat))) (fun u => ([xO x hm kp tr hi, (x 7, .inl (G.2.1, 7, .inl (ts tl (comes_e σ a0.toInt))))] ++ (wH G hm σ ++ (wH G tr u)))) := by
  refine MI_enter (cc := cX5_comes) (maxL := 3) (ret := (some .int)) (by decide) rfl (Nat.le_of_ble_eq_true rfl) ?_
  intro p e s m below meth c A ls H hx hb hr hlk hml hown hts hAq hS hP hK hD hX hl hnm
  have hown : s.vm.findClass RX5 = some m.cls := hown
  have hl : lv_has ls 3 [(0, .ref (x 0)), (1, .int a0)] := hl
  obtain ⟨⟨i1, i2, i3, i4, i5⟩, ip⟩ := id hI
  refine lv_iload_n hx hb dX5_comes_0 rfl (lv_at hl 1 rfl) ?_
  refine lv_iconst (v := nI 0) hx hb dX5_comes_1 rfl ?_
  refine lv_ldc (v := 99999999) hx hb hown (hts _ (List.mem_of_getElem? (i := 1) rfl)) dX5_comes_2 ?_
  refine n_top (y := nI 99999999) rfl ?_
  refine callSI (rest := []) (wn := fun u => ([xO x hm kp tr hi, (x 7, .inl (G.2.1, 7, .inl tl))] ++ (wH G hm σ ++ (wH G tr τ)))) ⟨hx, hb, hml, hown, hts⟩ (c_X5_isWithin l G H.size a0 (nI 0) (nI 99999999)) (va_cwS 3 hts gX5_comes_X5_isWithin rfl rfl rfl (by decide +kernel) ⟨Nat.le_of_ble_eq_true rfl, Nat.le_of_ble_eq_true rfl⟩) noXB (fun _ _ _ => trivial) hK hP hD hS hAq rfl hl.1 rfl (Nat.le_of_ble_eq_true rfl) dX5_comes_4 ⟨Nat.le_of_ble_eq_true rfl, Nat.le_of_ble_eq_true rfl⟩ [] rfl rfl [] rfl (fun _ => rfl) (fun _ => rfl) (fun u H locs hok hP hD hS => ?_)
  refine n_top (y := zI ((0 : Int) ≤ a0.toInt ∧ a0.toInt ≤ 99999999)) (zI_c (by rw [nI_T (show 0 < 2147483648 by decide), nI_T (show 99999999 < 2147483648 by decide)]; exact Iff.rfl)) ?_
  refine z_if_ne hx hb (tgt := 16) dX5_comes_7 (by decide) (fun c_1 => ?_) (fun c_1 => ?_)
  · obtain ⟨v0, hv0, rfl⟩ := nI_of_rg (n := 99999999) (x := a0) ⟨by omega, by omega⟩
    have hT0 := nI_T (a := v0) (by omega)
    refine lv_aload_n hx hb dX5_comes_16 rfl (lv_at hl 0 rfl) ?_
    refine n_get (C := RX5) (T := TX5) (N := 7) hx hb hts (fun _ h => List.mem_cons_of_mem _ (List.mem_append_left _ (List.mem_append_right _ h))) hown hK hP 0 rfl rfl 2 (by decide) (List.mem_of_getElem? (i := 2) rfl) rfl (.ref (tr 0)) rfl dX5_comes_17 ?_
    refine lv_aload_n hx hb dX5_comes_20 rfl (lv_at hl 0 rfl) ?_
    refine n_get (C := RX5) (T := TX5) (N := 7) hx hb hts (fun _ h => List.mem_cons_of_mem _ (List.mem_append_left _ (List.mem_append_right _ h))) hown hK hP 0 rfl rfl 0 (by decide) (List.mem_of_getElem? (i := 3) rfl) rfl (.ref (hm 0)) rfl dX5_comes_21 ?_
    refine callVV (rest := []) (wn := fun u => ([xO x hm kp tr hi, (x 7, .inl (G.2.1, 7, .inl tl))] ++ (wH G hm σ ++ (wH G tr σ)))) ⟨hx, hb, hml, hown, hts⟩ (c_X0_become l G H.size tr τ hm σ) (cwV 1 hts gX5_comes_X0_become rfl rfl rfl (by decide +kernel) ⟨Nat.le_of_ble_eq_true rfl, Nat.le_of_ble_eq_true rfl⟩) noXB (fun _ _ _ => trivial) hK hP hD hS hAq 0 0 (T := TX0) (N := 11) rfl rfl rfl hl.1 rfl (Nat.le_of_ble_eq_true rfl) dX5_comes_24 ⟨Nat.le_of_ble_eq_true rfl, Nat.le_of_ble_eq_true rfl⟩ [8, 9, 10, 11, 12, 13, 2, 3, 4, 5, 6, 7] rfl rfl [tr 0, tr 1, tr 2, tr 3, tr 4, tr 5, hm 0, hm 1, hm 2, hm 3, hm 4, hm 5] rfl (fun _ => rfl) (fun _ => rfl) (fun u H locs hok hP hD hS => ?_)
    refine lv_iconst (v := nI 0) hx hb dX5_comes_27 rfl ?_
    refine lv_istore_n (lv' := [(2, .int (nI 0)), (0, .ref (x 0)), (1, .int (nI v0))]) hx hb dX5_comes_28 rfl hl (by decide) rfl (fun ls hl => ?_)
    refine W_loop1 (I := fun (k : Nat) => k ≤ 101 ∧ NoQ (fbQ σ 3 v0) k) (wd := fun (k : Nat) => ([xO x hm kp tr hi, (x 7, .inl (G.2.1, 7, .inl tl))] ++ (wH G hm σ ++ (wH G tr (daysN k σ))))) (lv := fun (k : Nat) => [(2, .int (nI k)), (0, .ref (x 0)), (1, .int (nI v0))]) (μ := fun (k : Nat) => 101 - k) ?_ 0 ⟨by omega, NoQ_0⟩ hP hD hS (lv_sub hl [0, 1, 2] rfl)
    intro k H locs ls hI0 hP hD hS hl ih
    obtain ⟨hk, hno⟩ := hI0
    have hE := days_Inv hI k
    have hE0 := (days_0 σ k).1
    have hE1 := days_Inv hI (k + 1)
    obtain ⟨⟨j1, j2, j3, j4, j5⟩, jp⟩ := id hE
    obtain ⟨⟨l1, l2, l3, l4, l5⟩, lp⟩ := id hE1
    refine lv_iload_n hx hb dX5_comes_29 rfl (lv_at hl 0 rfl) ?_
    refine lv_bipush (v := nI 100) hx hb dX5_comes_30 rfl ?_
    refine n_icmp_gt hx hb (by omega) (by omega) (tgt := 61) dX5_comes_32 (by decide) (fun c_2 => ?_) (fun c_2 => ?_)
    · have hk5 : k = 101 := by omega
      subst hk5
      refine lv_aload_n hx hb dX5_comes_61 rfl (lv_at hl 1 rfl) ?_
      refine lv_iconst (v := nI 3) hx hb dX5_comes_62 rfl ?_
      refine callVI (rest := []) (wn := fun u => ([xO x hm kp tr hi, (x 7, .inl (G.2.1, 7, .inl (tk tl 3)))] ++ (wH G hm σ ++ (wH G tr (daysN 101 σ))))) ⟨hx, hb, hml, hown, hts⟩ (c_X5_tell l G H.size x hm kp tr hi tl 3 (by omega)) (cwV 1 hts gX5_comes_X5_tell rfl rfl rfl (by decide +kernel) ⟨Nat.le_of_ble_eq_true rfl, Nat.le_of_ble_eq_true rfl⟩) noXB (fun _ _ _ => trivial) hK hP hD hS hAq 4 0 (T := TX5) (N := 7) rfl rfl rfl hl.1 rfl (Nat.le_of_ble_eq_true rfl) dX5_comes_63 ⟨Nat.le_of_ble_eq_true rfl, Nat.le_of_ble_eq_true rfl⟩ [0, 1] rfl rfl [x 0, x 7] rfl (fun _ => rfl) (fun _ => rfl) (fun u H locs hok hP hD hS => ?_)
      have hf : fbN σ 3 v0 = 101 := fst_none hno
      have hq : fb_e σ 3 v0 = 3 := by unfold fb_e; rw [hf, if_neg (by omega)]
      have he : comes_e σ (nI v0).toInt = 3 := by unfold comes_e; (try simp only [hT0, Int.toNat_natCast]); rw [if_pos (by omega)]; exact hq
      exact fin_i hx hb hr hlk hS hP hD (daysN 101 σ) trivial (by rw [he]; first | done | ((try simp only [hT0, Int.toNat_natCast]); first | done | rfl)) (by rw [he]; (try simp only [hT0, Int.toNat_natCast]); exact eqW.rf _) dX5_comes_66
    · refine lv_aload_n hx hb dX5_comes_35 rfl (lv_at hl 1 rfl) ?_
      refine n_get (C := RX5) (T := TX5) (N := 7) hx hb hts (fun _ h => List.mem_cons_of_mem _ (List.mem_append_left _ (List.mem_append_right _ h))) hown hK hP 0 rfl rfl 2 (by decide) (List.mem_of_getElem? (i := 2) rfl) rfl (.ref (tr 0)) rfl dX5_comes_36 ?_
      refine n_get (C := RX0) (T := TX0) (N := 11) hx hb hts (fun _ h => List.mem_cons_of_mem _ (List.mem_append_right _ h)) hown hK hP 8 rfl rfl 3 (by decide) (List.mem_of_getElem? (i := 4) rfl) rfl (.int (nI ((daysN k σ) 3))) rfl dX5_comes_39 ?_
      refine lv_iload_n hx hb dX5_comes_42 rfl (lv_at hl 2 rfl) ?_
      refine n_icmp_lt hx hb (by omega) (by omega) (tgt := 48) dX5_comes_43 (by decide) (fun c_3 => ?_) (fun c_3 => ?_)
      · refine lv_aload_n hx hb dX5_comes_48 rfl (lv_at hl 1 rfl) ?_
        refine n_get (C := RX5) (T := TX5) (N := 7) hx hb hts (fun _ h => List.mem_cons_of_mem _ (List.mem_append_left _ (List.mem_append_right _ h))) hown hK hP 0 rfl rfl 2 (by decide) (List.mem_of_getElem? (i := 2) rfl) rfl (.ref (tr 0)) rfl dX5_comes_49 ?_
        refine callVV (rest := []) (wn := fun u => ([xO x hm kp tr hi, (x 7, .inl (G.2.1, 7, .inl tl))] ++ (wH G hm σ ++ (wH G tr (dayN (daysN k σ)))))) ⟨hx, hb, hml, hown, hts⟩ (c_X0_goOneDay l G H.size tr (daysN k σ) hE (by omega)) (cwV 0 hts gX5_comes_X0_goOneDay rfl rfl rfl (by decide +kernel) ⟨Nat.le_of_ble_eq_true rfl, Nat.le_of_ble_eq_true rfl⟩) noXB (fun _ _ _ => trivial) hK hP hD hS hAq 0 0 (T := TX0) (N := 11) rfl rfl rfl hl.1 rfl (Nat.le_of_ble_eq_true rfl) dX5_comes_52 ⟨Nat.le_of_ble_eq_true rfl, Nat.le_of_ble_eq_true rfl⟩ [8, 9, 10, 11, 12, 13] rfl rfl [tr 0, tr 1, tr 2, tr 3, tr 4, tr 5] rfl (fun _ => rfl) (fun _ => rfl) (fun u H locs hok hP hD hS => ?_)
        refine n_iinc (lv' := [(2, .int (nI (k + 1))), (0, .ref (x 0)), (1, .int (nI v0))]) hx hb dX5_comes_55 hl (k := 0) rfl (by decide) rfl (fun ls hl => ?_)
        refine lv_goto (tgt := 29) hx hb dX5_comes_58 (by decide) ?_
        exact ih (k + 1) _ _ _ (by omega) ⟨by omega, NoQ_S hno (decide_eq_false (by omega))⟩ hP hD hS (lv_sub hl [0, 1, 2] rfl)
      · refine lv_iload_n hx hb dX5_comes_46 rfl (lv_at hl 0 rfl) ?_
        have hf : fbN σ 3 v0 = k := fst_of hno (decide_eq_true (by omega)) (by omega)
        have hq : fb_e σ 3 v0 = 7 := by unfold fb_e; rw [hf, if_pos (by omega)]
        have he : comes_e σ (nI v0).toInt = 7 := by unfold comes_e; (try simp only [hT0, Int.toNat_natCast]); rw [if_pos (by omega)]; exact hq
        exact fin_i hx hb hr hlk hS hP hD (daysN k σ) trivial (by rw [he]; (try simp only [hT0, Int.toNat_natCast]); first | (rw [hf]; rfl) | rfl) (by rw [he]; (try simp only [hT0, Int.toNat_natCast]); exact eqW.rf _) dX5_comes_47
  · refine lv_aload_n hx hb dX5_comes_10 rfl (lv_at hl 0 rfl) ?_
    refine lv_iconst (v := nI 0) hx hb dX5_comes_11 rfl ?_
    refine callVI (rest := []) (wn := fun u => ([xO x hm kp tr hi, (x 7, .inl (G.2.1, 7, .inl (tk tl 0)))] ++ (wH G hm σ ++ (wH G tr τ)))) ⟨hx, hb, hml, hown, hts⟩ (c_X5_tell l G H.size x hm kp tr hi tl 0 (by omega)) (cwV 1 hts gX5_comes_X5_tell rfl rfl rfl (by decide +kernel) ⟨Nat.le_of_ble_eq_true rfl, Nat.le_of_ble_eq_true rfl⟩) noXB (fun _ _ _ => trivial) hK hP hD hS hAq 4 0 (T := TX5) (N := 7) rfl rfl rfl hl.1 rfl (Nat.le_of_ble_eq_true rfl) dX5_comes_12 ⟨Nat.le_of_ble_eq_true rfl, Nat.le_of_ble_eq_true rfl⟩ [0, 1] rfl rfl [x 0, x 7] rfl (fun _ => rfl) (fun _ => rfl) (fun u H locs hok hP hD hS => ?_)
    have he : comes_e σ a0.toInt = 0 := by unfold comes_e; (try simp only [Int.toNat_natCast]); (repeat' split) <;> omega
    exact fin_i hx hb hr hlk hS hP hD τ trivial (by rw [he]; first | done | ((try simp only [Int.toNat_natCast]); first | done | rfl)) (by rw [he]; (try simp only [Int.toNat_natCast]); exact eqW.rf _) dX5_comes_15
set_option maxHeartbeats 400000 in
set_option maxRecDepth 100000 in
theorem c_X5_watched (l : Launch) (G : GT) (sz : Nat) (x hm kp tr : Nat → Nat) (hi : Nat) (tl : Nat → Int32) (σ τ : Sg) (a0 : Int32) (hI : Inv σ) (hd0 : σ 0 ≤ 9999) : MI (S := Sg) l G noX yX5_watched wsX5_watched ({ frames := 4, cells := 0, slots := 0, locals := 91 } : Room) [.ref (x 0), .int a0] (([xO x hm kp tr hi, (x 7, .inl (G.2.1, 7, .inl tl))] ++ (wH G hm σ ++ (wH G tr τ)))) sz (fun _ => True) (fun u => rs (watched_e σ a0.toInt) (nI (fbN σ (pl a0.toInt.toNat 3) 1))) (fun u => ([xO x hm kp tr hi, (x 7, .inl (G.2.1, 7, .inl (ts tl (watched_e σ a0.toInt))))] ++ (wH G hm σ ++ (wH G tr u)))) := by
  refine MI_enter (cc := cX5_watched) (maxL := 3) (ret := (some .int)) (by decide) rfl (Nat.le_of_ble_eq_true rfl) ?_
  intro p e s m below meth c A ls H hx hb hr hlk hml hown hts hAq hS hP hK hD hX hl hnm
  have hown : s.vm.findClass RX5 = some m.cls := hown
  have hl : lv_has ls 3 [(0, .ref (x 0)), (1, .int a0)] := hl
  obtain ⟨⟨i1, i2, i3, i4, i5⟩, ip⟩ := id hI
  refine lv_aload_n hx hb dX5_watched_0 rfl (lv_at hl 0 rfl) ?_
  refine n_get (C := RX5) (T := TX5) (N := 7) hx hb hts (fun _ h => List.mem_cons_of_mem _ (List.mem_append_left _ (List.mem_append_right _ h))) hown hK hP 0 rfl rfl 0 (by decide) (List.mem_of_getElem? (i := 1) rfl) rfl (.ref (hm 0)) rfl dX5_watched_1 ?_
  refine lv_iload_n hx hb dX5_watched_4 rfl (lv_at hl 1 rfl) ?_
  refine callVI (rest := []) (wn := fun u => ([xO x hm kp tr hi, (x 7, .inl (G.2.1, 7, .inl tl))] ++ (wH G hm σ ++ (wH G tr τ)))) ⟨hx, hb, hml, hown, hts⟩ (c_X0_hasOne l G H.size hm σ a0 (by omega)) (cwV 1 hts gX5_watched_X0_hasOne rfl rfl rfl (by decide +kernel) ⟨Nat.le_of_ble_eq_true rfl, Nat.le_of_ble_eq_true rfl⟩) noXB (fun _ _ _ => trivial) hK hP hD hS hAq 0 0 (T := TX0) (N := 11) rfl rfl rfl hl.1 rfl (Nat.le_of_ble_eq_true rfl) dX5_watched_5 ⟨Nat.le_of_ble_eq_true rfl, Nat.le_of_ble_eq_true rfl⟩ [2, 3, 4, 5, 6, 7] rfl rfl [hm 0, hm 1, hm 2, hm 3, hm 4, hm 5] rfl (fun _ => rfl) (fun _ => rfl) (fun u H locs hok hP hD hS => ?_)
  refine z_if_ne hx hb (tgt := 17) dX5_watched_8 (by decide) (fun c_1 => ?_) (fun c_1 => ?_)
  · obtain ⟨k0, hk0, rfl⟩ := nI_of_rg (n := 7) (x := a0) ⟨by omega, by omega⟩
    have hT0 := nI_T (a := k0) (by omega)
    have hp0 : k0 < σ 5 := by omega
    obtain ⟨q00, q01, q02, q03, q04⟩ := ip k0 (by omega)
    refine lv_aload_n hx hb dX5_watched_17 rfl (lv_at hl 0 rfl) ?_
    refine n_get (C := RX5) (T := TX5) (N := 7) hx hb hts (fun _ h => List.mem_cons_of_mem _ (List.mem_append_left _ (List.mem_append_right _ h))) hown hK hP 0 rfl rfl 2 (by decide) (List.mem_of_getElem? (i := 2) rfl) rfl (.ref (tr 0)) rfl dX5_watched_18 ?_
    refine lv_aload_n hx hb dX5_watched_21 rfl (lv_at hl 0 rfl) ?_
    refine n_get (C := RX5) (T := TX5) (N := 7) hx hb hts (fun _ h => List.mem_cons_of_mem _ (List.mem_append_left _ (List.mem_append_right _ h))) hown hK hP 0 rfl rfl 0 (by decide) (List.mem_of_getElem? (i := 1) rfl) rfl (.ref (hm 0)) rfl dX5_watched_22 ?_
    refine callVV (rest := []) (wn := fun u => ([xO x hm kp tr hi, (x 7, .inl (G.2.1, 7, .inl tl))] ++ (wH G hm σ ++ (wH G tr σ)))) ⟨hx, hb, hml, hown, hts⟩ (c_X0_become l G H.size tr τ hm σ) (cwV 1 hts gX5_watched_X0_become rfl rfl rfl (by decide +kernel) ⟨Nat.le_of_ble_eq_true rfl, Nat.le_of_ble_eq_true rfl⟩) noXB (fun _ _ _ => trivial) hK hP hD hS hAq 0 0 (T := TX0) (N := 11) rfl rfl rfl hl.1 rfl (Nat.le_of_ble_eq_true rfl) dX5_watched_25 ⟨Nat.le_of_ble_eq_true rfl, Nat.le_of_ble_eq_true rfl⟩ [8, 9, 10, 11, 12, 13, 2, 3, 4, 5, 6, 7] rfl rfl [tr 0, tr 1, tr 2, tr 3, tr 4, tr 5, hm 0, hm 1, hm 2, hm 3, hm 4, hm 5] rfl (fun _ => rfl) (fun _ => rfl) (fun u H locs hok hP hD hS => ?_)
    refine lv_iconst (v := nI 0) hx hb dX5_watched_28 rfl ?_
    refine lv_istore_n (lv' := [(2, .int (nI 0)), (0, .ref (x 0)), (1, .int (nI k0))]) hx hb dX5_watched_29 rfl hl (by decide) rfl (fun ls hl => ?_)
    refine W_loop1 (I := fun (k : Nat) => k ≤ 101 ∧ NoQ (fbQ σ (pl k0 3) 1) k) (wd := fun (k : Nat) => ([xO x hm kp tr hi, (x 7, .inl (G.2.1, 7, .inl tl))] ++ (wH G hm σ ++ (wH G tr (daysN k σ))))) (lv := fun (k : Nat) => [(2, .int (nI k)), (0, .ref (x 0)), (1, .int (nI k0))]) (μ := fun (k : Nat) => 101 - k) ?_ 0 ⟨by omega, NoQ_0⟩ hP hD hS (lv_sub hl [0, 1, 2] rfl)
    intro k H locs ls hI0 hP hD hS hl ih
    obtain ⟨hk, hno⟩ := hI0
    have hE := days_Inv hI k
    have hE0 := (days_0 σ k).1
    have hE1 := days_Inv hI (k + 1)
    obtain ⟨⟨j1, j2, j3, j4, j5⟩, jp⟩ := id hE
    obtain ⟨⟨l1, l2, l3, l4, l5⟩, lp⟩ := id hE1
    obtain ⟨r0, r1, r2, r3, r4⟩ := jp k0 (by omega)
    refine lv_iload_n hx hb dX5_watched_30 rfl (lv_at hl 0 rfl) ?_
    refine lv_bipush (v := nI 100) hx hb dX5_watched_31 rfl ?_
    refine n_icmp_gt hx hb (by omega) (by omega) (tgt := 63) dX5_watched_33 (by decide) (fun c_2 => ?_) (fun c_2 => ?_)
    · have hk5 : k = 101 := by omega
      subst hk5
      refine lv_aload_n hx hb dX5_watched_63 rfl (lv_at hl 1 rfl) ?_
      refine lv_iconst (v := nI 3) hx hb dX5_watched_64 rfl ?_
      refine callVI (rest := []) (wn := fun u => ([xO x hm kp tr hi, (x 7, .inl (G.2.1, 7, .inl (tk tl 3)))] ++ (wH G hm σ ++ (wH G tr (daysN 101 σ))))) ⟨hx, hb, hml, hown, hts⟩ (c_X5_tell l G H.size x hm kp tr hi tl 3 (by omega)) (cwV 1 hts gX5_watched_X5_tell rfl rfl rfl (by decide +kernel) ⟨Nat.le_of_ble_eq_true rfl, Nat.le_of_ble_eq_true rfl⟩) noXB (fun _ _ _ => trivial) hK hP hD hS hAq 4 0 (T := TX5) (N := 7) rfl rfl rfl hl.1 rfl (Nat.le_of_ble_eq_true rfl) dX5_watched_65 ⟨Nat.le_of_ble_eq_true rfl, Nat.le_of_ble_eq_true rfl⟩ [0, 1] rfl rfl [x 0, x 7] rfl (fun _ => rfl) (fun _ => rfl) (fun u H locs hok hP hD hS => ?_)
      have hf : fbN σ (pl k0 3) 1 = 101 := fst_none hno
      have hq : fb_e σ (pl k0 3) 1 = 3 := by unfold fb_e; rw [hf, if_neg (by omega)]
      have he : watched_e σ (nI k0).toInt = 3 := by unfold watched_e; (try simp only [hT0, Int.toNat_natCast]); rw [if_pos (by omega)]; exact hq
      exact fin_i hx hb hr hlk hS hP hD (daysN 101 σ) trivial (by rw [he]; first | done | ((try simp only [hT0, Int.toNat_natCast]); first | done | rfl)) (by rw [he]; (try simp only [hT0, Int.toNat_natCast]); exact eqW.rf _) dX5_watched_68
    · refine lv_aload_n hx hb dX5_watched_36 rfl (lv_at hl 1 rfl) ?_
      refine n_get (C := RX5) (T := TX5) (N := 7) hx hb hts (fun _ h => List.mem_cons_of_mem _ (List.mem_append_left _ (List.mem_append_right _ h))) hown hK hP 0 rfl rfl 2 (by decide) (List.mem_of_getElem? (i := 2) rfl) rfl (.ref (tr 0)) rfl dX5_watched_37 ?_
      refine n_get (C := RX0) (T := TX0) (N := 11) hx hb hts (fun _ h => List.mem_cons_of_mem _ (List.mem_append_right _ h)) hown hK hP 8 rfl rfl 9 (by decide) (List.mem_of_getElem? (i := 3) rfl) rfl (.ref (tr 4)) rfl dX5_watched_40 ?_
      refine lv_iload_n hx hb dX5_watched_43 rfl (lv_at hl 2 rfl) ?_
      refine n_iald hx hb hK hP 12 (v := (nI ((daysN k σ) (pl k0 3)))) rfl (by omega) (by omega) rfl dX5_watched_44 ?_
      refine n_if_le hx hb (by omega) (tgt := 50) dX5_watched_45 (by decide) (fun c_3 => ?_) (fun c_3 => ?_)
      · refine lv_aload_n hx hb dX5_watched_50 rfl (lv_at hl 1 rfl) ?_
        refine n_get (C := RX5) (T := TX5) (N := 7) hx hb hts (fun _ h => List.mem_cons_of_mem _ (List.mem_append_left _ (List.mem_append_right _ h))) hown hK hP 0 rfl rfl 2 (by decide) (List.mem_of_getElem? (i := 2) rfl) rfl (.ref (tr 0)) rfl dX5_watched_51 ?_
        refine callVV (rest := []) (wn := fun u => ([xO x hm kp tr hi, (x 7, .inl (G.2.1, 7, .inl tl))] ++ (wH G hm σ ++ (wH G tr (dayN (daysN k σ)))))) ⟨hx, hb, hml, hown, hts⟩ (c_X0_goOneDay l G H.size tr (daysN k σ) hE (by omega)) (cwV 0 hts gX5_watched_X0_goOneDay rfl rfl rfl (by decide +kernel) ⟨Nat.le_of_ble_eq_true rfl, Nat.le_of_ble_eq_true rfl⟩) noXB (fun _ _ _ => trivial) hK hP hD hS hAq 0 0 (T := TX0) (N := 11) rfl rfl rfl hl.1 rfl (Nat.le_of_ble_eq_true rfl) dX5_watched_54 ⟨Nat.le_of_ble_eq_true rfl, Nat.le_of_ble_eq_true rfl⟩ [8, 9, 10, 11, 12, 13] rfl rfl [tr 0, tr 1, tr 2, tr 3, tr 4, tr 5] rfl (fun _ => rfl) (fun _ => rfl) (fun u H locs hok hP hD hS => ?_)
        refine n_iinc (lv' := [(2, .int (nI (k + 1))), (0, .ref (x 0)), (1, .int (nI k0))]) hx hb dX5_watched_57 hl (k := 0) rfl (by decide) rfl (fun ls hl => ?_)
        refine lv_goto (tgt := 30) hx hb dX5_watched_60 (by decide) ?_
        exact ih (k + 1) _ _ _ (by omega) ⟨by omega, NoQ_S hno (decide_eq_false (by omega))⟩ hP hD hS (lv_sub hl [0, 1, 2] rfl)
      · refine lv_iload_n hx hb dX5_watched_48 rfl (lv_at hl 0 rfl) ?_
        have hf : fbN σ (pl k0 3) 1 = k := fst_of hno (decide_eq_true (by omega)) (by omega)
        have hq : fb_e σ (pl k0 3) 1 = 7 := by unfold fb_e; rw [hf, if_pos (by omega)]
        have he : watched_e σ (nI k0).toInt = 7 := by unfold watched_e; (try simp only [hT0, Int.toNat_natCast]); rw [if_pos (by omega)]; exact hq
        exact fin_i hx hb hr hlk hS hP hD (daysN k σ) trivial (by rw [he]; (try simp only [hT0, Int.toNat_natCast]); first | (rw [hf]; rfl) | rfl) (by rw [he]; (try simp only [hT0, Int.toNat_natCast]); exact eqW.rf _) dX5_watched_49
  · refine lv_aload_n hx hb dX5_watched_11 rfl (lv_at hl 0 rfl) ?_
    refine lv_iconst (v := nI 0) hx hb dX5_watched_12 rfl ?_
    refine callVI (rest := []) (wn := fun u => ([xO x hm kp tr hi, (x 7, .inl (G.2.1, 7, .inl (tk tl 0)))] ++ (wH G hm σ ++ (wH G tr τ)))) ⟨hx, hb, hml, hown, hts⟩ (c_X5_tell l G H.size x hm kp tr hi tl 0 (by omega)) (cwV 1 hts gX5_watched_X5_tell rfl rfl rfl (by decide +kernel) ⟨Nat.le_of_ble_eq_true rfl, Nat.le_of_ble_eq_true rfl⟩) noXB (fun _ _ _ => trivial) hK hP hD hS hAq 4 0 (T := TX5) (N := 7) rfl rfl rfl hl.1 rfl (Nat.le_of_ble_eq_true rfl) dX5_watched_13 ⟨Nat.le_of_ble_eq_true rfl, Nat.le_of_ble_eq_true rfl⟩ [0, 1] rfl rfl [x 0, x 7] rfl (fun _ => rfl) (fun _ => rfl) (fun u H locs hok hP hD hS => ?_)
    have he : watched_e σ a0.toInt = 0 := by unfold watched_e; (try simp only [Int.toNat_natCast]); (repeat' split) <;> omega
    exact fin_i hx hb hr hlk hS hP hD τ trivial (by rw [he]; first | done | ((try simp only [Int.toNat_natCast]); first | done | rfl)) (by rw [he]; (try simp only [Int.toNat_natCast]); exact eqW.rf _) dX5_watched_16
