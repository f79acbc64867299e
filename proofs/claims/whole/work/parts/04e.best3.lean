theorem few_le (y : Int) : fewN y ≤ 9 := by
  unfold fewN
  split
  · exact Nat.le_refl _
  · exact Nat.le_trans (popc_le _) (by decide)
set_option maxHeartbeats 400000 in
set_option maxRecDepth 100000 in
theorem c_J6_bitCount_0f7a4 (l : Launch) (G : GT) (sz : Nat) (m0 : Nat) (hm : m0 < 256) : MI (S := Unit) l G noX yJ6_bitCount_0f7a4 wsJ6_bitCount_0f7a4 ({ frames := 0, cells := 0, slots := 0, locals := 0 } : Room) [.int (nI m0)] (([] : va_W)) sz (fun _ => True) (fun _ => nI (popc m0)) (fun _ => ([] : va_W)) := by
  refine MI_enter (cc := cJ6_bitCount_0f7a4) (maxL := 1) (ret := (some .int)) (by decide) rfl (Nat.le_of_ble_eq_true rfl) ?_
  intro p e s m below meth c A ls H hx hb hr hlk hml hown hts hAq hS hP hK hD hX hl hnm
  have hown : s.vm.findClass RJ6 = some m.cls := hown
  have hl : lv_has ls 1 [(0, .int (nI m0))] := hl
  refine lv_iload_n hx hb dJ6_bitCount_0f7a4_0 rfl (lv_at hl 0 rfl) ?_
  refine lv_iload_n hx hb dJ6_bitCount_0f7a4_1 rfl (lv_at hl 0 rfl) ?_
  refine lv_iconst (v := nI 1) hx hb dJ6_bitCount_0f7a4_2 rfl ?_
  refine lv_iushr (v := ((nI m0).toUInt32 >>> ((nI 1).toUInt32 &&& Int32.toUInt32 31)).toInt32) hx hb dJ6_bitCount_0f7a4_3 rfl ?_
  refine lv_ldcw (v := 1431655765) hx hb hown (hts _ (List.mem_of_getElem? (i := 1) rfl)) dJ6_bitCount_0f7a4_4 ?_
  refine n_top (y := nI 1431655765) rfl ?_
  refine lv_iand hx hb dJ6_bitCount_0f7a4_7 ?_
  refine lv_isub hx hb dJ6_bitCount_0f7a4_8 ?_
  refine lv_topi (fun x1 ex1 => ?_)
  refine lv_istore_n (lv' := [(0, .int x1)]) hx hb dJ6_bitCount_0f7a4_9 rfl hl (by decide) rfl (fun ls hl => ?_)
  refine lv_iload_n hx hb dJ6_bitCount_0f7a4_10 rfl (lv_at hl 0 rfl) ?_
  refine lv_ldcw (v := 858993459) hx hb hown (hts _ (List.mem_of_getElem? (i := 2) rfl)) dJ6_bitCount_0f7a4_11 ?_
  refine n_top (y := nI 858993459) rfl ?_
  refine lv_iand hx hb dJ6_bitCount_0f7a4_14 ?_
  refine lv_iload_n hx hb dJ6_bitCount_0f7a4_15 rfl (lv_at hl 0 rfl) ?_
  refine lv_iconst (v := nI 2) hx hb dJ6_bitCount_0f7a4_16 rfl ?_
  refine lv_iushr (v := (x1.toUInt32 >>> ((nI 2).toUInt32 &&& Int32.toUInt32 31)).toInt32) hx hb dJ6_bitCount_0f7a4_17 rfl ?_
  refine lv_ldcw (v := 858993459) hx hb hown (hts _ (List.mem_of_getElem? (i := 2) rfl)) dJ6_bitCount_0f7a4_18 ?_
  refine n_top (y := nI 858993459) rfl ?_
  refine lv_iand hx hb dJ6_bitCount_0f7a4_21 ?_
  refine lv_iadd hx hb dJ6_bitCount_0f7a4_22 ?_
  refine lv_topi (fun x2 ex2 => ?_)
  refine lv_istore_n (lv' := [(0, .int x2)]) hx hb dJ6_bitCount_0f7a4_23 rfl hl (by decide) rfl (fun ls hl => ?_)
  refine lv_iload_n hx hb dJ6_bitCount_0f7a4_24 rfl (lv_at hl 0 rfl) ?_
  refine lv_iload_n hx hb dJ6_bitCount_0f7a4_25 rfl (lv_at hl 0 rfl) ?_
  refine lv_iconst (v := nI 4) hx hb dJ6_bitCount_0f7a4_26 rfl ?_
  refine lv_iushr (v := (x2.toUInt32 >>> ((nI 4).toUInt32 &&& Int32.toUInt32 31)).toInt32) hx hb dJ6_bitCount_0f7a4_27 rfl ?_
  refine lv_iadd hx hb dJ6_bitCount_0f7a4_28 ?_
  refine lv_ldcw (v := 252645135) hx hb hown (hts _ (List.mem_of_getElem? (i := 3) rfl)) dJ6_bitCount_0f7a4_29 ?_
  refine n_top (y := nI 252645135) rfl ?_
  refine lv_iand hx hb dJ6_bitCount_0f7a4_32 ?_
  refine lv_topi (fun x3 ex3 => ?_)
  refine lv_istore_n (lv' := [(0, .int x3)]) hx hb dJ6_bitCount_0f7a4_33 rfl hl (by decide) rfl (fun ls hl => ?_)
  refine lv_iload_n hx hb dJ6_bitCount_0f7a4_34 rfl (lv_at hl 0 rfl) ?_
  refine lv_iload_n hx hb dJ6_bitCount_0f7a4_35 rfl (lv_at hl 0 rfl) ?_
  refine lv_bipush (v := nI 8) hx hb dJ6_bitCount_0f7a4_36 rfl ?_
  refine lv_iushr (v := (x3.toUInt32 >>> ((nI 8).toUInt32 &&& Int32.toUInt32 31)).toInt32) hx hb dJ6_bitCount_0f7a4_38 rfl ?_
  refine lv_iadd hx hb dJ6_bitCount_0f7a4_39 ?_
  refine lv_topi (fun x4 ex4 => ?_)
  refine lv_istore_n (lv' := [(0, .int x4)]) hx hb dJ6_bitCount_0f7a4_40 rfl hl (by decide) rfl (fun ls hl => ?_)
  refine lv_iload_n hx hb dJ6_bitCount_0f7a4_41 rfl (lv_at hl 0 rfl) ?_
  refine lv_iload_n hx hb dJ6_bitCount_0f7a4_42 rfl (lv_at hl 0 rfl) ?_
  refine lv_bipush (v := nI 16) hx hb dJ6_bitCount_0f7a4_43 rfl ?_
  refine lv_iushr (v := (x4.toUInt32 >>> ((nI 16).toUInt32 &&& Int32.toUInt32 31)).toInt32) hx hb dJ6_bitCount_0f7a4_45 rfl ?_
  refine lv_iadd hx hb dJ6_bitCount_0f7a4_46 ?_
  refine lv_topi (fun x5 ex5 => ?_)
  refine lv_istore_n (lv' := [(0, .int x5)]) hx hb dJ6_bitCount_0f7a4_47 rfl hl (by decide) rfl (fun ls hl => ?_)
  refine lv_iload_n hx hb dJ6_bitCount_0f7a4_48 rfl (lv_at hl 0 rfl) ?_
  refine lv_bipush (v := nI 63) hx hb dJ6_bitCount_0f7a4_49 rfl ?_
  refine lv_iand hx hb dJ6_bitCount_0f7a4_51 ?_
  exact fin_i hx hb hr hlk hS hP hD () trivial (by subst ex1; subst ex2; subst ex3; subst ex4; subst ex5; exact bc_tab m0 hm) (eqW.rf _) dJ6_bitCount_0f7a4_52
set_option maxHeartbeats 400000 in
set_option maxRecDepth 100000 in
theorem c_X6_bits (l : Launch) (G : GT) (sz : Nat) (m0 : Nat) (hm : m0 < 256) : MI (S := Unit) l G noX yX6_bits wsX6_bits ({ frames := 0, cells := 0, slots := 0, locals := 0 } : Room) [.int (nI m0)] (([] : va_W)) sz (fun _ => True) (fun _ => nI (popc m0)) (fun _ => ([] : va_W)) := by
  refine MI_enter (cc := cX6_bits) (maxL := 3) (ret := (some .int)) (by decide) rfl (Nat.le_of_ble_eq_true rfl) ?_
  intro p e s m below meth c A ls H hx hb hr hlk hml hown hts hAq hS hP hK hD hX hl hnm
  have hown : s.vm.findClass RX6 = some m.cls := hown
  have hl : lv_has ls 3 [(0, .int (nI m0))] := hl
  refine lv_iconst (v := nI 0) hx hb dX6_bits_0 rfl ?_
  refine lv_istore_n (lv' := [(1, .int (nI 0)), (0, .int (nI m0))]) hx hb dX6_bits_1 rfl hl (by decide) rfl (fun ls hl => ?_)
  refine lv_iload_n hx hb dX6_bits_2 rfl (lv_at hl 1 rfl) ?_
  refine lv_istore_n (lv' := [(2, .int (nI m0)), (1, .int (nI 0)), (0, .int (nI m0))]) hx hb dX6_bits_3 rfl hl (by decide) rfl (fun ls hl => ?_)
  refine W_loop2 (I := fun (n0 : Nat) (l0 : Nat) => l0 < 256 ∧ n0 + popc l0 = popc m0) (wd := fun (n0 : Nat) (l0 : Nat) => ([] : va_W)) (lv := fun (n0 : Nat) (l0 : Nat) => [(2, .int (nI l0)), (1, .int (nI n0)), (0, .int (nI m0))]) (μ := fun (n0 : Nat) (l0 : Nat) => l0) ?_ 0 m0 ⟨by omega, by omega⟩ hP hD hS (lv_sub hl [0, 1, 2] rfl)
  intro n0 l0 H locs ls hI0 hP hD hS hl ih
  obtain ⟨hl0, hpc⟩ := hI0
  refine lv_iload_n hx hb dX6_bits_4 rfl (lv_at hl 0 rfl) ?_
  refine n_if_eq hx hb (by omega) (tgt := 20) dX6_bits_5 (by decide) (fun c_1 => ?_) (fun c_1 => ?_)
  · refine lv_iload_n hx hb dX6_bits_20 rfl (lv_at hl 1 rfl) ?_
    exact fin_i hx hb hr hlk hS hP hD () trivial (congrArg nI (by rw [c_1] at hpc; have h0 : popc 0 = 0 := rfl; omega)) (eqW.rf _) dX6_bits_21
  · refine n_iinc (lv' := [(1, .int (nI (n0 + 1))), (2, .int (nI l0)), (0, .int (nI m0))]) hx hb dX6_bits_8 hl (k := 1) rfl (by decide) rfl (fun ls hl => ?_)
    refine lv_iload_n hx hb dX6_bits_11 rfl (lv_at hl 1 rfl) ?_
    refine lv_iload_n hx hb dX6_bits_12 rfl (lv_at hl 1 rfl) ?_
    refine lv_iconst (v := nI 1) hx hb dX6_bits_13 rfl ?_
    refine n_isub hx hb (by omega) dX6_bits_14 ?_
    refine lv_iand hx hb dX6_bits_15 ?_
    refine n_top ((pop_tab l0 (by omega) (by omega)).2.2) ?_
    refine lv_istore_n (lv' := [(2, .int (nI (l0 &&& (l0 - 1)))), (1, .int (nI (n0 + 1))), (0, .int (nI m0))]) hx hb dX6_bits_16 rfl hl (by decide) rfl (fun ls hl => ?_)
    refine lv_goto (tgt := 4) hx hb dX6_bits_17 (by decide) ?_
    have ht := pop_tab l0 (by omega) (by omega)
    exact ih (n0 + 1) (l0 &&& (l0 - 1)) _ _ _ (by omega) ⟨by omega, by omega⟩ hP hD hS (lv_sub hl [0, 1, 2] rfl)
set_option maxHeartbeats 400000 in
set_option maxRecDepth 100000 in
theorem c_X5_kind (l : Launch) (G : GT) (sz : Nat) (x hm kp tr : Nat → Nat) (hi : Nat) (tl : Nat → Int32) (σ τ : Sg) (a0 a1 : Int32) (hI : Inv σ) (hd0 : σ 0 ≤ 9999) : MI (S := Sg) l G noX yX5_kind wsX5_kind ({ frames := 5, cells := 0, slots := 0, locals := 113 } : Room) [.ref (x 0), .int a0, .int a1] (([xO x hm kp tr hi, (x 7, .inl (G.2.1, 7, .inl tl))] ++ (wH G hm σ ++ (wH G tr τ)))) sz (fun _ => True) (fun u => rs (kind_e σ a0.toInt a1.toInt) (nI (kdN σ a0.toInt.toNat a1.toInt.toNat 6).1)) (fun u => ([xO x hm kp tr hi, (x 7, .inl (G.2.1, 7, .inl (ts tl (kind_e σ a0.toInt a1.toInt))))] ++ (wH G hm σ ++ (wH G tr u)))) := by
  refine MI_enter (cc := cX5_kind) (maxL := 6) (ret := (some .int)) (by decide) rfl (Nat.le_of_ble_eq_true rfl) ?_
  intro p e s m below meth c A ls H hx hb hr hlk hml hown hts hAq hS hP hK hD hX hl hnm
  have hown : s.vm.findClass RX5 = some m.cls := hown
  have hl : lv_has ls 6 [(0, .ref (x 0)), (1, .int a0), (2, .int a1)] := hl
  obtain ⟨⟨i1, i2, i3, i4, i5⟩, ip⟩ := id hI
  refine lv_aload_n hx hb dX5_kind_0 rfl (lv_at hl 0 rfl) ?_
  refine n_get (C := RX5) (T := TX5) (N := 7) hx hb hts (fun _ h => List.mem_cons_of_mem _ (List.mem_append_left _ (List.mem_append_right _ h))) hown hK hP 0 rfl rfl 0 (by decide) (List.mem_of_getElem? (i := 1) rfl) rfl (.ref (hm 0)) rfl dX5_kind_1 ?_
  refine lv_iload_n hx hb dX5_kind_4 rfl (lv_at hl 1 rfl) ?_
  refine callVI (rest := []) (wn := fun u => ([xO x hm kp tr hi, (x 7, .inl (G.2.1, 7, .inl tl))] ++ (wH G hm σ ++ (wH G tr τ)))) ⟨hx, hb, hml, hown, hts⟩ (c_X0_hasOne l G H.size hm σ a0 (by omega)) (cwV 1 hts gX5_kind_X0_hasOne rfl rfl rfl (by decide +kernel) ⟨Nat.le_of_ble_eq_true rfl, Nat.le_of_ble_eq_true rfl⟩) noXB (fun _ _ _ => trivial) hK hP hD hS hAq 0 0 (T := TX0) (N := 11) rfl rfl rfl hl.1 rfl (Nat.le_of_ble_eq_true rfl) dX5_kind_5 ⟨Nat.le_of_ble_eq_true rfl, Nat.le_of_ble_eq_true rfl⟩ [2, 3, 4, 5, 6, 7] rfl rfl [hm 0, hm 1, hm 2, hm 3, hm 4, hm 5] rfl (fun _ => rfl) (fun _ => rfl) (fun u H locs hok hP hD hS => ?_)
  refine z_if_eq hx hb (tgt := 21) dX5_kind_8 (by decide) (fun c_1 => ?_) (fun c_1 => ?_)
  · refine lv_aload_n hx hb dX5_kind_21 rfl (lv_at hl 0 rfl) ?_
    refine lv_iconst (v := nI 0) hx hb dX5_kind_22 rfl ?_
    refine callVI (rest := []) (wn := fun u => ([xO x hm kp tr hi, (x 7, .inl (G.2.1, 7, .inl (tk tl 0)))] ++ (wH G hm σ ++ (wH G tr τ)))) ⟨hx, hb, hml, hown, hts⟩ (c_X5_tell l G H.size x hm kp tr hi tl 0 (by omega)) (cwV 1 hts gX5_kind_X5_tell rfl rfl rfl (by decide +kernel) ⟨Nat.le_of_ble_eq_true rfl, Nat.le_of_ble_eq_true rfl⟩) noXB (fun _ _ _ => trivial) hK hP hD hS hAq 4 0 (T := TX5) (N := 7) rfl rfl rfl hl.1 rfl (Nat.le_of_ble_eq_true rfl) dX5_kind_23 ⟨Nat.le_of_ble_eq_true rfl, Nat.le_of_ble_eq_true rfl⟩ [0, 1] rfl rfl [x 0, x 7] rfl (fun _ => rfl) (fun _ => rfl) (fun u H locs hok hP hD hS => ?_)
    have he : kind_e σ a0.toInt a1.toInt = 0 := by unfold kind_e; (try simp only [Int.toNat_natCast]); (repeat' split) <;> omega
    exact fin_i hx hb hr hlk hS hP hD τ trivial (by rw [he]; first | done | ((try simp only [Int.toNat_natCast]); first | done | rfl)) (by rw [he]; (try simp only [Int.toNat_natCast]); exact eqW.rf _) dX5_kind_26
  · obtain ⟨k0, hk0, rfl⟩ := nI_of_rg (n := 7) (x := a0) ⟨by omega, by omega⟩
    have hT0 := nI_T (a := k0) (by omega)
    have hp0 : k0 < σ 5 := by omega
    obtain ⟨q00, q01, q02, q03, q04⟩ := ip k0 (by omega)
    refine lv_iload_n hx hb dX5_kind_11 rfl (lv_at hl 2 rfl) ?_
    refine lv_iconst (v := nI 1) hx hb dX5_kind_12 rfl ?_
    refine lv_bipush (v := nI 60) hx hb dX5_kind_13 rfl ?_
    refine callSI (rest := []) (wn := fun u => ([xO x hm kp tr hi, (x 7, .inl (G.2.1, 7, .inl tl))] ++ (wH G hm σ ++ (wH G tr τ)))) ⟨hx, hb, hml, hown, hts⟩ (c_X5_isWithin l G H.size a1 (nI 1) (nI 60)) (va_cwS 3 hts gX5_kind_X5_isWithin rfl rfl rfl (by decide +kernel) ⟨Nat.le_of_ble_eq_true rfl, Nat.le_of_ble_eq_true rfl⟩) noXB (fun _ _ _ => trivial) hK hP hD hS hAq rfl hl.1 rfl (Nat.le_of_ble_eq_true rfl) dX5_kind_15 ⟨Nat.le_of_ble_eq_true rfl, Nat.le_of_ble_eq_true rfl⟩ [] rfl rfl [] rfl (fun _ => rfl) (fun _ => rfl) (fun u H locs hok hP hD hS => ?_)
    refine n_top (y := zI ((1 : Int) ≤ a1.toInt ∧ a1.toInt ≤ 60)) (zI_c (by rw [nI_T (show 1 < 2147483648 by decide), nI_T (show 60 < 2147483648 by decide)]; exact Iff.rfl)) ?_
    refine z_if_ne hx hb (tgt := 27) dX5_kind_18 (by decide) (fun c_2 => ?_) (fun c_2 => ?_)
    · obtain ⟨n1, hn1, rfl⟩ := nI_of_rg (n := 60) (x := a1) ⟨by omega, by omega⟩
      have hT1 := nI_T (a := n1) (by omega)
      refine lv_iconst (v := (-1)) hx hb dX5_kind_27 rfl ?_
      refine n_top (y := iI (-1)) (by decide) ?_
      refine lv_istore_n (lv' := [(3, .int (iI (-1))), (0, .ref (x 0)), (1, .int (nI k0)), (2, .int (nI n1))]) hx hb dX5_kind_28 rfl hl (by decide) rfl (fun ls hl => ?_)
      refine lv_iconst (v := nI 0) hx hb dX5_kind_29 rfl ?_
      refine lv_istore (lv' := [(4, .int (nI 0)), (3, .int (iI (-1))), (0, .ref (x 0)), (1, .int (nI k0)), (2, .int (nI n1))]) hx hb dX5_kind_30 hl (by decide) rfl (fun ls hl => ?_)
      refine lv_iconst (v := nI 0) hx hb dX5_kind_32 rfl ?_
      refine lv_istore (lv' := [(5, .int (nI 0)), (4, .int (nI 0)), (3, .int (iI (-1))), (0, .ref (x 0)), (1, .int (nI k0)), (2, .int (nI n1))]) hx hb dX5_kind_33 hl (by decide) rfl (fun ls hl => ?_)
      refine W_loop2 (I := fun (k : Nat) (τ1 : Sg) => k ≤ 6) (wd := fun (k : Nat) (τ1 : Sg) => ([xO x hm kp tr hi, (x 7, .inl (G.2.1, 7, .inl tl))] ++ (wH G hm σ ++ (wH G tr τ1)))) (lv := fun (k : Nat) (τ1 : Sg) => [(5, .int (nI k)), (4, .int (nI ((kdN σ k0 n1 k).1))), (3, .int (iI (kdN σ k0 n1 k).2)), (0, .ref (x 0)), (1, .int (nI k0)), (2, .int (nI n1))]) (μ := fun (k : Nat) (τ1 : Sg) => 6 - k) ?_ 0 τ (by omega) hP hD hS (lv_sub hl [0, 1, 2, 3, 4, 5] rfl)
      intro k τ1 H locs ls hI0 hP hD hS hl ih
      have hk : k ≤ 6 := hI0
      have hrg := kd_rg (p := k0) (n := n1) hI (by omega) (by omega) k hk
      have hT8 : (iI (kdN σ k0 n1 k).2).toInt = (kdN σ k0 n1 k).2 := iI_T (by omega) (by omega)
      refine lv_iload hx hb dX5_kind_35 (lv_at hl 0 rfl) ?_
      refine lv_bipush (v := nI 6) hx hb dX5_kind_37 rfl ?_
      refine n_icmp_ge hx hb (by omega) (by omega) (tgt := 101) dX5_kind_39 (by decide) (fun c_3 => ?_) (fun c_3 => ?_)
      · have hk5 : k = 6 := by omega
        subst hk5
        refine lv_iload hx hb dX5_kind_101 (lv_at hl 1 rfl) ?_
        have he : kind_e σ (nI k0).toInt (nI n1).toInt = 7 := by unfold kind_e; (try simp only [hT0, hT1, Int.toNat_natCast]); (repeat' split) <;> omega
        exact fin_i hx hb hr hlk hS hP hD τ1 trivial (by rw [he]; first | done | ((try simp only [hT0, hT1, Int.toNat_natCast]); first | done | rfl)) (by rw [he]; (try simp only [hT0, hT1, Int.toNat_natCast]); exact eqW.rf _) dX5_kind_103
      · have hIu : Inv (un σ (pl k0 0) k) := Inv.unp hI (by decide) (by omega)
        have hE0 : un σ (pl k0 0) k 0 = σ 0 := un_ps (by decide)
        have hEc : daysN n1 (un σ (pl k0 0) k) 3 ≤ 99999999 := (days_Inv hIu n1).1.2.2.1
        refine lv_aload_n hx hb dX5_kind_42 rfl (lv_at hl 3 rfl) ?_
        refine n_get (C := RX5) (T := TX5) (N := 7) hx hb hts (fun _ h => List.mem_cons_of_mem _ (List.mem_append_left _ (List.mem_append_right _ h))) hown hK hP 0 rfl rfl 2 (by decide) (List.mem_of_getElem? (i := 2) rfl) rfl (.ref (tr 0)) rfl dX5_kind_43 ?_
        refine lv_aload_n hx hb dX5_kind_46 rfl (lv_at hl 3 rfl) ?_
        refine n_get (C := RX5) (T := TX5) (N := 7) hx hb hts (fun _ h => List.mem_cons_of_mem _ (List.mem_append_left _ (List.mem_append_right _ h))) hown hK hP 0 rfl rfl 0 (by decide) (List.mem_of_getElem? (i := 1) rfl) rfl (.ref (hm 0)) rfl dX5_kind_47 ?_
        refine callVV (rest := []) (wn := fun u => ([xO x hm kp tr hi, (x 7, .inl (G.2.1, 7, .inl tl))] ++ (wH G hm σ ++ (wH G tr σ)))) ⟨hx, hb, hml, hown, hts⟩ (c_X0_become l G H.size tr τ1 hm σ) (cwV 1 hts gX5_kind_X0_become rfl rfl rfl (by decide +kernel) ⟨Nat.le_of_ble_eq_true rfl, Nat.le_of_ble_eq_true rfl⟩) noXB (fun _ _ _ => trivial) hK hP hD hS hAq 0 0 (T := TX0) (N := 11) rfl rfl rfl hl.1 rfl (Nat.le_of_ble_eq_true rfl) dX5_kind_50 ⟨Nat.le_of_ble_eq_true rfl, Nat.le_of_ble_eq_true rfl⟩ [8, 9, 10, 11, 12, 13, 2, 3, 4, 5, 6, 7] rfl rfl [tr 0, tr 1, tr 2, tr 3, tr 4, tr 5, hm 0, hm 1, hm 2, hm 3, hm 4, hm 5] rfl (fun _ => rfl) (fun _ => rfl) (fun u H locs hok hP hD hS => ?_)
        refine lv_aload_n hx hb dX5_kind_53 rfl (lv_at hl 3 rfl) ?_
        refine n_get (C := RX5) (T := TX5) (N := 7) hx hb hts (fun _ h => List.mem_cons_of_mem _ (List.mem_append_left _ (List.mem_append_right _ h))) hown hK hP 0 rfl rfl 2 (by decide) (List.mem_of_getElem? (i := 2) rfl) rfl (.ref (tr 0)) rfl dX5_kind_54 ?_
        refine n_get (C := RX0) (T := TX0) (N := 11) hx hb hts (fun _ h => List.mem_cons_of_mem _ (List.mem_append_right _ h)) hown hK hP 8 rfl rfl 6 (by decide) (List.mem_of_getElem? (i := 3) rfl) rfl (.ref (tr 1)) rfl dX5_kind_57 ?_
        refine lv_iload_n hx hb dX5_kind_60 rfl (lv_at hl 4 rfl) ?_
        refine lv_iload hx hb dX5_kind_61 (lv_at hl 0 rfl) ?_
        refine n_iast hx hb hK hP hD hS 9 (wn := ([xO x hm kp tr hi, (x 7, .inl (G.2.1, 7, .inl tl))] ++ (wH G hm σ ++ (wH G tr (un σ (pl k0 0) k))))) rfl (by omega) (by omega) (congrArg (fun hole_w : va_W => ([xO x hm kp tr hi, (x 7, .inl (G.2.1, 7, .inl tl))] ++ (wH G hm σ ++ (hole_w)))) (wH_p0 G tr σ k0 k)) dX5_kind_63 (fun H locs hP hD hS => ?_)
        refine lv_aload_n hx hb dX5_kind_64 rfl (lv_at hl 3 rfl) ?_
        refine n_get (C := RX5) (T := TX5) (N := 7) hx hb hts (fun _ h => List.mem_cons_of_mem _ (List.mem_append_left _ (List.mem_append_right _ h))) hown hK hP 0 rfl rfl 2 (by decide) (List.mem_of_getElem? (i := 2) rfl) rfl (.ref (tr 0)) rfl dX5_kind_65 ?_
        refine lv_iload_n hx hb dX5_kind_68 rfl (lv_at hl 5 rfl) ?_
        refine callVV (rest := []) (wn := fun u => ([xO x hm kp tr hi, (x 7, .inl (G.2.1, 7, .inl tl))] ++ (wH G hm σ ++ (wH G tr (daysN n1 (un σ (pl k0 0) k)))))) ⟨hx, hb, hml, hown, hts⟩ (c_X0_goOn l G H.size tr (un σ (pl k0 0) k) n1 hIu (by omega)) (cwV 1 hts gX5_kind_X0_goOn rfl rfl rfl (by decide +kernel) ⟨Nat.le_of_ble_eq_true rfl, Nat.le_of_ble_eq_true rfl⟩) noXB (fun _ _ _ => trivial) hK hP hD hS hAq 0 0 (T := TX0) (N := 11) rfl rfl rfl hl.1 rfl (Nat.le_of_ble_eq_true rfl) dX5_kind_69 ⟨Nat.le_of_ble_eq_true rfl, Nat.le_of_ble_eq_true rfl⟩ [8, 9, 10, 11, 12, 13] rfl rfl [tr 0, tr 1, tr 2, tr 3, tr 4, tr 5] rfl (fun _ => rfl) (fun _ => rfl) (fun u H locs hok hP hD hS => ?_)
        refine lv_aload_n hx hb dX5_kind_72 rfl (lv_at hl 3 rfl) ?_
        refine n_get (C := RX5) (T := TX5) (N := 7) hx hb hts (fun _ h => List.mem_cons_of_mem _ (List.mem_append_left _ (List.mem_append_right _ h))) hown hK hP 0 rfl rfl 2 (by decide) (List.mem_of_getElem? (i := 2) rfl) rfl (.ref (tr 0)) rfl dX5_kind_73 ?_
        refine n_get (C := RX0) (T := TX0) (N := 11) hx hb hts (fun _ h => List.mem_cons_of_mem _ (List.mem_append_right _ h)) hown hK hP 8 rfl rfl 3 (by decide) (List.mem_of_getElem? (i := 4) rfl) rfl (.int (nI ((daysN n1 (un σ (pl k0 0) k)) 3))) rfl dX5_kind_76 ?_
        refine lv_iload_n hx hb dX5_kind_79 rfl (lv_at hl 2 rfl) ?_
        refine r_icmp_le hx hb (tgt := 95) dX5_kind_80 (by decide) (fun c_4 => ?_) (fun c_4 => ?_)
        · rw [nI_T (by omega)] at c_4
          refine n_iinc (lv' := [(5, .int (nI (k + 1))), (4, .int (nI ((kdN σ k0 n1 k).1))), (3, .int (iI (kdN σ k0 n1 k).2)), (0, .ref (x 0)), (1, .int (nI k0)), (2, .int (nI n1))]) hx hb dX5_kind_95 hl (k := 0) rfl (by decide) rfl (fun ls hl => ?_)
          refine lv_goto (tgt := 35) hx hb dX5_kind_98 (by decide) ?_
          have e1 : (kdN σ k0 n1 (k + 1)).1 = (kdN σ k0 n1 k).1 := by first | (exfalso; omega) | (rw [kd_S]; unfold kdS; first | rw [if_pos (by omega)] | rw [if_neg (by omega)])
          have e2 : iI (kdN σ k0 n1 (k + 1)).2 = (iI (kdN σ k0 n1 k).2) := by first | (exfalso; omega) | (rw [kd_S]; unfold kdS; first | (rw [if_pos (by omega)]; exact iI_n) | rw [if_neg (by omega)])
          exact ih (k + 1) (daysN n1 (un σ (pl k0 0) k)) _ _ _ (by omega) (by omega) hP hD hS (by rw [e1, e2]; exact (lv_sub hl [0, 1, 2, 3, 4, 5] rfl))
        · rw [nI_T (by omega)] at c_4
          refine lv_aload_n hx hb dX5_kind_83 rfl (lv_at hl 3 rfl) ?_
          refine n_get (C := RX5) (T := TX5) (N := 7) hx hb hts (fun _ h => List.mem_cons_of_mem _ (List.mem_append_left _ (List.mem_append_right _ h))) hown hK hP 0 rfl rfl 2 (by decide) (List.mem_of_getElem? (i := 2) rfl) rfl (.ref (tr 0)) rfl dX5_kind_84 ?_
          refine n_get (C := RX0) (T := TX0) (N := 11) hx hb hts (fun _ h => List.mem_cons_of_mem _ (List.mem_append_right _ h)) hown hK hP 8 rfl rfl 3 (by decide) (List.mem_of_getElem? (i := 4) rfl) rfl (.int (nI ((daysN n1 (un σ (pl k0 0) k)) 3))) rfl dX5_kind_87 ?_
          refine lv_istore_n (lv' := [(3, .int (nI ((daysN n1 (un σ (pl k0 0) k)) 3))), (5, .int (nI k)), (4, .int (nI ((kdN σ k0 n1 k).1))), (0, .ref (x 0)), (1, .int (nI k0)), (2, .int (nI n1))]) hx hb dX5_kind_90 rfl hl (by decide) rfl (fun ls hl => ?_)
          refine lv_iload hx hb dX5_kind_91 (lv_at hl 1 rfl) ?_
          refine lv_istore (lv' := [(4, .int (nI k)), (3, .int (nI ((daysN n1 (un σ (pl k0 0) k)) 3))), (5, .int (nI k)), (0, .ref (x 0)), (1, .int (nI k0)), (2, .int (nI n1))]) hx hb dX5_kind_93 hl (by decide) rfl (fun ls hl => ?_)
          refine n_iinc (lv' := [(5, .int (nI (k + 1))), (4, .int (nI k)), (3, .int (nI ((daysN n1 (un σ (pl k0 0) k)) 3))), (0, .ref (x 0)), (1, .int (nI k0)), (2, .int (nI n1))]) hx hb dX5_kind_95 hl (k := 2) rfl (by decide) rfl (fun ls hl => ?_)
          refine lv_goto (tgt := 35) hx hb dX5_kind_98 (by decide) ?_
          have e1 : (kdN σ k0 n1 (k + 1)).1 = k := by first | (exfalso; omega) | (rw [kd_S]; unfold kdS; first | rw [if_pos (by omega)] | rw [if_neg (by omega)])
          have e2 : iI (kdN σ k0 n1 (k + 1)).2 = (nI ((daysN n1 (un σ (pl k0 0) k)) 3)) := by first | (exfalso; omega) | (rw [kd_S]; unfold kdS; first | (rw [if_pos (by omega)]; exact iI_n) | rw [if_neg (by omega)])
          exact ih (k + 1) (daysN n1 (un σ (pl k0 0) k)) _ _ _ (by omega) (by omega) hP hD hS (by rw [e1, e2]; exact (lv_sub hl [0, 1, 2, 3, 4, 5] rfl))
    · refine lv_aload_n hx hb dX5_kind_21 rfl (lv_at hl 0 rfl) ?_
      refine lv_iconst (v := nI 0) hx hb dX5_kind_22 rfl ?_
      refine callVI (rest := []) (wn := fun u => ([xO x hm kp tr hi, (x 7, .inl (G.2.1, 7, .inl (tk tl 0)))] ++ (wH G hm σ ++ (wH G tr τ)))) ⟨hx, hb, hml, hown, hts⟩ (c_X5_tell l G H.size x hm kp tr hi tl 0 (by omega)) (cwV 1 hts gX5_kind_X5_tell rfl rfl rfl (by decide +kernel) ⟨Nat.le_of_ble_eq_true rfl, Nat.le_of_ble_eq_true rfl⟩) noXB (fun _ _ _ => trivial) hK hP hD hS hAq 4 0 (T := TX5) (N := 7) rfl rfl rfl hl.1 rfl (Nat.le_of_ble_eq_true rfl) dX5_kind_23 ⟨Nat.le_of_ble_eq_true rfl, Nat.le_of_ble_eq_true rfl⟩ [0, 1] rfl rfl [x 0, x 7] rfl (fun _ => rfl) (fun _ => rfl) (fun u H locs hok hP hD hS => ?_)
      have he : kind_e σ (nI k0).toInt a1.toInt = 0 := by unfold kind_e; (try simp only [hT0, Int.toNat_natCast]); (repeat' split) <;> omega
      exact fin_i hx hb hr hlk hS hP hD τ trivial (by rw [he]; first | done | ((try simp only [hT0, Int.toNat_natCast]); first | done | rfl)) (by rw [he]; (try simp only [hT0, Int.toNat_natCast]); exact eqW.rf _) dX5_kind_26
set_option maxHeartbeats 400000 in
set_option maxRecDepth 100000 in
theorem c_X6_kind (l : Launch) (G : GT) (sz : Nat) (b : Nat → Nat) (ζ : Nat → Nat) (vv : Int64) (tl : Nat → Int32) (σ : Sg) (F : Nat → Int32) (a0 a1 : Int32) (hI : Inv σ) (hd0 : σ 0 ≤ 9999) : MI (S := Nat → Int32) l G noX yX6_kind wsX6_kind ({ frames := 8, cells := 0, slots := 0, locals := 181 } : Room) [.ref (b 0), .int a0, .int a1] ([mO b ζ vv, (b 4, .inl (G.2.1, 7, .inl tl)), (b 1, .inl (G.2.1, 46, .inl (nF σ))), (b 3, .inl (G.2.1, 46, .inl F))]) sz (fun _ => True) (fun u => rs (kind_e σ a0.toInt a1.toInt) (nI (kdN σ a0.toInt.toNat a1.toInt.toNat 6).1)) (fun u => [mO b ζ vv, (b 4, .inl (G.2.1, 7, .inl (ts tl (kind_e σ a0.toInt a1.toInt)))), (b 1, .inl (G.2.1, 46, .inl (nF σ))), (b 3, .inl (G.2.1, 46, .inl u))]) := by
  refine MI_enter (cc := cX6_kind) (maxL := 7) (ret := (some .int)) (by decide) rfl (Nat.le_of_ble_eq_true rfl) ?_
  intro p e s m below meth c A ls H hx hb hr hlk hml hown hts hAq hS hP hK hD hX hl hnm
  have hown : s.vm.findClass RX6 = some m.cls := hown
  have hl : lv_has ls 7 [(0, .ref (b 0)), (1, .int a0), (2, .int a1)] := hl
  obtain ⟨⟨i1, i2, i3, i4, i5⟩, ip⟩ := id hI
  refine lv_aload_n hx hb dX6_kind_0 rfl (lv_at hl 0 rfl) ?_
  refine lv_iload_n hx hb dX6_kind_1 rfl (lv_at hl 1 rfl) ?_
  refine callVI (rest := []) (wn := fun u => [mO b ζ vv, (b 4, .inl (G.2.1, 7, .inl tl)), (b 1, .inl (G.2.1, 46, .inl (nF σ))), (b 3, .inl (G.2.1, 46, .inl F))]) ⟨hx, hb, hml, hown, hts⟩ (c_X6_isPerson l G H.size b ζ vv σ a0 (by omega)) (cwV 1 hts gX6_kind_X6_isPerson rfl rfl rfl (by decide +kernel) ⟨Nat.le_of_ble_eq_true rfl, Nat.le_of_ble_eq_true rfl⟩) noXB (fun _ _ _ => trivial) hK hP hD hS hAq 5 0 (T := TX6) (N := 18) rfl rfl rfl hl.1 rfl (Nat.le_of_ble_eq_true rfl) dX6_kind_2 ⟨Nat.le_of_ble_eq_true rfl, Nat.le_of_ble_eq_true rfl⟩ [0, 2] rfl rfl [b 0, b 1] rfl (fun _ => rfl) (fun _ => rfl) (fun u H locs hok hP hD hS => ?_)
  refine z_if_eq hx hb (tgt := 15) dX6_kind_5 (by decide) (fun c_1 => ?_) (fun c_1 => ?_)
  · refine lv_aload_n hx hb dX6_kind_15 rfl (lv_at hl 0 rfl) ?_
    refine lv_iconst (v := nI 0) hx hb dX6_kind_16 rfl ?_
    refine callVI (rest := []) (wn := fun u => [mO b ζ vv, (b 4, .inl (G.2.1, 7, .inl (tk tl 0))), (b 1, .inl (G.2.1, 46, .inl (nF σ))), (b 3, .inl (G.2.1, 46, .inl F))]) ⟨hx, hb, hml, hown, hts⟩ (c_X6_no l G H.size b ζ vv tl 0 (by omega)) (cwV 1 hts gX6_kind_X6_no rfl rfl rfl (by decide +kernel) ⟨Nat.le_of_ble_eq_true rfl, Nat.le_of_ble_eq_true rfl⟩) noXB (fun _ _ _ => trivial) hK hP hD hS hAq 5 0 (T := TX6) (N := 18) rfl rfl rfl hl.1 rfl (Nat.le_of_ble_eq_true rfl) dX6_kind_17 ⟨Nat.le_of_ble_eq_true rfl, Nat.le_of_ble_eq_true rfl⟩ [0, 1] rfl rfl [b 0, b 4] rfl (fun _ => rfl) (fun _ => rfl) (fun u H locs hok hP hD hS => ?_)
    have he : kind_e σ a0.toInt a1.toInt = 0 := by unfold kind_e; (try simp only [Int.toNat_natCast]); (repeat' split) <;> omega
    exact fin_i hx hb hr hlk hS hP hD (F) trivial (by rw [he]; first | done | ((try simp only [Int.toNat_natCast]); first | done | rfl)) (by rw [he]; (try simp only [Int.toNat_natCast]); exact eqW.rf _) dX6_kind_20
  · obtain ⟨k0, hk0, rfl⟩ := nI_of_rg (n := 7) (x := a0) ⟨by omega, by omega⟩
    have hT0 := nI_T (a := k0) (by omega)
    have hp0 : k0 < σ 5 := by omega
    obtain ⟨q00, q01, q02, q03, q04⟩ := ip k0 (by omega)
    refine lv_iload_n hx hb dX6_kind_8 rfl (lv_at hl 2 rfl) ?_
    refine callSI (rest := []) (wn := fun u => [mO b ζ vv, (b 4, .inl (G.2.1, 7, .inl tl)), (b 1, .inl (G.2.1, 46, .inl (nF σ))), (b 3, .inl (G.2.1, 46, .inl F))]) ⟨hx, hb, hml, hown, hts⟩ (c_X6_isSoon l G H.size a1) (va_cwS 1 hts gX6_kind_X6_isSoon rfl rfl rfl (by decide +kernel) ⟨Nat.le_of_ble_eq_true rfl, Nat.le_of_ble_eq_true rfl⟩) noXB (fun _ _ _ => trivial) hK hP hD hS hAq rfl hl.1 rfl (Nat.le_of_ble_eq_true rfl) dX6_kind_9 ⟨Nat.le_of_ble_eq_true rfl, Nat.le_of_ble_eq_true rfl⟩ [] rfl rfl [] rfl (fun _ => rfl) (fun _ => rfl) (fun u H locs hok hP hD hS => ?_)
    refine z_if_ne hx hb (tgt := 21) dX6_kind_12 (by decide) (fun c_2 => ?_) (fun c_2 => ?_)
    · obtain ⟨n1, hn1, rfl⟩ := nI_of_rg (n := 60) (x := a1) ⟨by omega, by omega⟩
      have hT1 := nI_T (a := n1) (by omega)
      refine lv_iconst (v := nI 0) hx hb dX6_kind_21 rfl ?_
      refine lv_istore_n (lv' := [(3, .int (nI 0)), (0, .ref (b 0)), (1, .int (nI k0)), (2, .int (nI n1))]) hx hb dX6_kind_22 rfl hl (by decide) rfl (fun ls hl => ?_)
      refine lv_iconst (v := (-1)) hx hb dX6_kind_23 rfl ?_
      refine n_top (y := iI (-1)) (by decide) ?_
      refine lv_istore (lv' := [(4, .int (iI (-1))), (3, .int (nI 0)), (0, .ref (b 0)), (1, .int (nI k0)), (2, .int (nI n1))]) hx hb dX6_kind_24 hl (by decide) rfl (fun ls hl => ?_)
      refine lv_aload_n hx hb dX6_kind_26 rfl (lv_at hl 2 rfl) ?_
      refine callVV (rest := []) (wn := fun u => [mO b ζ vv, (b 4, .inl (G.2.1, 7, .inl tl)), (b 1, .inl (G.2.1, 46, .inl (nF σ))), (b 3, .inl (G.2.1, 46, .inl (nF σ)))]) ⟨hx, hb, hml, hown, hts⟩ (c_X6_setsAside l G H.size b ζ vv σ F) (cwV 0 hts gX6_kind_X6_setsAside rfl rfl rfl (by decide +kernel) ⟨Nat.le_of_ble_eq_true rfl, Nat.le_of_ble_eq_true rfl⟩) noXB (fun _ _ _ => trivial) hK hP hD hS hAq 5 0 (T := TX6) (N := 18) rfl rfl rfl hl.1 rfl (Nat.le_of_ble_eq_true rfl) dX6_kind_27 ⟨Nat.le_of_ble_eq_true rfl, Nat.le_of_ble_eq_true rfl⟩ [0, 2, 3] rfl rfl [b 0, b 1, b 3] rfl (fun _ => rfl) (fun _ => rfl) (fun u H locs hok hP hD hS => ?_)
      refine lv_iconst (v := nI 0) hx hb dX6_kind_30 rfl ?_
      refine lv_istore (lv' := [(5, .int (nI 0)), (4, .int (iI (-1))), (3, .int (nI 0)), (0, .ref (b 0)), (1, .int (nI k0)), (2, .int (nI n1))]) hx hb dX6_kind_31 hl (by decide) rfl (fun ls hl => ?_)
      refine W_loop1 (I := fun (k : Nat) => k ≤ 6) (wd := fun (k : Nat) => [mO b ζ vv, (b 4, .inl (G.2.1, 7, .inl tl)), (b 1, .inl (G.2.1, 46, .inl (nF σ))), (b 3, .inl (G.2.1, 46, .inl (nF σ)))]) (lv := fun (k : Nat) => [(5, .int (nI k)), (3, .int (nI ((kdN σ k0 n1 k).1))), (4, .int (iI (kdN σ k0 n1 k).2)), (0, .ref (b 0)), (1, .int (nI k0)), (2, .int (nI n1))]) (μ := fun (k : Nat) => 6 - k) ?_ 0 (by omega) hP hD hS (lv_sub hl [0, 2, 1, 3, 4, 5] rfl)
      intro k H locs ls hI0 hP hD hS hl ih
      have hk : k ≤ 6 := hI0
      have hrg := kd_rg (p := k0) (n := n1) hI (by omega) (by omega) k hk
      have hT8 : (iI (kdN σ k0 n1 k).2).toInt = (kdN σ k0 n1 k).2 := iI_T (by omega) (by omega)
      refine lv_iload hx hb dX6_kind_33 (lv_at hl 0 rfl) ?_
      refine lv_bipush (v := nI 6) hx hb dX6_kind_35 rfl ?_
      refine n_icmp_ge hx hb (by omega) (by omega) (tgt := 92) dX6_kind_37 (by decide) (fun c_3 => ?_) (fun c_3 => ?_)
      · have hk5 : k = 6 := by omega
        subst hk5
        refine lv_iload_n hx hb dX6_kind_92 rfl (lv_at hl 1 rfl) ?_
        have he : kind_e σ (nI k0).toInt (nI n1).toInt = 7 := by unfold kind_e; (try simp only [hT0, hT1, Int.toNat_natCast]); (repeat' split) <;> omega
        exact fin_i hx hb hr hlk hS hP hD (nF σ) trivial (by rw [he]; first | done | ((try simp only [hT0, hT1, Int.toNat_natCast]); first | done | rfl)) (by rw [he]; (try simp only [hT0, hT1, Int.toNat_natCast]); exact eqW.rf _) dX6_kind_93
      · have hIu : Inv (un σ (pl k0 0) k) := Inv.unp hI (by decide) (by omega)
        have hE0 : un σ (pl k0 0) k 0 = σ 0 := un_ps (by decide)
        have hEc : daysN n1 (un σ (pl k0 0) k) 3 ≤ 99999999 := (days_Inv hIu n1).1.2.2.1
        refine lv_aload_n hx hb dX6_kind_40 rfl (lv_at hl 3 rfl) ?_
        refine lv_iload_n hx hb dX6_kind_41 rfl (lv_at hl 4 rfl) ?_
        refine lv_iconst (v := nI 0) hx hb dX6_kind_42 rfl ?_
        refine lv_iload hx hb dX6_kind_43 (lv_at hl 0 rfl) ?_
        refine callVV (rest := []) (wn := fun u => [mO b ζ vv, (b 4, .inl (G.2.1, 7, .inl tl)), (b 1, .inl (G.2.1, 46, .inl (nF (un σ (pl k0 0) k)))), (b 3, .inl (G.2.1, 46, .inl (nF σ)))]) ⟨hx, hb, hml, hown, hts⟩ (c_X6_puts l G H.size b ζ vv σ k0 0 k (by omega) (by omega)) (cwV 3 hts gX6_kind_X6_puts rfl rfl rfl (by decide +kernel) ⟨Nat.le_of_ble_eq_true rfl, Nat.le_of_ble_eq_true rfl⟩) noXB (fun _ _ _ => trivial) hK hP hD hS hAq 5 0 (T := TX6) (N := 18) rfl rfl rfl hl.1 rfl (Nat.le_of_ble_eq_true rfl) dX6_kind_45 ⟨Nat.le_of_ble_eq_true rfl, Nat.le_of_ble_eq_true rfl⟩ [0, 2] rfl rfl [b 0, b 1] rfl (fun _ => rfl) (fun _ => rfl) (fun u H locs hok hP hD hS => ?_)
        refine lv_aload_n hx hb dX6_kind_48 rfl (lv_at hl 3 rfl) ?_
        refine lv_iconst (v := nI 3) hx hb dX6_kind_49 rfl ?_
        refine lv_iload_n hx hb dX6_kind_50 rfl (lv_at hl 5 rfl) ?_
        refine callVI (rest := []) (wn := fun u => [mO b ζ vv, (b 4, .inl (G.2.1, 7, .inl tl)), (b 1, .inl (G.2.1, 46, .inl (nF σ))), (b 3, .inl (G.2.1, 46, .inl (nF σ)))]) ⟨hx, hb, hml, hown, hts⟩ (c_X6_thenAt l G H.size b ζ vv σ (un σ (pl k0 0) k) 3 n1 hIu (by omega) (by omega)) (cwV 2 hts gX6_kind_X6_thenAt rfl rfl rfl (by decide +kernel) ⟨Nat.le_of_ble_eq_true rfl, Nat.le_of_ble_eq_true rfl⟩) noXB (fun _ _ _ => trivial) hK hP hD hS hAq 5 0 (T := TX6) (N := 18) rfl rfl rfl hl.1 rfl (Nat.le_of_ble_eq_true rfl) dX6_kind_51 ⟨Nat.le_of_ble_eq_true rfl, Nat.le_of_ble_eq_true rfl⟩ [0, 2, 3] rfl rfl [b 0, b 1, b 3] rfl (fun _ => rfl) (fun _ => rfl) (fun u H locs hok hP hD hS => ?_)
        refine lv_istore (lv' := [(6, .int (nI (daysN n1 (un σ (pl k0 0) k) 3))), (5, .int (nI k)), (3, .int (nI ((kdN σ k0 n1 k).1))), (4, .int (iI (kdN σ k0 n1 k).2)), (0, .ref (b 0)), (1, .int (nI k0)), (2, .int (nI n1))]) hx hb dX6_kind_54 hl (by decide) rfl (fun ls hl => ?_)
        refine lv_iload hx hb dX6_kind_56 (lv_at hl 0 rfl) ?_
        refine lv_iload hx hb dX6_kind_58 (lv_at hl 3 rfl) ?_
        refine r_icmp_le hx hb (tgt := 68) dX6_kind_60 (by decide) (fun c_4 => ?_) (fun c_4 => ?_)
        · rw [nI_T (by omega)] at c_4
          refine lv_iload_n hx hb dX6_kind_68 rfl (lv_at hl 2 rfl) ?_
          refine lv_istore_n (lv' := [(3, .int (nI ((kdN σ k0 n1 k).1))), (6, .int (nI (daysN n1 (un σ (pl k0 0) k) 3))), (5, .int (nI k)), (4, .int (iI (kdN σ k0 n1 k).2)), (0, .ref (b 0)), (1, .int (nI k0)), (2, .int (nI n1))]) hx hb dX6_kind_69 rfl hl (by decide) rfl (fun ls hl => ?_)
          refine lv_iload hx hb dX6_kind_70 (lv_at hl 1 rfl) ?_
          refine lv_iload hx hb dX6_kind_72 (lv_at hl 3 rfl) ?_
          refine r_icmp_le hx hb (tgt := 82) dX6_kind_74 (by decide) (fun c_5 => ?_) (fun c_5 => ?_)
          · rw [nI_T (by omega)] at c_5
            refine lv_iload hx hb dX6_kind_82 (lv_at hl 3 rfl) ?_
            refine lv_istore (lv' := [(4, .int (iI (kdN σ k0 n1 k).2)), (3, .int (nI ((kdN σ k0 n1 k).1))), (6, .int (nI (daysN n1 (un σ (pl k0 0) k) 3))), (5, .int (nI k)), (0, .ref (b 0)), (1, .int (nI k0)), (2, .int (nI n1))]) hx hb dX6_kind_84 hl (by decide) rfl (fun ls hl => ?_)
            refine n_iinc (lv' := [(5, .int (nI (k + 1))), (4, .int (iI (kdN σ k0 n1 k).2)), (3, .int (nI ((kdN σ k0 n1 k).1))), (6, .int (nI (daysN n1 (un σ (pl k0 0) k) 3))), (0, .ref (b 0)), (1, .int (nI k0)), (2, .int (nI n1))]) hx hb dX6_kind_86 hl (k := 3) rfl (by decide) rfl (fun ls hl => ?_)
            refine lv_goto (tgt := 33) hx hb dX6_kind_89 (by decide) ?_
            have e1 : (kdN σ k0 n1 (k + 1)).1 = (kdN σ k0 n1 k).1 := by first | (exfalso; omega) | (rw [kd_S]; unfold kdS; first | rw [if_pos (by omega)] | rw [if_neg (by omega)])
            have e2 : iI (kdN σ k0 n1 (k + 1)).2 = (iI (kdN σ k0 n1 k).2) := by first | (exfalso; omega) | (rw [kd_S]; unfold kdS; first | (rw [if_pos (by omega)]; exact iI_n) | rw [if_neg (by omega)])
            exact ih (k + 1) _ _ _ (by omega) (by omega) hP hD hS (by rw [e1, e2]; exact (lv_sub hl [0, 2, 1, 4, 5, 6] rfl))
          · rw [nI_T (by omega)] at c_5
            refine lv_iload hx hb dX6_kind_77 (lv_at hl 1 rfl) ?_
            refine lv_goto (tgt := 84) hx hb dX6_kind_79 (by decide) ?_
            refine lv_istore (lv' := [(4, .int (nI (daysN n1 (un σ (pl k0 0) k) 3))), (3, .int (nI ((kdN σ k0 n1 k).1))), (6, .int (nI (daysN n1 (un σ (pl k0 0) k) 3))), (5, .int (nI k)), (0, .ref (b 0)), (1, .int (nI k0)), (2, .int (nI n1))]) hx hb dX6_kind_84 hl (by decide) rfl (fun ls hl => ?_)
            refine n_iinc (lv' := [(5, .int (nI (k + 1))), (4, .int (nI (daysN n1 (un σ (pl k0 0) k) 3))), (3, .int (nI ((kdN σ k0 n1 k).1))), (6, .int (nI (daysN n1 (un σ (pl k0 0) k) 3))), (0, .ref (b 0)), (1, .int (nI k0)), (2, .int (nI n1))]) hx hb dX6_kind_86 hl (k := 3) rfl (by decide) rfl (fun ls hl => ?_)
            refine lv_goto (tgt := 33) hx hb dX6_kind_89 (by decide) ?_
            have e1 : (kdN σ k0 n1 (k + 1)).1 = (kdN σ k0 n1 k).1 := by first | (exfalso; omega) | (rw [kd_S]; unfold kdS; first | rw [if_pos (by omega)] | rw [if_neg (by omega)])
            have e2 : iI (kdN σ k0 n1 (k + 1)).2 = (nI (daysN n1 (un σ (pl k0 0) k) 3)) := by first | (exfalso; omega) | (rw [kd_S]; unfold kdS; first | (rw [if_pos (by omega)]; exact iI_n) | rw [if_neg (by omega)])
            exact ih (k + 1) _ _ _ (by omega) (by omega) hP hD hS (by rw [e1, e2]; exact (lv_sub hl [0, 2, 1, 4, 5, 6] rfl))
        · rw [nI_T (by omega)] at c_4
          refine lv_iload hx hb dX6_kind_63 (lv_at hl 1 rfl) ?_
          refine lv_goto (tgt := 69) hx hb dX6_kind_65 (by decide) ?_
          refine lv_istore_n (lv' := [(3, .int (nI k)), (6, .int (nI (daysN n1 (un σ (pl k0 0) k) 3))), (5, .int (nI k)), (4, .int (iI (kdN σ k0 n1 k).2)), (0, .ref (b 0)), (1, .int (nI k0)), (2, .int (nI n1))]) hx hb dX6_kind_69 rfl hl (by decide) rfl (fun ls hl => ?_)
          refine lv_iload hx hb dX6_kind_70 (lv_at hl 1 rfl) ?_
          refine lv_iload hx hb dX6_kind_72 (lv_at hl 3 rfl) ?_
          refine r_icmp_le hx hb (tgt := 82) dX6_kind_74 (by decide) (fun c_6 => ?_) (fun c_6 => ?_)
          · rw [nI_T (by omega)] at c_6
            refine lv_iload hx hb dX6_kind_82 (lv_at hl 3 rfl) ?_
            refine lv_istore (lv' := [(4, .int (iI (kdN σ k0 n1 k).2)), (3, .int (nI k)), (6, .int (nI (daysN n1 (un σ (pl k0 0) k) 3))), (5, .int (nI k)), (0, .ref (b 0)), (1, .int (nI k0)), (2, .int (nI n1))]) hx hb dX6_kind_84 hl (by decide) rfl (fun ls hl => ?_)
            refine n_iinc (lv' := [(5, .int (nI (k + 1))), (4, .int (iI (kdN σ k0 n1 k).2)), (3, .int (nI k)), (6, .int (nI (daysN n1 (un σ (pl k0 0) k) 3))), (0, .ref (b 0)), (1, .int (nI k0)), (2, .int (nI n1))]) hx hb dX6_kind_86 hl (k := 3) rfl (by decide) rfl (fun ls hl => ?_)
            refine lv_goto (tgt := 33) hx hb dX6_kind_89 (by decide) ?_
            have e1 : (kdN σ k0 n1 (k + 1)).1 = k := by first | (exfalso; omega) | (rw [kd_S]; unfold kdS; first | rw [if_pos (by omega)] | rw [if_neg (by omega)])
            have e2 : iI (kdN σ k0 n1 (k + 1)).2 = (iI (kdN σ k0 n1 k).2) := by first | (exfalso; omega) | (rw [kd_S]; unfold kdS; first | (rw [if_pos (by omega)]; exact iI_n) | rw [if_neg (by omega)])
            exact ih (k + 1) _ _ _ (by omega) (by omega) hP hD hS (by rw [e1, e2]; exact (lv_sub hl [0, 2, 1, 4, 5, 6] rfl))
          · rw [nI_T (by omega)] at c_6
            refine lv_iload hx hb dX6_kind_77 (lv_at hl 1 rfl) ?_
            refine lv_goto (tgt := 84) hx hb dX6_kind_79 (by decide) ?_
            refine lv_istore (lv' := [(4, .int (nI (daysN n1 (un σ (pl k0 0) k) 3))), (3, .int (nI k)), (6, .int (nI (daysN n1 (un σ (pl k0 0) k) 3))), (5, .int (nI k)), (0, .ref (b 0)), (1, .int (nI k0)), (2, .int (nI n1))]) hx hb dX6_kind_84 hl (by decide) rfl (fun ls hl => ?_)
            refine n_iinc (lv' := [(5, .int (nI (k + 1))), (4, .int (nI (daysN n1 (un σ (pl k0 0) k) 3))), (3, .int (nI k)), (6, .int (nI (daysN n1 (un σ (pl k0 0) k) 3))), (0, .ref (b 0)), (1, .int (nI k0)), (2, .int (nI n1))]) hx hb dX6_kind_86 hl (k := 3) rfl (by decide) rfl (fun ls hl => ?_)
            refine lv_goto (tgt := 33) hx hb dX6_kind_89 (by decide) ?_
            have e1 : (kdN σ k0 n1 (k + 1)).1 = k := by first | (exfalso; omega) | (rw [kd_S]; unfold kdS; first | rw [if_pos (by omega)] | rw [if_neg (by omega)])
            have e2 : iI (kdN σ k0 n1 (k + 1)).2 = (nI (daysN n1 (un σ (pl k0 0) k) 3)) := by first | (exfalso; omega) | (rw [kd_S]; unfold kdS; first | (rw [if_pos (by omega)]; exact iI_n) | rw [if_neg (by omega)])
            exact ih (k + 1) _ _ _ (by omega) (by omega) hP hD hS (by rw [e1, e2]; exact (lv_sub hl [0, 2, 1, 4, 5, 6] rfl))
    · refine lv_aload_n hx hb dX6_kind_15 rfl (lv_at hl 0 rfl) ?_
      refine lv_iconst (v := nI 0) hx hb dX6_kind_16 rfl ?_
      refine callVI (rest := []) (wn := fun u => [mO b ζ vv, (b 4, .inl (G.2.1, 7, .inl (tk tl 0))), (b 1, .inl (G.2.1, 46, .inl (nF σ))), (b 3, .inl (G.2.1, 46, .inl F))]) ⟨hx, hb, hml, hown, hts⟩ (c_X6_no l G H.size b ζ vv tl 0 (by omega)) (cwV 1 hts gX6_kind_X6_no rfl rfl rfl (by decide +kernel) ⟨Nat.le_of_ble_eq_true rfl, Nat.le_of_ble_eq_true rfl⟩) noXB (fun _ _ _ => trivial) hK hP hD hS hAq 5 0 (T := TX6) (N := 18) rfl rfl rfl hl.1 rfl (Nat.le_of_ble_eq_true rfl) dX6_kind_17 ⟨Nat.le_of_ble_eq_true rfl, Nat.le_of_ble_eq_true rfl⟩ [0, 1] rfl rfl [b 0, b 4] rfl (fun _ => rfl) (fun _ => rfl) (fun u H locs hok hP hD hS => ?_)
      have he : kind_e σ (nI k0).toInt a1.toInt = 0 := by unfold kind_e; (try simp only [hT0, Int.toNat_natCast]); (repeat' split) <;> omega
      exact fin_i hx hb hr hlk hS hP hD (F) trivial (by rw [he]; first | done | ((try simp only [hT0, Int.toNat_natCast]); first | done | rfl)) (by rw [he]; (try simp only [hT0, Int.toNat_natCast]); exact eqW.rf _) dX6_kind_20
set_option maxHeartbeats 400000 in
set_option maxRecDepth 100000 in
theorem c_X5_most (l : Launch) (G : GT) (sz : Nat) (x hm kp tr : Nat → Nat) (hi : Nat) (tl : Nat → Int32) (σ τ : Sg) (a0 : Int32) (hI : Inv σ) (hd0 : σ 0 ≤ 9999) : MI (S := Sg) l G noX yX5_most wsX5_most ({ frames := 6, cells := 0, slots := 0, locals := 134 } : Room) [.ref (x 0), .int a0] (([xO x hm kp tr hi, (x 7, .inl (G.2.1, 7, .inl tl))] ++ (wH G hm σ ++ (wH G tr τ)))) sz (fun _ => True) (fun u => rs (most_e σ a0.toInt) (nI (mostN (daysN a0.toInt.toNat σ) (σ 5 - 1)))) (fun u => ([xO x hm kp tr hi, (x 7, .inl (G.2.1, 7, .inl (ts tl (most_e σ a0.toInt))))] ++ (wH G hm σ ++ (wH G tr u)))) := by
  refine MI_enter (cc := cX5_most) (maxL := 4) (ret := (some .int)) (by decide) rfl (Nat.le_of_ble_eq_true rfl) ?_
  intro p e s m below meth c A ls H hx hb hr hlk hml hown hts hAq hS hP hK hD hX hl hnm
  have hown : s.vm.findClass RX5 = some m.cls := hown
  have hl : lv_has ls 4 [(0, .ref (x 0)), (1, .int a0)] := hl
  obtain ⟨⟨i1, i2, i3, i4, i5⟩, ip⟩ := id hI
  refine lv_iload_n hx hb dX5_most_0 rfl (lv_at hl 1 rfl) ?_
  refine lv_iconst (v := nI 0) hx hb dX5_most_1 rfl ?_
  refine lv_bipush (v := nI 100) hx hb dX5_most_2 rfl ?_
  refine callSI (rest := []) (wn := fun u => ([xO x hm kp tr hi, (x 7, .inl (G.2.1, 7, .inl tl))] ++ (wH G hm σ ++ (wH G tr τ)))) ⟨hx, hb, hml, hown, hts⟩ (c_X5_isWithin l G H.size a0 (nI 0) (nI 100)) (va_cwS 3 hts gX5_most_X5_isWithin rfl rfl rfl (by decide +kernel) ⟨Nat.le_of_ble_eq_true rfl, Nat.le_of_ble_eq_true rfl⟩) noXB (fun _ _ _ => trivial) hK hP hD hS hAq rfl hl.1 rfl (Nat.le_of_ble_eq_true rfl) dX5_most_4 ⟨Nat.le_of_ble_eq_true rfl, Nat.le_of_ble_eq_true rfl⟩ [] rfl rfl [] rfl (fun _ => rfl) (fun _ => rfl) (fun u H locs hok hP hD hS => ?_)
  refine n_top (y := zI ((0 : Int) ≤ a0.toInt ∧ a0.toInt ≤ 100)) (zI_c (by rw [nI_T (show 0 < 2147483648 by decide), nI_T (show 100 < 2147483648 by decide)]; exact Iff.rfl)) ?_
  refine z_if_ne hx hb (tgt := 16) dX5_most_7 (by decide) (fun c_1 => ?_) (fun c_1 => ?_)
  · obtain ⟨n0, hn0, rfl⟩ := nI_of_rg (n := 100) (x := a0) ⟨by omega, by omega⟩
    have hT0 := nI_T (a := n0) (by omega)
    refine lv_aload_n hx hb dX5_most_16 rfl (lv_at hl 0 rfl) ?_
    refine n_get (C := RX5) (T := TX5) (N := 7) hx hb hts (fun _ h => List.mem_cons_of_mem _ (List.mem_append_left _ (List.mem_append_right _ h))) hown hK hP 0 rfl rfl 0 (by decide) (List.mem_of_getElem? (i := 1) rfl) rfl (.ref (hm 0)) rfl dX5_most_17 ?_
    refine n_get (C := RX0) (T := TX0) (N := 11) hx hb hts (fun _ h => List.mem_cons_of_mem _ (List.mem_append_right _ h)) hown hK hP 2 rfl rfl 5 (by decide) (List.mem_of_getElem? (i := 2) rfl) rfl (.int (nI (σ 5))) rfl dX5_most_20 ?_
    refine n_if_ne hx hb (by omega) (tgt := 32) dX5_most_23 (by decide) (fun c_2 => ?_) (fun c_2 => ?_)
    · refine lv_aload_n hx hb dX5_most_32 rfl (lv_at hl 0 rfl) ?_
      refine lv_iload_n hx hb dX5_most_33 rfl (lv_at hl 1 rfl) ?_
      refine callVV (rest := []) (wn := fun u => ([xO x hm kp tr hi, (x 7, .inl (G.2.1, 7, .inl tl))] ++ (wH G hm σ ++ (wH G tr (daysN n0 σ))))) ⟨hx, hb, hml, hown, hts⟩ (c_X5_tryAsItIs l G H.size x hm kp tr hi σ τ n0 hI (by omega)) (cwV 1 hts gX5_most_X5_tryAsItIs rfl rfl rfl (by decide +kernel) ⟨Nat.le_of_ble_eq_true rfl, Nat.le_of_ble_eq_true rfl⟩) noXB (fun _ _ _ => trivial) hK hP hD hS hAq 4 0 (T := TX5) (N := 7) rfl rfl rfl hl.1 rfl (Nat.le_of_ble_eq_true rfl) dX5_most_34 ⟨Nat.le_of_ble_eq_true rfl, Nat.le_of_ble_eq_true rfl⟩ [0, 2, 3, 4, 5, 6, 7, 8, 9, 10, 11, 12, 13] rfl rfl [x 0, hm 0, hm 1, hm 2, hm 3, hm 4, hm 5, tr 0, tr 1, tr 2, tr 3, tr 4, tr 5] rfl (fun _ => rfl) (fun _ => rfl) (fun u H locs hok hP hD hS => ?_)
      have dE := days_Inv hI n0
      obtain ⟨⟨j1, j2, j3, j4, j5⟩, jp⟩ := id dE
      refine lv_iconst (v := nI 0) hx hb dX5_most_37 rfl ?_
      refine lv_istore_n (lv' := [(2, .int (nI 0)), (0, .ref (x 0)), (1, .int (nI n0))]) hx hb dX5_most_38 rfl hl (by decide) rfl (fun ls hl => ?_)
      refine lv_iconst (v := nI 1) hx hb dX5_most_39 rfl ?_
      refine lv_istore_n (lv' := [(3, .int (nI 1)), (2, .int (nI 0)), (0, .ref (x 0)), (1, .int (nI n0))]) hx hb dX5_most_40 rfl hl (by decide) rfl (fun ls hl => ?_)
      refine W_loop1 (I := fun (j : Nat) => j + 1 ≤ σ 5) (wd := fun (j : Nat) => ([xO x hm kp tr hi, (x 7, .inl (G.2.1, 7, .inl tl))] ++ (wH G hm σ ++ (wH G tr (daysN n0 σ))))) (lv := fun (j : Nat) => [(3, .int (nI (j + 1))), (2, .int (nI (mostN (daysN n0 σ) j))), (0, .ref (x 0)), (1, .int (nI n0))]) (μ := fun (j : Nat) => σ 5 - j) ?_ 0 (by omega) hP hD hS (lv_sub hl [0, 1, 2, 3] rfl)
      intro j H locs ls hI0 hP hD hS hl ih
      have hj : j + 1 ≤ σ 5 := hI0
      have hle := most_le (daysN n0 σ) j
      refine lv_iload_n hx hb dX5_most_41 rfl (lv_at hl 0 rfl) ?_
      refine lv_aload_n hx hb dX5_most_42 rfl (lv_at hl 2 rfl) ?_
      refine n_get (C := RX5) (T := TX5) (N := 7) hx hb hts (fun _ h => List.mem_cons_of_mem _ (List.mem_append_left _ (List.mem_append_right _ h))) hown hK hP 0 rfl rfl 2 (by decide) (List.mem_of_getElem? (i := 3) rfl) rfl (.ref (tr 0)) rfl dX5_most_43 ?_
      refine n_get (C := RX0) (T := TX0) (N := 11) hx hb hts (fun _ h => List.mem_cons_of_mem _ (List.mem_append_right _ h)) hown hK hP 8 rfl rfl 5 (by decide) (List.mem_of_getElem? (i := 2) rfl) rfl (_) rfl dX5_most_46 ?_
      refine n_top (y := (nI (σ 5))) (congrArg nI (days_0 σ n0).2) ?_
      refine n_icmp_ge hx hb (by omega) (by omega) (tgt := 81) dX5_most_49 (by decide) (fun c_3 => ?_) (fun c_3 => ?_)
      · have hk5 : j = σ 5 - 1 := by omega
        subst hk5
        refine lv_iload_n hx hb dX5_most_81 rfl (lv_at hl 1 rfl) ?_
        have he : most_e σ (nI n0).toInt = 7 := by unfold most_e; (try simp only [hT0, Int.toNat_natCast]); (repeat' split) <;> omega
        exact fin_i hx hb hr hlk hS hP hD (daysN n0 σ) trivial (by rw [he]; first | done | ((try simp only [hT0, Int.toNat_natCast]); first | done | rfl)) (by rw [he]; (try simp only [hT0, Int.toNat_natCast]); exact eqW.rf _) dX5_most_82
      · obtain ⟨r0, r1, r2, r3, r4⟩ := jp (j + 1) (by omega)
        obtain ⟨t0, t1, t2, t3, t4⟩ := jp (mostN (daysN n0 σ) j) (by omega)
        refine lv_aload_n hx hb dX5_most_52 rfl (lv_at hl 2 rfl) ?_
        refine n_get (C := RX5) (T := TX5) (N := 7) hx hb hts (fun _ h => List.mem_cons_of_mem _ (List.mem_append_left _ (List.mem_append_right _ h))) hown hK hP 0 rfl rfl 2 (by decide) (List.mem_of_getElem? (i := 3) rfl) rfl (.ref (tr 0)) rfl dX5_most_53 ?_
        refine n_get (C := RX0) (T := TX0) (N := 11) hx hb hts (fun _ h => List.mem_cons_of_mem _ (List.mem_append_right _ h)) hown hK hP 8 rfl rfl 10 (by decide) (List.mem_of_getElem? (i := 4) rfl) rfl (.ref (tr 5)) rfl dX5_most_56 ?_
        refine lv_iload_n hx hb dX5_most_59 rfl (lv_at hl 0 rfl) ?_
        refine n_iald hx hb hK hP 13 (v := (nI ((daysN n0 σ) (pl (j + 1) 4)))) rfl (by omega) (by omega) rfl dX5_most_60 ?_
        refine lv_aload_n hx hb dX5_most_61 rfl (lv_at hl 2 rfl) ?_
        refine n_get (C := RX5) (T := TX5) (N := 7) hx hb hts (fun _ h => List.mem_cons_of_mem _ (List.mem_append_left _ (List.mem_append_right _ h))) hown hK hP 0 rfl rfl 2 (by decide) (List.mem_of_getElem? (i := 3) rfl) rfl (.ref (tr 0)) rfl dX5_most_62 ?_
        refine n_get (C := RX0) (T := TX0) (N := 11) hx hb hts (fun _ h => List.mem_cons_of_mem _ (List.mem_append_right _ h)) hown hK hP 8 rfl rfl 10 (by decide) (List.mem_of_getElem? (i := 4) rfl) rfl (.ref (tr 5)) rfl dX5_most_65 ?_
        refine lv_iload_n hx hb dX5_most_68 rfl (lv_at hl 1 rfl) ?_
        refine n_iald hx hb hK hP 13 (v := (nI ((daysN n0 σ) (pl (mostN (daysN n0 σ) j) 4)))) rfl (by omega) (by omega) rfl dX5_most_69 ?_
        refine n_icmp_le hx hb (by omega) (by omega) (tgt := 75) dX5_most_70 (by decide) (fun c_4 => ?_) (fun c_4 => ?_)
        · refine n_iinc (lv' := [(3, .int (nI ((j + 1) + 1))), (2, .int (nI (mostN (daysN n0 σ) j))), (0, .ref (x 0)), (1, .int (nI n0))]) hx hb dX5_most_75 hl (k := 0) rfl (by decide) rfl (fun ls hl => ?_)
          refine lv_goto (tgt := 41) hx hb dX5_most_78 (by decide) ?_
          have e1 : mostN (daysN n0 σ) (j + 1) = mostN (daysN n0 σ) j := by rw [most_S]; first | rw [if_pos (by omega)] | rw [if_neg (by omega)]
          exact ih (j + 1) _ _ _ (by omega) (by omega) hP hD hS (by rw [e1]; exact (lv_sub hl [0, 1, 2, 3] rfl))
        · refine lv_iload_n hx hb dX5_most_73 rfl (lv_at hl 0 rfl) ?_
          refine lv_istore_n (lv' := [(2, .int (nI (j + 1))), (3, .int (nI (j + 1))), (0, .ref (x 0)), (1, .int (nI n0))]) hx hb dX5_most_74 rfl hl (by decide) rfl (fun ls hl => ?_)
          refine n_iinc (lv' := [(3, .int (nI ((j + 1) + 1))), (2, .int (nI (j + 1))), (0, .ref (x 0)), (1, .int (nI n0))]) hx hb dX5_most_75 hl (k := 1) rfl (by decide) rfl (fun ls hl => ?_)
          refine lv_goto (tgt := 41) hx hb dX5_most_78 (by decide) ?_
          have e1 : mostN (daysN n0 σ) (j + 1) = j + 1 := by rw [most_S]; first | rw [if_pos (by omega)] | rw [if_neg (by omega)]
          exact ih (j + 1) _ _ _ (by omega) (by omega) hP hD hS (by rw [e1]; exact (lv_sub hl [0, 1, 2, 3] rfl))
    · refine lv_aload_n hx hb dX5_most_26 rfl (lv_at hl 0 rfl) ?_
      refine lv_iconst (v := nI 3) hx hb dX5_most_27 rfl ?_
      refine callVI (rest := []) (wn := fun u => ([xO x hm kp tr hi, (x 7, .inl (G.2.1, 7, .inl (tk tl 3)))] ++ (wH G hm σ ++ (wH G tr τ)))) ⟨hx, hb, hml, hown, hts⟩ (c_X5_tell l G H.size x hm kp tr hi tl 3 (by omega)) (cwV 1 hts gX5_most_X5_tell rfl rfl rfl (by decide +kernel) ⟨Nat.le_of_ble_eq_true rfl, Nat.le_of_ble_eq_true rfl⟩) noXB (fun _ _ _ => trivial) hK hP hD hS hAq 4 0 (T := TX5) (N := 7) rfl rfl rfl hl.1 rfl (Nat.le_of_ble_eq_true rfl) dX5_most_28 ⟨Nat.le_of_ble_eq_true rfl, Nat.le_of_ble_eq_true rfl⟩ [0, 1] rfl rfl [x 0, x 7] rfl (fun _ => rfl) (fun _ => rfl) (fun u H locs hok hP hD hS => ?_)
      have he : most_e σ (nI n0).toInt = 3 := by unfold most_e; (try simp only [hT0, Int.toNat_natCast]); (repeat' split) <;> omega
      exact fin_i hx hb hr hlk hS hP hD τ trivial (by rw [he]; first | done | ((try simp only [hT0, Int.toNat_natCast]); first | done | rfl)) (by rw [he]; (try simp only [hT0, Int.toNat_natCast]); exact eqW.rf _) dX5_most_31
  · refine lv_aload_n hx hb dX5_most_10 rfl (lv_at hl 0 rfl) ?_
    refine lv_iconst (v := nI 0) hx hb dX5_most_11 rfl ?_
    refine callVI (rest := []) (wn := fun u => ([xO x hm kp tr hi, (x 7, .inl (G.2.1, 7, .inl (tk tl 0)))] ++ (wH G hm σ ++ (wH G tr τ)))) ⟨hx, hb, hml, hown, hts⟩ (c_X5_tell l G H.size x hm kp tr hi tl 0 (by omega)) (cwV 1 hts gX5_most_X5_tell rfl rfl rfl (by decide +kernel) ⟨Nat.le_of_ble_eq_true rfl, Nat.le_of_ble_eq_true rfl⟩) noXB (fun _ _ _ => trivial) hK hP hD hS hAq 4 0 (T := TX5) (N := 7) rfl rfl rfl hl.1 rfl (Nat.le_of_ble_eq_true rfl) dX5_most_12 ⟨Nat.le_of_ble_eq_true rfl, Nat.le_of_ble_eq_true rfl⟩ [0, 1] rfl rfl [x 0, x 7] rfl (fun _ => rfl) (fun _ => rfl) (fun u H locs hok hP hD hS => ?_)
    have he : most_e σ a0.toInt = 0 := by unfold most_e; (try simp only [Int.toNat_natCast]); (repeat' split) <;> omega
    exact fin_i hx hb hr hlk hS hP hD τ trivial (by rw [he]; first | done | ((try simp only [Int.toNat_natCast]); first | done | rfl)) (by rw [he]; (try simp only [Int.toNat_natCast]); exact eqW.rf _) dX5_most_15
set_option maxHeartbeats 400000 in
set_option maxRecDepth 100000 in
theorem c_X6_most (l : Launch) (G : GT) (sz : Nat) (b : Nat → Nat) (ζ : Nat → Nat) (vv : Int64) (tl : Nat → Int32) (σ : Sg) (F : Nat → Int32) (a0 : Int32) (hI : Inv σ) (hd0 : σ 0 ≤ 9999) : MI (S := Nat → Int32) l G noX yX6_most wsX6_most ({ frames := 7, cells := 0, slots := 0, locals := 158 } : Room) [.ref (b 0), .int a0] ([mO b ζ vv, (b 4, .inl (G.2.1, 7, .inl tl)), (b 1, .inl (G.2.1, 46, .inl (nF σ))), (b 3, .inl (G.2.1, 46, .inl F))]) sz (fun _ => True) (fun u => rs (most_e σ a0.toInt) (nI (mostN (daysN a0.toInt.toNat σ) (σ 5 - 1)))) (fun u => [mO b ζ vv, (b 4, .inl (G.2.1, 7, .inl (ts tl (most_e σ a0.toInt)))), (b 1, .inl (G.2.1, 46, .inl (nF σ))), (b 3, .inl (G.2.1, 46, .inl u))]) := by
  refine MI_enter (cc := cX6_most) (maxL := 4) (ret := (some .int)) (by decide) rfl (Nat.le_of_ble_eq_true rfl) ?_
  intro p e s m below meth c A ls H hx hb hr hlk hml hown hts hAq hS hP hK hD hX hl hnm
  have hown : s.vm.findClass RX6 = some m.cls := hown
  have hl : lv_has ls 4 [(0, .ref (b 0)), (1, .int a0)] := hl
  obtain ⟨⟨i1, i2, i3, i4, i5⟩, ip⟩ := id hI
  refine lv_iload_n hx hb dX6_most_0 rfl (lv_at hl 1 rfl) ?_
  refine callSI (rest := []) (wn := fun u => [mO b ζ vv, (b 4, .inl (G.2.1, 7, .inl tl)), (b 1, .inl (G.2.1, 46, .inl (nF σ))), (b 3, .inl (G.2.1, 46, .inl F))]) ⟨hx, hb, hml, hown, hts⟩ (c_X6_isAhead l G H.size a0) (va_cwS 1 hts gX6_most_X6_isAhead rfl rfl rfl (by decide +kernel) ⟨Nat.le_of_ble_eq_true rfl, Nat.le_of_ble_eq_true rfl⟩) noXB (fun _ _ _ => trivial) hK hP hD hS hAq rfl hl.1 rfl (Nat.le_of_ble_eq_true rfl) dX6_most_1 ⟨Nat.le_of_ble_eq_true rfl, Nat.le_of_ble_eq_true rfl⟩ [] rfl rfl [] rfl (fun _ => rfl) (fun _ => rfl) (fun u H locs hok hP hD hS => ?_)
  refine z_if_ne hx hb (tgt := 13) dX6_most_4 (by decide) (fun c_1 => ?_) (fun c_1 => ?_)
  · obtain ⟨n0, hn0, rfl⟩ := nI_of_rg (n := 100) (x := a0) ⟨by omega, by omega⟩
    have hT0 := nI_T (a := n0) (by omega)
    refine lv_aload_n hx hb dX6_most_13 rfl (lv_at hl 0 rfl) ?_
    refine n_get (C := RX6) (T := TX6) (N := 18) hx hb hts (fun _ h => List.mem_cons_of_mem _ (List.mem_append_right _ h)) hown hK hP 0 rfl rfl 0 (by decide) (List.mem_of_getElem? (i := 1) rfl) rfl (.ref (b 1)) rfl dX6_most_14 ?_
    refine lv_iconst (v := nI 5) hx hb dX6_most_17 rfl ?_
    refine n_iald hx hb hK hP 2 (v := (nI (σ 5))) rfl (by omega) (by omega) rfl dX6_most_18 ?_
    refine n_if_ne hx hb (by omega) (tgt := 28) dX6_most_19 (by decide) (fun c_2 => ?_) (fun c_2 => ?_)
    · refine lv_aload_n hx hb dX6_most_28 rfl (lv_at hl 0 rfl) ?_
      refine callVV (rest := []) (wn := fun u => [mO b ζ vv, (b 4, .inl (G.2.1, 7, .inl tl)), (b 1, .inl (G.2.1, 46, .inl (nF σ))), (b 3, .inl (G.2.1, 46, .inl (nF σ)))]) ⟨hx, hb, hml, hown, hts⟩ (c_X6_setsAside l G H.size b ζ vv σ F) (cwV 0 hts gX6_most_X6_setsAside rfl rfl rfl (by decide +kernel) ⟨Nat.le_of_ble_eq_true rfl, Nat.le_of_ble_eq_true rfl⟩) noXB (fun _ _ _ => trivial) hK hP hD hS hAq 5 0 (T := TX6) (N := 18) rfl rfl rfl hl.1 rfl (Nat.le_of_ble_eq_true rfl) dX6_most_29 ⟨Nat.le_of_ble_eq_true rfl, Nat.le_of_ble_eq_true rfl⟩ [0, 2, 3] rfl rfl [b 0, b 1, b 3] rfl (fun _ => rfl) (fun _ => rfl) (fun u H locs hok hP hD hS => ?_)
      refine lv_aload_n hx hb dX6_most_32 rfl (lv_at hl 0 rfl) ?_
      refine lv_iload_n hx hb dX6_most_33 rfl (lv_at hl 1 rfl) ?_
      refine callVV (rest := []) (wn := fun u => [mO b ζ vv, (b 4, .inl (G.2.1, 7, .inl tl)), (b 1, .inl (G.2.1, 46, .inl (nF (daysN n0 σ)))), (b 3, .inl (G.2.1, 46, .inl (nF σ)))]) ⟨hx, hb, hml, hown, hts⟩ (c_X6_goes l G H.size b ζ vv σ n0 hI (by omega)) (cwV 1 hts gX6_most_X6_goes rfl rfl rfl (by decide +kernel) ⟨Nat.le_of_ble_eq_true rfl, Nat.le_of_ble_eq_true rfl⟩) noXB (fun _ _ _ => trivial) hK hP hD hS hAq 5 0 (T := TX6) (N := 18) rfl rfl rfl hl.1 rfl (Nat.le_of_ble_eq_true rfl) dX6_most_34 ⟨Nat.le_of_ble_eq_true rfl, Nat.le_of_ble_eq_true rfl⟩ [0, 2] rfl rfl [b 0, b 1] rfl (fun _ => rfl) (fun _ => rfl) (fun u H locs hok hP hD hS => ?_)
      have dE := days_Inv hI n0
      obtain ⟨⟨j1, j2, j3, j4, j5⟩, jp⟩ := id dE
      refine lv_iconst (v := nI 0) hx hb dX6_most_37 rfl ?_
      refine lv_istore_n (lv' := [(2, .int (nI 0)), (0, .ref (b 0)), (1, .int (nI n0))]) hx hb dX6_most_38 rfl hl (by decide) rfl (fun ls hl => ?_)
      refine lv_iconst (v := nI 1) hx hb dX6_most_39 rfl ?_
      refine lv_istore_n (lv' := [(3, .int (nI 1)), (2, .int (nI 0)), (0, .ref (b 0)), (1, .int (nI n0))]) hx hb dX6_most_40 rfl hl (by decide) rfl (fun ls hl => ?_)
      refine W_loop1 (I := fun (j : Nat) => j + 1 ≤ σ 5) (wd := fun (j : Nat) => [mO b ζ vv, (b 4, .inl (G.2.1, 7, .inl tl)), (b 1, .inl (G.2.1, 46, .inl (nF (daysN n0 σ)))), (b 3, .inl (G.2.1, 46, .inl (nF σ)))]) (lv := fun (j : Nat) => [(3, .int (nI (j + 1))), (2, .int (nI (mostN (daysN n0 σ) j))), (0, .ref (b 0)), (1, .int (nI n0))]) (μ := fun (j : Nat) => σ 5 - j) ?_ 0 (by omega) hP hD hS (lv_sub hl [0, 1, 2, 3] rfl)
      intro j H locs ls hI0 hP hD hS hl ih
      have hj : j + 1 ≤ σ 5 := hI0
      have hle := most_le (daysN n0 σ) j
      refine lv_iload_n hx hb dX6_most_41 rfl (lv_at hl 0 rfl) ?_
      refine lv_aload_n hx hb dX6_most_42 rfl (lv_at hl 2 rfl) ?_
      refine n_get (C := RX6) (T := TX6) (N := 18) hx hb hts (fun _ h => List.mem_cons_of_mem _ (List.mem_append_right _ h)) hown hK hP 0 rfl rfl 0 (by decide) (List.mem_of_getElem? (i := 1) rfl) rfl (.ref (b 1)) rfl dX6_most_43 ?_
      refine lv_iconst (v := nI 5) hx hb dX6_most_46 rfl ?_
      refine n_iald hx hb hK hP 2 (v := (nI (σ 5))) rfl (by omega) (by omega) (congrArg nI (days_0 σ n0).2) dX6_most_47 ?_
      refine n_icmp_ge hx hb (by omega) (by omega) (tgt := 78) dX6_most_48 (by decide) (fun c_3 => ?_) (fun c_3 => ?_)
      · have hk5 : j = σ 5 - 1 := by omega
        subst hk5
        refine lv_aload_n hx hb dX6_most_78 rfl (lv_at hl 2 rfl) ?_
        refine callVV (rest := []) (wn := fun u => [mO b ζ vv, (b 4, .inl (G.2.1, 7, .inl tl)), (b 1, .inl (G.2.1, 46, .inl (nF σ))), (b 3, .inl (G.2.1, 46, .inl (nF σ)))]) ⟨hx, hb, hml, hown, hts⟩ (c_X6_laysBack l G H.size b ζ vv σ (nF (daysN n0 σ))) (cwV 0 hts gX6_most_X6_laysBack rfl rfl rfl (by decide +kernel) ⟨Nat.le_of_ble_eq_true rfl, Nat.le_of_ble_eq_true rfl⟩) noXB (fun _ _ _ => trivial) hK hP hD hS hAq 5 0 (T := TX6) (N := 18) rfl rfl rfl hl.1 rfl (Nat.le_of_ble_eq_true rfl) dX6_most_79 ⟨Nat.le_of_ble_eq_true rfl, Nat.le_of_ble_eq_true rfl⟩ [0, 2, 3] rfl rfl [b 0, b 1, b 3] rfl (fun _ => rfl) (fun _ => rfl) (fun u H locs hok hP hD hS => ?_)
        refine lv_iload_n hx hb dX6_most_82 rfl (lv_at hl 1 rfl) ?_
        have he : most_e σ (nI n0).toInt = 7 := by unfold most_e; (try simp only [hT0, Int.toNat_natCast]); (repeat' split) <;> omega
        exact fin_i hx hb hr hlk hS hP hD (nF σ) trivial (by rw [he]; first | done | ((try simp only [hT0, Int.toNat_natCast]); first | done | rfl)) (by rw [he]; (try simp only [hT0, Int.toNat_natCast]); exact eqW.rf _) dX6_most_83
      · obtain ⟨r0, r1, r2, r3, r4⟩ := jp (j + 1) (by omega)
        obtain ⟨t0, t1, t2, t3, t4⟩ := jp (mostN (daysN n0 σ) j) (by omega)
        refine lv_aload_n hx hb dX6_most_51 rfl (lv_at hl 2 rfl) ?_
        refine lv_iload_n hx hb dX6_most_52 rfl (lv_at hl 0 rfl) ?_
        refine lv_iconst (v := nI 4) hx hb dX6_most_53 rfl ?_
        refine callVI (rest := []) (wn := fun u => [mO b ζ vv, (b 4, .inl (G.2.1, 7, .inl tl)), (b 1, .inl (G.2.1, 46, .inl (nF (daysN n0 σ)))), (b 3, .inl (G.2.1, 46, .inl (nF σ)))]) ⟨hx, hb, hml, hown, hts⟩ (c_X6_get l G H.size b ζ vv (daysN n0 σ) (j + 1) 4 (by omega) (by omega)) (cwV 2 hts gX6_most_X6_get rfl rfl rfl (by decide +kernel) ⟨Nat.le_of_ble_eq_true rfl, Nat.le_of_ble_eq_true rfl⟩) noXB (fun _ _ _ => trivial) hK hP hD hS hAq 5 0 (T := TX6) (N := 18) rfl rfl rfl hl.1 rfl (Nat.le_of_ble_eq_true rfl) dX6_most_54 ⟨Nat.le_of_ble_eq_true rfl, Nat.le_of_ble_eq_true rfl⟩ [0, 2] rfl rfl [b 0, b 1] rfl (fun _ => rfl) (fun _ => rfl) (fun u H locs hok hP hD hS => ?_)
        refine lv_aload_n hx hb dX6_most_57 rfl (lv_at hl 2 rfl) ?_
        refine lv_iload_n hx hb dX6_most_58 rfl (lv_at hl 1 rfl) ?_
        refine lv_iconst (v := nI 4) hx hb dX6_most_59 rfl ?_
        refine callVI (rest := [.int (nI ((daysN n0 σ) (pl (j + 1) 4)))]) (wn := fun u => [mO b ζ vv, (b 4, .inl (G.2.1, 7, .inl tl)), (b 1, .inl (G.2.1, 46, .inl (nF (daysN n0 σ)))), (b 3, .inl (G.2.1, 46, .inl (nF σ)))]) ⟨hx, hb, hml, hown, hts⟩ (c_X6_get l G H.size b ζ vv (daysN n0 σ) (mostN (daysN n0 σ) j) 4 (by omega) (by omega)) (cwV 2 hts gX6_most_X6_get rfl rfl rfl (by decide +kernel) ⟨Nat.le_of_ble_eq_true rfl, Nat.le_of_ble_eq_true rfl⟩) noXB (fun _ _ _ => trivial) hK hP hD hS hAq 5 0 (T := TX6) (N := 18) rfl rfl rfl hl.1 rfl (Nat.le_of_ble_eq_true rfl) dX6_most_60 ⟨Nat.le_of_ble_eq_true rfl, Nat.le_of_ble_eq_true rfl⟩ [0, 2] rfl rfl [b 0, b 1] rfl (fun _ => rfl) (fun _ => rfl) (fun u H locs hok hP hD hS => ?_)
        refine n_icmp_le hx hb (by omega) (by omega) (tgt := 70) dX6_most_63 (by decide) (fun c_4 => ?_) (fun c_4 => ?_)
        · refine lv_iload_n hx hb dX6_most_70 rfl (lv_at hl 1 rfl) ?_
          refine lv_istore_n (lv' := [(2, .int (nI (mostN (daysN n0 σ) j))), (3, .int (nI (j + 1))), (0, .ref (b 0)), (1, .int (nI n0))]) hx hb dX6_most_71 rfl hl (by decide) rfl (fun ls hl => ?_)
          refine n_iinc (lv' := [(3, .int (nI ((j + 1) + 1))), (2, .int (nI (mostN (daysN n0 σ) j))), (0, .ref (b 0)), (1, .int (nI n0))]) hx hb dX6_most_72 hl (k := 1) rfl (by decide) rfl (fun ls hl => ?_)
          refine lv_goto (tgt := 41) hx hb dX6_most_75 (by decide) ?_
          have e1 : mostN (daysN n0 σ) (j + 1) = mostN (daysN n0 σ) j := by rw [most_S]; first | rw [if_pos (by omega)] | rw [if_neg (by omega)]
          exact ih (j + 1) _ _ _ (by omega) (by omega) hP hD hS (by rw [e1]; exact (lv_sub hl [0, 1, 2, 3] rfl))
        · refine lv_iload_n hx hb dX6_most_66 rfl (lv_at hl 0 rfl) ?_
          refine lv_goto (tgt := 71) hx hb dX6_most_67 (by decide) ?_
          refine lv_istore_n (lv' := [(2, .int (nI (j + 1))), (3, .int (nI (j + 1))), (0, .ref (b 0)), (1, .int (nI n0))]) hx hb dX6_most_71 rfl hl (by decide) rfl (fun ls hl => ?_)
          refine n_iinc (lv' := [(3, .int (nI ((j + 1) + 1))), (2, .int (nI (j + 1))), (0, .ref (b 0)), (1, .int (nI n0))]) hx hb dX6_most_72 hl (k := 1) rfl (by decide) rfl (fun ls hl => ?_)
          refine lv_goto (tgt := 41) hx hb dX6_most_75 (by decide) ?_
          have e1 : mostN (daysN n0 σ) (j + 1) = j + 1 := by rw [most_S]; first | rw [if_pos (by omega)] | rw [if_neg (by omega)]
          exact ih (j + 1) _ _ _ (by omega) (by omega) hP hD hS (by rw [e1]; exact (lv_sub hl [0, 1, 2, 3] rfl))
    · refine lv_aload_n hx hb dX6_most_22 rfl (lv_at hl 0 rfl) ?_
      refine lv_iconst (v := nI 3) hx hb dX6_most_23 rfl ?_
      refine callVI (rest := []) (wn := fun u => [mO b ζ vv, (b 4, .inl (G.2.1, 7, .inl (tk tl 3))), (b 1, .inl (G.2.1, 46, .inl (nF σ))), (b 3, .inl (G.2.1, 46, .inl F))]) ⟨hx, hb, hml, hown, hts⟩ (c_X6_no l G H.size b ζ vv tl 3 (by omega)) (cwV 1 hts gX6_most_X6_no rfl rfl rfl (by decide +kernel) ⟨Nat.le_of_ble_eq_true rfl, Nat.le_of_ble_eq_true rfl⟩) noXB (fun _ _ _ => trivial) hK hP hD hS hAq 5 0 (T := TX6) (N := 18) rfl rfl rfl hl.1 rfl (Nat.le_of_ble_eq_true rfl) dX6_most_24 ⟨Nat.le_of_ble_eq_true rfl, Nat.le_of_ble_eq_true rfl⟩ [0, 1] rfl rfl [b 0, b 4] rfl (fun _ => rfl) (fun _ => rfl) (fun u H locs hok hP hD hS => ?_)
      have he : most_e σ (nI n0).toInt = 3 := by unfold most_e; (try simp only [hT0, Int.toNat_natCast]); (repeat' split) <;> omega
      exact fin_i hx hb hr hlk hS hP hD (F) trivial (by rw [he]; first | done | ((try simp only [hT0, Int.toNat_natCast]); first | done | rfl)) (by rw [he]; (try simp only [hT0, Int.toNat_natCast]); exact eqW.rf _) dX6_most_27
  · refine lv_aload_n hx hb dX6_most_7 rfl (lv_at hl 0 rfl) ?_
    refine lv_iconst (v := nI 0) hx hb dX6_most_8 rfl ?_
    refine callVI (rest := []) (wn := fun u => [mO b ζ vv, (b 4, .inl (G.2.1, 7, .inl (tk tl 0))), (b 1, .inl (G.2.1, 46, .inl (nF σ))), (b 3, .inl (G.2.1, 46, .inl F))]) ⟨hx, hb, hml, hown, hts⟩ (c_X6_no l G H.size b ζ vv tl 0 (by omega)) (cwV 1 hts gX6_most_X6_no rfl rfl rfl (by decide +kernel) ⟨Nat.le_of_ble_eq_true rfl, Nat.le_of_ble_eq_true rfl⟩) noXB (fun _ _ _ => trivial) hK hP hD hS hAq 5 0 (T := TX6) (N := 18) rfl rfl rfl hl.1 rfl (Nat.le_of_ble_eq_true rfl) dX6_most_9 ⟨Nat.le_of_ble_eq_true rfl, Nat.le_of_ble_eq_true rfl⟩ [0, 1] rfl rfl [b 0, b 4] rfl (fun _ => rfl) (fun _ => rfl) (fun u H locs hok hP hD hS => ?_)
    have he : most_e σ a0.toInt = 0 := by unfold most_e; (try simp only [Int.toNat_natCast]); (repeat' split) <;> omega
    exact fin_i hx hb hr hlk hS hP hD (F) trivial (by rw [he]; first | done | ((try simp only [Int.toNat_natCast]); first | done | rfl)) (by rw [he]; (try simp only [Int.toNat_natCast]); exact eqW.rf _) dX6_most_12
set_option maxHeartbeats 400000 in
set_option maxRecDepth 100000 in
theorem c_X6_isKeptOut (l : Launch) (G : GT) (sz : Nat) (b : Nat → Nat) (ζ : Nat → Nat) (vv : Int64) (σ : Sg) (mem n : Nat) (hI : Inv σ) (hmem : mem < 256) (hd1 : σ 0 + n < 1000000) : MI (S := Unit) l G noX yX6_isKeptOut wsX6_isKeptOut ({ frames := 8, cells := 0, slots := 0, locals := 181 } : Room) [.ref (b 0), .int (nI mem), .int (nI n)] ([mO b ζ vv, (b 1, .inl (G.2.1, 46, .inl (nF σ))), (b 3, .inl (G.2.1, 46, .inl (nF σ)))]) sz (fun _ => True) (fun _ => zI (daysN n (wallN σ mem (σ 5)) 4 ≤ σ 4)) (fun _ => [mO b ζ vv, (b 1, .inl (G.2.1, 46, .inl (nF σ))), (b 3, .inl (G.2.1, 46, .inl (nF σ)))]) := by
  refine MI_enter (cc := cX6_isKeptOut) (maxL := 4) (ret := (some .boolean)) (by decide) rfl (Nat.le_of_ble_eq_true rfl) ?_
  intro p e s m below meth c A ls H hx hb hr hlk hml hown hts hAq hS hP hK hD hX hl hnm
  have hown : s.vm.findClass RX6 = some m.cls := hown
  have hl : lv_has ls 4 [(0, .ref (b 0)), (1, .int (nI mem)), (2, .int (nI n))] := hl
  obtain ⟨⟨i1, i2, i3, i4, i5⟩, ip⟩ := id hI
  refine lv_iconst (v := nI 0) hx hb dX6_isKeptOut_0 rfl ?_
  refine lv_istore_n (lv' := [(3, .int (nI 0)), (0, .ref (b 0)), (1, .int (nI mem)), (2, .int (nI n))]) hx hb dX6_isKeptOut_1 rfl hl (by decide) rfl (fun ls hl => ?_)
  refine W_loop1 (I := fun (k : Nat) => k ≤ σ 5) (wd := fun (k : Nat) => [mO b ζ vv, (b 1, .inl (G.2.1, 46, .inl (nF (wallN σ mem k)))), (b 3, .inl (G.2.1, 46, .inl (nF σ)))]) (lv := fun (k : Nat) => [(3, .int (nI k)), (0, .ref (b 0)), (1, .int (nI mem)), (2, .int (nI n))]) (μ := fun (k : Nat) => σ 5 - k) ?_ 0 (by omega) hP hD hS (lv_sub hl [0, 1, 2, 3] rfl)
  intro k H locs ls hI0 hP hD hS hl ih
  have hk : k ≤ σ 5 := hI0
  have hW := wall_Inv hI mem k (by omega)
  obtain ⟨⟨w1, w2, w3, w4, w5⟩, wp⟩ := id hW
  refine lv_iload_n hx hb dX6_isKeptOut_2 rfl (lv_at hl 0 rfl) ?_
  refine lv_aload_n hx hb dX6_isKeptOut_3 rfl (lv_at hl 1 rfl) ?_
  refine n_get (C := RX6) (T := TX6) (N := 18) hx hb hts (fun _ h => List.mem_cons_of_mem _ (List.mem_append_right _ h)) hown hK hP 0 rfl rfl 0 (by decide) (List.mem_of_getElem? (i := 1) rfl) rfl (.ref (b 1)) rfl dX6_isKeptOut_4 ?_
  refine lv_iconst (v := nI 5) hx hb dX6_isKeptOut_7 rfl ?_
  refine n_iald hx hb hK hP 1 (v := (nI (σ 5))) rfl (by omega) (by omega) (congrArg nI (wall_s σ mem (by decide) k)) dX6_isKeptOut_8 ?_
  refine n_icmp_ge hx hb (by omega) (by omega) (tgt := 44) dX6_isKeptOut_9 (by decide) (fun c_1 => ?_) (fun c_1 => ?_)
  · have hk5 : k = σ 5 := by omega
    subst hk5
    have hE0 : wallN σ mem (σ 5) 0 = σ 0 := wall_s σ mem (by decide) _
    have hE4 : wallN σ mem (σ 5) 4 = σ 4 := wall_s σ mem (by decide) _
    have hEm := days_4 hW n
    have hEc := (days_Inv hW n).1.2.2.2.1
    refine lv_aload_n hx hb dX6_isKeptOut_44 rfl (lv_at hl 1 rfl) ?_
    refine lv_iconst (v := nI 4) hx hb dX6_isKeptOut_45 rfl ?_
    refine lv_iload_n hx hb dX6_isKeptOut_46 rfl (lv_at hl 3 rfl) ?_
    refine callVI (rest := []) (wn := fun u => [mO b ζ vv, (b 1, .inl (G.2.1, 46, .inl (nF σ))), (b 3, .inl (G.2.1, 46, .inl (nF σ)))]) ⟨hx, hb, hml, hown, hts⟩ (c_X6_thenAt l G H.size b ζ vv σ (wallN σ mem (σ 5)) 4 n hW (by omega) (by omega)) (cwV 2 hts gX6_isKeptOut_X6_thenAt rfl rfl rfl (by decide +kernel) ⟨Nat.le_of_ble_eq_true rfl, Nat.le_of_ble_eq_true rfl⟩) noXB (fun _ _ _ => trivial) hK hP hD hS hAq 5 0 (T := TX6) (N := 18) rfl rfl rfl hl.1 rfl (Nat.le_of_ble_eq_true rfl) dX6_isKeptOut_47 ⟨Nat.le_of_ble_eq_true rfl, Nat.le_of_ble_eq_true rfl⟩ [0, 1, 2] rfl rfl [b 0, b 1, b 3] rfl (fun _ => rfl) (fun _ => rfl) (fun u H locs hok hP hD hS => ?_)
    refine lv_aload_n hx hb dX6_isKeptOut_50 rfl (lv_at hl 1 rfl) ?_
    refine n_get (C := RX6) (T := TX6) (N := 18) hx hb hts (fun _ h => List.mem_cons_of_mem _ (List.mem_append_right _ h)) hown hK hP 0 rfl rfl 0 (by decide) (List.mem_of_getElem? (i := 1) rfl) rfl (.ref (b 1)) rfl dX6_isKeptOut_51 ?_
    refine lv_iconst (v := nI 4) hx hb dX6_isKeptOut_54 rfl ?_
    refine n_iald hx hb hK hP 1 (v := (nI (σ 4))) rfl (by omega) (by omega) rfl dX6_isKeptOut_55 ?_
    refine n_icmp_ne hx hb (by omega) (by omega) (tgt := 63) dX6_isKeptOut_56 (by decide) (fun c_2 => ?_) (fun c_2 => ?_)
    · refine lv_iconst (v := nI 0) hx hb dX6_isKeptOut_63 rfl ?_
      exact fin_z (ty := .boolean) (by decide) hx hb hr hlk hS hP hD () trivial (zI_f (by omega)).symm (eqW.rf _) dX6_isKeptOut_64
    · refine lv_iconst (v := nI 1) hx hb dX6_isKeptOut_59 rfl ?_
      refine lv_goto (tgt := 64) hx hb dX6_isKeptOut_60 (by decide) ?_
      exact fin_z (ty := .boolean) (by decide) hx hb hr hlk hS hP hD () trivial (zI_t (by omega)).symm (eqW.rf _) dX6_isKeptOut_64
  · obtain ⟨r0, r1, r2, r3, r4⟩ := wp k (by omega)
    refine lv_aload_n hx hb dX6_isKeptOut_12 rfl (lv_at hl 1 rfl) ?_
    refine lv_iload_n hx hb dX6_isKeptOut_13 rfl (lv_at hl 0 rfl) ?_
    refine lv_iconst (v := nI 3) hx hb dX6_isKeptOut_14 rfl ?_
    refine lv_iload_n hx hb dX6_isKeptOut_15 rfl (lv_at hl 2 rfl) ?_
    refine lv_iload_n hx hb dX6_isKeptOut_16 rfl (lv_at hl 0 rfl) ?_
    refine lv_ishr hx hb dX6_isKeptOut_17 ?_
    refine lv_iconst (v := nI 1) hx hb dX6_isKeptOut_18 rfl ?_
    refine lv_iand hx hb dX6_isKeptOut_19 ?_
    refine n_top (bit_at (by omega) (by omega)) ?_
    refine lv_iconst (v := nI 1) hx hb dX6_isKeptOut_20 rfl ?_
    refine n_icmp_ne hx hb (by omega) (by omega) (tgt := 29) dX6_isKeptOut_21 (by decide) (fun c_3 => ?_) (fun c_3 => ?_)
    · refine lv_aload_n hx hb dX6_isKeptOut_29 rfl (lv_at hl 1 rfl) ?_
      refine lv_iload_n hx hb dX6_isKeptOut_30 rfl (lv_at hl 0 rfl) ?_
      refine lv_iconst (v := nI 3) hx hb dX6_isKeptOut_31 rfl ?_
      refine callVI (rest := [.int (nI 3), .int (nI k), .ref (b 0)]) (wn := fun u => [mO b ζ vv, (b 1, .inl (G.2.1, 46, .inl (nF (wallN σ mem k)))), (b 3, .inl (G.2.1, 46, .inl (nF σ)))]) ⟨hx, hb, hml, hown, hts⟩ (c_X6_get l G H.size b ζ vv (wallN σ mem k) k 3 (by omega) (by omega)) (cwV 2 hts gX6_isKeptOut_X6_get rfl rfl rfl (by decide +kernel) ⟨Nat.le_of_ble_eq_true rfl, Nat.le_of_ble_eq_true rfl⟩) noXB (fun _ _ _ => trivial) hK hP hD hS hAq 5 0 (T := TX6) (N := 18) rfl rfl rfl hl.1 rfl (Nat.le_of_ble_eq_true rfl) dX6_isKeptOut_32 ⟨Nat.le_of_ble_eq_true rfl, Nat.le_of_ble_eq_true rfl⟩ [0, 1] rfl rfl [b 0, b 1] rfl (fun _ => rfl) (fun _ => rfl) (fun u H locs hok hP hD hS => ?_)
      refine callVV (rest := []) (wn := fun u => [mO b ζ vv, (b 1, .inl (G.2.1, 46, .inl (nF (un (wallN σ mem k) (pl k 3) ((wallN σ mem k) (pl k 3)))))), (b 3, .inl (G.2.1, 46, .inl (nF σ)))]) ⟨hx, hb, hml, hown, hts⟩ (c_X6_puts l G H.size b ζ vv (wallN σ mem k) k 3 ((wallN σ mem k) (pl k 3)) (by omega) (by omega)) (cwV 3 hts gX6_isKeptOut_X6_puts rfl rfl rfl (by decide +kernel) ⟨Nat.le_of_ble_eq_true rfl, Nat.le_of_ble_eq_true rfl⟩) noXB (fun _ _ _ => trivial) hK hP hD hS hAq 5 0 (T := TX6) (N := 18) rfl rfl rfl hl.1 rfl (Nat.le_of_ble_eq_true rfl) dX6_isKeptOut_35 ⟨Nat.le_of_ble_eq_true rfl, Nat.le_of_ble_eq_true rfl⟩ [0, 1] rfl rfl [b 0, b 1] rfl (fun _ => rfl) (fun _ => rfl) (fun u H locs hok hP hD hS => ?_)
      refine n_iinc (lv' := [(3, .int (nI (k + 1))), (0, .ref (b 0)), (1, .int (nI mem)), (2, .int (nI n))]) hx hb dX6_isKeptOut_38 hl (k := 0) rfl (by decide) rfl (fun ls hl => ?_)
      refine lv_goto (tgt := 2) hx hb dX6_isKeptOut_41 (by decide) ?_
      have e1 : wallN σ mem (k + 1) = un (wallN σ mem k) (pl k 3) ((wallN σ mem k) (pl k 3)) := by rw [wall_S]; first | rw [if_neg (by omega)] | (rw [if_pos (by omega), un_id])
      exact ih (k + 1) _ _ _ (by omega) (by omega) (by rw [e1]; exact hP) (by rw [e1]; exact hD) hS (lv_sub hl [0, 1, 2, 3] rfl)
    · refine lv_bipush (v := nI 99) hx hb dX6_isKeptOut_24 rfl ?_
      refine lv_goto (tgt := 35) hx hb dX6_isKeptOut_26 (by decide) ?_
      refine callVV (rest := []) (wn := fun u => [mO b ζ vv, (b 1, .inl (G.2.1, 46, .inl (nF (un (wallN σ mem k) (pl k 3) 99)))), (b 3, .inl (G.2.1, 46, .inl (nF σ)))]) ⟨hx, hb, hml, hown, hts⟩ (c_X6_puts l G H.size b ζ vv (wallN σ mem k) k 3 99 (by omega) (by omega)) (cwV 3 hts gX6_isKeptOut_X6_puts rfl rfl rfl (by decide +kernel) ⟨Nat.le_of_ble_eq_true rfl, Nat.le_of_ble_eq_true rfl⟩) noXB (fun _ _ _ => trivial) hK hP hD hS hAq 5 0 (T := TX6) (N := 18) rfl rfl rfl hl.1 rfl (Nat.le_of_ble_eq_true rfl) dX6_isKeptOut_35 ⟨Nat.le_of_ble_eq_true rfl, Nat.le_of_ble_eq_true rfl⟩ [0, 1] rfl rfl [b 0, b 1] rfl (fun _ => rfl) (fun _ => rfl) (fun u H locs hok hP hD hS => ?_)
      refine n_iinc (lv' := [(3, .int (nI (k + 1))), (0, .ref (b 0)), (1, .int (nI mem)), (2, .int (nI n))]) hx hb dX6_isKeptOut_38 hl (k := 0) rfl (by decide) rfl (fun ls hl => ?_)
      refine lv_goto (tgt := 2) hx hb dX6_isKeptOut_41 (by decide) ?_
      have e1 : wallN σ mem (k + 1) = un (wallN σ mem k) (pl k 3) 99 := by rw [wall_S]; first | rw [if_neg (by omega)] | (rw [if_pos (by omega), un_id])
      exact ih (k + 1) _ _ _ (by omega) (by omega) (by rw [e1]; exact hP) (by rw [e1]; exact hD) hS (lv_sub hl [0, 1, 2, 3] rfl)
set_option maxHeartbeats 400000 in
set_option maxRecDepth 100000 in
theorem c_X5_keep (l : Launch) (G : GT) (sz : Nat) (x hm kp tr : Nat → Nat) (hi : Nat) (tl : Nat → Int32) (σ τ : Sg) (a0 : Int32) (hI : Inv σ) (hd0 : σ 0 ≤ 9999) : MI (S := Sg) l G noX yX5_keep wsX5_keep ({ frames := 5, cells := 0, slots := 0, locals := 113 } : Room) [.ref (x 0), .int a0] (([xO x hm kp tr hi, (x 7, .inl (G.2.1, 7, .inl tl))] ++ (wH G hm σ ++ (wH G tr τ)))) sz (fun _ => True) (fun u => rs (keep_e σ a0.toInt) (iI (kpN σ a0.toInt.toNat (2 ^ σ 5)))) (fun u => ([xO x hm kp tr hi, (x 7, .inl (G.2.1, 7, .inl (ts tl (keep_e σ a0.toInt))))] ++ (wH G hm σ ++ (wH G tr u)))) := by
  refine MI_enter (cc := cX5_keep) (maxL := 7) (ret := (some .int)) (by decide) rfl (Nat.le_of_ble_eq_true rfl) ?_
  intro p e s m below meth c A ls H hx hb hr hlk hml hown hts hAq hS hP hK hD hX hl hnm
  have hown : s.vm.findClass RX5 = some m.cls := hown
  have hl : lv_has ls 7 [(0, .ref (x 0)), (1, .int a0)] := hl
  obtain ⟨⟨i1, i2, i3, i4, i5⟩, ip⟩ := id hI
  have hpw := pow_le i5
  refine lv_iload_n hx hb dX5_keep_0 rfl (lv_at hl 1 rfl) ?_
  refine lv_iconst (v := nI 1) hx hb dX5_keep_1 rfl ?_
  refine lv_bipush (v := nI 20) hx hb dX5_keep_2 rfl ?_
  refine callSI (rest := []) (wn := fun u => ([xO x hm kp tr hi, (x 7, .inl (G.2.1, 7, .inl tl))] ++ (wH G hm σ ++ (wH G tr τ)))) ⟨hx, hb, hml, hown, hts⟩ (c_X5_isWithin l G H.size a0 (nI 1) (nI 20)) (va_cwS 3 hts gX5_keep_X5_isWithin rfl rfl rfl (by decide +kernel) ⟨Nat.le_of_ble_eq_true rfl, Nat.le_of_ble_eq_true rfl⟩) noXB (fun _ _ _ => trivial) hK hP hD hS hAq rfl hl.1 rfl (Nat.le_of_ble_eq_true rfl) dX5_keep_4 ⟨Nat.le_of_ble_eq_true rfl, Nat.le_of_ble_eq_true rfl⟩ [] rfl rfl [] rfl (fun _ => rfl) (fun _ => rfl) (fun u H locs hok hP hD hS => ?_)
  refine n_top (y := zI ((1 : Int) ≤ a0.toInt ∧ a0.toInt ≤ 20)) (zI_c (by rw [nI_T (show 1 < 2147483648 by decide), nI_T (show 20 < 2147483648 by decide)]; exact Iff.rfl)) ?_
  refine z_if_ne hx hb (tgt := 16) dX5_keep_7 (by decide) (fun c_1 => ?_) (fun c_1 => ?_)
  · obtain ⟨n0, hn0, rfl⟩ := nI_of_rg (n := 20) (x := a0) ⟨by omega, by omega⟩
    have hT0 := nI_T (a := n0) (by omega)
    refine lv_iconst (v := (-1)) hx hb dX5_keep_16 rfl ?_
    refine n_top (y := iI (-1)) (by decide) ?_
    refine lv_istore_n (lv' := [(2, .int (iI (-1))), (0, .ref (x 0)), (1, .int (nI n0))]) hx hb dX5_keep_17 rfl hl (by decide) rfl (fun ls hl => ?_)
    refine lv_bipush (v := nI 9) hx hb dX5_keep_18 rfl ?_
    refine lv_istore_n (lv' := [(3, .int (nI 9)), (2, .int (iI (-1))), (0, .ref (x 0)), (1, .int (nI n0))]) hx hb dX5_keep_20 rfl hl (by decide) rfl (fun ls hl => ?_)
    refine lv_iconst (v := nI 1) hx hb dX5_keep_21 rfl ?_
    refine lv_aload_n hx hb dX5_keep_22 rfl (lv_at hl 2 rfl) ?_
    refine n_get (C := RX5) (T := TX5) (N := 7) hx hb hts (fun _ h => List.mem_cons_of_mem _ (List.mem_append_left _ (List.mem_append_right _ h))) hown hK hP 0 rfl rfl 0 (by decide) (List.mem_of_getElem? (i := 1) rfl) rfl (.ref (hm 0)) rfl dX5_keep_23 ?_
    refine n_get (C := RX0) (T := TX0) (N := 11) hx hb hts (fun _ h => List.mem_cons_of_mem _ (List.mem_append_right _ h)) hown hK hP 2 rfl rfl 5 (by decide) (List.mem_of_getElem? (i := 2) rfl) rfl (.int (nI (σ 5))) rfl dX5_keep_26 ?_
    refine lv_ishl hx hb dX5_keep_29 ?_
    refine n_top (shl_tab (σ 5) (by omega)) ?_
    refine lv_istore (lv' := [(4, .int (nI (2 ^ σ 5))), (3, .int (nI 9)), (2, .int (iI (-1))), (0, .ref (x 0)), (1, .int (nI n0))]) hx hb dX5_keep_30 hl (by decide) rfl (fun ls hl => ?_)
    refine lv_iconst (v := nI 0) hx hb dX5_keep_32 rfl ?_
    refine lv_istore (lv' := [(5, .int (nI 0)), (4, .int (nI (2 ^ σ 5))), (3, .int (nI 9)), (2, .int (iI (-1))), (0, .ref (x 0)), (1, .int (nI n0))]) hx hb dX5_keep_33 hl (by decide) rfl (fun ls hl => ?_)
    refine W_loop2 (I := fun (k : Nat) (τ1 : Sg) => k ≤ 2 ^ σ 5) (wd := fun (k : Nat) (τ1 : Sg) => ([xO x hm kp tr hi, (x 7, .inl (G.2.1, 7, .inl tl))] ++ (wH G hm σ ++ (wH G tr τ1)))) (lv := fun (k : Nat) (τ1 : Sg) => [(5, .int (nI k)), (2, .int (iI (kpN σ n0 k))), (3, .int (nI (fewN (kpN σ n0 k)))), (0, .ref (x 0)), (1, .int (nI n0)), (4, .int (nI (2 ^ σ 5)))]) (μ := fun (k : Nat) (τ1 : Sg) => 2 ^ σ 5 - k) ?_ 0 τ (Nat.zero_le _) hP hD hS (lv_sub hl [0, 3, 2, 4, 5, 1] rfl)
    intro k τ1 H locs ls hI0 hP hD hS hl ih
    have hk : k ≤ 2 ^ σ 5 := hI0
    have hrg := kp_rg σ n0 k
    have hT8 : (iI (kpN σ n0 k)).toInt = (kpN σ n0 k) := iI_T (by omega) (by omega)
    have hfi := @few_iff (kpN σ n0 k) k
    have hpk := popc_le k
    have hfl := few_le (kpN σ n0 k)
    refine lv_iload hx hb dX5_keep_35 (lv_at hl 0 rfl) ?_
    refine lv_iload hx hb dX5_keep_37 (lv_at hl 5 rfl) ?_
    refine n_icmp_ge hx hb (by omega) (by omega) (tgt := 95) dX5_keep_39 (by decide) (fun c_2 => ?_) (fun c_2 => ?_)
    · have hk5 : k = 2 ^ σ 5 := by omega
      subst hk5
      refine lv_iload_n hx hb dX5_keep_95 rfl (lv_at hl 1 rfl) ?_
      refine r_if_ge hx hb (tgt := 107) dX5_keep_96 (by decide) (fun c_3 => ?_) (fun c_3 => ?_)
      · refine lv_iload_n hx hb dX5_keep_107 rfl (lv_at hl 1 rfl) ?_
        have he : keep_e σ (nI n0).toInt = 7 := by unfold keep_e; (try simp only [hT0, Int.toNat_natCast]); (repeat' split) <;> omega
        exact fin_i hx hb hr hlk hS hP hD τ1 trivial (by rw [he]; first | done | ((try simp only [hT0, Int.toNat_natCast]); first | done | rfl)) (by rw [he]; (try simp only [hT0, Int.toNat_natCast]); exact eqW.rf _) dX5_keep_108
      · refine lv_aload_n hx hb dX5_keep_99 rfl (lv_at hl 3 rfl) ?_
        refine lv_iconst (v := nI 3) hx hb dX5_keep_100 rfl ?_
        refine callVI (rest := []) (wn := fun u => ([xO x hm kp tr hi, (x 7, .inl (G.2.1, 7, .inl (tk tl 3)))] ++ (wH G hm σ ++ (wH G tr τ1)))) ⟨hx, hb, hml, hown, hts⟩ (c_X5_tell l G H.size x hm kp tr hi tl 3 (by omega)) (cwV 1 hts gX5_keep_X5_tell rfl rfl rfl (by decide +kernel) ⟨Nat.le_of_ble_eq_true rfl, Nat.le_of_ble_eq_true rfl⟩) noXB (fun _ _ _ => trivial) hK hP hD hS hAq 4 0 (T := TX5) (N := 7) rfl rfl rfl hl.1 rfl (Nat.le_of_ble_eq_true rfl) dX5_keep_101 ⟨Nat.le_of_ble_eq_true rfl, Nat.le_of_ble_eq_true rfl⟩ [0, 1] rfl rfl [x 0, x 7] rfl (fun _ => rfl) (fun _ => rfl) (fun u H locs hok hP hD hS => ?_)
        refine lv_goto (tgt := 108) hx hb dX5_keep_104 (by decide) ?_
        have he : keep_e σ (nI n0).toInt = 3 := by unfold keep_e; (try simp only [hT0, Int.toNat_natCast]); (repeat' split) <;> omega
        exact fin_i hx hb hr hlk hS hP hD τ1 trivial (by rw [he]; first | done | ((try simp only [hT0, Int.toNat_natCast]); first | done | rfl)) (by rw [he]; (try simp only [hT0, Int.toNat_natCast]); exact eqW.rf _) dX5_keep_108
    · have hW := wall_Inv hI k (σ 5) i5
      have hE0 : wallN σ k (σ 5) 0 = σ 0 := wall_s σ k (by decide) _
      have hE4 : wallN σ k (σ 5) 4 = σ 4 := wall_s σ k (by decide) _
      refine lv_iload hx hb dX5_keep_42 (lv_at hl 0 rfl) ?_
      refine callSI (rest := []) (wn := fun u => ([xO x hm kp tr hi, (x 7, .inl (G.2.1, 7, .inl tl))] ++ (wH G hm σ ++ (wH G tr τ1)))) ⟨hx, hb, hml, hown, hts⟩ (c_J6_bitCount_0f7a4 l G H.size k (by omega)) (va_cwS 1 hts gX5_keep_J6_bitCount_0f7a4 rfl rfl rfl (by decide +kernel) ⟨Nat.le_of_ble_eq_true rfl, Nat.le_of_ble_eq_true rfl⟩) noXB (fun _ _ _ => trivial) hK hP hD hS hAq rfl hl.1 rfl (Nat.le_of_ble_eq_true rfl) dX5_keep_44 ⟨Nat.le_of_ble_eq_true rfl, Nat.le_of_ble_eq_true rfl⟩ [] rfl rfl [] rfl (fun _ => rfl) (fun _ => rfl) (fun u H locs hok hP hD hS => ?_)
      refine lv_istore (lv' := [(6, .int (nI (popc k))), (5, .int (nI k)), (2, .int (iI (kpN σ n0 k))), (3, .int (nI (fewN (kpN σ n0 k)))), (0, .ref (x 0)), (1, .int (nI n0)), (4, .int (nI (2 ^ σ 5)))]) hx hb dX5_keep_47 hl (by decide) rfl (fun ls hl => ?_)
      refine lv_iload hx hb dX5_keep_49 (lv_at hl 0 rfl) ?_
      refine lv_iload_n hx hb dX5_keep_51 rfl (lv_at hl 3 rfl) ?_
      refine n_icmp_ge hx hb (by omega) (by omega) (tgt := 89) dX5_keep_52 (by decide) (fun c_4 => ?_) (fun c_4 => ?_)
      · refine n_iinc (lv' := [(5, .int (nI (k + 1))), (6, .int (nI (popc k))), (2, .int (iI (kpN σ n0 k))), (3, .int (nI (fewN (kpN σ n0 k)))), (0, .ref (x 0)), (1, .int (nI n0)), (4, .int (nI (2 ^ σ 5)))]) hx hb dX5_keep_89 hl (k := 1) rfl (by decide) rfl (fun ls hl => ?_)
        refine lv_goto (tgt := 35) hx hb dX5_keep_92 (by decide) ?_
        have e1 : kpN σ n0 (k + 1) = kpN σ n0 k := by rw [kp_S]; unfold kpS; first | (exfalso; omega) | rw [if_neg (fun q => by have h8 := hfi.mpr q.1; have h9 := q.2; omega)] | rw [if_neg (fun q => by have h9 := q.2; omega)] | rw [if_neg (fun q => by have h9 := q.1; omega)]
        exact ih (k + 1) τ1 _ _ _ (by omega) (by omega) hP hD hS (by rw [e1]; exact (lv_sub hl [0, 2, 3, 4, 5, 6] rfl))
      · refine lv_aload_n hx hb dX5_keep_55 rfl (lv_at hl 4 rfl) ?_
        refine n_get (C := RX5) (T := TX5) (N := 7) hx hb hts (fun _ h => List.mem_cons_of_mem _ (List.mem_append_left _ (List.mem_append_right _ h))) hown hK hP 0 rfl rfl 2 (by decide) (List.mem_of_getElem? (i := 3) rfl) rfl (.ref (tr 0)) rfl dX5_keep_56 ?_
        refine lv_aload_n hx hb dX5_keep_59 rfl (lv_at hl 4 rfl) ?_
        refine n_get (C := RX5) (T := TX5) (N := 7) hx hb hts (fun _ h => List.mem_cons_of_mem _ (List.mem_append_left _ (List.mem_append_right _ h))) hown hK hP 0 rfl rfl 0 (by decide) (List.mem_of_getElem? (i := 1) rfl) rfl (.ref (hm 0)) rfl dX5_keep_60 ?_
        refine callVV (rest := []) (wn := fun u => ([xO x hm kp tr hi, (x 7, .inl (G.2.1, 7, .inl tl))] ++ (wH G hm σ ++ (wH G tr σ)))) ⟨hx, hb, hml, hown, hts⟩ (c_X0_become l G H.size tr τ1 hm σ) (cwV 1 hts gX5_keep_X0_become rfl rfl rfl (by decide +kernel) ⟨Nat.le_of_ble_eq_true rfl, Nat.le_of_ble_eq_true rfl⟩) noXB (fun _ _ _ => trivial) hK hP hD hS hAq 0 0 (T := TX0) (N := 11) rfl rfl rfl hl.1 rfl (Nat.le_of_ble_eq_true rfl) dX5_keep_63 ⟨Nat.le_of_ble_eq_true rfl, Nat.le_of_ble_eq_true rfl⟩ [8, 9, 10, 11, 12, 13, 2, 3, 4, 5, 6, 7] rfl rfl [tr 0, tr 1, tr 2, tr 3, tr 4, tr 5, hm 0, hm 1, hm 2, hm 3, hm 4, hm 5] rfl (fun _ => rfl) (fun _ => rfl) (fun u H locs hok hP hD hS => ?_)
        refine lv_aload_n hx hb dX5_keep_66 rfl (lv_at hl 4 rfl) ?_
        refine n_get (C := RX5) (T := TX5) (N := 7) hx hb hts (fun _ h => List.mem_cons_of_mem _ (List.mem_append_left _ (List.mem_append_right _ h))) hown hK hP 0 rfl rfl 2 (by decide) (List.mem_of_getElem? (i := 3) rfl) rfl (.ref (tr 0)) rfl dX5_keep_67 ?_
        refine lv_iload hx hb dX5_keep_70 (lv_at hl 1 rfl) ?_
        refine callVV (rest := []) (wn := fun u => ([xO x hm kp tr hi, (x 7, .inl (G.2.1, 7, .inl tl))] ++ (wH G hm σ ++ (wH G tr (wallN σ k (σ 5)))))) ⟨hx, hb, hml, hown, hts⟩ (c_X0_watchAll l G H.size tr σ k (by omega) (by omega)) (cwV 1 hts gX5_keep_X0_watchAll rfl rfl rfl (by decide +kernel) ⟨Nat.le_of_ble_eq_true rfl, Nat.le_of_ble_eq_true rfl⟩) noXB (fun _ _ _ => trivial) hK hP hD hS hAq 0 0 (T := TX0) (N := 11) rfl rfl rfl hl.1 rfl (Nat.le_of_ble_eq_true rfl) dX5_keep_72 ⟨Nat.le_of_ble_eq_true rfl, Nat.le_of_ble_eq_true rfl⟩ [8, 9, 10, 11, 12, 13] rfl rfl [tr 0, tr 1, tr 2, tr 3, tr 4, tr 5] rfl (fun _ => rfl) (fun _ => rfl) (fun u H locs hok hP hD hS => ?_)
        refine lv_aload_n hx hb dX5_keep_75 rfl (lv_at hl 4 rfl) ?_
        refine lv_iload_n hx hb dX5_keep_76 rfl (lv_at hl 5 rfl) ?_
        refine callVI (rest := []) (wn := fun u => ([xO x hm kp tr hi, (x 7, .inl (G.2.1, 7, .inl tl))] ++ (wH G hm σ ++ (wH G tr u)))) ⟨hx, hb, hml, hown, hts⟩ (c_X5_isTrialFed l G H.size x hm kp tr hi σ (wallN σ k (σ 5)) n0 hI hW (by omega) (by omega)) (cwV 1 hts gX5_keep_X5_isTrialFed rfl rfl rfl (by decide +kernel) ⟨Nat.le_of_ble_eq_true rfl, Nat.le_of_ble_eq_true rfl⟩) noXB (fun _ _ _ => trivial) hK hP hD hS hAq 4 0 (T := TX5) (N := 7) rfl rfl rfl hl.1 rfl (Nat.le_of_ble_eq_true rfl) dX5_keep_77 ⟨Nat.le_of_ble_eq_true rfl, Nat.le_of_ble_eq_true rfl⟩ [0, 2, 3, 4, 5, 6, 7, 8, 9, 10, 11, 12, 13] rfl rfl [x 0, hm 0, hm 1, hm 2, hm 3, hm 4, hm 5, tr 0, tr 1, tr 2, tr 3, tr 4, tr 5] rfl (fun _ => rfl) (fun _ => rfl) (fun u H locs hok hP hD hS => ?_)
        refine z_if_eq hx hb (tgt := 89) dX5_keep_80 (by decide) (fun c_5 => ?_) (fun c_5 => ?_)
        · refine n_iinc (lv' := [(5, .int (nI (k + 1))), (6, .int (nI (popc k))), (2, .int (iI (kpN σ n0 k))), (3, .int (nI (fewN (kpN σ n0 k)))), (0, .ref (x 0)), (1, .int (nI n0)), (4, .int (nI (2 ^ σ 5)))]) hx hb dX5_keep_89 hl (k := 1) rfl (by decide) rfl (fun ls hl => ?_)
          refine lv_goto (tgt := 35) hx hb dX5_keep_92 (by decide) ?_
          have e1 : kpN σ n0 (k + 1) = kpN σ n0 k := by rw [kp_S]; unfold kpS; first | (exfalso; omega) | rw [if_neg (fun q => by have h8 := hfi.mpr q.1; have h9 := q.2; omega)] | rw [if_neg (fun q => by have h9 := q.2; omega)] | rw [if_neg (fun q => by have h9 := q.1; omega)]
          exact ih (k + 1) u _ _ _ (by omega) (by omega) hP hD hS (by rw [e1]; exact (lv_sub hl [0, 2, 3, 4, 5, 6] rfl))
        · refine lv_iload hx hb dX5_keep_83 (lv_at hl 0 rfl) ?_
          refine lv_istore_n (lv' := [(3, .int (nI (popc k))), (6, .int (nI (popc k))), (5, .int (nI k)), (2, .int (iI (kpN σ n0 k))), (0, .ref (x 0)), (1, .int (nI n0)), (4, .int (nI (2 ^ σ 5)))]) hx hb dX5_keep_85 rfl hl (by decide) rfl (fun ls hl => ?_)
          refine lv_iload hx hb dX5_keep_86 (lv_at hl 2 rfl) ?_
          refine lv_istore_n (lv' := [(2, .int (nI k)), (3, .int (nI (popc k))), (6, .int (nI (popc k))), (5, .int (nI k)), (0, .ref (x 0)), (1, .int (nI n0)), (4, .int (nI (2 ^ σ 5)))]) hx hb dX5_keep_88 rfl hl (by decide) rfl (fun ls hl => ?_)
          refine n_iinc (lv' := [(5, .int (nI (k + 1))), (2, .int (nI k)), (3, .int (nI (popc k))), (6, .int (nI (popc k))), (0, .ref (x 0)), (1, .int (nI n0)), (4, .int (nI (2 ^ σ 5)))]) hx hb dX5_keep_89 hl (k := 3) rfl (by decide) rfl (fun ls hl => ?_)
          refine lv_goto (tgt := 35) hx hb dX5_keep_92 (by decide) ?_
          have e1 : kpN σ n0 (k + 1) = ((k : Nat) : Int) := by rw [kp_S]; unfold kpS; first | (exfalso; omega) | rw [if_pos ⟨hfi.mp (by omega), by omega⟩] | rw [if_pos ⟨by omega, by omega⟩]
          have e2 : iI (kpN σ n0 (k + 1)) = nI k := by rw [e1]; exact iI_n
          have e3 : fewN (kpN σ n0 (k + 1)) = popc k := by rw [e1]; unfold fewN; rw [if_neg (by omega), Int.toNat_natCast]
          exact ih (k + 1) u _ _ _ (by omega) (by omega) hP hD hS (by rw [e2, e3]; exact (lv_sub hl [0, 1, 2, 4, 5, 6] rfl))
  · refine lv_aload_n hx hb dX5_keep_10 rfl (lv_at hl 0 rfl) ?_
    refine lv_iconst (v := nI 0) hx hb dX5_keep_11 rfl ?_
    refine callVI (rest := []) (wn := fun u => ([xO x hm kp tr hi, (x 7, .inl (G.2.1, 7, .inl (tk tl 0)))] ++ (wH G hm σ ++ (wH G tr τ)))) ⟨hx, hb, hml, hown, hts⟩ (c_X5_tell l G H.size x hm kp tr hi tl 0 (by omega)) (cwV 1 hts gX5_keep_X5_tell rfl rfl rfl (by decide +kernel) ⟨Nat.le_of_ble_eq_true rfl, Nat.le_of_ble_eq_true rfl⟩) noXB (fun _ _ _ => trivial) hK hP hD hS hAq 4 0 (T := TX5) (N := 7) rfl rfl rfl hl.1 rfl (Nat.le_of_ble_eq_true rfl) dX5_keep_12 ⟨Nat.le_of_ble_eq_true rfl, Nat.le_of_ble_eq_true rfl⟩ [0, 1] rfl rfl [x 0, x 7] rfl (fun _ => rfl) (fun _ => rfl) (fun u H locs hok hP hD hS => ?_)
    have he : keep_e σ a0.toInt = 0 := by unfold keep_e; (try simp only [Int.toNat_natCast]); (repeat' split) <;> omega
    exact fin_i hx hb hr hlk hS hP hD τ trivial (by rw [he]; first | done | ((try simp only [Int.toNat_natCast]); first | done | rfl)) (by rw [he]; (try simp only [Int.toNat_natCast]); exact eqW.rf _) dX5_keep_15
set_option maxHeartbeats 400000 in
set_option maxRecDepth 100000 in
theorem c_X6_keep (l : Launch) (G : GT) (sz : Nat) (b : Nat → Nat) (ζ : Nat → Nat) (vv : Int64) (tl : Nat → Int32) (σ : Sg) (F : Nat → Int32) (a0 : Int32) (hI : Inv σ) (hd0 : σ 0 ≤ 9999) : MI (S := Nat → Int32) l G noX yX6_keep wsX6_keep ({ frames := 9, cells := 0, slots := 0, locals := 204 } : Room) [.ref (b 0), .int a0] ([mO b ζ vv, (b 4, .inl (G.2.1, 7, .inl tl)), (b 1, .inl (G.2.1, 46, .inl (nF σ))), (b 3, .inl (G.2.1, 46, .inl F))]) sz (fun _ => True) (fun u => rs (keep_e σ a0.toInt) (iI (kpN σ a0.toInt.toNat (2 ^ σ 5)))) (fun u => [mO b ζ vv, (b 4, .inl (G.2.1, 7, .inl (ts tl (keep_e σ a0.toInt)))), (b 1, .inl (G.2.1, 46, .inl (nF σ))), (b 3, .inl (G.2.1, 46, .inl u))]) := by
  refine MI_enter (cc := cX6_keep) (maxL := 5) (ret := (some .int)) (by decide) rfl (Nat.le_of_ble_eq_true rfl) ?_
  intro p e s m below meth c A ls H hx hb hr hlk hml hown hts hAq hS hP hK hD hX hl hnm
  have hown : s.vm.findClass RX6 = some m.cls := hown
  have hl : lv_has ls 5 [(0, .ref (b 0)), (1, .int a0)] := hl
  obtain ⟨⟨i1, i2, i3, i4, i5⟩, ip⟩ := id hI
  have hpw := pow_le i5
  refine lv_iload_n hx hb dX6_keep_0 rfl (lv_at hl 1 rfl) ?_
  refine lv_iconst (v := nI 1) hx hb dX6_keep_1 rfl ?_
  refine lv_bipush (v := nI 20) hx hb dX6_keep_2 rfl ?_
  refine callSI (rest := []) (wn := fun u => [mO b ζ vv, (b 4, .inl (G.2.1, 7, .inl tl)), (b 1, .inl (G.2.1, 46, .inl (nF σ))), (b 3, .inl (G.2.1, 46, .inl F))]) ⟨hx, hb, hml, hown, hts⟩ (c_X6_in1 l G H.size a0 (nI 1) (nI 20)) (va_cwS 3 hts gX6_keep_X6_in1 rfl rfl rfl (by decide +kernel) ⟨Nat.le_of_ble_eq_true rfl, Nat.le_of_ble_eq_true rfl⟩) noXB (fun _ _ _ => trivial) hK hP hD hS hAq rfl hl.1 rfl (Nat.le_of_ble_eq_true rfl) dX6_keep_4 ⟨Nat.le_of_ble_eq_true rfl, Nat.le_of_ble_eq_true rfl⟩ [] rfl rfl [] rfl (fun _ => rfl) (fun _ => rfl) (fun u H locs hok hP hD hS => ?_)
  refine n_top (y := zI ((1 : Int) ≤ a0.toInt ∧ a0.toInt ≤ 20)) (zI_c (by rw [nI_T (show 1 < 2147483648 by decide), nI_T (show 20 < 2147483648 by decide)]; exact Iff.rfl)) ?_
  refine z_if_ne hx hb (tgt := 16) dX6_keep_7 (by decide) (fun c_1 => ?_) (fun c_1 => ?_)
  · obtain ⟨n0, hn0, rfl⟩ := nI_of_rg (n := 20) (x := a0) ⟨by omega, by omega⟩
    have hT0 := nI_T (a := n0) (by omega)
    refine lv_iconst (v := (-1)) hx hb dX6_keep_16 rfl ?_
    refine n_top (y := iI (-1)) (by decide) ?_
    refine lv_istore_n (lv' := [(2, .int (iI (-1))), (0, .ref (b 0)), (1, .int (nI n0))]) hx hb dX6_keep_17 rfl hl (by decide) rfl (fun ls hl => ?_)
    refine lv_aload_n hx hb dX6_keep_18 rfl (lv_at hl 1 rfl) ?_
    refine callVV (rest := []) (wn := fun u => [mO b ζ vv, (b 4, .inl (G.2.1, 7, .inl tl)), (b 1, .inl (G.2.1, 46, .inl (nF σ))), (b 3, .inl (G.2.1, 46, .inl (nF σ)))]) ⟨hx, hb, hml, hown, hts⟩ (c_X6_setsAside l G H.size b ζ vv σ F) (cwV 0 hts gX6_keep_X6_setsAside rfl rfl rfl (by decide +kernel) ⟨Nat.le_of_ble_eq_true rfl, Nat.le_of_ble_eq_true rfl⟩) noXB (fun _ _ _ => trivial) hK hP hD hS hAq 5 0 (T := TX6) (N := 18) rfl rfl rfl hl.1 rfl (Nat.le_of_ble_eq_true rfl) dX6_keep_19 ⟨Nat.le_of_ble_eq_true rfl, Nat.le_of_ble_eq_true rfl⟩ [0, 2, 3] rfl rfl [b 0, b 1, b 3] rfl (fun _ => rfl) (fun _ => rfl) (fun u H locs hok hP hD hS => ?_)
    refine lv_iconst (v := nI 0) hx hb dX6_keep_22 rfl ?_
    refine lv_istore_n (lv' := [(3, .int (nI 0)), (2, .int (iI (-1))), (0, .ref (b 0)), (1, .int (nI n0))]) hx hb dX6_keep_23 rfl hl (by decide) rfl (fun ls hl => ?_)
    refine W_loop1 (I := fun (k : Nat) => k ≤ 2 ^ σ 5) (wd := fun (k : Nat) => [mO b ζ vv, (b 4, .inl (G.2.1, 7, .inl tl)), (b 1, .inl (G.2.1, 46, .inl (nF σ))), (b 3, .inl (G.2.1, 46, .inl (nF σ)))]) (lv := fun (k : Nat) => [(3, .int (nI k)), (2, .int (iI (kpN σ n0 k))), (0, .ref (b 0)), (1, .int (nI n0))]) (μ := fun (k : Nat) => 2 ^ σ 5 - k) ?_ 0 (Nat.zero_le _) hP hD hS (lv_sub hl [0, 1, 2, 3] rfl)
    intro k H locs ls hI0 hP hD hS hl ih
    have hk : k ≤ 2 ^ σ 5 := hI0
    have hrg := kp_rg σ n0 k
    have hT8 : (iI (kpN σ n0 k)).toInt = (kpN σ n0 k) := iI_T (by omega) (by omega)
    have hfi := @few_iff (kpN σ n0 k) k
    have hpk := popc_le k
    have hpy := popc_le (kpN σ n0 k).toNat
    refine lv_iload_n hx hb dX6_keep_24 rfl (lv_at hl 0 rfl) ?_
    refine lv_iconst (v := nI 1) hx hb dX6_keep_25 rfl ?_
    refine lv_aload_n hx hb dX6_keep_26 rfl (lv_at hl 2 rfl) ?_
    refine n_get (C := RX6) (T := TX6) (N := 18) hx hb hts (fun _ h => List.mem_cons_of_mem _ (List.mem_append_right _ h)) hown hK hP 0 rfl rfl 0 (by decide) (List.mem_of_getElem? (i := 1) rfl) rfl (.ref (b 1)) rfl dX6_keep_27 ?_
    refine lv_iconst (v := nI 5) hx hb dX6_keep_30 rfl ?_
    refine n_iald hx hb hK hP 2 (v := (nI (σ 5))) rfl (by omega) (by omega) rfl dX6_keep_31 ?_
    refine lv_ishl hx hb dX6_keep_32 ?_
    refine n_top (shl_tab (σ 5) (by omega)) ?_
    refine n_icmp_ge hx hb (by omega) (by omega) (tgt := 84) dX6_keep_33 (by decide) (fun c_2 => ?_) (fun c_2 => ?_)
    · have hk5 : k = 2 ^ σ 5 := by omega
      subst hk5
      refine lv_iload_n hx hb dX6_keep_84 rfl (lv_at hl 1 rfl) ?_
      refine r_if_ge hx hb (tgt := 96) dX6_keep_85 (by decide) (fun c_3 => ?_) (fun c_3 => ?_)
      · refine lv_iload_n hx hb dX6_keep_96 rfl (lv_at hl 1 rfl) ?_
        have he : keep_e σ (nI n0).toInt = 7 := by unfold keep_e; (try simp only [hT0, Int.toNat_natCast]); (repeat' split) <;> omega
        exact fin_i hx hb hr hlk hS hP hD (nF σ) trivial (by rw [he]; first | done | ((try simp only [hT0, Int.toNat_natCast]); first | done | rfl)) (by rw [he]; (try simp only [hT0, Int.toNat_natCast]); exact eqW.rf _) dX6_keep_97
      · refine lv_aload_n hx hb dX6_keep_88 rfl (lv_at hl 2 rfl) ?_
        refine lv_iconst (v := nI 3) hx hb dX6_keep_89 rfl ?_
        refine callVI (rest := []) (wn := fun u => [mO b ζ vv, (b 4, .inl (G.2.1, 7, .inl (tk tl 3))), (b 1, .inl (G.2.1, 46, .inl (nF σ))), (b 3, .inl (G.2.1, 46, .inl (nF σ)))]) ⟨hx, hb, hml, hown, hts⟩ (c_X6_no l G H.size b ζ vv tl 3 (by omega)) (cwV 1 hts gX6_keep_X6_no rfl rfl rfl (by decide +kernel) ⟨Nat.le_of_ble_eq_true rfl, Nat.le_of_ble_eq_true rfl⟩) noXB (fun _ _ _ => trivial) hK hP hD hS hAq 5 0 (T := TX6) (N := 18) rfl rfl rfl hl.1 rfl (Nat.le_of_ble_eq_true rfl) dX6_keep_90 ⟨Nat.le_of_ble_eq_true rfl, Nat.le_of_ble_eq_true rfl⟩ [0, 1] rfl rfl [b 0, b 4] rfl (fun _ => rfl) (fun _ => rfl) (fun u H locs hok hP hD hS => ?_)
        refine lv_goto (tgt := 97) hx hb dX6_keep_93 (by decide) ?_
        have he : keep_e σ (nI n0).toInt = 3 := by unfold keep_e; (try simp only [hT0, Int.toNat_natCast]); (repeat' split) <;> omega
        exact fin_i hx hb hr hlk hS hP hD (nF σ) trivial (by rw [he]; first | done | ((try simp only [hT0, Int.toNat_natCast]); first | done | rfl)) (by rw [he]; (try simp only [hT0, Int.toNat_natCast]); exact eqW.rf _) dX6_keep_97
    · have hW := wall_Inv hI k (σ 5) i5
      have hE0 : wallN σ k (σ 5) 0 = σ 0 := wall_s σ k (by decide) _
      have hE4 : wallN σ k (σ 5) 4 = σ 4 := wall_s σ k (by decide) _
      refine lv_iload_n hx hb dX6_keep_36 rfl (lv_at hl 1 rfl) ?_
      refine r_if_lt hx hb (tgt := 51) dX6_keep_37 (by decide) (fun c_4 => ?_) (fun c_4 => ?_)
      · refine lv_iconst (v := nI 1) hx hb dX6_keep_51 rfl ?_
        refine lv_goto (tgt := 56) hx hb dX6_keep_52 (by decide) ?_
        refine lv_istore (lv' := [(4, .int (nI 1)), (3, .int (nI k)), (2, .int (iI (kpN σ n0 k))), (0, .ref (b 0)), (1, .int (nI n0))]) hx hb dX6_keep_56 hl (by decide) rfl (fun ls hl => ?_)
        refine lv_iload hx hb dX6_keep_58 (lv_at hl 0 rfl) ?_
        refine n_if_eq hx hb (by omega) (tgt := 76) dX6_keep_60 (by decide) (fun c_5 => ?_) (fun c_5 => ?_)
        · omega
        · refine lv_aload_n hx hb dX6_keep_63 rfl (lv_at hl 3 rfl) ?_
          refine lv_iload_n hx hb dX6_keep_64 rfl (lv_at hl 1 rfl) ?_
          refine lv_iload_n hx hb dX6_keep_65 rfl (lv_at hl 4 rfl) ?_
          refine callVI (rest := []) (wn := fun u => [mO b ζ vv, (b 4, .inl (G.2.1, 7, .inl tl)), (b 1, .inl (G.2.1, 46, .inl (nF σ))), (b 3, .inl (G.2.1, 46, .inl (nF σ)))]) ⟨hx, hb, hml, hown, hts⟩ (c_X6_isKeptOut l G H.size b ζ vv σ k n0 hI (by omega) (by omega)) (cwV 2 hts gX6_keep_X6_isKeptOut rfl rfl rfl (by decide +kernel) ⟨Nat.le_of_ble_eq_true rfl, Nat.le_of_ble_eq_true rfl⟩) noXB (fun _ _ _ => trivial) hK hP hD hS hAq 5 0 (T := TX6) (N := 18) rfl rfl rfl hl.1 rfl (Nat.le_of_ble_eq_true rfl) dX6_keep_66 ⟨Nat.le_of_ble_eq_true rfl, Nat.le_of_ble_eq_true rfl⟩ [0, 2, 3] rfl rfl [b 0, b 1, b 3] rfl (fun _ => rfl) (fun _ => rfl) (fun u H locs hok hP hD hS => ?_)
          refine z_if_eq hx hb (tgt := 76) dX6_keep_69 (by decide) (fun c_6 => ?_) (fun c_6 => ?_)
          · refine lv_iload_n hx hb dX6_keep_76 rfl (lv_at hl 2 rfl) ?_
            refine lv_istore_n (lv' := [(2, .int (iI (kpN σ n0 k))), (4, .int (nI 1)), (3, .int (nI k)), (0, .ref (b 0)), (1, .int (nI n0))]) hx hb dX6_keep_77 rfl hl (by decide) rfl (fun ls hl => ?_)
            refine n_iinc (lv' := [(3, .int (nI (k + 1))), (2, .int (iI (kpN σ n0 k))), (4, .int (nI 1)), (0, .ref (b 0)), (1, .int (nI n0))]) hx hb dX6_keep_78 hl (k := 2) rfl (by decide) rfl (fun ls hl => ?_)
            refine lv_goto (tgt := 24) hx hb dX6_keep_81 (by decide) ?_
            have e1 : kpN σ n0 (k + 1) = kpN σ n0 k := by rw [kp_S]; unfold kpS; first | (exfalso; omega) | rw [if_neg (fun q => by have h8 := hfi.mpr q.1; have h9 := q.2; omega)] | rw [if_neg (fun q => by have h9 := q.2; omega)] | rw [if_neg (fun q => by have h9 := q.1; omega)]
            exact ih (k + 1) _ _ _ (by omega) (by omega) hP hD hS (by rw [e1]; exact (lv_sub hl [0, 1, 3, 4] rfl))
          · refine lv_iload_n hx hb dX6_keep_72 rfl (lv_at hl 1 rfl) ?_
            refine lv_goto (tgt := 77) hx hb dX6_keep_73 (by decide) ?_
            refine lv_istore_n (lv' := [(2, .int (nI k)), (4, .int (nI 1)), (3, .int (nI k)), (0, .ref (b 0)), (1, .int (nI n0))]) hx hb dX6_keep_77 rfl hl (by decide) rfl (fun ls hl => ?_)
            refine n_iinc (lv' := [(3, .int (nI (k + 1))), (2, .int (nI k)), (4, .int (nI 1)), (0, .ref (b 0)), (1, .int (nI n0))]) hx hb dX6_keep_78 hl (k := 2) rfl (by decide) rfl (fun ls hl => ?_)
            refine lv_goto (tgt := 24) hx hb dX6_keep_81 (by decide) ?_
            have e1 : kpN σ n0 (k + 1) = ((k : Nat) : Int) := by rw [kp_S]; unfold kpS; first | (exfalso; omega) | rw [if_pos ⟨hfi.mp (by omega), by omega⟩] | rw [if_pos ⟨by omega, by omega⟩]
            have e2 : iI (kpN σ n0 (k + 1)) = nI k := by rw [e1]; exact iI_n
            have e3 : fewN (kpN σ n0 (k + 1)) = popc k := by rw [e1]; unfold fewN; rw [if_neg (by omega), Int.toNat_natCast]
            exact ih (k + 1) _ _ _ (by omega) (by omega) hP hD hS (by rw [e2]; exact (lv_sub hl [0, 1, 3, 4] rfl))
      · refine lv_iload_n hx hb dX6_keep_40 rfl (lv_at hl 0 rfl) ?_
        refine callSI (rest := []) (wn := fun u => [mO b ζ vv, (b 4, .inl (G.2.1, 7, .inl tl)), (b 1, .inl (G.2.1, 46, .inl (nF σ))), (b 3, .inl (G.2.1, 46, .inl (nF σ)))]) ⟨hx, hb, hml, hown, hts⟩ (c_X6_bits l G H.size k (by omega)) (va_cwS 1 hts gX6_keep_X6_bits rfl rfl rfl (by decide +kernel) ⟨Nat.le_of_ble_eq_true rfl, Nat.le_of_ble_eq_true rfl⟩) noXB (fun _ _ _ => trivial) hK hP hD hS hAq rfl hl.1 rfl (Nat.le_of_ble_eq_true rfl) dX6_keep_41 ⟨Nat.le_of_ble_eq_true rfl, Nat.le_of_ble_eq_true rfl⟩ [] rfl rfl [] rfl (fun _ => rfl) (fun _ => rfl) (fun u H locs hok hP hD hS => ?_)
        refine lv_iload_n hx hb dX6_keep_44 rfl (lv_at hl 1 rfl) ?_
        refine n_top (iI_nat (by omega)) ?_
        refine callSI (rest := [.int (nI (popc k))]) (wn := fun u => [mO b ζ vv, (b 4, .inl (G.2.1, 7, .inl tl)), (b 1, .inl (G.2.1, 46, .inl (nF σ))), (b 3, .inl (G.2.1, 46, .inl (nF σ)))]) ⟨hx, hb, hml, hown, hts⟩ (c_X6_bits l G H.size ((kpN σ n0 k).toNat) (by omega)) (va_cwS 1 hts gX6_keep_X6_bits rfl rfl rfl (by decide +kernel) ⟨Nat.le_of_ble_eq_true rfl, Nat.le_of_ble_eq_true rfl⟩) noXB (fun _ _ _ => trivial) hK hP hD hS hAq rfl hl.1 rfl (Nat.le_of_ble_eq_true rfl) dX6_keep_45 ⟨Nat.le_of_ble_eq_true rfl, Nat.le_of_ble_eq_true rfl⟩ [] rfl rfl [] rfl (fun _ => rfl) (fun _ => rfl) (fun u H locs hok hP hD hS => ?_)
        refine n_icmp_ge hx hb (by omega) (by omega) (tgt := 55) dX6_keep_48 (by decide) (fun c_7 => ?_) (fun c_7 => ?_)
        · refine lv_iconst (v := nI 0) hx hb dX6_keep_55 rfl ?_
          refine lv_istore (lv' := [(4, .int (nI 0)), (3, .int (nI k)), (2, .int (iI (kpN σ n0 k))), (0, .ref (b 0)), (1, .int (nI n0))]) hx hb dX6_keep_56 hl (by decide) rfl (fun ls hl => ?_)
          refine lv_iload hx hb dX6_keep_58 (lv_at hl 0 rfl) ?_
          refine n_if_eq hx hb (by omega) (tgt := 76) dX6_keep_60 (by decide) (fun c_8 => ?_) (fun c_8 => ?_)
          · refine lv_iload_n hx hb dX6_keep_76 rfl (lv_at hl 2 rfl) ?_
            refine lv_istore_n (lv' := [(2, .int (iI (kpN σ n0 k))), (4, .int (nI 0)), (3, .int (nI k)), (0, .ref (b 0)), (1, .int (nI n0))]) hx hb dX6_keep_77 rfl hl (by decide) rfl (fun ls hl => ?_)
            refine n_iinc (lv' := [(3, .int (nI (k + 1))), (2, .int (iI (kpN σ n0 k))), (4, .int (nI 0)), (0, .ref (b 0)), (1, .int (nI n0))]) hx hb dX6_keep_78 hl (k := 2) rfl (by decide) rfl (fun ls hl => ?_)
            refine lv_goto (tgt := 24) hx hb dX6_keep_81 (by decide) ?_
            have e1 : kpN σ n0 (k + 1) = kpN σ n0 k := by rw [kp_S]; unfold kpS; first | (exfalso; omega) | rw [if_neg (fun q => by have h8 := hfi.mpr q.1; have h9 := q.2; omega)] | rw [if_neg (fun q => by have h9 := q.2; omega)] | rw [if_neg (fun q => by have h9 := q.1; omega)]
            exact ih (k + 1) _ _ _ (by omega) (by omega) hP hD hS (by rw [e1]; exact (lv_sub hl [0, 1, 3, 4] rfl))
          · omega
        · refine lv_iconst (v := nI 1) hx hb dX6_keep_51 rfl ?_
          refine lv_goto (tgt := 56) hx hb dX6_keep_52 (by decide) ?_
          refine lv_istore (lv' := [(4, .int (nI 1)), (3, .int (nI k)), (2, .int (iI (kpN σ n0 k))), (0, .ref (b 0)), (1, .int (nI n0))]) hx hb dX6_keep_56 hl (by decide) rfl (fun ls hl => ?_)
          refine lv_iload hx hb dX6_keep_58 (lv_at hl 0 rfl) ?_
          refine n_if_eq hx hb (by omega) (tgt := 76) dX6_keep_60 (by decide) (fun c_9 => ?_) (fun c_9 => ?_)
          · omega
          · refine lv_aload_n hx hb dX6_keep_63 rfl (lv_at hl 3 rfl) ?_
            refine lv_iload_n hx hb dX6_keep_64 rfl (lv_at hl 1 rfl) ?_
            refine lv_iload_n hx hb dX6_keep_65 rfl (lv_at hl 4 rfl) ?_
            refine callVI (rest := []) (wn := fun u => [mO b ζ vv, (b 4, .inl (G.2.1, 7, .inl tl)), (b 1, .inl (G.2.1, 46, .inl (nF σ))), (b 3, .inl (G.2.1, 46, .inl (nF σ)))]) ⟨hx, hb, hml, hown, hts⟩ (c_X6_isKeptOut l G H.size b ζ vv σ k n0 hI (by omega) (by omega)) (cwV 2 hts gX6_keep_X6_isKeptOut rfl rfl rfl (by decide +kernel) ⟨Nat.le_of_ble_eq_true rfl, Nat.le_of_ble_eq_true rfl⟩) noXB (fun _ _ _ => trivial) hK hP hD hS hAq 5 0 (T := TX6) (N := 18) rfl rfl rfl hl.1 rfl (Nat.le_of_ble_eq_true rfl) dX6_keep_66 ⟨Nat.le_of_ble_eq_true rfl, Nat.le_of_ble_eq_true rfl⟩ [0, 2, 3] rfl rfl [b 0, b 1, b 3] rfl (fun _ => rfl) (fun _ => rfl) (fun u H locs hok hP hD hS => ?_)
            refine z_if_eq hx hb (tgt := 76) dX6_keep_69 (by decide) (fun c_10 => ?_) (fun c_10 => ?_)
            · refine lv_iload_n hx hb dX6_keep_76 rfl (lv_at hl 2 rfl) ?_
              refine lv_istore_n (lv' := [(2, .int (iI (kpN σ n0 k))), (4, .int (nI 1)), (3, .int (nI k)), (0, .ref (b 0)), (1, .int (nI n0))]) hx hb dX6_keep_77 rfl hl (by decide) rfl (fun ls hl => ?_)
              refine n_iinc (lv' := [(3, .int (nI (k + 1))), (2, .int (iI (kpN σ n0 k))), (4, .int (nI 1)), (0, .ref (b 0)), (1, .int (nI n0))]) hx hb dX6_keep_78 hl (k := 2) rfl (by decide) rfl (fun ls hl => ?_)
              refine lv_goto (tgt := 24) hx hb dX6_keep_81 (by decide) ?_
              have e1 : kpN σ n0 (k + 1) = kpN σ n0 k := by rw [kp_S]; unfold kpS; first | (exfalso; omega) | rw [if_neg (fun q => by have h8 := hfi.mpr q.1; have h9 := q.2; omega)] | rw [if_neg (fun q => by have h9 := q.2; omega)] | rw [if_neg (fun q => by have h9 := q.1; omega)]
              exact ih (k + 1) _ _ _ (by omega) (by omega) hP hD hS (by rw [e1]; exact (lv_sub hl [0, 1, 3, 4] rfl))
            · refine lv_iload_n hx hb dX6_keep_72 rfl (lv_at hl 1 rfl) ?_
              refine lv_goto (tgt := 77) hx hb dX6_keep_73 (by decide) ?_
              refine lv_istore_n (lv' := [(2, .int (nI k)), (4, .int (nI 1)), (3, .int (nI k)), (0, .ref (b 0)), (1, .int (nI n0))]) hx hb dX6_keep_77 rfl hl (by decide) rfl (fun ls hl => ?_)
              refine n_iinc (lv' := [(3, .int (nI (k + 1))), (2, .int (nI k)), (4, .int (nI 1)), (0, .ref (b 0)), (1, .int (nI n0))]) hx hb dX6_keep_78 hl (k := 2) rfl (by decide) rfl (fun ls hl => ?_)
              refine lv_goto (tgt := 24) hx hb dX6_keep_81 (by decide) ?_
              have e1 : kpN σ n0 (k + 1) = ((k : Nat) : Int) := by rw [kp_S]; unfold kpS; first | (exfalso; omega) | rw [if_pos ⟨hfi.mp (by omega), by omega⟩] | rw [if_pos ⟨by omega, by omega⟩]
              have e2 : iI (kpN σ n0 (k + 1)) = nI k := by rw [e1]; exact iI_n
              have e3 : fewN (kpN σ n0 (k + 1)) = popc k := by rw [e1]; unfold fewN; rw [if_neg (by omega), Int.toNat_natCast]
              exact ih (k + 1) _ _ _ (by omega) (by omega) hP hD hS (by rw [e2]; exact (lv_sub hl [0, 1, 3, 4] rfl))
  · refine lv_aload_n hx hb dX6_keep_10 rfl (lv_at hl 0 rfl) ?_
    refine lv_iconst (v := nI 0) hx hb dX6_keep_11 rfl ?_
    refine callVI (rest := []) (wn := fun u => [mO b ζ vv, (b 4, .inl (G.2.1, 7, .inl (tk tl 0))), (b 1, .inl (G.2.1, 46, .inl (nF σ))), (b 3, .inl (G.2.1, 46, .inl F))]) ⟨hx, hb, hml, hown, hts⟩ (c_X6_no l G H.size b ζ vv tl 0 (by omega)) (cwV 1 hts gX6_keep_X6_no rfl rfl rfl (by decide +kernel) ⟨Nat.le_of_ble_eq_true rfl, Nat.le_of_ble_eq_true rfl⟩) noXB (fun _ _ _ => trivial) hK hP hD hS hAq 5 0 (T := TX6) (N := 18) rfl rfl rfl hl.1 rfl (Nat.le_of_ble_eq_true rfl) dX6_keep_12 ⟨Nat.le_of_ble_eq_true rfl, Nat.le_of_ble_eq_true rfl⟩ [0, 1] rfl rfl [b 0, b 4] rfl (fun _ => rfl) (fun _ => rfl) (fun u H locs hok hP hD hS => ?_)
    have he : keep_e σ a0.toInt = 0 := by unfold keep_e; (try simp only [Int.toNat_natCast]); (repeat' split) <;> omega
    exact fin_i hx hb hr hlk hS hP hD (F) trivial (by rw [he]; first | done | ((try simp only [Int.toNat_natCast]); first | done | rfl)) (by rw [he]; (try simp only [Int.toNat_natCast]); exact eqW.rf _) dX6_keep_15
