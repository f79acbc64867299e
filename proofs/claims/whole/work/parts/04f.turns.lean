set_option maxHeartbeats 400000 in
set_option maxRecDepth 100000 in
theorem c_X5_turns (l : Launch) (G : GT) (sz : Nat) (x hm kp tr : Nat → Nat) (hi : Nat) (tl : Nat → Int32) (σ τ : Sg) (a0 : Int32) (hI : Inv σ) (hd0 : σ 0 ≤ 9999) : MI (S := Sg) l G noX yX5_turns wsX5_turns ({ frames := 6, cells := 0, slots := 0, locals := 134 } : Room) [.ref (x 0), .int a0] (([xO x hm kp tr hi, (x 7, .inl (G.2.1, 7, .inl tl))] ++ (wH G hm σ ++ (wH G tr τ)))) sz (fun _ => True) (fun u => rs (turns_e σ a0.toInt) (iI (trO σ a0.toInt.toNat (σ 5)).2)) (fun u => ([xO x hm kp tr hi, (x 7, .inl (G.2.1, 7, .inl (ts tl (turns_e σ a0.toInt))))] ++ (wH G hm σ ++ (wH G tr u)))) := by
  refine MI_enter (cc := cX5_turns) (maxL := 6) (ret := (some .int)) (by decide) rfl (Nat.le_of_ble_eq_true rfl) ?_
  intro p e s m below meth c A ls H hx hb hr hlk hml hown hts hAq hS hP hK hD hX hl hnm
  have hown : s.vm.findClass RX5 = some m.cls := hown
  have hl : lv_has ls 6 [(0, .ref (x 0)), (1, .int a0)] := hl
  obtain ⟨⟨i1, i2, i3, i4, i5⟩, ip⟩ := id hI
  refine lv_iload_n hx hb dX5_turns_0 rfl (lv_at hl 1 rfl) ?_
  refine lv_iconst (v := nI 1) hx hb dX5_turns_1 rfl ?_
  refine lv_bipush (v := nI 60) hx hb dX5_turns_2 rfl ?_
  refine callSI (rest := []) (wn := fun u => ([xO x hm kp tr hi, (x 7, .inl (G.2.1, 7, .inl tl))] ++ (wH G hm σ ++ (wH G tr τ)))) ⟨hx, hb, hml, hown, hts⟩ (c_X5_isWithin l G H.size a0 (nI 1) (nI 60)) (va_cwS 3 hts gX5_turns_X5_isWithin rfl rfl rfl (by decide +kernel) ⟨Nat.le_of_ble_eq_true rfl, Nat.le_of_ble_eq_true rfl⟩) noXB (fun _ _ _ => trivial) hK hP hD hS hAq rfl hl.1 rfl (Nat.le_of_ble_eq_true rfl) dX5_turns_4 ⟨Nat.le_of_ble_eq_true rfl, Nat.le_of_ble_eq_true rfl⟩ [] rfl rfl [] rfl (fun _ => rfl) (fun _ => rfl) (fun u H locs hok hP hD hS => ?_)
  refine n_top (y := zI ((1 : Int) ≤ a0.toInt ∧ a0.toInt ≤ 60)) (zI_c (by rw [nI_T (show 1 < 2147483648 by decide), nI_T (show 60 < 2147483648 by decide)]; exact Iff.rfl)) ?_
  refine z_if_ne hx hb (tgt := 16) dX5_turns_7 (by decide) (fun c_1 => ?_) (fun c_1 => ?_)
  · obtain ⟨n0, hn0, rfl⟩ := nI_of_rg (n := 60) (x := a0) ⟨by omega, by omega⟩
    have hT0 := nI_T (a := n0) (by omega)
    refine lv_aload_n hx hb dX5_turns_16 rfl (lv_at hl 0 rfl) ?_
    refine lv_iload_n hx hb dX5_turns_17 rfl (lv_at hl 1 rfl) ?_
    refine callVV (rest := []) (wn := fun u => ([xO x hm kp tr hi, (x 7, .inl (G.2.1, 7, .inl tl))] ++ (wH G hm σ ++ (wH G tr (daysN n0 σ))))) ⟨hx, hb, hml, hown, hts⟩ (c_X5_tryAsItIs l G H.size x hm kp tr hi σ τ n0 hI (by omega)) (cwV 1 hts gX5_turns_X5_tryAsItIs rfl rfl rfl (by decide +kernel) ⟨Nat.le_of_ble_eq_true rfl, Nat.le_of_ble_eq_true rfl⟩) noXB (fun _ _ _ => trivial) hK hP hD hS hAq 4 0 (T := TX5) (N := 7) rfl rfl rfl hl.1 rfl (Nat.le_of_ble_eq_true rfl) dX5_turns_18 ⟨Nat.le_of_ble_eq_true rfl, Nat.le_of_ble_eq_true rfl⟩ [0, 2, 3, 4, 5, 6, 7, 8, 9, 10, 11, 12, 13] rfl rfl [x 0, hm 0, hm 1, hm 2, hm 3, hm 4, hm 5, tr 0, tr 1, tr 2, tr 3, tr 4, tr 5] rfl (fun _ => rfl) (fun _ => rfl) (fun u H locs hok hP hD hS => ?_)
    refine lv_aload_n hx hb dX5_turns_21 rfl (lv_at hl 0 rfl) ?_
    refine n_get (C := RX5) (T := TX5) (N := 7) hx hb hts (fun _ h => List.mem_cons_of_mem _ (List.mem_append_left _ (List.mem_append_right _ h))) hown hK hP 0 rfl rfl 2 (by decide) (List.mem_of_getElem? (i := 1) rfl) rfl (.ref (tr 0)) rfl dX5_turns_22 ?_
    refine n_get (C := RX0) (T := TX0) (N := 11) hx hb hts (fun _ h => List.mem_cons_of_mem _ (List.mem_append_right _ h)) hown hK hP 8 rfl rfl 3 (by decide) (List.mem_of_getElem? (i := 2) rfl) rfl (.int (nI ((daysN n0 σ) 3))) rfl dX5_turns_25 ?_
    refine lv_istore_n (lv' := [(2, .int (nI ((daysN n0 σ) 3))), (0, .ref (x 0)), (1, .int (nI n0))]) hx hb dX5_turns_28 rfl hl (by decide) rfl (fun ls hl => ?_)
    refine lv_iconst (v := (-1)) hx hb dX5_turns_29 rfl ?_
    refine n_top (y := iI (-1)) (by decide) ?_
    refine lv_istore_n (lv' := [(3, .int (iI (-1))), (2, .int (nI ((daysN n0 σ) 3))), (0, .ref (x 0)), (1, .int (nI n0))]) hx hb dX5_turns_30 rfl hl (by decide) rfl (fun ls hl => ?_)
    refine lv_iconst (v := nI 0) hx hb dX5_turns_31 rfl ?_
    refine lv_istore (lv' := [(4, .int (nI 0)), (3, .int (iI (-1))), (2, .int (nI ((daysN n0 σ) 3))), (0, .ref (x 0)), (1, .int (nI n0))]) hx hb dX5_turns_32 hl (by decide) rfl (fun ls hl => ?_)
    refine W_loop2 (I := fun (i : Nat) (τ1 : Sg) => i ≤ σ 5) (wd := fun (i : Nat) (τ1 : Sg) => ([xO x hm kp tr hi, (x 7, .inl (G.2.1, 7, .inl tl))] ++ (wH G hm σ ++ (wH G tr τ1)))) (lv := fun (i : Nat) (τ1 : Sg) => [(4, .int (nI i)), (2, .int (nI ((trO σ n0 i).1))), (3, .int (iI (trO σ n0 i).2)), (0, .ref (x 0)), (1, .int (nI n0))]) (μ := fun (i : Nat) (τ1 : Sg) => σ 5 - i) ?_ 0 (daysN n0 σ) (by omega) hP hD hS (lv_sub hl [0, 2, 1, 3, 4] rfl)
    intro i τ1 H locs ls hI0 hP hD hS hl ih
    have hiq : i ≤ σ 5 := hI0
    have hok0 := trO_ok hI (n := n0) i hiq
    obtain ⟨ok1, ok2, ok3⟩ := id hok0
    have hT8 : (iI (trO σ n0 i).2).toInt = (trO σ n0 i).2 := iI_T (by omega) (by omega)
    refine lv_iload hx hb dX5_turns_34 (lv_at hl 0 rfl) ?_
    refine lv_aload_n hx hb dX5_turns_36 rfl (lv_at hl 3 rfl) ?_
    refine n_get (C := RX5) (T := TX5) (N := 7) hx hb hts (fun _ h => List.mem_cons_of_mem _ (List.mem_append_left _ (List.mem_append_right _ h))) hown hK hP 0 rfl rfl 0 (by decide) (List.mem_of_getElem? (i := 3) rfl) rfl (.ref (hm 0)) rfl dX5_turns_37 ?_
    refine n_get (C := RX0) (T := TX0) (N := 11) hx hb hts (fun _ h => List.mem_cons_of_mem _ (List.mem_append_right _ h)) hown hK hP 2 rfl rfl 5 (by decide) (List.mem_of_getElem? (i := 4) rfl) rfl (.int (nI (σ 5))) rfl dX5_turns_40 ?_
    refine n_icmp_ge hx hb (by omega) (by omega) (tgt := 134) dX5_turns_43 (by decide) (fun c_2 => ?_) (fun c_2 => ?_)
    · have hk5 : i = σ 5 := by omega
      subst hk5
      refine lv_iload_n hx hb dX5_turns_134 rfl (lv_at hl 2 rfl) ?_
      refine r_if_ge hx hb (tgt := 146) dX5_turns_135 (by decide) (fun c_3 => ?_) (fun c_3 => ?_)
      · refine lv_iload_n hx hb dX5_turns_146 rfl (lv_at hl 2 rfl) ?_
        have he : turns_e σ (nI n0).toInt = 7 := by unfold turns_e; (try simp only [hT0, Int.toNat_natCast]); (repeat' split) <;> omega
        exact fin_i hx hb hr hlk hS hP hD τ1 trivial (by rw [he]; first | done | ((try simp only [hT0, Int.toNat_natCast]); first | done | rfl)) (by rw [he]; (try simp only [hT0, Int.toNat_natCast]); exact eqW.rf _) dX5_turns_147
      · refine lv_aload_n hx hb dX5_turns_138 rfl (lv_at hl 3 rfl) ?_
        refine lv_iconst (v := nI 3) hx hb dX5_turns_139 rfl ?_
        refine callVI (rest := []) (wn := fun u => ([xO x hm kp tr hi, (x 7, .inl (G.2.1, 7, .inl (tk tl 3)))] ++ (wH G hm σ ++ (wH G tr τ1)))) ⟨hx, hb, hml, hown, hts⟩ (c_X5_tell l G H.size x hm kp tr hi tl 3 (by omega)) (cwV 1 hts gX5_turns_X5_tell rfl rfl rfl (by decide +kernel) ⟨Nat.le_of_ble_eq_true rfl, Nat.le_of_ble_eq_true rfl⟩) noXB (fun _ _ _ => trivial) hK hP hD hS hAq 4 0 (T := TX5) (N := 7) rfl rfl rfl hl.1 rfl (Nat.le_of_ble_eq_true rfl) dX5_turns_140 ⟨Nat.le_of_ble_eq_true rfl, Nat.le_of_ble_eq_true rfl⟩ [0, 1] rfl rfl [x 0, x 7] rfl (fun _ => rfl) (fun _ => rfl) (fun u H locs hok hP hD hS => ?_)
        refine lv_goto (tgt := 147) hx hb dX5_turns_143 (by decide) ?_
        have he : turns_e σ (nI n0).toInt = 3 := by unfold turns_e; (try simp only [hT0, Int.toNat_natCast]); (repeat' split) <;> omega
        exact fin_i hx hb hr hlk hS hP hD τ1 trivial (by rw [he]; first | done | ((try simp only [hT0, Int.toNat_natCast]); first | done | rfl)) (by rw [he]; (try simp only [hT0, Int.toNat_natCast]); exact eqW.rf _) dX5_turns_147
    · refine lv_iload hx hb dX5_turns_46 (lv_at hl 0 rfl) ?_
      refine lv_iconst (v := nI 1) hx hb dX5_turns_48 rfl ?_
      refine n_iadd hx hb dX5_turns_49 ?_
      refine lv_istore (lv' := [(5, .int (nI (i + 1))), (4, .int (nI i)), (2, .int (nI ((trO σ n0 i).1))), (3, .int (iI (trO σ n0 i).2)), (0, .ref (x 0)), (1, .int (nI n0))]) hx hb dX5_turns_50 hl (by decide) rfl (fun ls hl => ?_)
      refine W_loop2 (I := fun (j : Nat) (τ2 : Sg) => i + 1 + j ≤ σ 5) (wd := fun (j : Nat) (τ2 : Sg) => ([xO x hm kp tr hi, (x 7, .inl (G.2.1, 7, .inl tl))] ++ (wH G hm σ ++ (wH G tr τ2)))) (lv := fun (j : Nat) (τ2 : Sg) => [(5, .int (nI (i + 1 + j))), (2, .int (nI ((trI σ n0 i (trO σ n0 i) j).1))), (3, .int (iI (trI σ n0 i (trO σ n0 i) j).2)), (4, .int (nI i)), (0, .ref (x 0)), (1, .int (nI n0))]) (μ := fun (j : Nat) (τ2 : Sg) => σ 5 - j) ?_ 0 τ1 (by omega) hP hD hS (lv_sub hl [0, 2, 3, 1, 4, 5] rfl)
      intro j τ2 H locs ls hI0 hP hD hS hl ih1
      have hj : i + 1 + j ≤ σ 5 := hI0
      have hok1 := trI_ok hI (n := n0) (i := i) (by omega) hok0 j (by omega)
      obtain ⟨ik1, ik2, ik3⟩ := id hok1
      refine lv_iload hx hb dX5_turns_52 (lv_at hl 0 rfl) ?_
      refine lv_aload_n hx hb dX5_turns_54 rfl (lv_at hl 4 rfl) ?_
      refine n_get (C := RX5) (T := TX5) (N := 7) hx hb hts (fun _ h => List.mem_cons_of_mem _ (List.mem_append_left _ (List.mem_append_right _ h))) hown hK hP 0 rfl rfl 0 (by decide) (List.mem_of_getElem? (i := 3) rfl) rfl (.ref (hm 0)) rfl dX5_turns_55 ?_
      refine n_get (C := RX0) (T := TX0) (N := 11) hx hb hts (fun _ h => List.mem_cons_of_mem _ (List.mem_append_right _ h)) hown hK hP 2 rfl rfl 5 (by decide) (List.mem_of_getElem? (i := 4) rfl) rfl (.int (nI (σ 5))) rfl dX5_turns_58 ?_
      refine n_icmp_ge hx hb (by omega) (by omega) (tgt := 128) dX5_turns_61 (by decide) (fun c_4 => ?_) (fun c_4 => ?_)
      · have hk5 : j = σ 5 - (i + 1) := by omega
        subst hk5
        refine n_iinc (lv' := [(4, .int (nI (i + 1))), (5, .int (nI (i + 1 + (σ 5 - (i + 1))))), (2, .int (nI ((trI σ n0 i (trO σ n0 i) (σ 5 - (i + 1))).1))), (3, .int (iI (trI σ n0 i (trO σ n0 i) (σ 5 - (i + 1))).2)), (0, .ref (x 0)), (1, .int (nI n0))]) hx hb dX5_turns_128 hl (k := 3) rfl (by decide) rfl (fun ls hl => ?_)
        refine lv_goto (tgt := 34) hx hb dX5_turns_131 (by decide) ?_
        have e1 : (trO σ n0 (i + 1)).1 = (trI σ n0 i (trO σ n0 i) (σ 5 - (i + 1))).1 := congrArg Prod.fst (trO_S σ n0 i)
        have e2 : iI (trO σ n0 (i + 1)).2 = iI (trI σ n0 i (trO σ n0 i) (σ 5 - (i + 1))).2 := congrArg (fun q : Nat × Int => iI q.2) (trO_S σ n0 i)
        exact ih (i + 1) τ2 _ _ _ (by omega) (by omega) hP hD hS (by rw [e1, e2]; exact (lv_sub hl [0, 2, 3, 4, 5] rfl))
      · have hIu : Inv (swapN σ i (i + 1 + j)) := swap_Inv hI (by omega) (by omega)
        have hE0 : swapN σ i (i + 1 + j) 0 = σ 0 := swap_s (by decide)
        have hEc : daysN n0 (swapN σ i (i + 1 + j)) 3 ≤ 99999999 := (days_Inv hIu n0).1.2.2.1
        refine lv_aload_n hx hb dX5_turns_64 rfl (lv_at hl 4 rfl) ?_
        refine n_get (C := RX5) (T := TX5) (N := 7) hx hb hts (fun _ h => List.mem_cons_of_mem _ (List.mem_append_left _ (List.mem_append_right _ h))) hown hK hP 0 rfl rfl 2 (by decide) (List.mem_of_getElem? (i := 1) rfl) rfl (.ref (tr 0)) rfl dX5_turns_65 ?_
        refine lv_aload_n hx hb dX5_turns_68 rfl (lv_at hl 4 rfl) ?_
        refine n_get (C := RX5) (T := TX5) (N := 7) hx hb hts (fun _ h => List.mem_cons_of_mem _ (List.mem_append_left _ (List.mem_append_right _ h))) hown hK hP 0 rfl rfl 0 (by decide) (List.mem_of_getElem? (i := 3) rfl) rfl (.ref (hm 0)) rfl dX5_turns_69 ?_
        refine callVV (rest := []) (wn := fun u => ([xO x hm kp tr hi, (x 7, .inl (G.2.1, 7, .inl tl))] ++ (wH G hm σ ++ (wH G tr σ)))) ⟨hx, hb, hml, hown, hts⟩ (c_X0_become l G H.size tr τ2 hm σ) (cwV 1 hts gX5_turns_X0_become rfl rfl rfl (by decide +kernel) ⟨Nat.le_of_ble_eq_true rfl, Nat.le_of_ble_eq_true rfl⟩) noXB (fun _ _ _ => trivial) hK hP hD hS hAq 0 0 (T := TX0) (N := 11) rfl rfl rfl hl.1 rfl (Nat.le_of_ble_eq_true rfl) dX5_turns_72 ⟨Nat.le_of_ble_eq_true rfl, Nat.le_of_ble_eq_true rfl⟩ [8, 9, 10, 11, 12, 13, 2, 3, 4, 5, 6, 7] rfl rfl [tr 0, tr 1, tr 2, tr 3, tr 4, tr 5, hm 0, hm 1, hm 2, hm 3, hm 4, hm 5] rfl (fun _ => rfl) (fun _ => rfl) (fun u H locs hok hP hD hS => ?_)
        refine lv_aload_n hx hb dX5_turns_75 rfl (lv_at hl 4 rfl) ?_
        refine n_get (C := RX5) (T := TX5) (N := 7) hx hb hts (fun _ h => List.mem_cons_of_mem _ (List.mem_append_left _ (List.mem_append_right _ h))) hown hK hP 0 rfl rfl 2 (by decide) (List.mem_of_getElem? (i := 1) rfl) rfl (.ref (tr 0)) rfl dX5_turns_76 ?_
        refine lv_iload hx hb dX5_turns_79 (lv_at hl 3 rfl) ?_
        refine lv_iload hx hb dX5_turns_81 (lv_at hl 0 rfl) ?_
        refine callVV (rest := []) (wn := fun u => ([xO x hm kp tr hi, (x 7, .inl (G.2.1, 7, .inl tl))] ++ (wH G hm σ ++ (wH G tr (swapN σ i (i + 1 + j)))))) ⟨hx, hb, hml, hown, hts⟩ (c_X0_changeNumbers l G H.size tr σ i (i + 1 + j) (by omega) (by omega) (by omega)) (cwV 2 hts gX5_turns_X0_changeNumbers rfl rfl rfl (by decide +kernel) ⟨Nat.le_of_ble_eq_true rfl, Nat.le_of_ble_eq_true rfl⟩) noXB (fun _ _ _ => trivial) hK hP hD hS hAq 0 0 (T := TX0) (N := 11) rfl rfl rfl hl.1 rfl (Nat.le_of_ble_eq_true rfl) dX5_turns_83 ⟨Nat.le_of_ble_eq_true rfl, Nat.le_of_ble_eq_true rfl⟩ [8, 9, 10, 11, 12, 13] rfl rfl [tr 0, tr 1, tr 2, tr 3, tr 4, tr 5] rfl (fun _ => rfl) (fun _ => rfl) (fun u H locs hok hP hD hS => ?_)
        refine lv_aload_n hx hb dX5_turns_86 rfl (lv_at hl 4 rfl) ?_
        refine n_get (C := RX5) (T := TX5) (N := 7) hx hb hts (fun _ h => List.mem_cons_of_mem _ (List.mem_append_left _ (List.mem_append_right _ h))) hown hK hP 0 rfl rfl 2 (by decide) (List.mem_of_getElem? (i := 1) rfl) rfl (.ref (tr 0)) rfl dX5_turns_87 ?_
        refine lv_iload_n hx hb dX5_turns_90 rfl (lv_at hl 5 rfl) ?_
        refine callVV (rest := []) (wn := fun u => ([xO x hm kp tr hi, (x 7, .inl (G.2.1, 7, .inl tl))] ++ (wH G hm σ ++ (wH G tr (daysN n0 (swapN σ i (i + 1 + j))))))) ⟨hx, hb, hml, hown, hts⟩ (c_X0_goOn l G H.size tr (swapN σ i (i + 1 + j)) n0 hIu (by omega)) (cwV 1 hts gX5_turns_X0_goOn rfl rfl rfl (by decide +kernel) ⟨Nat.le_of_ble_eq_true rfl, Nat.le_of_ble_eq_true rfl⟩) noXB (fun _ _ _ => trivial) hK hP hD hS hAq 0 0 (T := TX0) (N := 11) rfl rfl rfl hl.1 rfl (Nat.le_of_ble_eq_true rfl) dX5_turns_91 ⟨Nat.le_of_ble_eq_true rfl, Nat.le_of_ble_eq_true rfl⟩ [8, 9, 10, 11, 12, 13] rfl rfl [tr 0, tr 1, tr 2, tr 3, tr 4, tr 5] rfl (fun _ => rfl) (fun _ => rfl) (fun u H locs hok hP hD hS => ?_)
        refine lv_aload_n hx hb dX5_turns_94 rfl (lv_at hl 4 rfl) ?_
        refine n_get (C := RX5) (T := TX5) (N := 7) hx hb hts (fun _ h => List.mem_cons_of_mem _ (List.mem_append_left _ (List.mem_append_right _ h))) hown hK hP 0 rfl rfl 2 (by decide) (List.mem_of_getElem? (i := 1) rfl) rfl (.ref (tr 0)) rfl dX5_turns_95 ?_
        refine n_get (C := RX0) (T := TX0) (N := 11) hx hb hts (fun _ h => List.mem_cons_of_mem _ (List.mem_append_right _ h)) hown hK hP 8 rfl rfl 3 (by decide) (List.mem_of_getElem? (i := 2) rfl) rfl (.int (nI ((daysN n0 (swapN σ i (i + 1 + j))) 3))) rfl dX5_turns_98 ?_
        refine lv_iload_n hx hb dX5_turns_101 rfl (lv_at hl 1 rfl) ?_
        refine n_icmp_le hx hb (by omega) (by omega) (tgt := 122) dX5_turns_102 (by decide) (fun c_5 => ?_) (fun c_5 => ?_)
        · refine n_iinc (lv' := [(5, .int (nI ((i + 1 + j) + 1))), (2, .int (nI ((trI σ n0 i (trO σ n0 i) j).1))), (3, .int (iI (trI σ n0 i (trO σ n0 i) j).2)), (4, .int (nI i)), (0, .ref (x 0)), (1, .int (nI n0))]) hx hb dX5_turns_122 hl (k := 0) rfl (by decide) rfl (fun ls hl => ?_)
          refine lv_goto (tgt := 52) hx hb dX5_turns_125 (by decide) ?_
          have e1 : (trI σ n0 i (trO σ n0 i) (j + 1)).1 = (trI σ n0 i (trO σ n0 i) j).1 := by first | (exfalso; omega) | (rw [trI_S]; unfold trS; first | rw [if_pos (by omega)] | rw [if_neg (by omega)])
          have e2 : iI (trI σ n0 i (trO σ n0 i) (j + 1)).2 = (iI (trI σ n0 i (trO σ n0 i) j).2) := by first | (exfalso; omega) | (rw [trI_S]; unfold trS; first | (rw [if_pos (by omega)]; exact iI_n) | rw [if_neg (by omega)])
          exact ih1 (j + 1) (daysN n0 (swapN σ i (i + 1 + j))) _ _ _ (by omega) (by omega) hP hD hS (by rw [e1, e2]; exact (lv_sub hl [0, 1, 2, 3, 4, 5] rfl))
        · refine lv_aload_n hx hb dX5_turns_105 rfl (lv_at hl 4 rfl) ?_
          refine n_get (C := RX5) (T := TX5) (N := 7) hx hb hts (fun _ h => List.mem_cons_of_mem _ (List.mem_append_left _ (List.mem_append_right _ h))) hown hK hP 0 rfl rfl 2 (by decide) (List.mem_of_getElem? (i := 1) rfl) rfl (.ref (tr 0)) rfl dX5_turns_106 ?_
          refine n_get (C := RX0) (T := TX0) (N := 11) hx hb hts (fun _ h => List.mem_cons_of_mem _ (List.mem_append_right _ h)) hown hK hP 8 rfl rfl 3 (by decide) (List.mem_of_getElem? (i := 2) rfl) rfl (.int (nI ((daysN n0 (swapN σ i (i + 1 + j))) 3))) rfl dX5_turns_109 ?_
          refine lv_istore_n (lv' := [(2, .int (nI ((daysN n0 (swapN σ i (i + 1 + j))) 3))), (5, .int (nI (i + 1 + j))), (3, .int (iI (trI σ n0 i (trO σ n0 i) j).2)), (4, .int (nI i)), (0, .ref (x 0)), (1, .int (nI n0))]) hx hb dX5_turns_112 rfl hl (by decide) rfl (fun ls hl => ?_)
          refine lv_bipush (v := nI 10) hx hb dX5_turns_113 rfl ?_
          refine lv_iload hx hb dX5_turns_115 (lv_at hl 3 rfl) ?_
          refine n_imul hx hb dX5_turns_117 ?_
          refine lv_iload hx hb dX5_turns_118 (lv_at hl 1 rfl) ?_
          refine n_iadd hx hb dX5_turns_120 ?_
          refine lv_istore_n (lv' := [(3, .int (nI ((10 * i) + (i + 1 + j)))), (2, .int (nI ((daysN n0 (swapN σ i (i + 1 + j))) 3))), (5, .int (nI (i + 1 + j))), (4, .int (nI i)), (0, .ref (x 0)), (1, .int (nI n0))]) hx hb dX5_turns_121 rfl hl (by decide) rfl (fun ls hl => ?_)
          refine n_iinc (lv' := [(5, .int (nI ((i + 1 + j) + 1))), (3, .int (nI ((10 * i) + (i + 1 + j)))), (2, .int (nI ((daysN n0 (swapN σ i (i + 1 + j))) 3))), (4, .int (nI i)), (0, .ref (x 0)), (1, .int (nI n0))]) hx hb dX5_turns_122 hl (k := 2) rfl (by decide) rfl (fun ls hl => ?_)
          refine lv_goto (tgt := 52) hx hb dX5_turns_125 (by decide) ?_
          have e1 : (trI σ n0 i (trO σ n0 i) (j + 1)).1 = (daysN n0 (swapN σ i (i + 1 + j))) 3 := by first | (exfalso; omega) | (rw [trI_S]; unfold trS; first | rw [if_pos (by omega)] | rw [if_neg (by omega)])
          have e2 : iI (trI σ n0 i (trO σ n0 i) (j + 1)).2 = (nI ((10 * i) + (i + 1 + j))) := by first | (exfalso; omega) | (rw [trI_S]; unfold trS; first | (rw [if_pos (by omega)]; exact iI_n) | rw [if_neg (by omega)])
          exact ih1 (j + 1) (daysN n0 (swapN σ i (i + 1 + j))) _ _ _ (by omega) (by omega) hP hD hS (by rw [e1, e2]; exact (lv_sub hl [0, 2, 1, 3, 4, 5] rfl))
  · refine lv_aload_n hx hb dX5_turns_10 rfl (lv_at hl 0 rfl) ?_
    refine lv_iconst (v := nI 0) hx hb dX5_turns_11 rfl ?_
    refine callVI (rest := []) (wn := fun u => ([xO x hm kp tr hi, (x 7, .inl (G.2.1, 7, .inl (tk tl 0)))] ++ (wH G hm σ ++ (wH G tr τ)))) ⟨hx, hb, hml, hown, hts⟩ (c_X5_tell l G H.size x hm kp tr hi tl 0 (by omega)) (cwV 1 hts gX5_turns_X5_tell rfl rfl rfl (by decide +kernel) ⟨Nat.le_of_ble_eq_true rfl, Nat.le_of_ble_eq_true rfl⟩) noXB (fun _ _ _ => trivial) hK hP hD hS hAq 4 0 (T := TX5) (N := 7) rfl rfl rfl hl.1 rfl (Nat.le_of_ble_eq_true rfl) dX5_turns_12 ⟨Nat.le_of_ble_eq_true rfl, Nat.le_of_ble_eq_true rfl⟩ [0, 1] rfl rfl [x 0, x 7] rfl (fun _ => rfl) (fun _ => rfl) (fun u H locs hok hP hD hS => ?_)
    have he : turns_e σ a0.toInt = 0 := by unfold turns_e; (try simp only [Int.toNat_natCast]); (repeat' split) <;> omega
    exact fin_i hx hb hr hlk hS hP hD τ trivial (by rw [he]; first | done | ((try simp only [Int.toNat_natCast]); first | done | rfl)) (by rw [he]; (try simp only [Int.toNat_natCast]); exact eqW.rf _) dX5_turns_15
set_option maxHeartbeats 400000 in
set_option maxRecDepth 100000 in
theorem c_X6_turns (l : Launch) (G : GT) (sz : Nat) (b : Nat → Nat) (ζ : Nat → Nat) (vv : Int64) (tl : Nat → Int32) (σ : Sg) (F : Nat → Int32) (a0 : Int32) (hI : Inv σ) (hd0 : σ 0 ≤ 9999) : MI (S := Nat → Int32) l G noX yX6_turns wsX6_turns ({ frames := 8, cells := 0, slots := 0, locals := 181 } : Room) [.ref (b 0), .int a0] ([mO b ζ vv, (b 4, .inl (G.2.1, 7, .inl tl)), (b 1, .inl (G.2.1, 46, .inl (nF σ))), (b 3, .inl (G.2.1, 46, .inl F))]) sz (fun _ => True) (fun u => rs (turns_e σ a0.toInt) (iI (trO σ a0.toInt.toNat (σ 5)).2)) (fun u => [mO b ζ vv, (b 4, .inl (G.2.1, 7, .inl (ts tl (turns_e σ a0.toInt)))), (b 1, .inl (G.2.1, 46, .inl (nF σ))), (b 3, .inl (G.2.1, 46, .inl u))]) := by
  refine MI_enter (cc := cX6_turns) (maxL := 7) (ret := (some .int)) (by decide) rfl (Nat.le_of_ble_eq_true rfl) ?_
  intro p e s m below meth c A ls H hx hb hr hlk hml hown hts hAq hS hP hK hD hX hl hnm
  have hown : s.vm.findClass RX6 = some m.cls := hown
  have hl : lv_has ls 7 [(0, .ref (b 0)), (1, .int a0)] := hl
  obtain ⟨⟨i1, i2, i3, i4, i5⟩, ip⟩ := id hI
  refine lv_iload_n hx hb dX6_turns_0 rfl (lv_at hl 1 rfl) ?_
  refine callSI (rest := []) (wn := fun u => [mO b ζ vv, (b 4, .inl (G.2.1, 7, .inl tl)), (b 1, .inl (G.2.1, 46, .inl (nF σ))), (b 3, .inl (G.2.1, 46, .inl F))]) ⟨hx, hb, hml, hown, hts⟩ (c_X6_isSoon l G H.size a0) (va_cwS 1 hts gX6_turns_X6_isSoon rfl rfl rfl (by decide +kernel) ⟨Nat.le_of_ble_eq_true rfl, Nat.le_of_ble_eq_true rfl⟩) noXB (fun _ _ _ => trivial) hK hP hD hS hAq rfl hl.1 rfl (Nat.le_of_ble_eq_true rfl) dX6_turns_1 ⟨Nat.le_of_ble_eq_true rfl, Nat.le_of_ble_eq_true rfl⟩ [] rfl rfl [] rfl (fun _ => rfl) (fun _ => rfl) (fun u H locs hok hP hD hS => ?_)
  refine z_if_ne hx hb (tgt := 13) dX6_turns_4 (by decide) (fun c_1 => ?_) (fun c_1 => ?_)
  · obtain ⟨n0, hn0, rfl⟩ := nI_of_rg (n := 60) (x := a0) ⟨by omega, by omega⟩
    have hT0 := nI_T (a := n0) (by omega)
    refine lv_aload_n hx hb dX6_turns_13 rfl (lv_at hl 0 rfl) ?_
    refine callVV (rest := []) (wn := fun u => [mO b ζ vv, (b 4, .inl (G.2.1, 7, .inl tl)), (b 1, .inl (G.2.1, 46, .inl (nF σ))), (b 3, .inl (G.2.1, 46, .inl (nF σ)))]) ⟨hx, hb, hml, hown, hts⟩ (c_X6_setsAside l G H.size b ζ vv σ F) (cwV 0 hts gX6_turns_X6_setsAside rfl rfl rfl (by decide +kernel) ⟨Nat.le_of_ble_eq_true rfl, Nat.le_of_ble_eq_true rfl⟩) noXB (fun _ _ _ => trivial) hK hP hD hS hAq 5 0 (T := TX6) (N := 18) rfl rfl rfl hl.1 rfl (Nat.le_of_ble_eq_true rfl) dX6_turns_14 ⟨Nat.le_of_ble_eq_true rfl, Nat.le_of_ble_eq_true rfl⟩ [0, 2, 3] rfl rfl [b 0, b 1, b 3] rfl (fun _ => rfl) (fun _ => rfl) (fun u H locs hok hP hD hS => ?_)
    refine lv_aload_n hx hb dX6_turns_17 rfl (lv_at hl 0 rfl) ?_
    refine lv_iconst (v := nI 3) hx hb dX6_turns_18 rfl ?_
    refine lv_iload_n hx hb dX6_turns_19 rfl (lv_at hl 1 rfl) ?_
    refine callVI (rest := []) (wn := fun u => [mO b ζ vv, (b 4, .inl (G.2.1, 7, .inl tl)), (b 1, .inl (G.2.1, 46, .inl (nF σ))), (b 3, .inl (G.2.1, 46, .inl (nF σ)))]) ⟨hx, hb, hml, hown, hts⟩ (c_X6_thenAt l G H.size b ζ vv σ σ 3 n0 hI (by omega) (by omega)) (cwV 2 hts gX6_turns_X6_thenAt rfl rfl rfl (by decide +kernel) ⟨Nat.le_of_ble_eq_true rfl, Nat.le_of_ble_eq_true rfl⟩) noXB (fun _ _ _ => trivial) hK hP hD hS hAq 5 0 (T := TX6) (N := 18) rfl rfl rfl hl.1 rfl (Nat.le_of_ble_eq_true rfl) dX6_turns_20 ⟨Nat.le_of_ble_eq_true rfl, Nat.le_of_ble_eq_true rfl⟩ [0, 2, 3] rfl rfl [b 0, b 1, b 3] rfl (fun _ => rfl) (fun _ => rfl) (fun u H locs hok hP hD hS => ?_)
    refine lv_istore_n (lv' := [(2, .int (nI (daysN n0 σ 3))), (0, .ref (b 0)), (1, .int (nI n0))]) hx hb dX6_turns_23 rfl hl (by decide) rfl (fun ls hl => ?_)
    refine lv_iconst (v := (-1)) hx hb dX6_turns_24 rfl ?_
    refine n_top (y := iI (-1)) (by decide) ?_
    refine lv_istore_n (lv' := [(3, .int (iI (-1))), (2, .int (nI (daysN n0 σ 3))), (0, .ref (b 0)), (1, .int (nI n0))]) hx hb dX6_turns_25 rfl hl (by decide) rfl (fun ls hl => ?_)
    refine lv_iconst (v := nI 0) hx hb dX6_turns_26 rfl ?_
    refine lv_istore (lv' := [(4, .int (nI 0)), (3, .int (iI (-1))), (2, .int (nI (daysN n0 σ 3))), (0, .ref (b 0)), (1, .int (nI n0))]) hx hb dX6_turns_27 hl (by decide) rfl (fun ls hl => ?_)
    refine W_loop1 (I := fun (i : Nat) => i ≤ σ 5) (wd := fun (i : Nat) => [mO b ζ vv, (b 4, .inl (G.2.1, 7, .inl tl)), (b 1, .inl (G.2.1, 46, .inl (nF σ))), (b 3, .inl (G.2.1, 46, .inl (nF σ)))]) (lv := fun (i : Nat) => [(4, .int (nI i)), (2, .int (nI ((trO σ n0 i).1))), (3, .int (iI (trO σ n0 i).2)), (0, .ref (b 0)), (1, .int (nI n0))]) (μ := fun (i : Nat) => σ 5 - i) ?_ 0 (by omega) hP hD hS (lv_sub hl [0, 2, 1, 3, 4] rfl)
    intro i H locs ls hI0 hP hD hS hl ih
    have hiq : i ≤ σ 5 := hI0
    have hok0 := trO_ok hI (n := n0) i hiq
    obtain ⟨ok1, ok2, ok3⟩ := id hok0
    have hT8 : (iI (trO σ n0 i).2).toInt = (trO σ n0 i).2 := iI_T (by omega) (by omega)
    refine lv_iload hx hb dX6_turns_29 (lv_at hl 0 rfl) ?_
    refine lv_aload_n hx hb dX6_turns_31 rfl (lv_at hl 3 rfl) ?_
    refine n_get (C := RX6) (T := TX6) (N := 18) hx hb hts (fun _ h => List.mem_cons_of_mem _ (List.mem_append_right _ h)) hown hK hP 0 rfl rfl 0 (by decide) (List.mem_of_getElem? (i := 1) rfl) rfl (.ref (b 1)) rfl dX6_turns_32 ?_
    refine lv_iconst (v := nI 5) hx hb dX6_turns_35 rfl ?_
    refine n_iald hx hb hK hP 2 (v := (nI (σ 5))) rfl (by omega) (by omega) rfl dX6_turns_36 ?_
    refine n_icmp_ge hx hb (by omega) (by omega) (tgt := 117) dX6_turns_37 (by decide) (fun c_2 => ?_) (fun c_2 => ?_)
    · have hk5 : i = σ 5 := by omega
      subst hk5
      refine lv_iload_n hx hb dX6_turns_117 rfl (lv_at hl 2 rfl) ?_
      refine r_if_ge hx hb (tgt := 129) dX6_turns_118 (by decide) (fun c_3 => ?_) (fun c_3 => ?_)
      · refine lv_iload_n hx hb dX6_turns_129 rfl (lv_at hl 2 rfl) ?_
        have he : turns_e σ (nI n0).toInt = 7 := by unfold turns_e; (try simp only [hT0, Int.toNat_natCast]); (repeat' split) <;> omega
        exact fin_i hx hb hr hlk hS hP hD (nF σ) trivial (by rw [he]; first | done | ((try simp only [hT0, Int.toNat_natCast]); first | done | rfl)) (by rw [he]; (try simp only [hT0, Int.toNat_natCast]); exact eqW.rf _) dX6_turns_130
      · refine lv_aload_n hx hb dX6_turns_121 rfl (lv_at hl 3 rfl) ?_
        refine lv_iconst (v := nI 3) hx hb dX6_turns_122 rfl ?_
        refine callVI (rest := []) (wn := fun u => [mO b ζ vv, (b 4, .inl (G.2.1, 7, .inl (tk tl 3))), (b 1, .inl (G.2.1, 46, .inl (nF σ))), (b 3, .inl (G.2.1, 46, .inl (nF σ)))]) ⟨hx, hb, hml, hown, hts⟩ (c_X6_no l G H.size b ζ vv tl 3 (by omega)) (cwV 1 hts gX6_turns_X6_no rfl rfl rfl (by decide +kernel) ⟨Nat.le_of_ble_eq_true rfl, Nat.le_of_ble_eq_true rfl⟩) noXB (fun _ _ _ => trivial) hK hP hD hS hAq 5 0 (T := TX6) (N := 18) rfl rfl rfl hl.1 rfl (Nat.le_of_ble_eq_true rfl) dX6_turns_123 ⟨Nat.le_of_ble_eq_true rfl, Nat.le_of_ble_eq_true rfl⟩ [0, 1] rfl rfl [b 0, b 4] rfl (fun _ => rfl) (fun _ => rfl) (fun u H locs hok hP hD hS => ?_)
        refine lv_goto (tgt := 130) hx hb dX6_turns_126 (by decide) ?_
        have he : turns_e σ (nI n0).toInt = 3 := by unfold turns_e; (try simp only [hT0, Int.toNat_natCast]); (repeat' split) <;> omega
        exact fin_i hx hb hr hlk hS hP hD (nF σ) trivial (by rw [he]; first | done | ((try simp only [hT0, Int.toNat_natCast]); first | done | rfl)) (by rw [he]; (try simp only [hT0, Int.toNat_natCast]); exact eqW.rf _) dX6_turns_130
    · refine lv_iload hx hb dX6_turns_40 (lv_at hl 0 rfl) ?_
      refine lv_iconst (v := nI 1) hx hb dX6_turns_42 rfl ?_
      refine n_iadd hx hb dX6_turns_43 ?_
      refine lv_istore (lv' := [(5, .int (nI (i + 1))), (4, .int (nI i)), (2, .int (nI ((trO σ n0 i).1))), (3, .int (iI (trO σ n0 i).2)), (0, .ref (b 0)), (1, .int (nI n0))]) hx hb dX6_turns_44 hl (by decide) rfl (fun ls hl => ?_)
      refine W_loop1 (I := fun (j : Nat) => i + 1 + j ≤ σ 5) (wd := fun (j : Nat) => [mO b ζ vv, (b 4, .inl (G.2.1, 7, .inl tl)), (b 1, .inl (G.2.1, 46, .inl (nF σ))), (b 3, .inl (G.2.1, 46, .inl (nF σ)))]) (lv := fun (j : Nat) => [(5, .int (nI (i + 1 + j))), (2, .int (nI ((trI σ n0 i (trO σ n0 i) j).1))), (3, .int (iI (trI σ n0 i (trO σ n0 i) j).2)), (4, .int (nI i)), (0, .ref (b 0)), (1, .int (nI n0))]) (μ := fun (j : Nat) => σ 5 - j) ?_ 0 (by omega) hP hD hS (lv_sub hl [0, 2, 3, 1, 4, 5] rfl)
      intro j H locs ls hI0 hP hD hS hl ih1
      have hj : i + 1 + j ≤ σ 5 := hI0
      have hok1 := trI_ok hI (n := n0) (i := i) (by omega) hok0 j (by omega)
      obtain ⟨ik1, ik2, ik3⟩ := id hok1
      refine lv_iload hx hb dX6_turns_46 (lv_at hl 0 rfl) ?_
      refine lv_aload_n hx hb dX6_turns_48 rfl (lv_at hl 4 rfl) ?_
      refine n_get (C := RX6) (T := TX6) (N := 18) hx hb hts (fun _ h => List.mem_cons_of_mem _ (List.mem_append_right _ h)) hown hK hP 0 rfl rfl 0 (by decide) (List.mem_of_getElem? (i := 1) rfl) rfl (.ref (b 1)) rfl dX6_turns_49 ?_
      refine lv_iconst (v := nI 5) hx hb dX6_turns_52 rfl ?_
      refine n_iald hx hb hK hP 2 (v := (nI (σ 5))) rfl (by omega) (by omega) rfl dX6_turns_53 ?_
      refine n_icmp_ge hx hb (by omega) (by omega) (tgt := 111) dX6_turns_54 (by decide) (fun c_4 => ?_) (fun c_4 => ?_)
      · have hk5 : j = σ 5 - (i + 1) := by omega
        subst hk5
        refine n_iinc (lv' := [(4, .int (nI (i + 1))), (5, .int (nI (i + 1 + (σ 5 - (i + 1))))), (2, .int (nI ((trI σ n0 i (trO σ n0 i) (σ 5 - (i + 1))).1))), (3, .int (iI (trI σ n0 i (trO σ n0 i) (σ 5 - (i + 1))).2)), (0, .ref (b 0)), (1, .int (nI n0))]) hx hb dX6_turns_111 hl (k := 3) rfl (by decide) rfl (fun ls hl => ?_)
        refine lv_goto (tgt := 29) hx hb dX6_turns_114 (by decide) ?_
        have e1 : (trO σ n0 (i + 1)).1 = (trI σ n0 i (trO σ n0 i) (σ 5 - (i + 1))).1 := congrArg Prod.fst (trO_S σ n0 i)
        have e2 : iI (trO σ n0 (i + 1)).2 = iI (trI σ n0 i (trO σ n0 i) (σ 5 - (i + 1))).2 := congrArg (fun q : Nat × Int => iI q.2) (trO_S σ n0 i)
        exact ih (i + 1) _ _ _ (by omega) (by omega) hP hD hS (by rw [e1, e2]; exact (lv_sub hl [0, 2, 3, 4, 5] rfl))
      · have hIu : Inv (swapN σ i (i + 1 + j)) := swap_Inv hI (by omega) (by omega)
        have hE0 : swapN σ i (i + 1 + j) 0 = σ 0 := swap_s (by decide)
        have hEc : daysN n0 (swapN σ i (i + 1 + j)) 3 ≤ 99999999 := (days_Inv hIu n0).1.2.2.1
        refine lv_aload_n hx hb dX6_turns_57 rfl (lv_at hl 4 rfl) ?_
        refine lv_iload hx hb dX6_turns_58 (lv_at hl 3 rfl) ?_
        refine lv_iload hx hb dX6_turns_60 (lv_at hl 0 rfl) ?_
        refine callVV (rest := []) (wn := fun u => [mO b ζ vv, (b 4, .inl (G.2.1, 7, .inl tl)), (b 1, .inl (G.2.1, 46, .inl (nF (swapN σ i (i + 1 + j))))), (b 3, .inl (G.2.1, 46, .inl (nF σ)))]) ⟨hx, hb, hml, hown, hts⟩ (c_X6_changes l G H.size b ζ vv σ i (i + 1 + j) (by omega) (by omega)) (cwV 2 hts gX6_turns_X6_changes rfl rfl rfl (by decide +kernel) ⟨Nat.le_of_ble_eq_true rfl, Nat.le_of_ble_eq_true rfl⟩) noXB (fun _ _ _ => trivial) hK hP hD hS hAq 5 0 (T := TX6) (N := 18) rfl rfl rfl hl.1 rfl (Nat.le_of_ble_eq_true rfl) dX6_turns_62 ⟨Nat.le_of_ble_eq_true rfl, Nat.le_of_ble_eq_true rfl⟩ [0, 2] rfl rfl [b 0, b 1] rfl (fun _ => rfl) (fun _ => rfl) (fun u H locs hok hP hD hS => ?_)
        refine lv_aload_n hx hb dX6_turns_65 rfl (lv_at hl 4 rfl) ?_
        refine lv_iconst (v := nI 3) hx hb dX6_turns_66 rfl ?_
        refine lv_iload_n hx hb dX6_turns_67 rfl (lv_at hl 5 rfl) ?_
        refine callVI (rest := []) (wn := fun u => [mO b ζ vv, (b 4, .inl (G.2.1, 7, .inl tl)), (b 1, .inl (G.2.1, 46, .inl (nF σ))), (b 3, .inl (G.2.1, 46, .inl (nF σ)))]) ⟨hx, hb, hml, hown, hts⟩ (c_X6_thenAt l G H.size b ζ vv σ (swapN σ i (i + 1 + j)) 3 n0 hIu (by omega) (by omega)) (cwV 2 hts gX6_turns_X6_thenAt rfl rfl rfl (by decide +kernel) ⟨Nat.le_of_ble_eq_true rfl, Nat.le_of_ble_eq_true rfl⟩) noXB (fun _ _ _ => trivial) hK hP hD hS hAq 5 0 (T := TX6) (N := 18) rfl rfl rfl hl.1 rfl (Nat.le_of_ble_eq_true rfl) dX6_turns_68 ⟨Nat.le_of_ble_eq_true rfl, Nat.le_of_ble_eq_true rfl⟩ [0, 2, 3] rfl rfl [b 0, b 1, b 3] rfl (fun _ => rfl) (fun _ => rfl) (fun u H locs hok hP hD hS => ?_)
        refine lv_istore (lv' := [(6, .int (nI (daysN n0 (swapN σ i (i + 1 + j)) 3))), (5, .int (nI (i + 1 + j))), (2, .int (nI ((trI σ n0 i (trO σ n0 i) j).1))), (3, .int (iI (trI σ n0 i (trO σ n0 i) j).2)), (4, .int (nI i)), (0, .ref (b 0)), (1, .int (nI n0))]) hx hb dX6_turns_71 hl (by decide) rfl (fun ls hl => ?_)
        refine lv_iload hx hb dX6_turns_73 (lv_at hl 0 rfl) ?_
        refine lv_iload_n hx hb dX6_turns_75 rfl (lv_at hl 2 rfl) ?_
        refine n_icmp_le hx hb (by omega) (by omega) (tgt := 90) dX6_turns_76 (by decide) (fun c_5 => ?_) (fun c_5 => ?_)
        · refine lv_iload_n hx hb dX6_turns_90 rfl (lv_at hl 3 rfl) ?_
          refine lv_istore_n (lv' := [(3, .int (iI (trI σ n0 i (trO σ n0 i) j).2)), (6, .int (nI (daysN n0 (swapN σ i (i + 1 + j)) 3))), (5, .int (nI (i + 1 + j))), (2, .int (nI ((trI σ n0 i (trO σ n0 i) j).1))), (4, .int (nI i)), (0, .ref (b 0)), (1, .int (nI n0))]) hx hb dX6_turns_91 rfl hl (by decide) rfl (fun ls hl => ?_)
          refine lv_iload hx hb dX6_turns_92 (lv_at hl 1 rfl) ?_
          refine lv_iload_n hx hb dX6_turns_94 rfl (lv_at hl 3 rfl) ?_
          refine n_icmp_le hx hb (by omega) (by omega) (tgt := 103) dX6_turns_95 (by decide) (fun c_6 => ?_) (fun c_6 => ?_)
          · refine lv_iload_n hx hb dX6_turns_103 rfl (lv_at hl 3 rfl) ?_
            refine lv_istore_n (lv' := [(2, .int (nI ((trI σ n0 i (trO σ n0 i) j).1))), (3, .int (iI (trI σ n0 i (trO σ n0 i) j).2)), (6, .int (nI (daysN n0 (swapN σ i (i + 1 + j)) 3))), (5, .int (nI (i + 1 + j))), (4, .int (nI i)), (0, .ref (b 0)), (1, .int (nI n0))]) hx hb dX6_turns_104 rfl hl (by decide) rfl (fun ls hl => ?_)
            refine n_iinc (lv' := [(5, .int (nI ((i + 1 + j) + 1))), (2, .int (nI ((trI σ n0 i (trO σ n0 i) j).1))), (3, .int (iI (trI σ n0 i (trO σ n0 i) j).2)), (6, .int (nI (daysN n0 (swapN σ i (i + 1 + j)) 3))), (4, .int (nI i)), (0, .ref (b 0)), (1, .int (nI n0))]) hx hb dX6_turns_105 hl (k := 3) rfl (by decide) rfl (fun ls hl => ?_)
            refine lv_goto (tgt := 46) hx hb dX6_turns_108 (by decide) ?_
            have e1 : (trI σ n0 i (trO σ n0 i) (j + 1)).1 = (trI σ n0 i (trO σ n0 i) j).1 := by first | (exfalso; omega) | (rw [trI_S]; unfold trS; first | rw [if_pos (by omega)] | rw [if_neg (by omega)])
            have e2 : iI (trI σ n0 i (trO σ n0 i) (j + 1)).2 = (iI (trI σ n0 i (trO σ n0 i) j).2) := by first | (exfalso; omega) | (rw [trI_S]; unfold trS; first | (rw [if_pos (by omega)]; exact iI_n) | rw [if_neg (by omega)])
            exact ih1 (j + 1) _ _ _ (by omega) (by omega) hP hD hS (by rw [e1, e2]; exact (lv_sub hl [0, 1, 2, 4, 5, 6] rfl))
          · refine lv_iload hx hb dX6_turns_98 (lv_at hl 1 rfl) ?_
            refine lv_goto (tgt := 104) hx hb dX6_turns_100 (by decide) ?_
            refine lv_istore_n (lv' := [(2, .int (nI (daysN n0 (swapN σ i (i + 1 + j)) 3))), (3, .int (iI (trI σ n0 i (trO σ n0 i) j).2)), (6, .int (nI (daysN n0 (swapN σ i (i + 1 + j)) 3))), (5, .int (nI (i + 1 + j))), (4, .int (nI i)), (0, .ref (b 0)), (1, .int (nI n0))]) hx hb dX6_turns_104 rfl hl (by decide) rfl (fun ls hl => ?_)
            refine n_iinc (lv' := [(5, .int (nI ((i + 1 + j) + 1))), (2, .int (nI (daysN n0 (swapN σ i (i + 1 + j)) 3))), (3, .int (iI (trI σ n0 i (trO σ n0 i) j).2)), (6, .int (nI (daysN n0 (swapN σ i (i + 1 + j)) 3))), (4, .int (nI i)), (0, .ref (b 0)), (1, .int (nI n0))]) hx hb dX6_turns_105 hl (k := 3) rfl (by decide) rfl (fun ls hl => ?_)
            refine lv_goto (tgt := 46) hx hb dX6_turns_108 (by decide) ?_
            have e1 : (trI σ n0 i (trO σ n0 i) (j + 1)).1 = daysN n0 (swapN σ i (i + 1 + j)) 3 := by first | (exfalso; omega) | (rw [trI_S]; unfold trS; first | rw [if_pos (by omega)] | rw [if_neg (by omega)])
            have e2 : iI (trI σ n0 i (trO σ n0 i) (j + 1)).2 = (iI (trI σ n0 i (trO σ n0 i) j).2) := by first | (exfalso; omega) | (rw [trI_S]; unfold trS; first | (rw [if_pos (by omega)]; exact iI_n) | rw [if_neg (by omega)])
            exact ih1 (j + 1) _ _ _ (by omega) (by omega) hP hD hS (by rw [e1, e2]; exact (lv_sub hl [0, 1, 2, 4, 5, 6] rfl))
        · refine lv_bipush (v := nI 10) hx hb dX6_turns_79 rfl ?_
          refine lv_iload hx hb dX6_turns_81 (lv_at hl 4 rfl) ?_
          refine n_imul hx hb dX6_turns_83 ?_
          refine lv_iload hx hb dX6_turns_84 (lv_at hl 1 rfl) ?_
          refine n_iadd hx hb dX6_turns_86 ?_
          refine lv_goto (tgt := 91) hx hb dX6_turns_87 (by decide) ?_
          refine lv_istore_n (lv' := [(3, .int (nI ((10 * i) + (i + 1 + j)))), (6, .int (nI (daysN n0 (swapN σ i (i + 1 + j)) 3))), (5, .int (nI (i + 1 + j))), (2, .int (nI ((trI σ n0 i (trO σ n0 i) j).1))), (4, .int (nI i)), (0, .ref (b 0)), (1, .int (nI n0))]) hx hb dX6_turns_91 rfl hl (by decide) rfl (fun ls hl => ?_)
          refine lv_iload hx hb dX6_turns_92 (lv_at hl 1 rfl) ?_
          refine lv_iload_n hx hb dX6_turns_94 rfl (lv_at hl 3 rfl) ?_
          refine n_icmp_le hx hb (by omega) (by omega) (tgt := 103) dX6_turns_95 (by decide) (fun c_7 => ?_) (fun c_7 => ?_)
          · refine lv_iload_n hx hb dX6_turns_103 rfl (lv_at hl 3 rfl) ?_
            refine lv_istore_n (lv' := [(2, .int (nI ((trI σ n0 i (trO σ n0 i) j).1))), (3, .int (nI ((10 * i) + (i + 1 + j)))), (6, .int (nI (daysN n0 (swapN σ i (i + 1 + j)) 3))), (5, .int (nI (i + 1 + j))), (4, .int (nI i)), (0, .ref (b 0)), (1, .int (nI n0))]) hx hb dX6_turns_104 rfl hl (by decide) rfl (fun ls hl => ?_)
            refine n_iinc (lv' := [(5, .int (nI ((i + 1 + j) + 1))), (2, .int (nI ((trI σ n0 i (trO σ n0 i) j).1))), (3, .int (nI ((10 * i) + (i + 1 + j)))), (6, .int (nI (daysN n0 (swapN σ i (i + 1 + j)) 3))), (4, .int (nI i)), (0, .ref (b 0)), (1, .int (nI n0))]) hx hb dX6_turns_105 hl (k := 3) rfl (by decide) rfl (fun ls hl => ?_)
            refine lv_goto (tgt := 46) hx hb dX6_turns_108 (by decide) ?_
            have e1 : (trI σ n0 i (trO σ n0 i) (j + 1)).1 = (trI σ n0 i (trO σ n0 i) j).1 := by first | (exfalso; omega) | (rw [trI_S]; unfold trS; first | rw [if_pos (by omega)] | rw [if_neg (by omega)])
            have e2 : iI (trI σ n0 i (trO σ n0 i) (j + 1)).2 = (nI ((10 * i) + (i + 1 + j))) := by first | (exfalso; omega) | (rw [trI_S]; unfold trS; first | (rw [if_pos (by omega)]; exact iI_n) | rw [if_neg (by omega)])
            exact ih1 (j + 1) _ _ _ (by omega) (by omega) hP hD hS (by rw [e1, e2]; exact (lv_sub hl [0, 1, 2, 4, 5, 6] rfl))
          · refine lv_iload hx hb dX6_turns_98 (lv_at hl 1 rfl) ?_
            refine lv_goto (tgt := 104) hx hb dX6_turns_100 (by decide) ?_
            refine lv_istore_n (lv' := [(2, .int (nI (daysN n0 (swapN σ i (i + 1 + j)) 3))), (3, .int (nI ((10 * i) + (i + 1 + j)))), (6, .int (nI (daysN n0 (swapN σ i (i + 1 + j)) 3))), (5, .int (nI (i + 1 + j))), (4, .int (nI i)), (0, .ref (b 0)), (1, .int (nI n0))]) hx hb dX6_turns_104 rfl hl (by decide) rfl (fun ls hl => ?_)
            refine n_iinc (lv' := [(5, .int (nI ((i + 1 + j) + 1))), (2, .int (nI (daysN n0 (swapN σ i (i + 1 + j)) 3))), (3, .int (nI ((10 * i) + (i + 1 + j)))), (6, .int (nI (daysN n0 (swapN σ i (i + 1 + j)) 3))), (4, .int (nI i)), (0, .ref (b 0)), (1, .int (nI n0))]) hx hb dX6_turns_105 hl (k := 3) rfl (by decide) rfl (fun ls hl => ?_)
            refine lv_goto (tgt := 46) hx hb dX6_turns_108 (by decide) ?_
            have e1 : (trI σ n0 i (trO σ n0 i) (j + 1)).1 = daysN n0 (swapN σ i (i + 1 + j)) 3 := by first | (exfalso; omega) | (rw [trI_S]; unfold trS; first | rw [if_pos (by omega)] | rw [if_neg (by omega)])
            have e2 : iI (trI σ n0 i (trO σ n0 i) (j + 1)).2 = (nI ((10 * i) + (i + 1 + j))) := by first | (exfalso; omega) | (rw [trI_S]; unfold trS; first | (rw [if_pos (by omega)]; exact iI_n) | rw [if_neg (by omega)])
            exact ih1 (j + 1) _ _ _ (by omega) (by omega) hP hD hS (by rw [e1, e2]; exact (lv_sub hl [0, 1, 2, 4, 5, 6] rfl))
  · refine lv_aload_n hx hb dX6_turns_7 rfl (lv_at hl 0 rfl) ?_
    refine lv_iconst (v := nI 0) hx hb dX6_turns_8 rfl ?_
    refine callVI (rest := []) (wn := fun u => [mO b ζ vv, (b 4, .inl (G.2.1, 7, .inl (tk tl 0))), (b 1, .inl (G.2.1, 46, .inl (nF σ))), (b 3, .inl (G.2.1, 46, .inl F))]) ⟨hx, hb, hml, hown, hts⟩ (c_X6_no l G H.size b ζ vv tl 0 (by omega)) (cwV 1 hts gX6_turns_X6_no rfl rfl rfl (by decide +kernel) ⟨Nat.le_of_ble_eq_true rfl, Nat.le_of_ble_eq_true rfl⟩) noXB (fun _ _ _ => trivial) hK hP hD hS hAq 5 0 (T := TX6) (N := 18) rfl rfl rfl hl.1 rfl (Nat.le_of_ble_eq_true rfl) dX6_turns_9 ⟨Nat.le_of_ble_eq_true rfl, Nat.le_of_ble_eq_true rfl⟩ [0, 1] rfl rfl [b 0, b 4] rfl (fun _ => rfl) (fun _ => rfl) (fun u H locs hok hP hD hS => ?_)
    have he : turns_e σ a0.toInt = 0 := by unfold turns_e; (try simp only [Int.toNat_natCast]); (repeat' split) <;> omega
    exact fin_i hx hb hr hlk hS hP hD (F) trivial (by rw [he]; first | done | ((try simp only [Int.toNat_natCast]); first | done | rfl)) (by rw [he]; (try simp only [Int.toNat_natCast]); exact eqW.rf _) dX6_turns_12
