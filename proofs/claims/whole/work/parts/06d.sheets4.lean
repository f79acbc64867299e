set_option maxHeartbeats 400000 in
set_option maxRecDepth 100000 in
theorem c_X6_sheet (l : Launch) (G : GT) (sz : Nat) (b : Nat → Nat) (ζ : Nat → Nat) (vv : Int64) (tl : Nat → Int32) (wd zs : Nat → Nat) (nb : Nat → Int64) (a0 a1 a2 : Int32) (hSI : SInv wd zs) : MI (S := Unit) l G noX yX6_sheet wsX6_sheet ({ frames := 2, cells := 0, slots := 0, locals := 42 } : Room) [.ref (b 0), .int a0, .int a1, .int a2] ([mO b ζ vv, (b 4, .inl (G.2.1, 7, .inl tl)), (b 9, .inl (G.2.1, 4, .inl (nF wd))), (b 10, .inl (G.2.1, 4, .inl (nF zs))), (b 11, .inl (G.2.2.1, 160, .inr (.inl nb)))]) sz (fun _ => True) (fun _ => rs (sheet_e a0.toInt a1.toInt a2.toInt) (nI (if a1.toInt.toNat = 0 then 0 else a2.toInt.toNat))) (fun _ => [mO b ζ vv, (b 4, .inl (G.2.1, 7, .inl (ts tl (sheet_e a0.toInt a1.toInt a2.toInt)))), (b 9, .inl (G.2.1, 4, .inl (nF (hs (sheet_e a0.toInt a1.toInt a2.toInt) (un wd a0.toInt.toNat a1.toInt.toNat) wd)))), (b 10, .inl (G.2.1, 4, .inl (nF (hs (sheet_e a0.toInt a1.toInt a2.toInt) (un zs a0.toInt.toNat (if a1.toInt.toNat = 0 then 0 else a2.toInt.toNat)) zs)))), (b 11, .inl (G.2.2.1, 160, .inr (.inl (hq (sheet_e a0.toInt a1.toInt a2.toInt) (clrN nb a0.toInt.toNat 40) nb))))]) := by
  refine MI_enter (cc := cX6_sheet) (maxL := 5) (ret := (some .int)) (by decide) rfl (Nat.le_of_ble_eq_true rfl) ?_
  intro p e s m below meth c A ls H hx hb hr hlk hml hown hts hAq hS hP hK hD hX hl hnm
  have hown : s.vm.findClass RX6 = some m.cls := hown
  have hl : lv_has ls 5 [(0, .ref (b 0)), (1, .int a0), (2, .int a1), (3, .int a2)] := hl
  refine lv_iload_n hx hb dX6_sheet_0 rfl (lv_at hl 1 rfl) ?_
  refine callSI (rest := []) (wn := fun u => [mO b ζ vv, (b 4, .inl (G.2.1, 7, .inl tl)), (b 9, .inl (G.2.1, 4, .inl (nF wd))), (b 10, .inl (G.2.1, 4, .inl (nF zs))), (b 11, .inl (G.2.2.1, 160, .inr (.inl nb)))]) ⟨hx, hb, hml, hown, hts⟩ (c_X6_isSheet l G H.size a0) (va_cwS 1 hts gX6_sheet_X6_isSheet rfl rfl rfl (by decide +kernel) ⟨Nat.le_of_ble_eq_true rfl, Nat.le_of_ble_eq_true rfl⟩) noXB (fun _ _ _ => trivial) hK hP hD hS hAq rfl hl.1 rfl (Nat.le_of_ble_eq_true rfl) dX6_sheet_1 ⟨Nat.le_of_ble_eq_true rfl, Nat.le_of_ble_eq_true rfl⟩ [] rfl rfl [] rfl (fun _ => rfl) (fun _ => rfl) (fun u H locs hok hP hD hS => ?_)
  refine z_if_eq hx hb (tgt := 29) dX6_sheet_4 (by decide) (fun c_1 => ?_) (fun c_1 => ?_)
  · refine lv_aload_n hx hb dX6_sheet_29 rfl (lv_at hl 0 rfl) ?_
    refine lv_iconst (v := nI 0) hx hb dX6_sheet_30 rfl ?_
    refine callVI (rest := []) (wn := fun u => [mO b ζ vv, (b 4, .inl (G.2.1, 7, .inl (tk tl 0))), (b 9, .inl (G.2.1, 4, .inl (nF wd))), (b 10, .inl (G.2.1, 4, .inl (nF zs))), (b 11, .inl (G.2.2.1, 160, .inr (.inl nb)))]) ⟨hx, hb, hml, hown, hts⟩ (c_X6_no l G H.size b ζ vv tl 0 (by omega)) (cwV 1 hts gX6_sheet_X6_no rfl rfl rfl (by decide +kernel) ⟨Nat.le_of_ble_eq_true rfl, Nat.le_of_ble_eq_true rfl⟩) noXB (fun _ _ _ => trivial) hK hP hD hS hAq 5 0 (T := TX6) (N := 18) rfl rfl rfl hl.1 rfl (Nat.le_of_ble_eq_true rfl) dX6_sheet_31 ⟨Nat.le_of_ble_eq_true rfl, Nat.le_of_ble_eq_true rfl⟩ [0, 1] rfl rfl [b 0, b 4] rfl (fun _ => rfl) (fun _ => rfl) (fun u H locs hok hP hD hS => ?_)
    have he : sheet_e a0.toInt a1.toInt a2.toInt = 0 := by unfold sheet_e; (try simp only [Int.toNat_natCast]); (repeat' split) <;> omega
    exact fin_i hx hb hr hlk hS hP hD () trivial (by rw [he]; first | done | ((try simp only [Int.toNat_natCast]); first | done | rfl)) (by rw [he]; (try simp only [Int.toNat_natCast]); exact eqW.rf _) dX6_sheet_34
  · obtain ⟨k0, hk0, rfl⟩ := nI_of_rg (n := 3) (x := a0) ⟨by omega, by omega⟩
    have hT0 := nI_T (a := k0) (by omega)
    obtain ⟨s0, s1⟩ := hSI k0 (by omega)
    refine lv_iload_n hx hb dX6_sheet_7 rfl (lv_at hl 2 rfl) ?_
    refine r_if_eq hx hb (tgt := 35) dX6_sheet_8 (by decide) (fun c_2 => ?_) (fun c_2 => ?_)
    · obtain ⟨w1, hw1, rfl⟩ := nI_of_rg (n := 64) (x := a1) ⟨by omega, by omega⟩
      have hT1 := nI_T (a := w1) (by omega)
      refine lv_iload_n hx hb dX6_sheet_35 rfl (lv_at hl 3 rfl) ?_
      refine r_if_ge hx hb (tgt := 46) dX6_sheet_36 (by decide) (fun c_3 => ?_) (fun c_3 => ?_)
      · refine lv_iload_n hx hb dX6_sheet_46 rfl (lv_at hl 3 rfl) ?_
        refine lv_bipush (v := nI 40) hx hb dX6_sheet_47 rfl ?_
        refine r_icmp_le hx hb (tgt := 58) dX6_sheet_49 (by decide) (fun c_4 => ?_) (fun c_4 => ?_)
        · rw [nI_T (by omega)] at c_4
          obtain ⟨n2, hn2, rfl⟩ := nI_of_rg (n := 40) (x := a2) ⟨by omega, by omega⟩
          have hT2 := nI_T (a := n2) (by omega)
          refine lv_aload_n hx hb dX6_sheet_58 rfl (lv_at hl 0 rfl) ?_
          refine n_get (C := RX6) (T := TX6) (N := 18) hx hb hts (fun _ h => List.mem_cons_of_mem _ (List.mem_append_right _ h)) hown hK hP 0 rfl rfl 14 (by decide) (List.mem_of_getElem? (i := 1) rfl) rfl (.ref (b 9)) rfl dX6_sheet_59 ?_
          refine lv_iload_n hx hb dX6_sheet_62 rfl (lv_at hl 1 rfl) ?_
          refine lv_iload_n hx hb dX6_sheet_63 rfl (lv_at hl 2 rfl) ?_
          refine n_iast hx hb hK hP hD hS 2 (wn := [mO b ζ vv, (b 4, .inl (G.2.1, 7, .inl tl)), (b 9, .inl (G.2.1, 4, .inl (nF (un wd k0 w1)))), (b 10, .inl (G.2.1, 4, .inl (nF zs))), (b 11, .inl (G.2.2.1, 160, .inr (.inl nb)))]) rfl (by omega) (by omega) (by rw [nF_un]; rfl) dX6_sheet_64 (fun H locs hP hD hS => ?_)
          refine lv_aload_n hx hb dX6_sheet_65 rfl (lv_at hl 0 rfl) ?_
          refine n_get (C := RX6) (T := TX6) (N := 18) hx hb hts (fun _ h => List.mem_cons_of_mem _ (List.mem_append_right _ h)) hown hK hP 0 rfl rfl 15 (by decide) (List.mem_of_getElem? (i := 2) rfl) rfl (.ref (b 10)) rfl dX6_sheet_66 ?_
          refine lv_iload_n hx hb dX6_sheet_69 rfl (lv_at hl 1 rfl) ?_
          refine lv_iload_n hx hb dX6_sheet_70 rfl (lv_at hl 2 rfl) ?_
          refine n_if_ne hx hb (by omega) (tgt := 78) dX6_sheet_71 (by decide) (fun c_5 => ?_) (fun c_5 => ?_)
          · refine lv_iload_n hx hb dX6_sheet_78 rfl (lv_at hl 3 rfl) ?_
            refine n_top (y := nI (if w1 = 0 then 0 else n2)) (congrArg nI (by split <;> omega)) ?_
            refine n_iast hx hb hK hP hD hS 3 (wn := [mO b ζ vv, (b 4, .inl (G.2.1, 7, .inl tl)), (b 9, .inl (G.2.1, 4, .inl (nF (un wd k0 w1)))), (b 10, .inl (G.2.1, 4, .inl (nF (un zs k0 (if w1 = 0 then 0 else n2))))), (b 11, .inl (G.2.2.1, 160, .inr (.inl nb)))]) rfl (by omega) (by omega) (by rw [nF_un]; rfl) dX6_sheet_79 (fun H locs hP hD hS => ?_)
            refine lv_iconst (v := nI 0) hx hb dX6_sheet_80 rfl ?_
            refine lv_istore (lv' := [(4, .int (nI 0)), (0, .ref (b 0)), (1, .int (nI k0)), (2, .int (nI w1)), (3, .int (nI n2))]) hx hb dX6_sheet_81 hl (by decide) rfl (fun ls hl => ?_)
            refine W_loop1 (I := fun (i : Nat) => i ≤ 40) (wd := fun (i : Nat) => [mO b ζ vv, (b 4, .inl (G.2.1, 7, .inl tl)), (b 9, .inl (G.2.1, 4, .inl (nF (un wd k0 w1)))), (b 10, .inl (G.2.1, 4, .inl (nF (un zs k0 (if w1 = 0 then 0 else n2))))), (b 11, .inl (G.2.2.1, 160, .inr (.inl (clrN nb k0 i))))]) (lv := fun (i : Nat) => [(4, .int (nI i)), (0, .ref (b 0)), (1, .int (nI k0)), (2, .int (nI w1)), (3, .int (nI n2))]) (μ := fun (i : Nat) => 40 - i) ?_ 0 (by omega) hP hD hS (lv_sub hl [0, 1, 2, 3, 4] rfl)
            intro i H locs ls hI0 hP hD hS hl ih
            have hi0 : i ≤ 40 := hI0
            refine lv_iload hx hb dX6_sheet_83 (lv_at hl 0 rfl) ?_
            refine lv_bipush (v := nI 40) hx hb dX6_sheet_85 rfl ?_
            refine n_icmp_ge hx hb (by omega) (by omega) (tgt := 109) dX6_sheet_87 (by decide) (fun c_6 => ?_) (fun c_6 => ?_)
            · have hk5 : i = 40 := by omega
              subst hk5
              refine lv_aload_n hx hb dX6_sheet_109 rfl (lv_at hl 1 rfl) ?_
              refine n_get (C := RX6) (T := TX6) (N := 18) hx hb hts (fun _ h => List.mem_cons_of_mem _ (List.mem_append_right _ h)) hown hK hP 0 rfl rfl 15 (by decide) (List.mem_of_getElem? (i := 2) rfl) rfl (.ref (b 10)) rfl dX6_sheet_110 ?_
              refine lv_iload_n hx hb dX6_sheet_113 rfl (lv_at hl 2 rfl) ?_
              refine n_iald hx hb hK hP 3 (v := (nI ((un zs k0 (if w1 = 0 then 0 else n2)) k0))) rfl (by omega) (by omega) rfl dX6_sheet_114 ?_
              have he : sheet_e (nI k0).toInt (nI w1).toInt (nI n2).toInt = 7 := by unfold sheet_e; (try simp only [hT0, hT1, hT2, Int.toNat_natCast]); (repeat' split) <;> omega
              exact fin_i hx hb hr hlk hS hP hD () trivial (by rw [he]; (try simp only [hT0, hT1, hT2, Int.toNat_natCast]); exact congrArg nI un_s) (by rw [he]; (try simp only [hT0, hT1, hT2, Int.toNat_natCast]); exact eqW.rf _) dX6_sheet_115
            · refine lv_aload_n hx hb dX6_sheet_90 rfl (lv_at hl 1 rfl) ?_
              refine n_get (C := RX6) (T := TX6) (N := 18) hx hb hts (fun _ h => List.mem_cons_of_mem _ (List.mem_append_right _ h)) hown hK hP 0 rfl rfl 16 (by decide) (List.mem_of_getElem? (i := 3) rfl) rfl (.ref (b 11)) rfl dX6_sheet_91 ?_
              refine lv_bipush (v := nI 40) hx hb dX6_sheet_94 rfl ?_
              refine lv_iload_n hx hb dX6_sheet_96 rfl (lv_at hl 2 rfl) ?_
              refine n_imul hx hb dX6_sheet_97 ?_
              refine lv_iload hx hb dX6_sheet_98 (lv_at hl 0 rfl) ?_
              refine n_iadd hx hb dX6_sheet_100 ?_
              refine lv_lconst (v := lN 0) hx hb dX6_sheet_101 rfl ?_
              refine n_last hx hb hK hP hD hS 4 (wn := [mO b ζ vv, (b 4, .inl (G.2.1, 7, .inl tl)), (b 9, .inl (G.2.1, 4, .inl (nF (un wd k0 w1)))), (b 10, .inl (G.2.1, 4, .inl (nF (un zs k0 (if w1 = 0 then 0 else n2))))), (b 11, .inl (G.2.2.1, 160, .inr (.inl (vp_updL (clrN nb k0 i) ((40 * k0) + i) (lN 0)))))]) rfl (by omega) (by omega) rfl dX6_sheet_102 (fun H locs hP hD hS => ?_)
              refine n_iinc (lv' := [(4, .int (nI (i + 1))), (0, .ref (b 0)), (1, .int (nI k0)), (2, .int (nI w1)), (3, .int (nI n2))]) hx hb dX6_sheet_103 hl (k := 0) rfl (by decide) rfl (fun ls hl => ?_)
              refine lv_goto (tgt := 83) hx hb dX6_sheet_106 (by decide) ?_
              exact ih (i + 1) _ _ _ (by omega) (by omega) hP hD hS (lv_sub hl [0, 1, 2, 3, 4] rfl)
          · refine lv_iconst (v := nI 0) hx hb dX6_sheet_74 rfl ?_
            refine lv_goto (tgt := 79) hx hb dX6_sheet_75 (by decide) ?_
            refine n_top (y := nI (if w1 = 0 then 0 else n2)) (congrArg nI (by split <;> omega)) ?_
            refine n_iast hx hb hK hP hD hS 3 (wn := [mO b ζ vv, (b 4, .inl (G.2.1, 7, .inl tl)), (b 9, .inl (G.2.1, 4, .inl (nF (un wd k0 w1)))), (b 10, .inl (G.2.1, 4, .inl (nF (un zs k0 (if w1 = 0 then 0 else n2))))), (b 11, .inl (G.2.2.1, 160, .inr (.inl nb)))]) rfl (by omega) (by omega) (by rw [nF_un]; rfl) dX6_sheet_79 (fun H locs hP hD hS => ?_)
            refine lv_iconst (v := nI 0) hx hb dX6_sheet_80 rfl ?_
            refine lv_istore (lv' := [(4, .int (nI 0)), (0, .ref (b 0)), (1, .int (nI k0)), (2, .int (nI w1)), (3, .int (nI n2))]) hx hb dX6_sheet_81 hl (by decide) rfl (fun ls hl => ?_)
            refine W_loop1 (I := fun (i : Nat) => i ≤ 40) (wd := fun (i : Nat) => [mO b ζ vv, (b 4, .inl (G.2.1, 7, .inl tl)), (b 9, .inl (G.2.1, 4, .inl (nF (un wd k0 w1)))), (b 10, .inl (G.2.1, 4, .inl (nF (un zs k0 (if w1 = 0 then 0 else n2))))), (b 11, .inl (G.2.2.1, 160, .inr (.inl (clrN nb k0 i))))]) (lv := fun (i : Nat) => [(4, .int (nI i)), (0, .ref (b 0)), (1, .int (nI k0)), (2, .int (nI w1)), (3, .int (nI n2))]) (μ := fun (i : Nat) => 40 - i) ?_ 0 (by omega) hP hD hS (lv_sub hl [0, 1, 2, 3, 4] rfl)
            intro i H locs ls hI0 hP hD hS hl ih
            have hi0 : i ≤ 40 := hI0
            refine lv_iload hx hb dX6_sheet_83 (lv_at hl 0 rfl) ?_
            refine lv_bipush (v := nI 40) hx hb dX6_sheet_85 rfl ?_
            refine n_icmp_ge hx hb (by omega) (by omega) (tgt := 109) dX6_sheet_87 (by decide) (fun c_7 => ?_) (fun c_7 => ?_)
            · have hk5 : i = 40 := by omega
              subst hk5
              refine lv_aload_n hx hb dX6_sheet_109 rfl (lv_at hl 1 rfl) ?_
              refine n_get (C := RX6) (T := TX6) (N := 18) hx hb hts (fun _ h => List.mem_cons_of_mem _ (List.mem_append_right _ h)) hown hK hP 0 rfl rfl 15 (by decide) (List.mem_of_getElem? (i := 2) rfl) rfl (.ref (b 10)) rfl dX6_sheet_110 ?_
              refine lv_iload_n hx hb dX6_sheet_113 rfl (lv_at hl 2 rfl) ?_
              refine n_iald hx hb hK hP 3 (v := (nI ((un zs k0 (if w1 = 0 then 0 else n2)) k0))) rfl (by omega) (by omega) rfl dX6_sheet_114 ?_
              have he : sheet_e (nI k0).toInt (nI w1).toInt (nI n2).toInt = 7 := by unfold sheet_e; (try simp only [hT0, hT1, hT2, Int.toNat_natCast]); (repeat' split) <;> omega
              exact fin_i hx hb hr hlk hS hP hD () trivial (by rw [he]; (try simp only [hT0, hT1, hT2, Int.toNat_natCast]); exact congrArg nI un_s) (by rw [he]; (try simp only [hT0, hT1, hT2, Int.toNat_natCast]); exact eqW.rf _) dX6_sheet_115
            · refine lv_aload_n hx hb dX6_sheet_90 rfl (lv_at hl 1 rfl) ?_
              refine n_get (C := RX6) (T := TX6) (N := 18) hx hb hts (fun _ h => List.mem_cons_of_mem _ (List.mem_append_right _ h)) hown hK hP 0 rfl rfl 16 (by decide) (List.mem_of_getElem? (i := 3) rfl) rfl (.ref (b 11)) rfl dX6_sheet_91 ?_
              refine lv_bipush (v := nI 40) hx hb dX6_sheet_94 rfl ?_
              refine lv_iload_n hx hb dX6_sheet_96 rfl (lv_at hl 2 rfl) ?_
              refine n_imul hx hb dX6_sheet_97 ?_
              refine lv_iload hx hb dX6_sheet_98 (lv_at hl 0 rfl) ?_
              refine n_iadd hx hb dX6_sheet_100 ?_
              refine lv_lconst (v := lN 0) hx hb dX6_sheet_101 rfl ?_
              refine n_last hx hb hK hP hD hS 4 (wn := [mO b ζ vv, (b 4, .inl (G.2.1, 7, .inl tl)), (b 9, .inl (G.2.1, 4, .inl (nF (un wd k0 w1)))), (b 10, .inl (G.2.1, 4, .inl (nF (un zs k0 (if w1 = 0 then 0 else n2))))), (b 11, .inl (G.2.2.1, 160, .inr (.inl (vp_updL (clrN nb k0 i) ((40 * k0) + i) (lN 0)))))]) rfl (by omega) (by omega) rfl dX6_sheet_102 (fun H locs hP hD hS => ?_)
              refine n_iinc (lv' := [(4, .int (nI (i + 1))), (0, .ref (b 0)), (1, .int (nI k0)), (2, .int (nI w1)), (3, .int (nI n2))]) hx hb dX6_sheet_103 hl (k := 0) rfl (by decide) rfl (fun ls hl => ?_)
              refine lv_goto (tgt := 83) hx hb dX6_sheet_106 (by decide) ?_
              exact ih (i + 1) _ _ _ (by omega) (by omega) hP hD hS (lv_sub hl [0, 1, 2, 3, 4] rfl)
        · rw [nI_T (by omega)] at c_4
          refine lv_aload_n hx hb dX6_sheet_52 rfl (lv_at hl 0 rfl) ?_
          refine lv_iconst (v := nI 0) hx hb dX6_sheet_53 rfl ?_
          refine callVI (rest := []) (wn := fun u => [mO b ζ vv, (b 4, .inl (G.2.1, 7, .inl (tk tl 0))), (b 9, .inl (G.2.1, 4, .inl (nF wd))), (b 10, .inl (G.2.1, 4, .inl (nF zs))), (b 11, .inl (G.2.2.1, 160, .inr (.inl nb)))]) ⟨hx, hb, hml, hown, hts⟩ (c_X6_no l G H.size b ζ vv tl 0 (by omega)) (cwV 1 hts gX6_sheet_X6_no rfl rfl rfl (by decide +kernel) ⟨Nat.le_of_ble_eq_true rfl, Nat.le_of_ble_eq_true rfl⟩) noXB (fun _ _ _ => trivial) hK hP hD hS hAq 5 0 (T := TX6) (N := 18) rfl rfl rfl hl.1 rfl (Nat.le_of_ble_eq_true rfl) dX6_sheet_54 ⟨Nat.le_of_ble_eq_true rfl, Nat.le_of_ble_eq_true rfl⟩ [0, 1] rfl rfl [b 0, b 4] rfl (fun _ => rfl) (fun _ => rfl) (fun u H locs hok hP hD hS => ?_)
          have he : sheet_e (nI k0).toInt (nI w1).toInt a2.toInt = 0 := by unfold sheet_e; (try simp only [hT0, hT1, Int.toNat_natCast]); (repeat' split) <;> omega
          exact fin_i hx hb hr hlk hS hP hD () trivial (by rw [he]; first | done | ((try simp only [hT0, hT1, Int.toNat_natCast]); first | done | rfl)) (by rw [he]; (try simp only [hT0, hT1, Int.toNat_natCast]); exact eqW.rf _) dX6_sheet_57
      · refine lv_aload_n hx hb dX6_sheet_39 rfl (lv_at hl 0 rfl) ?_
        refine lv_bipush (v := nI 6) hx hb dX6_sheet_40 rfl ?_
        refine callVI (rest := []) (wn := fun u => [mO b ζ vv, (b 4, .inl (G.2.1, 7, .inl (tk tl 6))), (b 9, .inl (G.2.1, 4, .inl (nF wd))), (b 10, .inl (G.2.1, 4, .inl (nF zs))), (b 11, .inl (G.2.2.1, 160, .inr (.inl nb)))]) ⟨hx, hb, hml, hown, hts⟩ (c_X6_no l G H.size b ζ vv tl 6 (by omega)) (cwV 1 hts gX6_sheet_X6_no rfl rfl rfl (by decide +kernel) ⟨Nat.le_of_ble_eq_true rfl, Nat.le_of_ble_eq_true rfl⟩) noXB (fun _ _ _ => trivial) hK hP hD hS hAq 5 0 (T := TX6) (N := 18) rfl rfl rfl hl.1 rfl (Nat.le_of_ble_eq_true rfl) dX6_sheet_42 ⟨Nat.le_of_ble_eq_true rfl, Nat.le_of_ble_eq_true rfl⟩ [0, 1] rfl rfl [b 0, b 4] rfl (fun _ => rfl) (fun _ => rfl) (fun u H locs hok hP hD hS => ?_)
        have he : sheet_e (nI k0).toInt (nI w1).toInt a2.toInt = 6 := by unfold sheet_e; (try simp only [hT0, hT1, Int.toNat_natCast]); (repeat' split) <;> omega
        exact fin_i hx hb hr hlk hS hP hD () trivial (by rw [he]; first | done | ((try simp only [hT0, hT1, Int.toNat_natCast]); first | done | rfl)) (by rw [he]; (try simp only [hT0, hT1, Int.toNat_natCast]); exact eqW.rf _) dX6_sheet_45
    · refine lv_iload_n hx hb dX6_sheet_11 rfl (lv_at hl 2 rfl) ?_
      refine lv_bipush (v := nI 8) hx hb dX6_sheet_12 rfl ?_
      refine r_icmp_eq hx hb (tgt := 35) dX6_sheet_14 (by decide) (fun c_8 => ?_) (fun c_8 => ?_)
      · rw [nI_T (by omega)] at c_8
        obtain ⟨w1, hw1, rfl⟩ := nI_of_rg (n := 64) (x := a1) ⟨by omega, by omega⟩
        have hT1 := nI_T (a := w1) (by omega)
        refine lv_iload_n hx hb dX6_sheet_35 rfl (lv_at hl 3 rfl) ?_
        refine r_if_ge hx hb (tgt := 46) dX6_sheet_36 (by decide) (fun c_9 => ?_) (fun c_9 => ?_)
        · refine lv_iload_n hx hb dX6_sheet_46 rfl (lv_at hl 3 rfl) ?_
          refine lv_bipush (v := nI 40) hx hb dX6_sheet_47 rfl ?_
          refine r_icmp_le hx hb (tgt := 58) dX6_sheet_49 (by decide) (fun c_10 => ?_) (fun c_10 => ?_)
          · rw [nI_T (by omega)] at c_10
            obtain ⟨n2, hn2, rfl⟩ := nI_of_rg (n := 40) (x := a2) ⟨by omega, by omega⟩
            have hT2 := nI_T (a := n2) (by omega)
            refine lv_aload_n hx hb dX6_sheet_58 rfl (lv_at hl 0 rfl) ?_
            refine n_get (C := RX6) (T := TX6) (N := 18) hx hb hts (fun _ h => List.mem_cons_of_mem _ (List.mem_append_right _ h)) hown hK hP 0 rfl rfl 14 (by decide) (List.mem_of_getElem? (i := 1) rfl) rfl (.ref (b 9)) rfl dX6_sheet_59 ?_
            refine lv_iload_n hx hb dX6_sheet_62 rfl (lv_at hl 1 rfl) ?_
            refine lv_iload_n hx hb dX6_sheet_63 rfl (lv_at hl 2 rfl) ?_
            refine n_iast hx hb hK hP hD hS 2 (wn := [mO b ζ vv, (b 4, .inl (G.2.1, 7, .inl tl)), (b 9, .inl (G.2.1, 4, .inl (nF (un wd k0 w1)))), (b 10, .inl (G.2.1, 4, .inl (nF zs))), (b 11, .inl (G.2.2.1, 160, .inr (.inl nb)))]) rfl (by omega) (by omega) (by rw [nF_un]; rfl) dX6_sheet_64 (fun H locs hP hD hS => ?_)
            refine lv_aload_n hx hb dX6_sheet_65 rfl (lv_at hl 0 rfl) ?_
            refine n_get (C := RX6) (T := TX6) (N := 18) hx hb hts (fun _ h => List.mem_cons_of_mem _ (List.mem_append_right _ h)) hown hK hP 0 rfl rfl 15 (by decide) (List.mem_of_getElem? (i := 2) rfl) rfl (.ref (b 10)) rfl dX6_sheet_66 ?_
            refine lv_iload_n hx hb dX6_sheet_69 rfl (lv_at hl 1 rfl) ?_
            refine lv_iload_n hx hb dX6_sheet_70 rfl (lv_at hl 2 rfl) ?_
            refine n_if_ne hx hb (by omega) (tgt := 78) dX6_sheet_71 (by decide) (fun c_11 => ?_) (fun c_11 => ?_)
            · refine lv_iload_n hx hb dX6_sheet_78 rfl (lv_at hl 3 rfl) ?_
              refine n_top (y := nI (if w1 = 0 then 0 else n2)) (congrArg nI (by split <;> omega)) ?_
              refine n_iast hx hb hK hP hD hS 3 (wn := [mO b ζ vv, (b 4, .inl (G.2.1, 7, .inl tl)), (b 9, .inl (G.2.1, 4, .inl (nF (un wd k0 w1)))), (b 10, .inl (G.2.1, 4, .inl (nF (un zs k0 (if w1 = 0 then 0 else n2))))), (b 11, .inl (G.2.2.1, 160, .inr (.inl nb)))]) rfl (by omega) (by omega) (by rw [nF_un]; rfl) dX6_sheet_79 (fun H locs hP hD hS => ?_)
              refine lv_iconst (v := nI 0) hx hb dX6_sheet_80 rfl ?_
              refine lv_istore (lv' := [(4, .int (nI 0)), (0, .ref (b 0)), (1, .int (nI k0)), (2, .int (nI w1)), (3, .int (nI n2))]) hx hb dX6_sheet_81 hl (by decide) rfl (fun ls hl => ?_)
              refine W_loop1 (I := fun (i : Nat) => i ≤ 40) (wd := fun (i : Nat) => [mO b ζ vv, (b 4, .inl (G.2.1, 7, .inl tl)), (b 9, .inl (G.2.1, 4, .inl (nF (un wd k0 w1)))), (b 10, .inl (G.2.1, 4, .inl (nF (un zs k0 (if w1 = 0 then 0 else n2))))), (b 11, .inl (G.2.2.1, 160, .inr (.inl (clrN nb k0 i))))]) (lv := fun (i : Nat) => [(4, .int (nI i)), (0, .ref (b 0)), (1, .int (nI k0)), (2, .int (nI w1)), (3, .int (nI n2))]) (μ := fun (i : Nat) => 40 - i) ?_ 0 (by omega) hP hD hS (lv_sub hl [0, 1, 2, 3, 4] rfl)
              intro i H locs ls hI0 hP hD hS hl ih
              have hi0 : i ≤ 40 := hI0
              refine lv_iload hx hb dX6_sheet_83 (lv_at hl 0 rfl) ?_
              refine lv_bipush (v := nI 40) hx hb dX6_sheet_85 rfl ?_
              refine n_icmp_ge hx hb (by omega) (by omega) (tgt := 109) dX6_sheet_87 (by decide) (fun c_12 => ?_) (fun c_12 => ?_)
              · have hk5 : i = 40 := by omega
                subst hk5
                refine lv_aload_n hx hb dX6_sheet_109 rfl (lv_at hl 1 rfl) ?_
                refine n_get (C := RX6) (T := TX6) (N := 18) hx hb hts (fun _ h => List.mem_cons_of_mem _ (List.mem_append_right _ h)) hown hK hP 0 rfl rfl 15 (by decide) (List.mem_of_getElem? (i := 2) rfl) rfl (.ref (b 10)) rfl dX6_sheet_110 ?_
                refine lv_iload_n hx hb dX6_sheet_113 rfl (lv_at hl 2 rfl) ?_
                refine n_iald hx hb hK hP 3 (v := (nI ((un zs k0 (if w1 = 0 then 0 else n2)) k0))) rfl (by omega) (by omega) rfl dX6_sheet_114 ?_
                have he : sheet_e (nI k0).toInt (nI w1).toInt (nI n2).toInt = 7 := by unfold sheet_e; (try simp only [hT0, hT1, hT2, Int.toNat_natCast]); (repeat' split) <;> omega
                exact fin_i hx hb hr hlk hS hP hD () trivial (by rw [he]; (try simp only [hT0, hT1, hT2, Int.toNat_natCast]); exact congrArg nI un_s) (by rw [he]; (try simp only [hT0, hT1, hT2, Int.toNat_natCast]); exact eqW.rf _) dX6_sheet_115
              · refine lv_aload_n hx hb dX6_sheet_90 rfl (lv_at hl 1 rfl) ?_
                refine n_get (C := RX6) (T := TX6) (N := 18) hx hb hts (fun _ h => List.mem_cons_of_mem _ (List.mem_append_right _ h)) hown hK hP 0 rfl rfl 16 (by decide) (List.mem_of_getElem? (i := 3) rfl) rfl (.ref (b 11)) rfl dX6_sheet_91 ?_
                refine lv_bipush (v := nI 40) hx hb dX6_sheet_94 rfl ?_
                refine lv_iload_n hx hb dX6_sheet_96 rfl (lv_at hl 2 rfl) ?_
                refine n_imul hx hb dX6_sheet_97 ?_
                refine lv_iload hx hb dX6_sheet_98 (lv_at hl 0 rfl) ?_
                refine n_iadd hx hb dX6_sheet_100 ?_
                refine lv_lconst (v := lN 0) hx hb dX6_sheet_101 rfl ?_
                refine n_last hx hb hK hP hD hS 4 (wn := [mO b ζ vv, (b 4, .inl (G.2.1, 7, .inl tl)), (b 9, .inl (G.2.1, 4, .inl (nF (un wd k0 w1)))), (b 10, .inl (G.2.1, 4, .inl (nF (un zs k0 (if w1 = 0 then 0 else n2))))), (b 11, .inl (G.2.2.1, 160, .inr (.inl (vp_updL (clrN nb k0 i) ((40 * k0) + i) (lN 0)))))]) rfl (by omega) (by omega) rfl dX6_sheet_102 (fun H locs hP hD hS => ?_)
                refine n_iinc (lv' := [(4, .int (nI (i + 1))), (0, .ref (b 0)), (1, .int (nI k0)), (2, .int (nI w1)), (3, .int (nI n2))]) hx hb dX6_sheet_103 hl (k := 0) rfl (by decide) rfl (fun ls hl => ?_)
                refine lv_goto (tgt := 83) hx hb dX6_sheet_106 (by decide) ?_
                exact ih (i + 1) _ _ _ (by omega) (by omega) hP hD hS (lv_sub hl [0, 1, 2, 3, 4] rfl)
            · refine lv_iconst (v := nI 0) hx hb dX6_sheet_74 rfl ?_
              refine lv_goto (tgt := 79) hx hb dX6_sheet_75 (by decide) ?_
              refine n_top (y := nI (if w1 = 0 then 0 else n2)) (congrArg nI (by split <;> omega)) ?_
              refine n_iast hx hb hK hP hD hS 3 (wn := [mO b ζ vv, (b 4, .inl (G.2.1, 7, .inl tl)), (b 9, .inl (G.2.1, 4, .inl (nF (un wd k0 w1)))), (b 10, .inl (G.2.1, 4, .inl (nF (un zs k0 (if w1 = 0 then 0 else n2))))), (b 11, .inl (G.2.2.1, 160, .inr (.inl nb)))]) rfl (by omega) (by omega) (by rw [nF_un]; rfl) dX6_sheet_79 (fun H locs hP hD hS => ?_)
              refine lv_iconst (v := nI 0) hx hb dX6_sheet_80 rfl ?_
              refine lv_istore (lv' := [(4, .int (nI 0)), (0, .ref (b 0)), (1, .int (nI k0)), (2, .int (nI w1)), (3, .int (nI n2))]) hx hb dX6_sheet_81 hl (by decide) rfl (fun ls hl => ?_)
              refine W_loop1 (I := fun (i : Nat) => i ≤ 40) (wd := fun (i : Nat) => [mO b ζ vv, (b 4, .inl (G.2.1, 7, .inl tl)), (b 9, .inl (G.2.1, 4, .inl (nF (un wd k0 w1)))), (b 10, .inl (G.2.1, 4, .inl (nF (un zs k0 (if w1 = 0 then 0 else n2))))), (b 11, .inl (G.2.2.1, 160, .inr (.inl (clrN nb k0 i))))]) (lv := fun (i : Nat) => [(4, .int (nI i)), (0, .ref (b 0)), (1, .int (nI k0)), (2, .int (nI w1)), (3, .int (nI n2))]) (μ := fun (i : Nat) => 40 - i) ?_ 0 (by omega) hP hD hS (lv_sub hl [0, 1, 2, 3, 4] rfl)
              intro i H locs ls hI0 hP hD hS hl ih
              have hi0 : i ≤ 40 := hI0
              refine lv_iload hx hb dX6_sheet_83 (lv_at hl 0 rfl) ?_
              refine lv_bipush (v := nI 40) hx hb dX6_sheet_85 rfl ?_
              refine n_icmp_ge hx hb (by omega) (by omega) (tgt := 109) dX6_sheet_87 (by decide) (fun c_13 => ?_) (fun c_13 => ?_)
              · have hk5 : i = 40 := by omega
                subst hk5
                refine lv_aload_n hx hb dX6_sheet_109 rfl (lv_at hl 1 rfl) ?_
                refine n_get (C := RX6) (T := TX6) (N := 18) hx hb hts (fun _ h => List.mem_cons_of_mem _ (List.mem_append_right _ h)) hown hK hP 0 rfl rfl 15 (by decide) (List.mem_of_getElem? (i := 2) rfl) rfl (.ref (b 10)) rfl dX6_sheet_110 ?_
                refine lv_iload_n hx hb dX6_sheet_113 rfl (lv_at hl 2 rfl) ?_
                refine n_iald hx hb hK hP 3 (v := (nI ((un zs k0 (if w1 = 0 then 0 else n2)) k0))) rfl (by omega) (by omega) rfl dX6_sheet_114 ?_
                have he : sheet_e (nI k0).toInt (nI w1).toInt (nI n2).toInt = 7 := by unfold sheet_e; (try simp only [hT0, hT1, hT2, Int.toNat_natCast]); (repeat' split) <;> omega
                exact fin_i hx hb hr hlk hS hP hD () trivial (by rw [he]; (try simp only [hT0, hT1, hT2, Int.toNat_natCast]); exact congrArg nI un_s) (by rw [he]; (try simp only [hT0, hT1, hT2, Int.toNat_natCast]); exact eqW.rf _) dX6_sheet_115
              · refine lv_aload_n hx hb dX6_sheet_90 rfl (lv_at hl 1 rfl) ?_
                refine n_get (C := RX6) (T := TX6) (N := 18) hx hb hts (fun _ h => List.mem_cons_of_mem _ (List.mem_append_right _ h)) hown hK hP 0 rfl rfl 16 (by decide) (List.mem_of_getElem? (i := 3) rfl) rfl (.ref (b 11)) rfl dX6_sheet_91 ?_
                refine lv_bipush (v := nI 40) hx hb dX6_sheet_94 rfl ?_
                refine lv_iload_n hx hb dX6_sheet_96 rfl (lv_at hl 2 rfl) ?_
                refine n_imul hx hb dX6_sheet_97 ?_
                refine lv_iload hx hb dX6_sheet_98 (lv_at hl 0 rfl) ?_
                refine n_iadd hx hb dX6_sheet_100 ?_
                refine lv_lconst (v := lN 0) hx hb dX6_sheet_101 rfl ?_
                refine n_last hx hb hK hP hD hS 4 (wn := [mO b ζ vv, (b 4, .inl (G.2.1, 7, .inl tl)), (b 9, .inl (G.2.1, 4, .inl (nF (un wd k0 w1)))), (b 10, .inl (G.2.1, 4, .inl (nF (un zs k0 (if w1 = 0 then 0 else n2))))), (b 11, .inl (G.2.2.1, 160, .inr (.inl (vp_updL (clrN nb k0 i) ((40 * k0) + i) (lN 0)))))]) rfl (by omega) (by omega) rfl dX6_sheet_102 (fun H locs hP hD hS => ?_)
                refine n_iinc (lv' := [(4, .int (nI (i + 1))), (0, .ref (b 0)), (1, .int (nI k0)), (2, .int (nI w1)), (3, .int (nI n2))]) hx hb dX6_sheet_103 hl (k := 0) rfl (by decide) rfl (fun ls hl => ?_)
                refine lv_goto (tgt := 83) hx hb dX6_sheet_106 (by decide) ?_
                exact ih (i + 1) _ _ _ (by omega) (by omega) hP hD hS (lv_sub hl [0, 1, 2, 3, 4] rfl)
          · rw [nI_T (by omega)] at c_10
            refine lv_aload_n hx hb dX6_sheet_52 rfl (lv_at hl 0 rfl) ?_
            refine lv_iconst (v := nI 0) hx hb dX6_sheet_53 rfl ?_
            refine callVI (rest := []) (wn := fun u => [mO b ζ vv, (b 4, .inl (G.2.1, 7, .inl (tk tl 0))), (b 9, .inl (G.2.1, 4, .inl (nF wd))), (b 10, .inl (G.2.1, 4, .inl (nF zs))), (b 11, .inl (G.2.2.1, 160, .inr (.inl nb)))]) ⟨hx, hb, hml, hown, hts⟩ (c_X6_no l G H.size b ζ vv tl 0 (by omega)) (cwV 1 hts gX6_sheet_X6_no rfl rfl rfl (by decide +kernel) ⟨Nat.le_of_ble_eq_true rfl, Nat.le_of_ble_eq_true rfl⟩) noXB (fun _ _ _ => trivial) hK hP hD hS hAq 5 0 (T := TX6) (N := 18) rfl rfl rfl hl.1 rfl (Nat.le_of_ble_eq_true rfl) dX6_sheet_54 ⟨Nat.le_of_ble_eq_true rfl, Nat.le_of_ble_eq_true rfl⟩ [0, 1] rfl rfl [b 0, b 4] rfl (fun _ => rfl) (fun _ => rfl) (fun u H locs hok hP hD hS => ?_)
            have he : sheet_e (nI k0).toInt (nI w1).toInt a2.toInt = 0 := by unfold sheet_e; (try simp only [hT0, hT1, Int.toNat_natCast]); (repeat' split) <;> omega
            exact fin_i hx hb hr hlk hS hP hD () trivial (by rw [he]; first | done | ((try simp only [hT0, hT1, Int.toNat_natCast]); first | done | rfl)) (by rw [he]; (try simp only [hT0, hT1, Int.toNat_natCast]); exact eqW.rf _) dX6_sheet_57
        · refine lv_aload_n hx hb dX6_sheet_39 rfl (lv_at hl 0 rfl) ?_
          refine lv_bipush (v := nI 6) hx hb dX6_sheet_40 rfl ?_
          refine callVI (rest := []) (wn := fun u => [mO b ζ vv, (b 4, .inl (G.2.1, 7, .inl (tk tl 6))), (b 9, .inl (G.2.1, 4, .inl (nF wd))), (b 10, .inl (G.2.1, 4, .inl (nF zs))), (b 11, .inl (G.2.2.1, 160, .inr (.inl nb)))]) ⟨hx, hb, hml, hown, hts⟩ (c_X6_no l G H.size b ζ vv tl 6 (by omega)) (cwV 1 hts gX6_sheet_X6_no rfl rfl rfl (by decide +kernel) ⟨Nat.le_of_ble_eq_true rfl, Nat.le_of_ble_eq_true rfl⟩) noXB (fun _ _ _ => trivial) hK hP hD hS hAq 5 0 (T := TX6) (N := 18) rfl rfl rfl hl.1 rfl (Nat.le_of_ble_eq_true rfl) dX6_sheet_42 ⟨Nat.le_of_ble_eq_true rfl, Nat.le_of_ble_eq_true rfl⟩ [0, 1] rfl rfl [b 0, b 4] rfl (fun _ => rfl) (fun _ => rfl) (fun u H locs hok hP hD hS => ?_)
          have he : sheet_e (nI k0).toInt (nI w1).toInt a2.toInt = 6 := by unfold sheet_e; (try simp only [hT0, hT1, Int.toNat_natCast]); (repeat' split) <;> omega
          exact fin_i hx hb hr hlk hS hP hD () trivial (by rw [he]; first | done | ((try simp only [hT0, hT1, Int.toNat_natCast]); first | done | rfl)) (by rw [he]; (try simp only [hT0, hT1, Int.toNat_natCast]); exact eqW.rf _) dX6_sheet_45
      · rw [nI_T (by omega)] at c_8
        refine lv_iload_n hx hb dX6_sheet_17 rfl (lv_at hl 2 rfl) ?_
        refine lv_bipush (v := nI 16) hx hb dX6_sheet_18 rfl ?_
        refine r_icmp_eq hx hb (tgt := 35) dX6_sheet_20 (by decide) (fun c_14 => ?_) (fun c_14 => ?_)
        · rw [nI_T (by omega)] at c_14
          obtain ⟨w1, hw1, rfl⟩ := nI_of_rg (n := 64) (x := a1) ⟨by omega, by omega⟩
          have hT1 := nI_T (a := w1) (by omega)
          refine lv_iload_n hx hb dX6_sheet_35 rfl (lv_at hl 3 rfl) ?_
          refine r_if_ge hx hb (tgt := 46) dX6_sheet_36 (by decide) (fun c_15 => ?_) (fun c_15 => ?_)
          · refine lv_iload_n hx hb dX6_sheet_46 rfl (lv_at hl 3 rfl) ?_
            refine lv_bipush (v := nI 40) hx hb dX6_sheet_47 rfl ?_
            refine r_icmp_le hx hb (tgt := 58) dX6_sheet_49 (by decide) (fun c_16 => ?_) (fun c_16 => ?_)
            · rw [nI_T (by omega)] at c_16
              obtain ⟨n2, hn2, rfl⟩ := nI_of_rg (n := 40) (x := a2) ⟨by omega, by omega⟩
              have hT2 := nI_T (a := n2) (by omega)
              refine lv_aload_n hx hb dX6_sheet_58 rfl (lv_at hl 0 rfl) ?_
              refine n_get (C := RX6) (T := TX6) (N := 18) hx hb hts (fun _ h => List.mem_cons_of_mem _ (List.mem_append_right _ h)) hown hK hP 0 rfl rfl 14 (by decide) (List.mem_of_getElem? (i := 1) rfl) rfl (.ref (b 9)) rfl dX6_sheet_59 ?_
              refine lv_iload_n hx hb dX6_sheet_62 rfl (lv_at hl 1 rfl) ?_
              refine lv_iload_n hx hb dX6_sheet_63 rfl (lv_at hl 2 rfl) ?_
              refine n_iast hx hb hK hP hD hS 2 (wn := [mO b ζ vv, (b 4, .inl (G.2.1, 7, .inl tl)), (b 9, .inl (G.2.1, 4, .inl (nF (un wd k0 w1)))), (b 10, .inl (G.2.1, 4, .inl (nF zs))), (b 11, .inl (G.2.2.1, 160, .inr (.inl nb)))]) rfl (by omega) (by omega) (by rw [nF_un]; rfl) dX6_sheet_64 (fun H locs hP hD hS => ?_)
              refine lv_aload_n hx hb dX6_sheet_65 rfl (lv_at hl 0 rfl) ?_
              refine n_get (C := RX6) (T := TX6) (N := 18) hx hb hts (fun _ h => List.mem_cons_of_mem _ (List.mem_append_right _ h)) hown hK hP 0 rfl rfl 15 (by decide) (List.mem_of_getElem? (i := 2) rfl) rfl (.ref (b 10)) rfl dX6_sheet_66 ?_
              refine lv_iload_n hx hb dX6_sheet_69 rfl (lv_at hl 1 rfl) ?_
              refine lv_iload_n hx hb dX6_sheet_70 rfl (lv_at hl 2 rfl) ?_
              refine n_if_ne hx hb (by omega) (tgt := 78) dX6_sheet_71 (by decide) (fun c_17 => ?_) (fun c_17 => ?_)
              · refine lv_iload_n hx hb dX6_sheet_78 rfl (lv_at hl 3 rfl) ?_
                refine n_top (y := nI (if w1 = 0 then 0 else n2)) (congrArg nI (by split <;> omega)) ?_
                refine n_iast hx hb hK hP hD hS 3 (wn := [mO b ζ vv, (b 4, .inl (G.2.1, 7, .inl tl)), (b 9, .inl (G.2.1, 4, .inl (nF (un wd k0 w1)))), (b 10, .inl (G.2.1, 4, .inl (nF (un zs k0 (if w1 = 0 then 0 else n2))))), (b 11, .inl (G.2.2.1, 160, .inr (.inl nb)))]) rfl (by omega) (by omega) (by rw [nF_un]; rfl) dX6_sheet_79 (fun H locs hP hD hS => ?_)
                refine lv_iconst (v := nI 0) hx hb dX6_sheet_80 rfl ?_
                refine lv_istore (lv' := [(4, .int (nI 0)), (0, .ref (b 0)), (1, .int (nI k0)), (2, .int (nI w1)), (3, .int (nI n2))]) hx hb dX6_sheet_81 hl (by decide) rfl (fun ls hl => ?_)
                refine W_loop1 (I := fun (i : Nat) => i ≤ 40) (wd := fun (i : Nat) => [mO b ζ vv, (b 4, .inl (G.2.1, 7, .inl tl)), (b 9, .inl (G.2.1, 4, .inl (nF (un wd k0 w1)))), (b 10, .inl (G.2.1, 4, .inl (nF (un zs k0 (if w1 = 0 then 0 else n2))))), (b 11, .inl (G.2.2.1, 160, .inr (.inl (clrN nb k0 i))))]) (lv := fun (i : Nat) => [(4, .int (nI i)), (0, .ref (b 0)), (1, .int (nI k0)), (2, .int (nI w1)), (3, .int (nI n2))]) (μ := fun (i : Nat) => 40 - i) ?_ 0 (by omega) hP hD hS (lv_sub hl [0, 1, 2, 3, 4] rfl)
                intro i H locs ls hI0 hP hD hS hl ih
                have hi0 : i ≤ 40 := hI0
                refine lv_iload hx hb dX6_sheet_83 (lv_at hl 0 rfl) ?_
                refine lv_bipush (v := nI 40) hx hb dX6_sheet_85 rfl ?_
                refine n_icmp_ge hx hb (by omega) (by omega) (tgt := 109) dX6_sheet_87 (by decide) (fun c_18 => ?_) (fun c_18 => ?_)
                · have hk5 : i = 40 := by omega
                  subst hk5
                  refine lv_aload_n hx hb dX6_sheet_109 rfl (lv_at hl 1 rfl) ?_
                  refine n_get (C := RX6) (T := TX6) (N := 18) hx hb hts (fun _ h => List.mem_cons_of_mem _ (List.mem_append_right _ h)) hown hK hP 0 rfl rfl 15 (by decide) (List.mem_of_getElem? (i := 2) rfl) rfl (.ref (b 10)) rfl dX6_sheet_110 ?_
                  refine lv_iload_n hx hb dX6_sheet_113 rfl (lv_at hl 2 rfl) ?_
                  refine n_iald hx hb hK hP 3 (v := (nI ((un zs k0 (if w1 = 0 then 0 else n2)) k0))) rfl (by omega) (by omega) rfl dX6_sheet_114 ?_
                  have he : sheet_e (nI k0).toInt (nI w1).toInt (nI n2).toInt = 7 := by unfold sheet_e; (try simp only [hT0, hT1, hT2, Int.toNat_natCast]); (repeat' split) <;> omega
                  exact fin_i hx hb hr hlk hS hP hD () trivial (by rw [he]; (try simp only [hT0, hT1, hT2, Int.toNat_natCast]); exact congrArg nI un_s) (by rw [he]; (try simp only [hT0, hT1, hT2, Int.toNat_natCast]); exact eqW.rf _) dX6_sheet_115
                · refine lv_aload_n hx hb dX6_sheet_90 rfl (lv_at hl 1 rfl) ?_
                  refine n_get (C := RX6) (T := TX6) (N := 18) hx hb hts (fun _ h => List.mem_cons_of_mem _ (List.mem_append_right _ h)) hown hK hP 0 rfl rfl 16 (by decide) (List.mem_of_getElem? (i := 3) rfl) rfl (.ref (b 11)) rfl dX6_sheet_91 ?_
                  refine lv_bipush (v := nI 40) hx hb dX6_sheet_94 rfl ?_
                  refine lv_iload_n hx hb dX6_sheet_96 rfl (lv_at hl 2 rfl) ?_
                  refine n_imul hx hb dX6_sheet_97 ?_
                  refine lv_iload hx hb dX6_sheet_98 (lv_at hl 0 rfl) ?_
                  refine n_iadd hx hb dX6_sheet_100 ?_
                  refine lv_lconst (v := lN 0) hx hb dX6_sheet_101 rfl ?_
                  refine n_last hx hb hK hP hD hS 4 (wn := [mO b ζ vv, (b 4, .inl (G.2.1, 7, .inl tl)), (b 9, .inl (G.2.1, 4, .inl (nF (un wd k0 w1)))), (b 10, .inl (G.2.1, 4, .inl (nF (un zs k0 (if w1 = 0 then 0 else n2))))), (b 11, .inl (G.2.2.1, 160, .inr (.inl (vp_updL (clrN nb k0 i) ((40 * k0) + i) (lN 0)))))]) rfl (by omega) (by omega) rfl dX6_sheet_102 (fun H locs hP hD hS => ?_)
                  refine n_iinc (lv' := [(4, .int (nI (i + 1))), (0, .ref (b 0)), (1, .int (nI k0)), (2, .int (nI w1)), (3, .int (nI n2))]) hx hb dX6_sheet_103 hl (k := 0) rfl (by decide) rfl (fun ls hl => ?_)
                  refine lv_goto (tgt := 83) hx hb dX6_sheet_106 (by decide) ?_
                  exact ih (i + 1) _ _ _ (by omega) (by omega) hP hD hS (lv_sub hl [0, 1, 2, 3, 4] rfl)
              · refine lv_iconst (v := nI 0) hx hb dX6_sheet_74 rfl ?_
                refine lv_goto (tgt := 79) hx hb dX6_sheet_75 (by decide) ?_
                refine n_top (y := nI (if w1 = 0 then 0 else n2)) (congrArg nI (by split <;> omega)) ?_
                refine n_iast hx hb hK hP hD hS 3 (wn := [mO b ζ vv, (b 4, .inl (G.2.1, 7, .inl tl)), (b 9, .inl (G.2.1, 4, .inl (nF (un wd k0 w1)))), (b 10, .inl (G.2.1, 4, .inl (nF (un zs k0 (if w1 = 0 then 0 else n2))))), (b 11, .inl (G.2.2.1, 160, .inr (.inl nb)))]) rfl (by omega) (by omega) (by rw [nF_un]; rfl) dX6_sheet_79 (fun H locs hP hD hS => ?_)
                refine lv_iconst (v := nI 0) hx hb dX6_sheet_80 rfl ?_
                refine lv_istore (lv' := [(4, .int (nI 0)), (0, .ref (b 0)), (1, .int (nI k0)), (2, .int (nI w1)), (3, .int (nI n2))]) hx hb dX6_sheet_81 hl (by decide) rfl (fun ls hl => ?_)
                refine W_loop1 (I := fun (i : Nat) => i ≤ 40) (wd := fun (i : Nat) => [mO b ζ vv, (b 4, .inl (G.2.1, 7, .inl tl)), (b 9, .inl (G.2.1, 4, .inl (nF (un wd k0 w1)))), (b 10, .inl (G.2.1, 4, .inl (nF (un zs k0 (if w1 = 0 then 0 else n2))))), (b 11, .inl (G.2.2.1, 160, .inr (.inl (clrN nb k0 i))))]) (lv := fun (i : Nat) => [(4, .int (nI i)), (0, .ref (b 0)), (1, .int (nI k0)), (2, .int (nI w1)), (3, .int (nI n2))]) (μ := fun (i : Nat) => 40 - i) ?_ 0 (by omega) hP hD hS (lv_sub hl [0, 1, 2, 3, 4] rfl)
                intro i H locs ls hI0 hP hD hS hl ih
                have hi0 : i ≤ 40 := hI0
                refine lv_iload hx hb dX6_sheet_83 (lv_at hl 0 rfl) ?_
                refine lv_bipush (v := nI 40) hx hb dX6_sheet_85 rfl ?_
                refine n_icmp_ge hx hb (by omega) (by omega) (tgt := 109) dX6_sheet_87 (by decide) (fun c_19 => ?_) (fun c_19 => ?_)
                · have hk5 : i = 40 := by omega
                  subst hk5
                  refine lv_aload_n hx hb dX6_sheet_109 rfl (lv_at hl 1 rfl) ?_
                  refine n_get (C := RX6) (T := TX6) (N := 18) hx hb hts (fun _ h => List.mem_cons_of_mem _ (List.mem_append_right _ h)) hown hK hP 0 rfl rfl 15 (by decide) (List.mem_of_getElem? (i := 2) rfl) rfl (.ref (b 10)) rfl dX6_sheet_110 ?_
                  refine lv_iload_n hx hb dX6_sheet_113 rfl (lv_at hl 2 rfl) ?_
                  refine n_iald hx hb hK hP 3 (v := (nI ((un zs k0 (if w1 = 0 then 0 else n2)) k0))) rfl (by omega) (by omega) rfl dX6_sheet_114 ?_
                  have he : sheet_e (nI k0).toInt (nI w1).toInt (nI n2).toInt = 7 := by unfold sheet_e; (try simp only [hT0, hT1, hT2, Int.toNat_natCast]); (repeat' split) <;> omega
                  exact fin_i hx hb hr hlk hS hP hD () trivial (by rw [he]; (try simp only [hT0, hT1, hT2, Int.toNat_natCast]); exact congrArg nI un_s) (by rw [he]; (try simp only [hT0, hT1, hT2, Int.toNat_natCast]); exact eqW.rf _) dX6_sheet_115
                · refine lv_aload_n hx hb dX6_sheet_90 rfl (lv_at hl 1 rfl) ?_
                  refine n_get (C := RX6) (T := TX6) (N := 18) hx hb hts (fun _ h => List.mem_cons_of_mem _ (List.mem_append_right _ h)) hown hK hP 0 rfl rfl 16 (by decide) (List.mem_of_getElem? (i := 3) rfl) rfl (.ref (b 11)) rfl dX6_sheet_91 ?_
                  refine lv_bipush (v := nI 40) hx hb dX6_sheet_94 rfl ?_
                  refine lv_iload_n hx hb dX6_sheet_96 rfl (lv_at hl 2 rfl) ?_
                  refine n_imul hx hb dX6_sheet_97 ?_
                  refine lv_iload hx hb dX6_sheet_98 (lv_at hl 0 rfl) ?_
                  refine n_iadd hx hb dX6_sheet_100 ?_
                  refine lv_lconst (v := lN 0) hx hb dX6_sheet_101 rfl ?_
                  refine n_last hx hb hK hP hD hS 4 (wn := [mO b ζ vv, (b 4, .inl (G.2.1, 7, .inl tl)), (b 9, .inl (G.2.1, 4, .inl (nF (un wd k0 w1)))), (b 10, .inl (G.2.1, 4, .inl (nF (un zs k0 (if w1 = 0 then 0 else n2))))), (b 11, .inl (G.2.2.1, 160, .inr (.inl (vp_updL (clrN nb k0 i) ((40 * k0) + i) (lN 0)))))]) rfl (by omega) (by omega) rfl dX6_sheet_102 (fun H locs hP hD hS => ?_)
                  refine n_iinc (lv' := [(4, .int (nI (i + 1))), (0, .ref (b 0)), (1, .int (nI k0)), (2, .int (nI w1)), (3, .int (nI n2))]) hx hb dX6_sheet_103 hl (k := 0) rfl (by decide) rfl (fun ls hl => ?_)
                  refine lv_goto (tgt := 83) hx hb dX6_sheet_106 (by decide) ?_
                  exact ih (i + 1) _ _ _ (by omega) (by omega) hP hD hS (lv_sub hl [0, 1, 2, 3, 4] rfl)
            · rw [nI_T (by omega)] at c_16
              refine lv_aload_n hx hb dX6_sheet_52 rfl (lv_at hl 0 rfl) ?_
              refine lv_iconst (v := nI 0) hx hb dX6_sheet_53 rfl ?_
              refine callVI (rest := []) (wn := fun u => [mO b ζ vv, (b 4, .inl (G.2.1, 7, .inl (tk tl 0))), (b 9, .inl (G.2.1, 4, .inl (nF wd))), (b 10, .inl (G.2.1, 4, .inl (nF zs))), (b 11, .inl (G.2.2.1, 160, .inr (.inl nb)))]) ⟨hx, hb, hml, hown, hts⟩ (c_X6_no l G H.size b ζ vv tl 0 (by omega)) (cwV 1 hts gX6_sheet_X6_no rfl rfl rfl (by decide +kernel) ⟨Nat.le_of_ble_eq_true rfl, Nat.le_of_ble_eq_true rfl⟩) noXB (fun _ _ _ => trivial) hK hP hD hS hAq 5 0 (T := TX6) (N := 18) rfl rfl rfl hl.1 rfl (Nat.le_of_ble_eq_true rfl) dX6_sheet_54 ⟨Nat.le_of_ble_eq_true rfl, Nat.le_of_ble_eq_true rfl⟩ [0, 1] rfl rfl [b 0, b 4] rfl (fun _ => rfl) (fun _ => rfl) (fun u H locs hok hP hD hS => ?_)
              have he : sheet_e (nI k0).toInt (nI w1).toInt a2.toInt = 0 := by unfold sheet_e; (try simp only [hT0, hT1, Int.toNat_natCast]); (repeat' split) <;> omega
              exact fin_i hx hb hr hlk hS hP hD () trivial (by rw [he]; first | done | ((try simp only [hT0, hT1, Int.toNat_natCast]); first | done | rfl)) (by rw [he]; (try simp only [hT0, hT1, Int.toNat_natCast]); exact eqW.rf _) dX6_sheet_57
          · refine lv_aload_n hx hb dX6_sheet_39 rfl (lv_at hl 0 rfl) ?_
            refine lv_bipush (v := nI 6) hx hb dX6_sheet_40 rfl ?_
            refine callVI (rest := []) (wn := fun u => [mO b ζ vv, (b 4, .inl (G.2.1, 7, .inl (tk tl 6))), (b 9, .inl (G.2.1, 4, .inl (nF wd))), (b 10, .inl (G.2.1, 4, .inl (nF zs))), (b 11, .inl (G.2.2.1, 160, .inr (.inl nb)))]) ⟨hx, hb, hml, hown, hts⟩ (c_X6_no l G H.size b ζ vv tl 6 (by omega)) (cwV 1 hts gX6_sheet_X6_no rfl rfl rfl (by decide +kernel) ⟨Nat.le_of_ble_eq_true rfl, Nat.le_of_ble_eq_true rfl⟩) noXB (fun _ _ _ => trivial) hK hP hD hS hAq 5 0 (T := TX6) (N := 18) rfl rfl rfl hl.1 rfl (Nat.le_of_ble_eq_true rfl) dX6_sheet_42 ⟨Nat.le_of_ble_eq_true rfl, Nat.le_of_ble_eq_true rfl⟩ [0, 1] rfl rfl [b 0, b 4] rfl (fun _ => rfl) (fun _ => rfl) (fun u H locs hok hP hD hS => ?_)
            have he : sheet_e (nI k0).toInt (nI w1).toInt a2.toInt = 6 := by unfold sheet_e; (try simp only [hT0, hT1, Int.toNat_natCast]); (repeat' split) <;> omega
            exact fin_i hx hb hr hlk hS hP hD () trivial (by rw [he]; first | done | ((try simp only [hT0, hT1, Int.toNat_natCast]); first | done | rfl)) (by rw [he]; (try simp only [hT0, hT1, Int.toNat_natCast]); exact eqW.rf _) dX6_sheet_45
        · rw [nI_T (by omega)] at c_14
          refine lv_iload_n hx hb dX6_sheet_23 rfl (lv_at hl 2 rfl) ?_
          refine lv_bipush (v := nI 64) hx hb dX6_sheet_24 rfl ?_
          refine r_icmp_eq hx hb (tgt := 35) dX6_sheet_26 (by decide) (fun c_20 => ?_) (fun c_20 => ?_)
          · rw [nI_T (by omega)] at c_20
            obtain ⟨w1, hw1, rfl⟩ := nI_of_rg (n := 64) (x := a1) ⟨by omega, by omega⟩
            have hT1 := nI_T (a := w1) (by omega)
            refine lv_iload_n hx hb dX6_sheet_35 rfl (lv_at hl 3 rfl) ?_
            refine r_if_ge hx hb (tgt := 46) dX6_sheet_36 (by decide) (fun c_21 => ?_) (fun c_21 => ?_)
            · refine lv_iload_n hx hb dX6_sheet_46 rfl (lv_at hl 3 rfl) ?_
              refine lv_bipush (v := nI 40) hx hb dX6_sheet_47 rfl ?_
              refine r_icmp_le hx hb (tgt := 58) dX6_sheet_49 (by decide) (fun c_22 => ?_) (fun c_22 => ?_)
              · rw [nI_T (by omega)] at c_22
                obtain ⟨n2, hn2, rfl⟩ := nI_of_rg (n := 40) (x := a2) ⟨by omega, by omega⟩
                have hT2 := nI_T (a := n2) (by omega)
                refine lv_aload_n hx hb dX6_sheet_58 rfl (lv_at hl 0 rfl) ?_
                refine n_get (C := RX6) (T := TX6) (N := 18) hx hb hts (fun _ h => List.mem_cons_of_mem _ (List.mem_append_right _ h)) hown hK hP 0 rfl rfl 14 (by decide) (List.mem_of_getElem? (i := 1) rfl) rfl (.ref (b 9)) rfl dX6_sheet_59 ?_
                refine lv_iload_n hx hb dX6_sheet_62 rfl (lv_at hl 1 rfl) ?_
                refine lv_iload_n hx hb dX6_sheet_63 rfl (lv_at hl 2 rfl) ?_
                refine n_iast hx hb hK hP hD hS 2 (wn := [mO b ζ vv, (b 4, .inl (G.2.1, 7, .inl tl)), (b 9, .inl (G.2.1, 4, .inl (nF (un wd k0 w1)))), (b 10, .inl (G.2.1, 4, .inl (nF zs))), (b 11, .inl (G.2.2.1, 160, .inr (.inl nb)))]) rfl (by omega) (by omega) (by rw [nF_un]; rfl) dX6_sheet_64 (fun H locs hP hD hS => ?_)
                refine lv_aload_n hx hb dX6_sheet_65 rfl (lv_at hl 0 rfl) ?_
                refine n_get (C := RX6) (T := TX6) (N := 18) hx hb hts (fun _ h => List.mem_cons_of_mem _ (List.mem_append_right _ h)) hown hK hP 0 rfl rfl 15 (by decide) (List.mem_of_getElem? (i := 2) rfl) rfl (.ref (b 10)) rfl dX6_sheet_66 ?_
                refine lv_iload_n hx hb dX6_sheet_69 rfl (lv_at hl 1 rfl) ?_
                refine lv_iload_n hx hb dX6_sheet_70 rfl (lv_at hl 2 rfl) ?_
                refine n_if_ne hx hb (by omega) (tgt := 78) dX6_sheet_71 (by decide) (fun c_23 => ?_) (fun c_23 => ?_)
                · refine lv_iload_n hx hb dX6_sheet_78 rfl (lv_at hl 3 rfl) ?_
                  refine n_top (y := nI (if w1 = 0 then 0 else n2)) (congrArg nI (by split <;> omega)) ?_
                  refine n_iast hx hb hK hP hD hS 3 (wn := [mO b ζ vv, (b 4, .inl (G.2.1, 7, .inl tl)), (b 9, .inl (G.2.1, 4, .inl (nF (un wd k0 w1)))), (b 10, .inl (G.2.1, 4, .inl (nF (un zs k0 (if w1 = 0 then 0 else n2))))), (b 11, .inl (G.2.2.1, 160, .inr (.inl nb)))]) rfl (by omega) (by omega) (by rw [nF_un]; rfl) dX6_sheet_79 (fun H locs hP hD hS => ?_)
                  refine lv_iconst (v := nI 0) hx hb dX6_sheet_80 rfl ?_
                  refine lv_istore (lv' := [(4, .int (nI 0)), (0, .ref (b 0)), (1, .int (nI k0)), (2, .int (nI w1)), (3, .int (nI n2))]) hx hb dX6_sheet_81 hl (by decide) rfl (fun ls hl => ?_)
                  refine W_loop1 (I := fun (i : Nat) => i ≤ 40) (wd := fun (i : Nat) => [mO b ζ vv, (b 4, .inl (G.2.1, 7, .inl tl)), (b 9, .inl (G.2.1, 4, .inl (nF (un wd k0 w1)))), (b 10, .inl (G.2.1, 4, .inl (nF (un zs k0 (if w1 = 0 then 0 else n2))))), (b 11, .inl (G.2.2.1, 160, .inr (.inl (clrN nb k0 i))))]) (lv := fun (i : Nat) => [(4, .int (nI i)), (0, .ref (b 0)), (1, .int (nI k0)), (2, .int (nI w1)), (3, .int (nI n2))]) (μ := fun (i : Nat) => 40 - i) ?_ 0 (by omega) hP hD hS (lv_sub hl [0, 1, 2, 3, 4] rfl)
                  intro i H locs ls hI0 hP hD hS hl ih
                  have hi0 : i ≤ 40 := hI0
                  refine lv_iload hx hb dX6_sheet_83 (lv_at hl 0 rfl) ?_
                  refine lv_bipush (v := nI 40) hx hb dX6_sheet_85 rfl ?_
                  refine n_icmp_ge hx hb (by omega) (by omega) (tgt := 109) dX6_sheet_87 (by decide) (fun c_24 => ?_) (fun c_24 => ?_)
                  · have hk5 : i = 40 := by omega
                    subst hk5
                    refine lv_aload_n hx hb dX6_sheet_109 rfl (lv_at hl 1 rfl) ?_
                    refine n_get (C := RX6) (T := TX6) (N := 18) hx hb hts (fun _ h => List.mem_cons_of_mem _ (List.mem_append_right _ h)) hown hK hP 0 rfl rfl 15 (by decide) (List.mem_of_getElem? (i := 2) rfl) rfl (.ref (b 10)) rfl dX6_sheet_110 ?_
                    refine lv_iload_n hx hb dX6_sheet_113 rfl (lv_at hl 2 rfl) ?_
                    refine n_iald hx hb hK hP 3 (v := (nI ((un zs k0 (if w1 = 0 then 0 else n2)) k0))) rfl (by omega) (by omega) rfl dX6_sheet_114 ?_
                    have he : sheet_e (nI k0).toInt (nI w1).toInt (nI n2).toInt = 7 := by unfold sheet_e; (try simp only [hT0, hT1, hT2, Int.toNat_natCast]); (repeat' split) <;> omega
                    exact fin_i hx hb hr hlk hS hP hD () trivial (by rw [he]; (try simp only [hT0, hT1, hT2, Int.toNat_natCast]); exact congrArg nI un_s) (by rw [he]; (try simp only [hT0, hT1, hT2, Int.toNat_natCast]); exact eqW.rf _) dX6_sheet_115
                  · refine lv_aload_n hx hb dX6_sheet_90 rfl (lv_at hl 1 rfl) ?_
                    refine n_get (C := RX6) (T := TX6) (N := 18) hx hb hts (fun _ h => List.mem_cons_of_mem _ (List.mem_append_right _ h)) hown hK hP 0 rfl rfl 16 (by decide) (List.mem_of_getElem? (i := 3) rfl) rfl (.ref (b 11)) rfl dX6_sheet_91 ?_
                    refine lv_bipush (v := nI 40) hx hb dX6_sheet_94 rfl ?_
                    refine lv_iload_n hx hb dX6_sheet_96 rfl (lv_at hl 2 rfl) ?_
                    refine n_imul hx hb dX6_sheet_97 ?_
                    refine lv_iload hx hb dX6_sheet_98 (lv_at hl 0 rfl) ?_
                    refine n_iadd hx hb dX6_sheet_100 ?_
                    refine lv_lconst (v := lN 0) hx hb dX6_sheet_101 rfl ?_
                    refine n_last hx hb hK hP hD hS 4 (wn := [mO b ζ vv, (b 4, .inl (G.2.1, 7, .inl tl)), (b 9, .inl (G.2.1, 4, .inl (nF (un wd k0 w1)))), (b 10, .inl (G.2.1, 4, .inl (nF (un zs k0 (if w1 = 0 then 0 else n2))))), (b 11, .inl (G.2.2.1, 160, .inr (.inl (vp_updL (clrN nb k0 i) ((40 * k0) + i) (lN 0)))))]) rfl (by omega) (by omega) rfl dX6_sheet_102 (fun H locs hP hD hS => ?_)
                    refine n_iinc (lv' := [(4, .int (nI (i + 1))), (0, .ref (b 0)), (1, .int (nI k0)), (2, .int (nI w1)), (3, .int (nI n2))]) hx hb dX6_sheet_103 hl (k := 0) rfl (by decide) rfl (fun ls hl => ?_)
                    refine lv_goto (tgt := 83) hx hb dX6_sheet_106 (by decide) ?_
                    exact ih (i + 1) _ _ _ (by omega) (by omega) hP hD hS (lv_sub hl [0, 1, 2, 3, 4] rfl)
                · refine lv_iconst (v := nI 0) hx hb dX6_sheet_74 rfl ?_
                  refine lv_goto (tgt := 79) hx hb dX6_sheet_75 (by decide) ?_
                  refine n_top (y := nI (if w1 = 0 then 0 else n2)) (congrArg nI (by split <;> omega)) ?_
                  refine n_iast hx hb hK hP hD hS 3 (wn := [mO b ζ vv, (b 4, .inl (G.2.1, 7, .inl tl)), (b 9, .inl (G.2.1, 4, .inl (nF (un wd k0 w1)))), (b 10, .inl (G.2.1, 4, .inl (nF (un zs k0 (if w1 = 0 then 0 else n2))))), (b 11, .inl (G.2.2.1, 160, .inr (.inl nb)))]) rfl (by omega) (by omega) (by rw [nF_un]; rfl) dX6_sheet_79 (fun H locs hP hD hS => ?_)
                  refine lv_iconst (v := nI 0) hx hb dX6_sheet_80 rfl ?_
                  refine lv_istore (lv' := [(4, .int (nI 0)), (0, .ref (b 0)), (1, .int (nI k0)), (2, .int (nI w1)), (3, .int (nI n2))]) hx hb dX6_sheet_81 hl (by decide) rfl (fun ls hl => ?_)
                  refine W_loop1 (I := fun (i : Nat) => i ≤ 40) (wd := fun (i : Nat) => [mO b ζ vv, (b 4, .inl (G.2.1, 7, .inl tl)), (b 9, .inl (G.2.1, 4, .inl (nF (un wd k0 w1)))), (b 10, .inl (G.2.1, 4, .inl (nF (un zs k0 (if w1 = 0 then 0 else n2))))), (b 11, .inl (G.2.2.1, 160, .inr (.inl (clrN nb k0 i))))]) (lv := fun (i : Nat) => [(4, .int (nI i)), (0, .ref (b 0)), (1, .int (nI k0)), (2, .int (nI w1)), (3, .int (nI n2))]) (μ := fun (i : Nat) => 40 - i) ?_ 0 (by omega) hP hD hS (lv_sub hl [0, 1, 2, 3, 4] rfl)
                  intro i H locs ls hI0 hP hD hS hl ih
                  have hi0 : i ≤ 40 := hI0
                  refine lv_iload hx hb dX6_sheet_83 (lv_at hl 0 rfl) ?_
                  refine lv_bipush (v := nI 40) hx hb dX6_sheet_85 rfl ?_
                  refine n_icmp_ge hx hb (by omega) (by omega) (tgt := 109) dX6_sheet_87 (by decide) (fun c_25 => ?_) (fun c_25 => ?_)
                  · have hk5 : i = 40 := by omega
                    subst hk5
                    refine lv_aload_n hx hb dX6_sheet_109 rfl (lv_at hl 1 rfl) ?_
                    refine n_get (C := RX6) (T := TX6) (N := 18) hx hb hts (fun _ h => List.mem_cons_of_mem _ (List.mem_append_right _ h)) hown hK hP 0 rfl rfl 15 (by decide) (List.mem_of_getElem? (i := 2) rfl) rfl (.ref (b 10)) rfl dX6_sheet_110 ?_
                    refine lv_iload_n hx hb dX6_sheet_113 rfl (lv_at hl 2 rfl) ?_
                    refine n_iald hx hb hK hP 3 (v := (nI ((un zs k0 (if w1 = 0 then 0 else n2)) k0))) rfl (by omega) (by omega) rfl dX6_sheet_114 ?_
                    have he : sheet_e (nI k0).toInt (nI w1).toInt (nI n2).toInt = 7 := by unfold sheet_e; (try simp only [hT0, hT1, hT2, Int.toNat_natCast]); (repeat' split) <;> omega
                    exact fin_i hx hb hr hlk hS hP hD () trivial (by rw [he]; (try simp only [hT0, hT1, hT2, Int.toNat_natCast]); exact congrArg nI un_s) (by rw [he]; (try simp only [hT0, hT1, hT2, Int.toNat_natCast]); exact eqW.rf _) dX6_sheet_115
                  · refine lv_aload_n hx hb dX6_sheet_90 rfl (lv_at hl 1 rfl) ?_
                    refine n_get (C := RX6) (T := TX6) (N := 18) hx hb hts (fun _ h => List.mem_cons_of_mem _ (List.mem_append_right _ h)) hown hK hP 0 rfl rfl 16 (by decide) (List.mem_of_getElem? (i := 3) rfl) rfl (.ref (b 11)) rfl dX6_sheet_91 ?_
                    refine lv_bipush (v := nI 40) hx hb dX6_sheet_94 rfl ?_
                    refine lv_iload_n hx hb dX6_sheet_96 rfl (lv_at hl 2 rfl) ?_
                    refine n_imul hx hb dX6_sheet_97 ?_
                    refine lv_iload hx hb dX6_sheet_98 (lv_at hl 0 rfl) ?_
                    refine n_iadd hx hb dX6_sheet_100 ?_
                    refine lv_lconst (v := lN 0) hx hb dX6_sheet_101 rfl ?_
                    refine n_last hx hb hK hP hD hS 4 (wn := [mO b ζ vv, (b 4, .inl (G.2.1, 7, .inl tl)), (b 9, .inl (G.2.1, 4, .inl (nF (un wd k0 w1)))), (b 10, .inl (G.2.1, 4, .inl (nF (un zs k0 (if w1 = 0 then 0 else n2))))), (b 11, .inl (G.2.2.1, 160, .inr (.inl (vp_updL (clrN nb k0 i) ((40 * k0) + i) (lN 0)))))]) rfl (by omega) (by omega) rfl dX6_sheet_102 (fun H locs hP hD hS => ?_)
                    refine n_iinc (lv' := [(4, .int (nI (i + 1))), (0, .ref (b 0)), (1, .int (nI k0)), (2, .int (nI w1)), (3, .int (nI n2))]) hx hb dX6_sheet_103 hl (k := 0) rfl (by decide) rfl (fun ls hl => ?_)
                    refine lv_goto (tgt := 83) hx hb dX6_sheet_106 (by decide) ?_
                    exact ih (i + 1) _ _ _ (by omega) (by omega) hP hD hS (lv_sub hl [0, 1, 2, 3, 4] rfl)
              · rw [nI_T (by omega)] at c_22
                refine lv_aload_n hx hb dX6_sheet_52 rfl (lv_at hl 0 rfl) ?_
                refine lv_iconst (v := nI 0) hx hb dX6_sheet_53 rfl ?_
                refine callVI (rest := []) (wn := fun u => [mO b ζ vv, (b 4, .inl (G.2.1, 7, .inl (tk tl 0))), (b 9, .inl (G.2.1, 4, .inl (nF wd))), (b 10, .inl (G.2.1, 4, .inl (nF zs))), (b 11, .inl (G.2.2.1, 160, .inr (.inl nb)))]) ⟨hx, hb, hml, hown, hts⟩ (c_X6_no l G H.size b ζ vv tl 0 (by omega)) (cwV 1 hts gX6_sheet_X6_no rfl rfl rfl (by decide +kernel) ⟨Nat.le_of_ble_eq_true rfl, Nat.le_of_ble_eq_true rfl⟩) noXB (fun _ _ _ => trivial) hK hP hD hS hAq 5 0 (T := TX6) (N := 18) rfl rfl rfl hl.1 rfl (Nat.le_of_ble_eq_true rfl) dX6_sheet_54 ⟨Nat.le_of_ble_eq_true rfl, Nat.le_of_ble_eq_true rfl⟩ [0, 1] rfl rfl [b 0, b 4] rfl (fun _ => rfl) (fun _ => rfl) (fun u H locs hok hP hD hS => ?_)
                have he : sheet_e (nI k0).toInt (nI w1).toInt a2.toInt = 0 := by unfold sheet_e; (try simp only [hT0, hT1, Int.toNat_natCast]); (repeat' split) <;> omega
                exact fin_i hx hb hr hlk hS hP hD () trivial (by rw [he]; first | done | ((try simp only [hT0, hT1, Int.toNat_natCast]); first | done | rfl)) (by rw [he]; (try simp only [hT0, hT1, Int.toNat_natCast]); exact eqW.rf _) dX6_sheet_57
            · refine lv_aload_n hx hb dX6_sheet_39 rfl (lv_at hl 0 rfl) ?_
              refine lv_bipush (v := nI 6) hx hb dX6_sheet_40 rfl ?_
              refine callVI (rest := []) (wn := fun u => [mO b ζ vv, (b 4, .inl (G.2.1, 7, .inl (tk tl 6))), (b 9, .inl (G.2.1, 4, .inl (nF wd))), (b 10, .inl (G.2.1, 4, .inl (nF zs))), (b 11, .inl (G.2.2.1, 160, .inr (.inl nb)))]) ⟨hx, hb, hml, hown, hts⟩ (c_X6_no l G H.size b ζ vv tl 6 (by omega)) (cwV 1 hts gX6_sheet_X6_no rfl rfl rfl (by decide +kernel) ⟨Nat.le_of_ble_eq_true rfl, Nat.le_of_ble_eq_true rfl⟩) noXB (fun _ _ _ => trivial) hK hP hD hS hAq 5 0 (T := TX6) (N := 18) rfl rfl rfl hl.1 rfl (Nat.le_of_ble_eq_true rfl) dX6_sheet_42 ⟨Nat.le_of_ble_eq_true rfl, Nat.le_of_ble_eq_true rfl⟩ [0, 1] rfl rfl [b 0, b 4] rfl (fun _ => rfl) (fun _ => rfl) (fun u H locs hok hP hD hS => ?_)
              have he : sheet_e (nI k0).toInt (nI w1).toInt a2.toInt = 6 := by unfold sheet_e; (try simp only [hT0, hT1, Int.toNat_natCast]); (repeat' split) <;> omega
              exact fin_i hx hb hr hlk hS hP hD () trivial (by rw [he]; first | done | ((try simp only [hT0, hT1, Int.toNat_natCast]); first | done | rfl)) (by rw [he]; (try simp only [hT0, hT1, Int.toNat_natCast]); exact eqW.rf _) dX6_sheet_45
          · rw [nI_T (by omega)] at c_20
            refine lv_aload_n hx hb dX6_sheet_29 rfl (lv_at hl 0 rfl) ?_
            refine lv_iconst (v := nI 0) hx hb dX6_sheet_30 rfl ?_
            refine callVI (rest := []) (wn := fun u => [mO b ζ vv, (b 4, .inl (G.2.1, 7, .inl (tk tl 0))), (b 9, .inl (G.2.1, 4, .inl (nF wd))), (b 10, .inl (G.2.1, 4, .inl (nF zs))), (b 11, .inl (G.2.2.1, 160, .inr (.inl nb)))]) ⟨hx, hb, hml, hown, hts⟩ (c_X6_no l G H.size b ζ vv tl 0 (by omega)) (cwV 1 hts gX6_sheet_X6_no rfl rfl rfl (by decide +kernel) ⟨Nat.le_of_ble_eq_true rfl, Nat.le_of_ble_eq_true rfl⟩) noXB (fun _ _ _ => trivial) hK hP hD hS hAq 5 0 (T := TX6) (N := 18) rfl rfl rfl hl.1 rfl (Nat.le_of_ble_eq_true rfl) dX6_sheet_31 ⟨Nat.le_of_ble_eq_true rfl, Nat.le_of_ble_eq_true rfl⟩ [0, 1] rfl rfl [b 0, b 4] rfl (fun _ => rfl) (fun _ => rfl) (fun u H locs hok hP hD hS => ?_)
            have he : sheet_e (nI k0).toInt a1.toInt a2.toInt = 0 := by unfold sheet_e; (try simp only [hT0, Int.toNat_natCast]); (repeat' split) <;> omega
            exact fin_i hx hb hr hlk hS hP hD () trivial (by rw [he]; first | done | ((try simp only [hT0, Int.toNat_natCast]); first | done | rfl)) (by rw [he]; (try simp only [hT0, Int.toNat_natCast]); exact eqW.rf _) dX6_sheet_34
set_option maxHeartbeats 400000 in
set_option maxRecDepth 100000 in
theorem c_X6_write (l : Launch) (G : GT) (sz : Nat) (b : Nat → Nat) (ζ : Nat → Nat) (vv : Int64) (tl : Nat → Int32) (wd zs : Nat → Nat) (nb : Nat → Int64) (a0 a1 : Int32) (v : Int64) (hSI : SInv wd zs) : ML (S := Unit) l G noX yX6_write wsX6_write ({ frames := 3, cells := 0, slots := 0, locals := 63 } : Room) [.ref (b 0), .int a0, .int a1, .long v] ([mO b ζ vv, (b 4, .inl (G.2.1, 7, .inl tl)), (b 9, .inl (G.2.1, 4, .inl (nF wd))), (b 10, .inl (G.2.1, 4, .inl (nF zs))), (b 11, .inl (G.2.2.1, 160, .inr (.inl nb)))]) sz (fun _ => True) (fun _ => rl (write_e wd zs a0.toInt a1.toInt) (nb (40 * a0.toInt.toNat + a1.toInt.toNat))) (fun _ => [mO b ζ vv, (b 4, .inl (G.2.1, 7, .inl (ts tl (write_e wd zs a0.toInt a1.toInt)))), (b 9, .inl (G.2.1, 4, .inl (nF wd))), (b 10, .inl (G.2.1, 4, .inl (nF zs))), (b 11, .inl (G.2.2.1, 160, .inr (.inl (hq (write_e wd zs a0.toInt a1.toInt) (vp_updL nb (40 * a0.toInt.toNat + a1.toInt.toNat) (lowN (wd a0.toInt.toNat) v)) nb))))]) := by
  refine ML_enter (cc := cX6_write) (maxL := 8) (ret := (some .long)) (by decide) rfl (Nat.le_of_ble_eq_true rfl) ?_
  intro p e s m below meth c A ls H hx hb hr hlk hml hown hts hAq hS hP hK hD hX hl hnm
  have hown : s.vm.findClass RX6 = some m.cls := hown
  have hl : lv_has ls 8 [(0, .ref (b 0)), (1, .int a0), (2, .int a1), (3, .long v)] := hl
  refine lv_aload_n hx hb dX6_write_0 rfl (lv_at hl 0 rfl) ?_
  refine lv_iload_n hx hb dX6_write_1 rfl (lv_at hl 1 rfl) ?_
  refine callVI (rest := []) (wn := fun u => [mO b ζ vv, (b 4, .inl (G.2.1, 7, .inl tl)), (b 9, .inl (G.2.1, 4, .inl (nF wd))), (b 10, .inl (G.2.1, 4, .inl (nF zs))), (b 11, .inl (G.2.2.1, 160, .inr (.inl nb)))]) ⟨hx, hb, hml, hown, hts⟩ (c_X6_wrongSheet l G H.size b ζ vv wd zs a0 hSI) (cwV 1 hts gX6_write_X6_wrongSheet rfl rfl rfl (by decide +kernel) ⟨Nat.le_of_ble_eq_true rfl, Nat.le_of_ble_eq_true rfl⟩) noXB (fun _ _ _ => trivial) hK hP hD hS hAq 5 0 (T := TX6) (N := 18) rfl rfl rfl hl.1 rfl (Nat.le_of_ble_eq_true rfl) dX6_write_2 ⟨Nat.le_of_ble_eq_true rfl, Nat.le_of_ble_eq_true rfl⟩ [0, 2] rfl rfl [b 0, b 9] rfl (fun _ => rfl) (fun _ => rfl) (fun u H locs hok hP hD hS => ?_)
  rcases wsh_c wd a0 with ⟨h1, hw⟩ | ⟨h1, h2, hw⟩ | ⟨h1, h2, hw⟩
  · refine n_top (y := nI 0) hw ?_
    refine lv_istore (lv' := [(5, .int (nI 0)), (0, .ref (b 0)), (1, .int a0), (2, .int a1), (3, .long v)]) hx hb dX6_write_5 hl (by decide) rfl (fun ls hl => ?_)
    refine lv_iload hx hb dX6_write_7 (lv_at hl 0 rfl) ?_
    refine n_if_ge hx hb (by omega) (tgt := 31) dX6_write_9 (by decide) (fun c_1 => ?_) (fun c_1 => ?_)
    · refine lv_iload hx hb dX6_write_31 (lv_at hl 0 rfl) ?_
      refine n_if_lt hx hb (by omega) (tgt := 44) dX6_write_33 (by decide) (fun c_2 => ?_) (fun c_2 => ?_)
      · omega
      · refine lv_aload_n hx hb dX6_write_36 rfl (lv_at hl 1 rfl) ?_
        refine lv_iload hx hb dX6_write_37 (lv_at hl 0 rfl) ?_
        refine callVI (rest := []) (wn := fun u => [mO b ζ vv, (b 4, .inl (G.2.1, 7, .inl (tk tl 0))), (b 9, .inl (G.2.1, 4, .inl (nF wd))), (b 10, .inl (G.2.1, 4, .inl (nF zs))), (b 11, .inl (G.2.2.1, 160, .inr (.inl nb)))]) ⟨hx, hb, hml, hown, hts⟩ (c_X6_no l G H.size b ζ vv tl 0 (by omega)) (cwV 1 hts gX6_write_X6_no rfl rfl rfl (by decide +kernel) ⟨Nat.le_of_ble_eq_true rfl, Nat.le_of_ble_eq_true rfl⟩) noXB (fun _ _ _ => trivial) hK hP hD hS hAq 5 0 (T := TX6) (N := 18) rfl rfl rfl hl.1 rfl (Nat.le_of_ble_eq_true rfl) dX6_write_39 ⟨Nat.le_of_ble_eq_true rfl, Nat.le_of_ble_eq_true rfl⟩ [0, 1] rfl rfl [b 0, b 4] rfl (fun _ => rfl) (fun _ => rfl) (fun u H locs hok hP hD hS => ?_)
        refine lv_i2l (v := (fnd 0).toInt64) hx hb dX6_write_42 rfl ?_
        have he : write_e wd zs a0.toInt a1.toInt = 0 := by unfold write_e sh_e; (try simp only [Int.toNat_natCast]); (repeat' split) <;> omega
        exact fin_l hx hb hr hlk hS hP hD () trivial (by rw [he]; first | done | ((try simp only [Int.toNat_natCast]); first | done | rfl)) (by rw [he]; (try simp only [Int.toNat_natCast]); exact eqW.rf _) dX6_write_43
    · omega
  · refine n_top (y := nI 5) hw ?_
    obtain ⟨k0, hk0, rfl⟩ := nI_of_rg (n := 3) (x := a0) ⟨by omega, by omega⟩
    have hT0 := nI_T (a := k0) (by omega)
    obtain ⟨s0, s1⟩ := hSI k0 (by omega)
    rw [hT0, Int.toNat_natCast] at h2
    refine lv_istore (lv' := [(5, .int (nI 5)), (0, .ref (b 0)), (1, .int (nI k0)), (2, .int a1), (3, .long v)]) hx hb dX6_write_5 hl (by decide) rfl (fun ls hl => ?_)
    refine lv_iload hx hb dX6_write_7 (lv_at hl 0 rfl) ?_
    refine n_if_ge hx hb (by omega) (tgt := 31) dX6_write_9 (by decide) (fun c_3 => ?_) (fun c_3 => ?_)
    · refine lv_iload hx hb dX6_write_31 (lv_at hl 0 rfl) ?_
      refine n_if_lt hx hb (by omega) (tgt := 44) dX6_write_33 (by decide) (fun c_4 => ?_) (fun c_4 => ?_)
      · omega
      · refine lv_aload_n hx hb dX6_write_36 rfl (lv_at hl 1 rfl) ?_
        refine lv_iload hx hb dX6_write_37 (lv_at hl 0 rfl) ?_
        refine callVI (rest := []) (wn := fun u => [mO b ζ vv, (b 4, .inl (G.2.1, 7, .inl (tk tl 5))), (b 9, .inl (G.2.1, 4, .inl (nF wd))), (b 10, .inl (G.2.1, 4, .inl (nF zs))), (b 11, .inl (G.2.2.1, 160, .inr (.inl nb)))]) ⟨hx, hb, hml, hown, hts⟩ (c_X6_no l G H.size b ζ vv tl 5 (by omega)) (cwV 1 hts gX6_write_X6_no rfl rfl rfl (by decide +kernel) ⟨Nat.le_of_ble_eq_true rfl, Nat.le_of_ble_eq_true rfl⟩) noXB (fun _ _ _ => trivial) hK hP hD hS hAq 5 0 (T := TX6) (N := 18) rfl rfl rfl hl.1 rfl (Nat.le_of_ble_eq_true rfl) dX6_write_39 ⟨Nat.le_of_ble_eq_true rfl, Nat.le_of_ble_eq_true rfl⟩ [0, 1] rfl rfl [b 0, b 4] rfl (fun _ => rfl) (fun _ => rfl) (fun u H locs hok hP hD hS => ?_)
        refine lv_i2l (v := (fnd 5).toInt64) hx hb dX6_write_42 rfl ?_
        have he : write_e wd zs (nI k0).toInt a1.toInt = 5 := by unfold write_e sh_e; (try simp only [hT0, Int.toNat_natCast]); (repeat' split) <;> omega
        exact fin_l hx hb hr hlk hS hP hD () trivial (by rw [he]; first | done | ((try simp only [hT0, Int.toNat_natCast]); first | done | rfl)) (by rw [he]; (try simp only [hT0, Int.toNat_natCast]); exact eqW.rf _) dX6_write_43
    · omega
  · refine n_top (y := (-1)) hw ?_
    have hm1 : ((-1) : Int32).toInt = -1 := by decide
    obtain ⟨k0, hk0, rfl⟩ := nI_of_rg (n := 3) (x := a0) ⟨by omega, by omega⟩
    have hT0 := nI_T (a := k0) (by omega)
    obtain ⟨s0, s1⟩ := hSI k0 (by omega)
    rw [hT0, Int.toNat_natCast] at h2
    refine lv_istore (lv' := [(5, .int (-1)), (0, .ref (b 0)), (1, .int (nI k0)), (2, .int a1), (3, .long v)]) hx hb dX6_write_5 hl (by decide) rfl (fun ls hl => ?_)
    refine lv_iload hx hb dX6_write_7 (lv_at hl 0 rfl) ?_
    refine r_if_ge hx hb (tgt := 31) dX6_write_9 (by decide) (fun c_5 => ?_) (fun c_5 => ?_)
    · omega
    · refine lv_iload_n hx hb dX6_write_12 rfl (lv_at hl 3 rfl) ?_
      refine lv_iconst (v := nI 0) hx hb dX6_write_13 rfl ?_
      refine lv_aload_n hx hb dX6_write_14 rfl (lv_at hl 1 rfl) ?_
      refine n_get (C := RX6) (T := TX6) (N := 18) hx hb hts (fun _ h => List.mem_cons_of_mem _ (List.mem_append_right _ h)) hown hK hP 0 rfl rfl 15 (by decide) (List.mem_of_getElem? (i := 1) rfl) rfl (.ref (b 10)) rfl dX6_write_15 ?_
      refine lv_iload_n hx hb dX6_write_18 rfl (lv_at hl 2 rfl) ?_
      refine n_iald hx hb hK hP 3 (v := (nI (zs k0))) rfl (by omega) (by omega) rfl dX6_write_19 ?_
      refine lv_iconst (v := nI 1) hx hb dX6_write_20 rfl ?_
      refine lv_isub hx hb dX6_write_21 ?_
      refine callSI (rest := []) (wn := fun u => [mO b ζ vv, (b 4, .inl (G.2.1, 7, .inl tl)), (b 9, .inl (G.2.1, 4, .inl (nF wd))), (b 10, .inl (G.2.1, 4, .inl (nF zs))), (b 11, .inl (G.2.2.1, 160, .inr (.inl nb)))]) ⟨hx, hb, hml, hown, hts⟩ (c_X6_in1 l G H.size a1 (nI 0) ((nI (zs k0)) - (nI 1))) (va_cwS 3 hts gX6_write_X6_in1 rfl rfl rfl (by decide +kernel) ⟨Nat.le_of_ble_eq_true rfl, Nat.le_of_ble_eq_true rfl⟩) noXB (fun _ _ _ => trivial) hK hP hD hS hAq rfl hl.1 rfl (Nat.le_of_ble_eq_true rfl) dX6_write_22 ⟨Nat.le_of_ble_eq_true rfl, Nat.le_of_ble_eq_true rfl⟩ [] rfl rfl [] rfl (fun _ => rfl) (fun _ => rfl) (fun u H locs hok hP hD hS => ?_)
      refine z_if_ne hx hb (tgt := 31) dX6_write_25 (by decide) (fun c_6 => ?_) (fun c_6 => ?_)
      · rw [nI_T (show 0 < 2147483648 by decide), pred_T (by omega)] at c_6
        obtain ⟨i1, hi1, rfl⟩ := nI_of_rg (n := 39) (x := a1) ⟨by omega, by omega⟩
        have hT1 := nI_T (a := i1) (by omega)
        refine lv_iload hx hb dX6_write_31 (lv_at hl 0 rfl) ?_
        refine r_if_lt hx hb (tgt := 44) dX6_write_33 (by decide) (fun c_7 => ?_) (fun c_7 => ?_)
        · refine lv_aload_n hx hb dX6_write_44 rfl (lv_at hl 1 rfl) ?_
          refine lv_iload_n hx hb dX6_write_45 rfl (lv_at hl 2 rfl) ?_
          refine lv_iload_n hx hb dX6_write_46 rfl (lv_at hl 3 rfl) ?_
          refine callVL (rest := []) (wn := fun u => [mO b ζ vv, (b 4, .inl (G.2.1, 7, .inl tl)), (b 9, .inl (G.2.1, 4, .inl (nF wd))), (b 10, .inl (G.2.1, 4, .inl (nF zs))), (b 11, .inl (G.2.2.1, 160, .inr (.inl nb)))]) ⟨hx, hb, hml, hown, hts⟩ (c_X6_told l G H.size b ζ vv nb k0 i1 (by omega) (by omega)) (cwV 2 hts gX6_write_X6_told rfl rfl rfl (by decide +kernel) ⟨Nat.le_of_ble_eq_true rfl, Nat.le_of_ble_eq_true rfl⟩) noXB (fun _ _ _ => trivial) hK hP hD hS hAq 5 0 (T := TX6) (N := 18) rfl rfl rfl hl.1 rfl (Nat.le_of_ble_eq_true rfl) dX6_write_47 ⟨Nat.le_of_ble_eq_true rfl, Nat.le_of_ble_eq_true rfl⟩ [0, 4] rfl rfl [b 0, b 11] rfl (fun _ => rfl) (fun _ => rfl) (fun u H locs hok hP hD hS => ?_)
          refine lv_lstore (lv' := [(6, .long (nb (40 * k0 + i1))), (5, .int (-1)), (0, .ref (b 0)), (1, .int (nI k0)), (2, .int (nI i1)), (3, .long v)]) hx hb dX6_write_50 hl (by decide) rfl (fun ls hl => ?_)
          refine lv_aload_n hx hb dX6_write_52 rfl (lv_at hl 2 rfl) ?_
          refine lv_iload_n hx hb dX6_write_53 rfl (lv_at hl 3 rfl) ?_
          refine lv_iload_n hx hb dX6_write_54 rfl (lv_at hl 4 rfl) ?_
          refine lv_lload_n hx hb dX6_write_55 rfl (lv_at hl 5 rfl) ?_
          refine callVV (rest := []) (wn := fun u => [mO b ζ vv, (b 4, .inl (G.2.1, 7, .inl tl)), (b 9, .inl (G.2.1, 4, .inl (nF wd))), (b 10, .inl (G.2.1, 4, .inl (nF zs))), (b 11, .inl (G.2.2.1, 160, .inr (.inl (vp_updL nb (40 * k0 + i1) (lowN (wd k0) v)))))]) ⟨hx, hb, hml, hown, hts⟩ (c_X6_tells l G H.size b ζ vv wd nb k0 i1 v (by omega) (by omega) (by omega)) (cwV 3 hts gX6_write_X6_tells rfl rfl rfl (by decide +kernel) ⟨Nat.le_of_ble_eq_true rfl, Nat.le_of_ble_eq_true rfl⟩) noXB (fun _ _ _ => trivial) hK hP hD hS hAq 5 0 (T := TX6) (N := 18) rfl rfl rfl hl.1 rfl (Nat.le_of_ble_eq_true rfl) dX6_write_56 ⟨Nat.le_of_ble_eq_true rfl, Nat.le_of_ble_eq_true rfl⟩ [0, 2, 4] rfl rfl [b 0, b 9, b 11] rfl (fun _ => rfl) (fun _ => rfl) (fun u H locs hok hP hD hS => ?_)
          refine lv_lload hx hb dX6_write_59 (lv_at hl 0 rfl) ?_
          have he : write_e wd zs (nI k0).toInt (nI i1).toInt = 7 := by unfold write_e sh_e; (try simp only [hT0, hT1, Int.toNat_natCast]); (repeat' split) <;> omega
          exact fin_l hx hb hr hlk hS hP hD () trivial (by rw [he]; first | done | ((try simp only [hT0, hT1, Int.toNat_natCast]); first | done | rfl)) (by rw [he]; (try simp only [hT0, hT1, Int.toNat_natCast]); exact eqW.rf _) dX6_write_61
        · omega
      · rw [nI_T (show 0 < 2147483648 by decide), pred_T (by omega)] at c_6
        refine lv_iconst (v := nI 0) hx hb dX6_write_28 rfl ?_
        refine lv_istore (lv' := [(5, .int (nI 0)), (0, .ref (b 0)), (1, .int (nI k0)), (2, .int a1), (3, .long v)]) hx hb dX6_write_29 hl (by decide) rfl (fun ls hl => ?_)
        refine lv_iload hx hb dX6_write_31 (lv_at hl 0 rfl) ?_
        refine n_if_lt hx hb (by omega) (tgt := 44) dX6_write_33 (by decide) (fun c_8 => ?_) (fun c_8 => ?_)
        · omega
        · refine lv_aload_n hx hb dX6_write_36 rfl (lv_at hl 1 rfl) ?_
          refine lv_iload hx hb dX6_write_37 (lv_at hl 0 rfl) ?_
          refine callVI (rest := []) (wn := fun u => [mO b ζ vv, (b 4, .inl (G.2.1, 7, .inl (tk tl 0))), (b 9, .inl (G.2.1, 4, .inl (nF wd))), (b 10, .inl (G.2.1, 4, .inl (nF zs))), (b 11, .inl (G.2.2.1, 160, .inr (.inl nb)))]) ⟨hx, hb, hml, hown, hts⟩ (c_X6_no l G H.size b ζ vv tl 0 (by omega)) (cwV 1 hts gX6_write_X6_no rfl rfl rfl (by decide +kernel) ⟨Nat.le_of_ble_eq_true rfl, Nat.le_of_ble_eq_true rfl⟩) noXB (fun _ _ _ => trivial) hK hP hD hS hAq 5 0 (T := TX6) (N := 18) rfl rfl rfl hl.1 rfl (Nat.le_of_ble_eq_true rfl) dX6_write_39 ⟨Nat.le_of_ble_eq_true rfl, Nat.le_of_ble_eq_true rfl⟩ [0, 1] rfl rfl [b 0, b 4] rfl (fun _ => rfl) (fun _ => rfl) (fun u H locs hok hP hD hS => ?_)
          refine lv_i2l (v := (fnd 0).toInt64) hx hb dX6_write_42 rfl ?_
          have he : write_e wd zs (nI k0).toInt a1.toInt = 0 := by unfold write_e sh_e; (try simp only [hT0, Int.toNat_natCast]); (repeat' split) <;> omega
          exact fin_l hx hb hr hlk hS hP hD () trivial (by rw [he]; first | done | ((try simp only [hT0, Int.toNat_natCast]); first | done | rfl)) (by rw [he]; (try simp only [hT0, Int.toNat_natCast]); exact eqW.rf _) dX6_write_43
set_option maxHeartbeats 400000 in
set_option maxRecDepth 100000 in
theorem c_X6_copy (l : Launch) (G : GT) (sz : Nat) (b : Nat → Nat) (ζ : Nat → Nat) (vv : Int64) (tl : Nat → Int32) (wd zs : Nat → Nat) (nb : Nat → Int64) (Fc : Nat → Int64) (a0 a1 a2 a3 a4 : Int32) (hSI : SInv wd zs) : MI (S := (Nat → Int64)) l G noX yX6_copy wsX6_copy ({ frames := 2, cells := 0, slots := 0, locals := 42 } : Room) [.ref (b 0), .int a0, .int a1, .int a2, .int a3, .int a4] ([mO b ζ vv, (b 4, .inl (G.2.1, 7, .inl tl)), (b 9, .inl (G.2.1, 4, .inl (nF wd))), (b 10, .inl (G.2.1, 4, .inl (nF zs))), (b 11, .inl (G.2.2.1, 160, .inr (.inl nb))), (b 12, .inl (G.2.2.1, 40, .inr (.inl Fc)))]) sz (fun _ => True) (fun u => rs (copy_e wd zs a0.toInt a1.toInt a2.toInt a3.toInt a4.toInt) (nI a4.toInt.toNat)) (fun u => [mO b ζ vv, (b 4, .inl (G.2.1, 7, .inl (ts tl (copy_e wd zs a0.toInt a1.toInt a2.toInt a3.toInt a4.toInt)))), (b 9, .inl (G.2.1, 4, .inl (nF wd))), (b 10, .inl (G.2.1, 4, .inl (nF zs))), (b 11, .inl (G.2.2.1, 160, .inr (.inl (hq (copy_e wd zs a0.toInt a1.toInt a2.toInt a3.toInt a4.toInt) (va_cpy nb nb (40 * a0.toInt.toNat + a1.toInt.toNat) (40 * a2.toInt.toNat + a3.toInt.toNat) a4.toInt.toNat) nb)))), (b 12, .inl (G.2.2.1, 40, .inr (.inl u)))]) := by
  refine MI_enter (cc := cX6_copy) (maxL := 7) (ret := (some .int)) (by decide) rfl (Nat.le_of_ble_eq_true rfl) ?_
  intro p e s m below meth c A ls H hx hb hr hlk hml hown hts hAq hS hP hK hD hX hl hnm
  have hown : s.vm.findClass RX6 = some m.cls := hown
  have hl : lv_has ls 7 [(0, .ref (b 0)), (1, .int a0), (2, .int a1), (3, .int a2), (4, .int a3), (5, .int a4)] := hl
  refine lv_iload_n hx hb dX6_copy_0 rfl (lv_at hl 1 rfl) ?_
  refine callSI (rest := []) (wn := fun u => [mO b ζ vv, (b 4, .inl (G.2.1, 7, .inl tl)), (b 9, .inl (G.2.1, 4, .inl (nF wd))), (b 10, .inl (G.2.1, 4, .inl (nF zs))), (b 11, .inl (G.2.2.1, 160, .inr (.inl nb))), (b 12, .inl (G.2.2.1, 40, .inr (.inl Fc)))]) ⟨hx, hb, hml, hown, hts⟩ (c_X6_isSheet l G H.size a0) (va_cwS 1 hts gX6_copy_X6_isSheet rfl rfl rfl (by decide +kernel) ⟨Nat.le_of_ble_eq_true rfl, Nat.le_of_ble_eq_true rfl⟩) noXB (fun _ _ _ => trivial) hK hP hD hS hAq rfl hl.1 rfl (Nat.le_of_ble_eq_true rfl) dX6_copy_1 ⟨Nat.le_of_ble_eq_true rfl, Nat.le_of_ble_eq_true rfl⟩ [] rfl rfl [] rfl (fun _ => rfl) (fun _ => rfl) (fun u H locs hok hP hD hS => ?_)
  refine z_if_eq hx hb (tgt := 14) dX6_copy_4 (by decide) (fun c_1 => ?_) (fun c_1 => ?_)
  · refine lv_aload_n hx hb dX6_copy_14 rfl (lv_at hl 0 rfl) ?_
    refine lv_iconst (v := nI 0) hx hb dX6_copy_15 rfl ?_
    refine callVI (rest := []) (wn := fun u => [mO b ζ vv, (b 4, .inl (G.2.1, 7, .inl (tk tl 0))), (b 9, .inl (G.2.1, 4, .inl (nF wd))), (b 10, .inl (G.2.1, 4, .inl (nF zs))), (b 11, .inl (G.2.2.1, 160, .inr (.inl nb))), (b 12, .inl (G.2.2.1, 40, .inr (.inl Fc)))]) ⟨hx, hb, hml, hown, hts⟩ (c_X6_no l G H.size b ζ vv tl 0 (by omega)) (cwV 1 hts gX6_copy_X6_no rfl rfl rfl (by decide +kernel) ⟨Nat.le_of_ble_eq_true rfl, Nat.le_of_ble_eq_true rfl⟩) noXB (fun _ _ _ => trivial) hK hP hD hS hAq 5 0 (T := TX6) (N := 18) rfl rfl rfl hl.1 rfl (Nat.le_of_ble_eq_true rfl) dX6_copy_16 ⟨Nat.le_of_ble_eq_true rfl, Nat.le_of_ble_eq_true rfl⟩ [0, 1] rfl rfl [b 0, b 4] rfl (fun _ => rfl) (fun _ => rfl) (fun u H locs hok hP hD hS => ?_)
    have he : copy_e wd zs a0.toInt a1.toInt a2.toInt a3.toInt a4.toInt = 0 := by unfold copy_e; (try simp only [Int.toNat_natCast]); (repeat' split) <;> omega
    exact fin_i hx hb hr hlk hS hP hD Fc trivial (by rw [he]; first | done | ((try simp only [Int.toNat_natCast]); first | done | rfl)) (by rw [he]; (try simp only [Int.toNat_natCast]); exact eqW.rf _) dX6_copy_19
  · obtain ⟨k0, hk0, rfl⟩ := nI_of_rg (n := 3) (x := a0) ⟨by omega, by omega⟩
    have hT0 := nI_T (a := k0) (by omega)
    obtain ⟨s0, s1⟩ := hSI k0 (by omega)
    refine lv_iload_n hx hb dX6_copy_7 rfl (lv_at hl 3 rfl) ?_
    refine callSI (rest := []) (wn := fun u => [mO b ζ vv, (b 4, .inl (G.2.1, 7, .inl tl)), (b 9, .inl (G.2.1, 4, .inl (nF wd))), (b 10, .inl (G.2.1, 4, .inl (nF zs))), (b 11, .inl (G.2.2.1, 160, .inr (.inl nb))), (b 12, .inl (G.2.2.1, 40, .inr (.inl Fc)))]) ⟨hx, hb, hml, hown, hts⟩ (c_X6_isSheet l G H.size a2) (va_cwS 1 hts gX6_copy_X6_isSheet rfl rfl rfl (by decide +kernel) ⟨Nat.le_of_ble_eq_true rfl, Nat.le_of_ble_eq_true rfl⟩) noXB (fun _ _ _ => trivial) hK hP hD hS hAq rfl hl.1 rfl (Nat.le_of_ble_eq_true rfl) dX6_copy_8 ⟨Nat.le_of_ble_eq_true rfl, Nat.le_of_ble_eq_true rfl⟩ [] rfl rfl [] rfl (fun _ => rfl) (fun _ => rfl) (fun u H locs hok hP hD hS => ?_)
    refine z_if_ne hx hb (tgt := 20) dX6_copy_11 (by decide) (fun c_2 => ?_) (fun c_2 => ?_)
    · obtain ⟨k2, hk2, rfl⟩ := nI_of_rg (n := 3) (x := a2) ⟨by omega, by omega⟩
      have hT2 := nI_T (a := k2) (by omega)
      obtain ⟨s20, s21⟩ := hSI k2 (by omega)
      refine lv_aload_n hx hb dX6_copy_20 rfl (lv_at hl 0 rfl) ?_
      refine n_get (C := RX6) (T := TX6) (N := 18) hx hb hts (fun _ h => List.mem_cons_of_mem _ (List.mem_append_right _ h)) hown hK hP 0 rfl rfl 14 (by decide) (List.mem_of_getElem? (i := 1) rfl) rfl (.ref (b 9)) rfl dX6_copy_21 ?_
      refine lv_iload_n hx hb dX6_copy_24 rfl (lv_at hl 1 rfl) ?_
      refine n_iald hx hb hK hP 2 (v := (nI (wd k0))) rfl (by omega) (by omega) rfl dX6_copy_25 ?_
      refine n_if_eq hx hb (by omega) (tgt := 38) dX6_copy_26 (by decide) (fun c_3 => ?_) (fun c_3 => ?_)
      · refine lv_aload_n hx hb dX6_copy_38 rfl (lv_at hl 0 rfl) ?_
        refine lv_iconst (v := nI 5) hx hb dX6_copy_39 rfl ?_
        refine callVI (rest := []) (wn := fun u => [mO b ζ vv, (b 4, .inl (G.2.1, 7, .inl (tk tl 5))), (b 9, .inl (G.2.1, 4, .inl (nF wd))), (b 10, .inl (G.2.1, 4, .inl (nF zs))), (b 11, .inl (G.2.2.1, 160, .inr (.inl nb))), (b 12, .inl (G.2.2.1, 40, .inr (.inl Fc)))]) ⟨hx, hb, hml, hown, hts⟩ (c_X6_no l G H.size b ζ vv tl 5 (by omega)) (cwV 1 hts gX6_copy_X6_no rfl rfl rfl (by decide +kernel) ⟨Nat.le_of_ble_eq_true rfl, Nat.le_of_ble_eq_true rfl⟩) noXB (fun _ _ _ => trivial) hK hP hD hS hAq 5 0 (T := TX6) (N := 18) rfl rfl rfl hl.1 rfl (Nat.le_of_ble_eq_true rfl) dX6_copy_40 ⟨Nat.le_of_ble_eq_true rfl, Nat.le_of_ble_eq_true rfl⟩ [0, 1] rfl rfl [b 0, b 4] rfl (fun _ => rfl) (fun _ => rfl) (fun u H locs hok hP hD hS => ?_)
        have he : copy_e wd zs (nI k0).toInt a1.toInt (nI k2).toInt a3.toInt a4.toInt = 5 := by unfold copy_e; (try simp only [hT0, hT2, Int.toNat_natCast]); (repeat' split) <;> omega
        exact fin_i hx hb hr hlk hS hP hD Fc trivial (by rw [he]; first | done | ((try simp only [hT0, hT2, Int.toNat_natCast]); first | done | rfl)) (by rw [he]; (try simp only [hT0, hT2, Int.toNat_natCast]); exact eqW.rf _) dX6_copy_43
      · refine lv_aload_n hx hb dX6_copy_29 rfl (lv_at hl 0 rfl) ?_
        refine n_get (C := RX6) (T := TX6) (N := 18) hx hb hts (fun _ h => List.mem_cons_of_mem _ (List.mem_append_right _ h)) hown hK hP 0 rfl rfl 14 (by decide) (List.mem_of_getElem? (i := 1) rfl) rfl (.ref (b 9)) rfl dX6_copy_30 ?_
        refine lv_iload_n hx hb dX6_copy_33 rfl (lv_at hl 3 rfl) ?_
        refine n_iald hx hb hK hP 2 (v := (nI (wd k2))) rfl (by omega) (by omega) rfl dX6_copy_34 ?_
        refine n_if_ne hx hb (by omega) (tgt := 44) dX6_copy_35 (by decide) (fun c_4 => ?_) (fun c_4 => ?_)
        · refine lv_aload_n hx hb dX6_copy_44 rfl (lv_at hl 0 rfl) ?_
          refine n_get (C := RX6) (T := TX6) (N := 18) hx hb hts (fun _ h => List.mem_cons_of_mem _ (List.mem_append_right _ h)) hown hK hP 0 rfl rfl 14 (by decide) (List.mem_of_getElem? (i := 1) rfl) rfl (.ref (b 9)) rfl dX6_copy_45 ?_
          refine lv_iload_n hx hb dX6_copy_48 rfl (lv_at hl 1 rfl) ?_
          refine n_iald hx hb hK hP 2 (v := (nI (wd k0))) rfl (by omega) (by omega) rfl dX6_copy_49 ?_
          refine lv_aload_n hx hb dX6_copy_50 rfl (lv_at hl 0 rfl) ?_
          refine n_get (C := RX6) (T := TX6) (N := 18) hx hb hts (fun _ h => List.mem_cons_of_mem _ (List.mem_append_right _ h)) hown hK hP 0 rfl rfl 14 (by decide) (List.mem_of_getElem? (i := 1) rfl) rfl (.ref (b 9)) rfl dX6_copy_51 ?_
          refine lv_iload_n hx hb dX6_copy_54 rfl (lv_at hl 3 rfl) ?_
          refine n_iald hx hb hK hP 2 (v := (nI (wd k2))) rfl (by omega) (by omega) rfl dX6_copy_55 ?_
          refine n_icmp_eq hx hb (by omega) (by omega) (tgt := 65) dX6_copy_56 (by decide) (fun c_5 => ?_) (fun c_5 => ?_)
          · refine lv_iload hx hb dX6_copy_65 (lv_at hl 5 rfl) ?_
            refine r_if_lt hx hb (tgt := 106) dX6_copy_67 (by decide) (fun c_6 => ?_) (fun c_6 => ?_)
            · refine lv_aload_n hx hb dX6_copy_106 rfl (lv_at hl 0 rfl) ?_
              refine lv_iconst (v := nI 0) hx hb dX6_copy_107 rfl ?_
              refine callVI (rest := []) (wn := fun u => [mO b ζ vv, (b 4, .inl (G.2.1, 7, .inl (tk tl 0))), (b 9, .inl (G.2.1, 4, .inl (nF wd))), (b 10, .inl (G.2.1, 4, .inl (nF zs))), (b 11, .inl (G.2.2.1, 160, .inr (.inl nb))), (b 12, .inl (G.2.2.1, 40, .inr (.inl Fc)))]) ⟨hx, hb, hml, hown, hts⟩ (c_X6_no l G H.size b ζ vv tl 0 (by omega)) (cwV 1 hts gX6_copy_X6_no rfl rfl rfl (by decide +kernel) ⟨Nat.le_of_ble_eq_true rfl, Nat.le_of_ble_eq_true rfl⟩) noXB (fun _ _ _ => trivial) hK hP hD hS hAq 5 0 (T := TX6) (N := 18) rfl rfl rfl hl.1 rfl (Nat.le_of_ble_eq_true rfl) dX6_copy_108 ⟨Nat.le_of_ble_eq_true rfl, Nat.le_of_ble_eq_true rfl⟩ [0, 1] rfl rfl [b 0, b 4] rfl (fun _ => rfl) (fun _ => rfl) (fun u H locs hok hP hD hS => ?_)
              have he : copy_e wd zs (nI k0).toInt a1.toInt (nI k2).toInt a3.toInt a4.toInt = 0 := by unfold copy_e; (try simp only [hT0, hT2, Int.toNat_natCast]); (repeat' split) <;> omega
              exact fin_i hx hb hr hlk hS hP hD Fc trivial (by rw [he]; first | done | ((try simp only [hT0, hT2, Int.toNat_natCast]); first | done | rfl)) (by rw [he]; (try simp only [hT0, hT2, Int.toNat_natCast]); exact eqW.rf _) dX6_copy_111
            · refine lv_iload_n hx hb dX6_copy_70 rfl (lv_at hl 2 rfl) ?_
              refine r_if_lt hx hb (tgt := 106) dX6_copy_71 (by decide) (fun c_7 => ?_) (fun c_7 => ?_)
              · refine lv_aload_n hx hb dX6_copy_106 rfl (lv_at hl 0 rfl) ?_
                refine lv_iconst (v := nI 0) hx hb dX6_copy_107 rfl ?_
                refine callVI (rest := []) (wn := fun u => [mO b ζ vv, (b 4, .inl (G.2.1, 7, .inl (tk tl 0))), (b 9, .inl (G.2.1, 4, .inl (nF wd))), (b 10, .inl (G.2.1, 4, .inl (nF zs))), (b 11, .inl (G.2.2.1, 160, .inr (.inl nb))), (b 12, .inl (G.2.2.1, 40, .inr (.inl Fc)))]) ⟨hx, hb, hml, hown, hts⟩ (c_X6_no l G H.size b ζ vv tl 0 (by omega)) (cwV 1 hts gX6_copy_X6_no rfl rfl rfl (by decide +kernel) ⟨Nat.le_of_ble_eq_true rfl, Nat.le_of_ble_eq_true rfl⟩) noXB (fun _ _ _ => trivial) hK hP hD hS hAq 5 0 (T := TX6) (N := 18) rfl rfl rfl hl.1 rfl (Nat.le_of_ble_eq_true rfl) dX6_copy_108 ⟨Nat.le_of_ble_eq_true rfl, Nat.le_of_ble_eq_true rfl⟩ [0, 1] rfl rfl [b 0, b 4] rfl (fun _ => rfl) (fun _ => rfl) (fun u H locs hok hP hD hS => ?_)
                have he : copy_e wd zs (nI k0).toInt a1.toInt (nI k2).toInt a3.toInt a4.toInt = 0 := by unfold copy_e; (try simp only [hT0, hT2, Int.toNat_natCast]); (repeat' split) <;> omega
                exact fin_i hx hb hr hlk hS hP hD Fc trivial (by rw [he]; first | done | ((try simp only [hT0, hT2, Int.toNat_natCast]); first | done | rfl)) (by rw [he]; (try simp only [hT0, hT2, Int.toNat_natCast]); exact eqW.rf _) dX6_copy_111
              · refine lv_iload hx hb dX6_copy_74 (lv_at hl 4 rfl) ?_
                refine r_if_lt hx hb (tgt := 106) dX6_copy_76 (by decide) (fun c_8 => ?_) (fun c_8 => ?_)
                · refine lv_aload_n hx hb dX6_copy_106 rfl (lv_at hl 0 rfl) ?_
                  refine lv_iconst (v := nI 0) hx hb dX6_copy_107 rfl ?_
                  refine callVI (rest := []) (wn := fun u => [mO b ζ vv, (b 4, .inl (G.2.1, 7, .inl (tk tl 0))), (b 9, .inl (G.2.1, 4, .inl (nF wd))), (b 10, .inl (G.2.1, 4, .inl (nF zs))), (b 11, .inl (G.2.2.1, 160, .inr (.inl nb))), (b 12, .inl (G.2.2.1, 40, .inr (.inl Fc)))]) ⟨hx, hb, hml, hown, hts⟩ (c_X6_no l G H.size b ζ vv tl 0 (by omega)) (cwV 1 hts gX6_copy_X6_no rfl rfl rfl (by decide +kernel) ⟨Nat.le_of_ble_eq_true rfl, Nat.le_of_ble_eq_true rfl⟩) noXB (fun _ _ _ => trivial) hK hP hD hS hAq 5 0 (T := TX6) (N := 18) rfl rfl rfl hl.1 rfl (Nat.le_of_ble_eq_true rfl) dX6_copy_108 ⟨Nat.le_of_ble_eq_true rfl, Nat.le_of_ble_eq_true rfl⟩ [0, 1] rfl rfl [b 0, b 4] rfl (fun _ => rfl) (fun _ => rfl) (fun u H locs hok hP hD hS => ?_)
                  have he : copy_e wd zs (nI k0).toInt a1.toInt (nI k2).toInt a3.toInt a4.toInt = 0 := by unfold copy_e; (try simp only [hT0, hT2, Int.toNat_natCast]); (repeat' split) <;> omega
                  exact fin_i hx hb hr hlk hS hP hD Fc trivial (by rw [he]; first | done | ((try simp only [hT0, hT2, Int.toNat_natCast]); first | done | rfl)) (by rw [he]; (try simp only [hT0, hT2, Int.toNat_natCast]); exact eqW.rf _) dX6_copy_111
                · refine lv_iload_n hx hb dX6_copy_79 rfl (lv_at hl 2 rfl) ?_
                  refine lv_aload_n hx hb dX6_copy_80 rfl (lv_at hl 0 rfl) ?_
                  refine n_get (C := RX6) (T := TX6) (N := 18) hx hb hts (fun _ h => List.mem_cons_of_mem _ (List.mem_append_right _ h)) hown hK hP 0 rfl rfl 15 (by decide) (List.mem_of_getElem? (i := 2) rfl) rfl (.ref (b 10)) rfl dX6_copy_81 ?_
                  refine lv_iload_n hx hb dX6_copy_84 rfl (lv_at hl 1 rfl) ?_
                  refine n_iald hx hb hK hP 3 (v := (nI (zs k0))) rfl (by omega) (by omega) rfl dX6_copy_85 ?_
                  refine lv_iload hx hb dX6_copy_86 (lv_at hl 5 rfl) ?_
                  refine lv_isub hx hb dX6_copy_88 ?_
                  refine r_icmp_gt hx hb (tgt := 106) dX6_copy_89 (by decide) (fun c_9 => ?_) (fun c_9 => ?_)
                  · rw [nI_subT (by omega) (by omega)] at c_9
                    refine lv_aload_n hx hb dX6_copy_106 rfl (lv_at hl 0 rfl) ?_
                    refine lv_iconst (v := nI 0) hx hb dX6_copy_107 rfl ?_
                    refine callVI (rest := []) (wn := fun u => [mO b ζ vv, (b 4, .inl (G.2.1, 7, .inl (tk tl 0))), (b 9, .inl (G.2.1, 4, .inl (nF wd))), (b 10, .inl (G.2.1, 4, .inl (nF zs))), (b 11, .inl (G.2.2.1, 160, .inr (.inl nb))), (b 12, .inl (G.2.2.1, 40, .inr (.inl Fc)))]) ⟨hx, hb, hml, hown, hts⟩ (c_X6_no l G H.size b ζ vv tl 0 (by omega)) (cwV 1 hts gX6_copy_X6_no rfl rfl rfl (by decide +kernel) ⟨Nat.le_of_ble_eq_true rfl, Nat.le_of_ble_eq_true rfl⟩) noXB (fun _ _ _ => trivial) hK hP hD hS hAq 5 0 (T := TX6) (N := 18) rfl rfl rfl hl.1 rfl (Nat.le_of_ble_eq_true rfl) dX6_copy_108 ⟨Nat.le_of_ble_eq_true rfl, Nat.le_of_ble_eq_true rfl⟩ [0, 1] rfl rfl [b 0, b 4] rfl (fun _ => rfl) (fun _ => rfl) (fun u H locs hok hP hD hS => ?_)
                    have he : copy_e wd zs (nI k0).toInt a1.toInt (nI k2).toInt a3.toInt a4.toInt = 0 := by unfold copy_e; (try simp only [hT0, hT2, Int.toNat_natCast]); (repeat' split) <;> omega
                    exact fin_i hx hb hr hlk hS hP hD Fc trivial (by rw [he]; first | done | ((try simp only [hT0, hT2, Int.toNat_natCast]); first | done | rfl)) (by rw [he]; (try simp only [hT0, hT2, Int.toNat_natCast]); exact eqW.rf _) dX6_copy_111
                  · rw [nI_subT (by omega) (by omega)] at c_9
                    refine lv_iload hx hb dX6_copy_92 (lv_at hl 4 rfl) ?_
                    refine lv_aload_n hx hb dX6_copy_94 rfl (lv_at hl 0 rfl) ?_
                    refine n_get (C := RX6) (T := TX6) (N := 18) hx hb hts (fun _ h => List.mem_cons_of_mem _ (List.mem_append_right _ h)) hown hK hP 0 rfl rfl 15 (by decide) (List.mem_of_getElem? (i := 2) rfl) rfl (.ref (b 10)) rfl dX6_copy_95 ?_
                    refine lv_iload_n hx hb dX6_copy_98 rfl (lv_at hl 3 rfl) ?_
                    refine n_iald hx hb hK hP 3 (v := (nI (zs k2))) rfl (by omega) (by omega) rfl dX6_copy_99 ?_
                    refine lv_iload hx hb dX6_copy_100 (lv_at hl 5 rfl) ?_
                    refine lv_isub hx hb dX6_copy_102 ?_
                    refine r_icmp_le hx hb (tgt := 112) dX6_copy_103 (by decide) (fun c_10 => ?_) (fun c_10 => ?_)
                    · rw [nI_subT (by omega) (by omega)] at c_10
                      obtain ⟨n4, hn4, rfl⟩ := nI_of_rg (n := 40) (x := a4) ⟨by omega, by omega⟩
                      have hT4 := nI_T (a := n4) (by omega)
                      obtain ⟨f1, hf1, rfl⟩ := nI_of_rg (n := 40) (x := a1) ⟨by omega, by omega⟩
                      have hT1 := nI_T (a := f1) (by omega)
                      obtain ⟨g3, hg3, rfl⟩ := nI_of_rg (n := 40) (x := a3) ⟨by omega, by omega⟩
                      have hT3 := nI_T (a := g3) (by omega)
                      refine lv_iconst (v := nI 0) hx hb dX6_copy_112 rfl ?_
                      refine lv_istore (lv' := [(6, .int (nI 0)), (0, .ref (b 0)), (1, .int (nI k0)), (2, .int (nI f1)), (3, .int (nI k2)), (4, .int (nI g3)), (5, .int (nI n4))]) hx hb dX6_copy_113 hl (by decide) rfl (fun ls hl => ?_)
                      refine W_loop1 (I := fun (i : Nat) => i ≤ n4) (wd := fun (i : Nat) => [mO b ζ vv, (b 4, .inl (G.2.1, 7, .inl tl)), (b 9, .inl (G.2.1, 4, .inl (nF wd))), (b 10, .inl (G.2.1, 4, .inl (nF zs))), (b 11, .inl (G.2.2.1, 160, .inr (.inl nb))), (b 12, .inl (G.2.2.1, 40, .inr (.inl (va_cpy nb Fc (40 * k0 + f1) 0 i))))]) (lv := fun (i : Nat) => [(6, .int (nI i)), (0, .ref (b 0)), (1, .int (nI k0)), (2, .int (nI f1)), (3, .int (nI k2)), (4, .int (nI g3)), (5, .int (nI n4))]) (μ := fun (i : Nat) => n4 - i) ?_ 0 (by omega) (by rw [cpy_0]; exact hP) (by rw [cpy_0]; exact hD) hS (lv_sub hl [0, 1, 2, 3, 4, 5, 6] rfl)
                      intro i H locs ls hI0 hP hD hS hl ih
                      have hiq : i ≤ n4 := hI0
                      refine lv_iload hx hb dX6_copy_115 (lv_at hl 0 rfl) ?_
                      refine lv_iload hx hb dX6_copy_117 (lv_at hl 6 rfl) ?_
                      refine n_icmp_ge hx hb (by omega) (by omega) (tgt := 144) dX6_copy_119 (by decide) (fun c_11 => ?_) (fun c_11 => ?_)
                      · have hk5 : n4 = i := by omega
                        subst hk5
                        refine lv_iconst (v := nI 0) hx hb dX6_copy_144 rfl ?_
                        refine lv_istore (lv' := [(6, .int (nI 0)), (0, .ref (b 0)), (1, .int (nI k0)), (2, .int (nI f1)), (3, .int (nI k2)), (4, .int (nI g3)), (5, .int (nI n4))]) hx hb dX6_copy_145 hl (by decide) rfl (fun ls hl => ?_)
                        refine W_loop1 (I := fun (i : Nat) => i ≤ n4) (wd := fun (i : Nat) => [mO b ζ vv, (b 4, .inl (G.2.1, 7, .inl tl)), (b 9, .inl (G.2.1, 4, .inl (nF wd))), (b 10, .inl (G.2.1, 4, .inl (nF zs))), (b 11, .inl (G.2.2.1, 160, .inr (.inl (va_cpy nb nb (40 * k0 + f1) (40 * k2 + g3) i)))), (b 12, .inl (G.2.2.1, 40, .inr (.inl (va_cpy nb Fc (40 * k0 + f1) 0 n4))))]) (lv := fun (i : Nat) => [(6, .int (nI i)), (0, .ref (b 0)), (1, .int (nI k0)), (2, .int (nI f1)), (3, .int (nI k2)), (4, .int (nI g3)), (5, .int (nI n4))]) (μ := fun (i : Nat) => n4 - i) ?_ 0 (by omega) (by rw [cpy_0]; exact hP) (by rw [cpy_0]; exact hD) hS (lv_sub hl [0, 1, 2, 3, 4, 5, 6] rfl)
                        intro i H locs ls hI0 hP hD hS hl ih1
                        have hiq : i ≤ n4 := hI0
                        refine lv_iload hx hb dX6_copy_147 (lv_at hl 0 rfl) ?_
                        refine lv_iload hx hb dX6_copy_149 (lv_at hl 6 rfl) ?_
                        refine n_icmp_ge hx hb (by omega) (by omega) (tgt := 182) dX6_copy_151 (by decide) (fun c_12 => ?_) (fun c_12 => ?_)
                        · have hk5 : n4 = i := by omega
                          subst hk5
                          refine lv_iload hx hb dX6_copy_182 (lv_at hl 6 rfl) ?_
                          have he : copy_e wd zs (nI k0).toInt (nI f1).toInt (nI k2).toInt (nI g3).toInt (nI n4).toInt = 7 := by unfold copy_e; (try simp only [hT0, hT2, hT4, hT1, hT3, Int.toNat_natCast]); (repeat' split) <;> omega
                          exact fin_i hx hb hr hlk hS hP hD (va_cpy nb Fc (40 * k0 + f1) 0 n4) trivial (by rw [he]; first | done | ((try simp only [hT0, hT2, hT4, hT1, hT3, Int.toNat_natCast]); first | done | rfl)) (by rw [he]; (try simp only [hT0, hT2, hT4, hT1, hT3, Int.toNat_natCast]); exact eqW.rf _) dX6_copy_184
                        · refine lv_aload_n hx hb dX6_copy_154 rfl (lv_at hl 1 rfl) ?_
                          refine n_get (C := RX6) (T := TX6) (N := 18) hx hb hts (fun _ h => List.mem_cons_of_mem _ (List.mem_append_right _ h)) hown hK hP 0 rfl rfl 16 (by decide) (List.mem_of_getElem? (i := 4) rfl) rfl (.ref (b 11)) rfl dX6_copy_155 ?_
                          refine lv_bipush (v := nI 40) hx hb dX6_copy_158 rfl ?_
                          refine lv_iload_n hx hb dX6_copy_160 rfl (lv_at hl 4 rfl) ?_
                          refine n_imul hx hb dX6_copy_161 ?_
                          refine lv_iload hx hb dX6_copy_162 (lv_at hl 5 rfl) ?_
                          refine n_iadd hx hb dX6_copy_164 ?_
                          refine lv_iload hx hb dX6_copy_165 (lv_at hl 0 rfl) ?_
                          refine n_iadd hx hb dX6_copy_167 ?_
                          refine lv_aload_n hx hb dX6_copy_168 rfl (lv_at hl 1 rfl) ?_
                          refine n_get (C := RX6) (T := TX6) (N := 18) hx hb hts (fun _ h => List.mem_cons_of_mem _ (List.mem_append_right _ h)) hown hK hP 0 rfl rfl 17 (by decide) (List.mem_of_getElem? (i := 3) rfl) rfl (.ref (b 12)) rfl dX6_copy_169 ?_
                          refine lv_iload hx hb dX6_copy_172 (lv_at hl 0 rfl) ?_
                          refine n_lald hx hb hK hP 5 (v := ((va_cpy nb Fc (40 * k0 + f1) 0 n4) i)) rfl (by omega) (by omega) rfl dX6_copy_174 ?_
                          refine n_last hx hb hK hP hD hS 4 (wn := [mO b ζ vv, (b 4, .inl (G.2.1, 7, .inl tl)), (b 9, .inl (G.2.1, 4, .inl (nF wd))), (b 10, .inl (G.2.1, 4, .inl (nF zs))), (b 11, .inl (G.2.2.1, 160, .inr (.inl (vp_updL (va_cpy nb nb (40 * k0 + f1) (40 * k2 + g3) i) (((40 * k2) + g3) + i) ((va_cpy nb Fc (40 * k0 + f1) 0 n4) i))))), (b 12, .inl (G.2.2.1, 40, .inr (.inl (va_cpy nb Fc (40 * k0 + f1) 0 n4))))]) rfl (by omega) (by omega) rfl dX6_copy_175 (fun H locs hP hD hS => ?_)
                          refine n_iinc (lv' := [(6, .int (nI (i + 1))), (0, .ref (b 0)), (1, .int (nI k0)), (2, .int (nI f1)), (3, .int (nI k2)), (4, .int (nI g3)), (5, .int (nI n4))]) hx hb dX6_copy_176 hl (k := 0) rfl (by decide) rfl (fun ls hl => ?_)
                          refine lv_goto (tgt := 147) hx hb dX6_copy_179 (by decide) ?_
                          have e1 : vp_updL (va_cpy nb nb (40 * k0 + f1) (40 * k2 + g3) i) (((40 * k2) + g3) + i) ((va_cpy nb Fc (40 * k0 + f1) 0 n4) i) = va_cpy nb nb (40 * k0 + f1) (40 * k2 + g3) (i + 1) := cpy_S (by omega) (cpy_at (by omega))
                          exact ih1 (i + 1) _ _ _ (by omega) (by omega) (by rw [← e1]; exact hP) (by rw [← e1]; exact hD) hS (lv_sub hl [0, 1, 2, 3, 4, 5, 6] rfl)
                      · refine lv_aload_n hx hb dX6_copy_122 rfl (lv_at hl 1 rfl) ?_
                        refine n_get (C := RX6) (T := TX6) (N := 18) hx hb hts (fun _ h => List.mem_cons_of_mem _ (List.mem_append_right _ h)) hown hK hP 0 rfl rfl 17 (by decide) (List.mem_of_getElem? (i := 3) rfl) rfl (.ref (b 12)) rfl dX6_copy_123 ?_
                        refine lv_iload hx hb dX6_copy_126 (lv_at hl 0 rfl) ?_
                        refine lv_aload_n hx hb dX6_copy_128 rfl (lv_at hl 1 rfl) ?_
                        refine lv_iload_n hx hb dX6_copy_129 rfl (lv_at hl 2 rfl) ?_
                        refine lv_iload_n hx hb dX6_copy_130 rfl (lv_at hl 3 rfl) ?_
                        refine lv_iload hx hb dX6_copy_131 (lv_at hl 0 rfl) ?_
                        refine n_iadd hx hb dX6_copy_133 ?_
                        refine callVL (rest := [.int (nI i), .ref (b 12)]) (wn := fun u => [mO b ζ vv, (b 4, .inl (G.2.1, 7, .inl tl)), (b 9, .inl (G.2.1, 4, .inl (nF wd))), (b 10, .inl (G.2.1, 4, .inl (nF zs))), (b 11, .inl (G.2.2.1, 160, .inr (.inl nb))), (b 12, .inl (G.2.2.1, 40, .inr (.inl (va_cpy nb Fc (40 * k0 + f1) 0 i))))]) ⟨hx, hb, hml, hown, hts⟩ (c_X6_told l G H.size b ζ vv nb k0 (f1 + i) (by omega) (by omega)) (cwV 2 hts gX6_copy_X6_told rfl rfl rfl (by decide +kernel) ⟨Nat.le_of_ble_eq_true rfl, Nat.le_of_ble_eq_true rfl⟩) noXB (fun _ _ _ => trivial) hK hP hD hS hAq 5 0 (T := TX6) (N := 18) rfl rfl rfl hl.1 rfl (Nat.le_of_ble_eq_true rfl) dX6_copy_134 ⟨Nat.le_of_ble_eq_true rfl, Nat.le_of_ble_eq_true rfl⟩ [0, 4] rfl rfl [b 0, b 11] rfl (fun _ => rfl) (fun _ => rfl) (fun u H locs hok hP hD hS => ?_)
                        refine n_last hx hb hK hP hD hS 5 (wn := [mO b ζ vv, (b 4, .inl (G.2.1, 7, .inl tl)), (b 9, .inl (G.2.1, 4, .inl (nF wd))), (b 10, .inl (G.2.1, 4, .inl (nF zs))), (b 11, .inl (G.2.2.1, 160, .inr (.inl nb))), (b 12, .inl (G.2.2.1, 40, .inr (.inl (vp_updL (va_cpy nb Fc (40 * k0 + f1) 0 i) i (nb (40 * k0 + (f1 + i)))))))]) rfl (by omega) (by omega) rfl dX6_copy_137 (fun H locs hP hD hS => ?_)
                        refine n_iinc (lv' := [(6, .int (nI (i + 1))), (0, .ref (b 0)), (1, .int (nI k0)), (2, .int (nI f1)), (3, .int (nI k2)), (4, .int (nI g3)), (5, .int (nI n4))]) hx hb dX6_copy_138 hl (k := 0) rfl (by decide) rfl (fun ls hl => ?_)
                        refine lv_goto (tgt := 115) hx hb dX6_copy_141 (by decide) ?_
                        have e1 : vp_updL (va_cpy nb Fc (40 * k0 + f1) 0 i) i (nb (40 * k0 + (f1 + i))) = va_cpy nb Fc (40 * k0 + f1) 0 (i + 1) := cpy_S (by omega) (congrArg nb (by omega))
                        exact ih (i + 1) _ _ _ (by omega) (by omega) (by rw [← e1]; exact hP) (by rw [← e1]; exact hD) hS (lv_sub hl [0, 1, 2, 3, 4, 5, 6] rfl)
                    · rw [nI_subT (by omega) (by omega)] at c_10
                      refine lv_aload_n hx hb dX6_copy_106 rfl (lv_at hl 0 rfl) ?_
                      refine lv_iconst (v := nI 0) hx hb dX6_copy_107 rfl ?_
                      refine callVI (rest := []) (wn := fun u => [mO b ζ vv, (b 4, .inl (G.2.1, 7, .inl (tk tl 0))), (b 9, .inl (G.2.1, 4, .inl (nF wd))), (b 10, .inl (G.2.1, 4, .inl (nF zs))), (b 11, .inl (G.2.2.1, 160, .inr (.inl nb))), (b 12, .inl (G.2.2.1, 40, .inr (.inl Fc)))]) ⟨hx, hb, hml, hown, hts⟩ (c_X6_no l G H.size b ζ vv tl 0 (by omega)) (cwV 1 hts gX6_copy_X6_no rfl rfl rfl (by decide +kernel) ⟨Nat.le_of_ble_eq_true rfl, Nat.le_of_ble_eq_true rfl⟩) noXB (fun _ _ _ => trivial) hK hP hD hS hAq 5 0 (T := TX6) (N := 18) rfl rfl rfl hl.1 rfl (Nat.le_of_ble_eq_true rfl) dX6_copy_108 ⟨Nat.le_of_ble_eq_true rfl, Nat.le_of_ble_eq_true rfl⟩ [0, 1] rfl rfl [b 0, b 4] rfl (fun _ => rfl) (fun _ => rfl) (fun u H locs hok hP hD hS => ?_)
                      have he : copy_e wd zs (nI k0).toInt a1.toInt (nI k2).toInt a3.toInt a4.toInt = 0 := by unfold copy_e; (try simp only [hT0, hT2, Int.toNat_natCast]); (repeat' split) <;> omega
                      exact fin_i hx hb hr hlk hS hP hD Fc trivial (by rw [he]; first | done | ((try simp only [hT0, hT2, Int.toNat_natCast]); first | done | rfl)) (by rw [he]; (try simp only [hT0, hT2, Int.toNat_natCast]); exact eqW.rf _) dX6_copy_111
          · refine lv_aload_n hx hb dX6_copy_59 rfl (lv_at hl 0 rfl) ?_
            refine lv_iconst (v := nI 2) hx hb dX6_copy_60 rfl ?_
            refine callVI (rest := []) (wn := fun u => [mO b ζ vv, (b 4, .inl (G.2.1, 7, .inl (tk tl 2))), (b 9, .inl (G.2.1, 4, .inl (nF wd))), (b 10, .inl (G.2.1, 4, .inl (nF zs))), (b 11, .inl (G.2.2.1, 160, .inr (.inl nb))), (b 12, .inl (G.2.2.1, 40, .inr (.inl Fc)))]) ⟨hx, hb, hml, hown, hts⟩ (c_X6_no l G H.size b ζ vv tl 2 (by omega)) (cwV 1 hts gX6_copy_X6_no rfl rfl rfl (by decide +kernel) ⟨Nat.le_of_ble_eq_true rfl, Nat.le_of_ble_eq_true rfl⟩) noXB (fun _ _ _ => trivial) hK hP hD hS hAq 5 0 (T := TX6) (N := 18) rfl rfl rfl hl.1 rfl (Nat.le_of_ble_eq_true rfl) dX6_copy_61 ⟨Nat.le_of_ble_eq_true rfl, Nat.le_of_ble_eq_true rfl⟩ [0, 1] rfl rfl [b 0, b 4] rfl (fun _ => rfl) (fun _ => rfl) (fun u H locs hok hP hD hS => ?_)
            have he : copy_e wd zs (nI k0).toInt a1.toInt (nI k2).toInt a3.toInt a4.toInt = 2 := by unfold copy_e; (try simp only [hT0, hT2, Int.toNat_natCast]); (repeat' split) <;> omega
            exact fin_i hx hb hr hlk hS hP hD Fc trivial (by rw [he]; first | done | ((try simp only [hT0, hT2, Int.toNat_natCast]); first | done | rfl)) (by rw [he]; (try simp only [hT0, hT2, Int.toNat_natCast]); exact eqW.rf _) dX6_copy_64
        · refine lv_aload_n hx hb dX6_copy_38 rfl (lv_at hl 0 rfl) ?_
          refine lv_iconst (v := nI 5) hx hb dX6_copy_39 rfl ?_
          refine callVI (rest := []) (wn := fun u => [mO b ζ vv, (b 4, .inl (G.2.1, 7, .inl (tk tl 5))), (b 9, .inl (G.2.1, 4, .inl (nF wd))), (b 10, .inl (G.2.1, 4, .inl (nF zs))), (b 11, .inl (G.2.2.1, 160, .inr (.inl nb))), (b 12, .inl (G.2.2.1, 40, .inr (.inl Fc)))]) ⟨hx, hb, hml, hown, hts⟩ (c_X6_no l G H.size b ζ vv tl 5 (by omega)) (cwV 1 hts gX6_copy_X6_no rfl rfl rfl (by decide +kernel) ⟨Nat.le_of_ble_eq_true rfl, Nat.le_of_ble_eq_true rfl⟩) noXB (fun _ _ _ => trivial) hK hP hD hS hAq 5 0 (T := TX6) (N := 18) rfl rfl rfl hl.1 rfl (Nat.le_of_ble_eq_true rfl) dX6_copy_40 ⟨Nat.le_of_ble_eq_true rfl, Nat.le_of_ble_eq_true rfl⟩ [0, 1] rfl rfl [b 0, b 4] rfl (fun _ => rfl) (fun _ => rfl) (fun u H locs hok hP hD hS => ?_)
          have he : copy_e wd zs (nI k0).toInt a1.toInt (nI k2).toInt a3.toInt a4.toInt = 5 := by unfold copy_e; (try simp only [hT0, hT2, Int.toNat_natCast]); (repeat' split) <;> omega
          exact fin_i hx hb hr hlk hS hP hD Fc trivial (by rw [he]; first | done | ((try simp only [hT0, hT2, Int.toNat_natCast]); first | done | rfl)) (by rw [he]; (try simp only [hT0, hT2, Int.toNat_natCast]); exact eqW.rf _) dX6_copy_43
    · refine lv_aload_n hx hb dX6_copy_14 rfl (lv_at hl 0 rfl) ?_
      refine lv_iconst (v := nI 0) hx hb dX6_copy_15 rfl ?_
      refine callVI (rest := []) (wn := fun u => [mO b ζ vv, (b 4, .inl (G.2.1, 7, .inl (tk tl 0))), (b 9, .inl (G.2.1, 4, .inl (nF wd))), (b 10, .inl (G.2.1, 4, .inl (nF zs))), (b 11, .inl (G.2.2.1, 160, .inr (.inl nb))), (b 12, .inl (G.2.2.1, 40, .inr (.inl Fc)))]) ⟨hx, hb, hml, hown, hts⟩ (c_X6_no l G H.size b ζ vv tl 0 (by omega)) (cwV 1 hts gX6_copy_X6_no rfl rfl rfl (by decide +kernel) ⟨Nat.le_of_ble_eq_true rfl, Nat.le_of_ble_eq_true rfl⟩) noXB (fun _ _ _ => trivial) hK hP hD hS hAq 5 0 (T := TX6) (N := 18) rfl rfl rfl hl.1 rfl (Nat.le_of_ble_eq_true rfl) dX6_copy_16 ⟨Nat.le_of_ble_eq_true rfl, Nat.le_of_ble_eq_true rfl⟩ [0, 1] rfl rfl [b 0, b 4] rfl (fun _ => rfl) (fun _ => rfl) (fun u H locs hok hP hD hS => ?_)
      have he : copy_e wd zs (nI k0).toInt a1.toInt a2.toInt a3.toInt a4.toInt = 0 := by unfold copy_e; (try simp only [hT0, Int.toNat_natCast]); (repeat' split) <;> omega
      exact fin_i hx hb hr hlk hS hP hD Fc trivial (by rw [he]; first | done | ((try simp only [hT0, Int.toNat_natCast]); first | done | rfl)) (by rw [he]; (try simp only [hT0, Int.toNat_natCast]); exact eqW.rf _) dX6_copy_19
