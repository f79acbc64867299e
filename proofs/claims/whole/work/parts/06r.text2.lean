/-- the reference, its token at the place p -/
def mT (b ζ tb : Nat → Nat) (ln p : Nat) : Nat × va_E := mO b (un (un (un ζ 2 (tkN tb ln p)) 3 p) 4 (enN tb ln p)) (lN (vaN tb ln p))
theorem c_nextA (l : Launch) (G : GT) (sz : Nat) (b ζ tb : Nat → Nat) (ln X : Nat) (h1 : ζ 1 = ln) (hln : ln ≤ 120) (hX : X ≤ ln) (htb : ∀ j, tb j < 256) : MV (S := Unit) l G noX yX6_nextToken wsX6_nextToken ({ frames := 2, cells := 0, slots := 0, locals := 42 } : Room) [.ref (b 0)] [mT b ζ tb ln X, (b 5, .inl (G.2.1, 120, .inl (nF tb)))] sz (fun _ => True) (fun _ => [mT b ζ tb ln (adN tb ln X), (b 5, .inl (G.2.1, 120, .inl (nF tb)))]) :=
  c_X6_nextToken l G sz b (un (un (un ζ 2 (tkN tb ln X)) 3 X) 4 (enN tb ln X)) (lN (vaN tb ln X)) tb ln (enN tb ln X) h1 rfl hln (en_le hX).2 htb
theorem c_next0 (l : Launch) (G : GT) (sz : Nat) (b ζ tb : Nat → Nat) (v : Int64) (ln : Nat) (h1 : ζ 1 = ln) (hln : ln ≤ 120) (htb : ∀ j, tb j < 256) : MV (S := Unit) l G noX yX6_nextToken wsX6_nextToken ({ frames := 2, cells := 0, slots := 0, locals := 42 } : Room) [.ref (b 0)] [mO b (un ζ 4 0) v, (b 5, .inl (G.2.1, 120, .inl (nF tb)))] sz (fun _ => True) (fun _ => [mT b ζ tb ln (stN tb ln 0), (b 5, .inl (G.2.1, 120, .inl (nF tb)))]) :=
  c_X6_nextToken l G sz b (un ζ 4 0) v tb ln 0 h1 rfl hln (Nat.zero_le _) htb
set_option maxHeartbeats 400000 in
set_option maxRecDepth 100000 in
theorem c_X6_wordOf (l : Launch) (G : GT) (sz : Nat) (b : Nat → Nat) (ζ : Nat → Nat) (tb : Nat → Nat) (ln s0 : Nat) (h1 : ζ 1 = ln) (hln : ln ≤ 120) (hs0 : s0 ≤ ln) (htb : ∀ j, tb j < 256) (ca cnt b0 : Nat) (g : Nat → Nat) (hcn : b0 + cnt ≤ 11) (hch : ∀ j, j < 8 * cnt → g j = 32 ∨ (97 ≤ g j ∧ g j ≤ 122)) (hpk : ∀ w, w < cnt → pkN g w 8 = wvN 9999999999999 27 96 (wdN (b0 + w)) (lnW (b0 + w))) : MI (S := Unit) l G noX yX6_wordOf wsX6_wordOf ({ frames := 0, cells := 0, slots := 0, locals := 0 } : Room) [.ref (b 0), .ref ca] ([mT b ζ tb ln s0, (ca, .inl (G.2.2.2, (8 * cnt), .inl (nF g)))]) sz (fun _ => True) (fun _ => woV tb ln s0 b0 cnt) (fun _ => [mT b ζ tb ln s0, (ca, .inl (G.2.2.2, (8 * cnt), .inl (nF g)))]) := by
  refine MI_enter (cc := cX6_wordOf) (maxL := 7) (ret := (some .int)) (by decide) rfl (Nat.le_of_ble_eq_true rfl) ?_
  intro p e s m below meth c A ls H hx hb hr hlk hml hown hts hAq hS hP hK hD hX hl hnm
  have hown : s.vm.findClass RX6 = some m.cls := hown
  have hl : lv_has ls 7 [(0, .ref (b 0)), (1, .ref ca)] := hl
  have htk := tk_le tb ln s0
  have hva := va_le htb ln s0
  refine lv_iconst (v := (-1)) hx hb dX6_wordOf_0 rfl ?_
  refine n_top (y := woV tb ln s0 b0 0) (wo_0 tb ln s0 b0).symm ?_
  refine lv_istore_n (lv' := [(2, .int (woV tb ln s0 b0 0)), (0, .ref (b 0)), (1, .ref ca)]) hx hb dX6_wordOf_1 rfl hl (by decide) rfl (fun ls hl => ?_)
  refine lv_iconst (v := nI 0) hx hb dX6_wordOf_2 rfl ?_
  refine lv_istore_n (lv' := [(3, .int (nI 0)), (2, .int (woV tb ln s0 b0 0)), (0, .ref (b 0)), (1, .ref ca)]) hx hb dX6_wordOf_3 rfl hl (by decide) rfl (fun ls hl => ?_)
  refine W_loop1 (I := fun (w : Nat) => w ≤ cnt) (wd := fun (w : Nat) => [mT b ζ tb ln s0, (ca, .inl (G.2.2.2, (8 * cnt), .inl (nF g)))]) (lv := fun (w : Nat) => [(3, .int (nI w)), (2, .int (woV tb ln s0 b0 w)), (0, .ref (b 0)), (1, .ref ca)]) (μ := fun (w : Nat) => cnt - w) ?_ 0 (by omega) hP hD hS (lv_sub hl [0, 1, 2, 3] rfl)
  intro w H locs ls hI0 hP hD hS hl ih
  have hw : w ≤ cnt := hI0
  refine lv_iload_n hx hb dX6_wordOf_4 rfl (lv_at hl 0 rfl) ?_
  refine lv_aload_n hx hb dX6_wordOf_5 rfl (lv_at hl 3 rfl) ?_
  refine n_alen hx hb hK hP 1 2 rfl rfl dX6_wordOf_6 ?_
  refine lv_bipush (v := nI 8) hx hb dX6_wordOf_7 rfl ?_
  refine n_idiv hx hb (by omega) (by decide) (by decide) dX6_wordOf_9 ?_
  refine n_icmp_ge hx hb (by omega) (by omega) (tgt := 104) dX6_wordOf_10 (by decide) (fun c_1 => ?_) (fun c_1 => ?_)
  · refine lv_iload_n hx hb dX6_wordOf_104 rfl (lv_at hl 1 rfl) ?_
    exact fin_i hx hb hr hlk hS hP hD () trivial (by rw [show cnt = w by omega]) (eqW.rf _) dX6_wordOf_105
  · refine lv_aload_n hx hb dX6_wordOf_13 rfl (lv_at hl 2 rfl) ?_
    refine n_get (C := RX6) (T := TX6) (N := 18) hx hb hts (fun _ h => List.mem_cons_of_mem _ (List.mem_append_right _ h)) hown hK hP 0 rfl rfl 7 (by decide) (List.mem_of_getElem? (i := 1) rfl) rfl (_) rfl dX6_wordOf_14 ?_
    refine n_top (y := (nI (tkN tb ln s0))) (congrArg nI (Eq.trans (un_n (by decide)) (Eq.trans (un_n (by decide)) un_s))) ?_
    refine lv_iconst (v := nI 1) hx hb dX6_wordOf_17 rfl ?_
    refine n_icmp_ne hx hb (by omega) (by omega) (tgt := 104) dX6_wordOf_18 (by decide) (fun c_2 => ?_) (fun c_2 => ?_)
    · have c_tk := c_2
      refine lv_iload_n hx hb dX6_wordOf_104 rfl (lv_at hl 1 rfl) ?_
      exact fin_i hx hb hr hlk hS hP hD () trivial (by rw [wo_ty (fun h => c_tk (tk_1.mpr h)), wo_ty (fun h => c_tk (tk_1.mpr h))]) (eqW.rf _) dX6_wordOf_105
    · have c_tk := c_2
      refine lv_lconst (v := lN 0) hx hb dX6_wordOf_21 rfl ?_
      refine lv_lstore (lv' := [(4, .long (lN 0)), (3, .int (nI w)), (2, .int (woV tb ln s0 b0 w)), (0, .ref (b 0)), (1, .ref ca)]) hx hb dX6_wordOf_22 hl (by decide) rfl (fun ls hl => ?_)
      refine lv_iconst (v := nI 0) hx hb dX6_wordOf_24 rfl ?_
      refine lv_istore (lv' := [(6, .int (nI 0)), (4, .long (lN 0)), (3, .int (nI w)), (2, .int (woV tb ln s0 b0 w)), (0, .ref (b 0)), (1, .ref ca)]) hx hb dX6_wordOf_25 hl (by decide) rfl (fun ls hl => ?_)
      refine W_loop1 (I := fun (k : Nat) => k ≤ 8) (wd := fun (k : Nat) => [mT b ζ tb ln s0, (ca, .inl (G.2.2.2, (8 * cnt), .inl (nF g)))]) (lv := fun (k : Nat) => [(6, .int (nI k)), (4, .long (lN (pkN g w k))), (3, .int (nI w)), (2, .int (woV tb ln s0 b0 w)), (0, .ref (b 0)), (1, .ref ca)]) (μ := fun (k : Nat) => 8 - k) ?_ 0 (by omega) hP hD hS (lv_sub hl [0, 1, 2, 3, 4, 5] rfl)
      intro k H locs ls hI0 hP hD hS hl ih1
      have hk : k ≤ 8 := hI0
      refine lv_iload hx hb dX6_wordOf_27 (lv_at hl 0 rfl) ?_
      refine lv_bipush (v := nI 8) hx hb dX6_wordOf_29 rfl ?_
      refine n_icmp_ge hx hb (by omega) (by omega) (tgt := 82) dX6_wordOf_31 (by decide) (fun c_3 => ?_) (fun c_3 => ?_)
      · have hk5 : k = 8 := by omega
        subst hk5
        have hp8 := hpk w (by omega)
        have hwT := wd_T (b0 + w) (by omega) (lnW (b0 + w)) (by have := (ln_le (b0 + w) (by omega)).2; omega)
        have hiff := va_word (tb := tb) (ln := ln) (s := s0) (i := b0 + w) (tk_1.mp c_tk) hs0 (by omega)
        refine lv_lload hx hb dX6_wordOf_82 (lv_at hl 1 rfl) ?_
        refine lv_aload_n hx hb dX6_wordOf_84 rfl (lv_at hl 4 rfl) ?_
        refine n_get (C := RX6) (T := TX6) (N := 18) hx hb hts (fun _ h => List.mem_cons_of_mem _ (List.mem_append_right _ h)) hown hK hP 0 rfl rfl 10 (by decide) (List.mem_of_getElem? (i := 4) rfl) rfl (.long (lN (vaN tb ln s0))) rfl dX6_wordOf_85 ?_
        refine W.lcmp hx hb dX6_wordOf_88 ?_
        have hlc_4 := lc_all (lN (pkN g w 8)) (lN (vaN tb ln s0))
        rw [pk_lT (show pkN g w 8 < 9223372036854775808 by omega)] at hlc_4
        rw [pk_lT (show vaN tb ln s0 < 9223372036854775808 by omega)] at hlc_4
        refine r_if_ne hx hb (tgt := 96) dX6_wordOf_89 (by decide) (fun c_5 => ?_) (fun c_5 => ?_)
        · have hiw : ¬ isW tb ln (b0 + w) s0 := fun h => by have := hiff.mpr h; omega
          refine lv_iload_n hx hb dX6_wordOf_96 rfl (lv_at hl 3 rfl) ?_
          refine lv_istore_n (lv' := [(2, .int (woV tb ln s0 b0 w)), (6, .int (nI 8)), (4, .long (lN (pkN g w 8))), (3, .int (nI w)), (0, .ref (b 0)), (1, .ref ca)]) hx hb dX6_wordOf_97 rfl hl (by decide) rfl (fun ls hl => ?_)
          refine n_iinc (lv' := [(3, .int (nI (w + 1))), (2, .int (woV tb ln s0 b0 w)), (6, .int (nI 8)), (4, .long (lN (pkN g w 8))), (0, .ref (b 0)), (1, .ref ca)]) hx hb dX6_wordOf_98 hl (k := 3) rfl (by decide) rfl (fun ls hl => ?_)
          refine lv_goto (tgt := 4) hx hb dX6_wordOf_101 (by decide) ?_
          have e1 : woV tb ln s0 b0 (w + 1) = woV tb ln s0 b0 w := wo_SN hiw
          exact ih (w + 1) _ _ _ (by omega) (by omega) hP hD hS (by rw [e1]; exact (lv_sub hl [0, 1, 4, 5] rfl))
        · have hiw : isW tb ln (b0 + w) s0 := hiff.mp (by omega)
          refine lv_iload_n hx hb dX6_wordOf_92 rfl (lv_at hl 2 rfl) ?_
          refine lv_goto (tgt := 97) hx hb dX6_wordOf_93 (by decide) ?_
          refine lv_istore_n (lv' := [(2, .int (nI w)), (6, .int (nI 8)), (4, .long (lN (pkN g w 8))), (3, .int (nI w)), (0, .ref (b 0)), (1, .ref ca)]) hx hb dX6_wordOf_97 rfl hl (by decide) rfl (fun ls hl => ?_)
          refine n_iinc (lv' := [(3, .int (nI (w + 1))), (2, .int (nI w)), (6, .int (nI 8)), (4, .long (lN (pkN g w 8))), (0, .ref (b 0)), (1, .ref ca)]) hx hb dX6_wordOf_98 hl (k := 3) rfl (by decide) rfl (fun ls hl => ?_)
          refine lv_goto (tgt := 4) hx hb dX6_wordOf_101 (by decide) ?_
          have e1 : woV tb ln s0 b0 (w + 1) = nI w := wo_SY hiw (by omega)
          exact ih (w + 1) _ _ _ (by omega) (by omega) hP hD hS (by rw [e1]; exact (lv_sub hl [0, 1, 4, 5] rfl))
      · refine lv_aload_n hx hb dX6_wordOf_34 rfl (lv_at hl 5 rfl) ?_
        refine lv_bipush (v := nI 8) hx hb dX6_wordOf_35 rfl ?_
        refine lv_iload_n hx hb dX6_wordOf_37 rfl (lv_at hl 2 rfl) ?_
        refine n_imul hx hb dX6_wordOf_38 ?_
        refine lv_iload hx hb dX6_wordOf_39 (lv_at hl 0 rfl) ?_
        refine n_iadd hx hb dX6_wordOf_41 ?_
        refine n_cald hx hb hK hP 1 (v := (nI (g ((8 * w) + k)))) rfl (by omega) (by omega) rfl dX6_wordOf_42 ?_
        have hg := hch (8 * w + k) (by omega)
        refine lv_bipush (v := nI 32) hx hb dX6_wordOf_43 rfl ?_
        refine n_icmp_ne hx hb (by omega) (by omega) (tgt := 53) dX6_wordOf_45 (by decide) (fun c_6 => ?_) (fun c_6 => ?_)
        · have c_sp : ¬ g (8 * w + k) = 32 := c_6
          refine lv_lload hx hb dX6_wordOf_53 (lv_at hl 1 rfl) ?_
          refine lv_ldc2 (v := 27) hx hb hown (hts _ (List.mem_of_getElem? (i := 2) rfl)) dX6_wordOf_55 ?_
          refine n_topl (y := lN 27) rfl ?_
          refine lv_lmul hx hb dX6_wordOf_58 ?_
          refine n_topl (y := lN ((pkN g w k) * 27)) (lN_mul _ _) ?_
          refine lv_aload_n hx hb dX6_wordOf_59 rfl (lv_at hl 5 rfl) ?_
          refine lv_bipush (v := nI 8) hx hb dX6_wordOf_60 rfl ?_
          refine lv_iload_n hx hb dX6_wordOf_62 rfl (lv_at hl 2 rfl) ?_
          refine n_imul hx hb dX6_wordOf_63 ?_
          refine lv_iload hx hb dX6_wordOf_64 (lv_at hl 0 rfl) ?_
          refine n_iadd hx hb dX6_wordOf_66 ?_
          refine n_cald hx hb hK hP 1 (v := (nI (g ((8 * w) + k)))) rfl (by omega) (by omega) rfl dX6_wordOf_67 ?_
          refine lv_i2l (v := lN (g ((8 * w) + k))) hx hb dX6_wordOf_68 (nI_l (by omega)) ?_
          refine lv_ladd hx hb dX6_wordOf_69 ?_
          refine n_topl (y := lN (((pkN g w k) * 27) + (g ((8 * w) + k)))) (lN_add _ _) ?_
          refine lv_ldc2 (v := 96) hx hb hown (hts _ (List.mem_of_getElem? (i := 3) rfl)) dX6_wordOf_70 ?_
          refine n_topl (y := lN 96) rfl ?_
          refine lv_lsub hx hb dX6_wordOf_73 ?_
          refine n_topl (y := lN ((((pkN g w k) * 27) + (g ((8 * w) + k))) - 96)) (lN_sub (by omega)) ?_
          refine lv_lstore (lv' := [(4, .long (lN ((((pkN g w k) * 27) + (g ((8 * w) + k))) - 96))), (6, .int (nI k)), (3, .int (nI w)), (2, .int (woV tb ln s0 b0 w)), (0, .ref (b 0)), (1, .ref ca)]) hx hb dX6_wordOf_74 hl (by decide) rfl (fun ls hl => ?_)
          refine n_iinc (lv' := [(6, .int (nI (k + 1))), (4, .long (lN ((((pkN g w k) * 27) + (g ((8 * w) + k))) - 96))), (3, .int (nI w)), (2, .int (woV tb ln s0 b0 w)), (0, .ref (b 0)), (1, .ref ca)]) hx hb dX6_wordOf_76 hl (k := 1) rfl (by decide) rfl (fun ls hl => ?_)
          refine lv_goto (tgt := 27) hx hb dX6_wordOf_79 (by decide) ?_
          have e1 : pkN g w (k + 1) = (((pkN g w k) * 27) + (g ((8 * w) + k))) - 96 := by rw [pk_S]; first | rw [if_pos c_sp] | rw [if_neg c_sp]
          exact ih1 (k + 1) _ _ _ (by omega) (by omega) hP hD hS (by rw [e1]; exact (lv_sub hl [0, 1, 2, 3, 4, 5] rfl))
        · have c_sp : g (8 * w + k) = 32 := c_6
          refine lv_lload hx hb dX6_wordOf_48 (lv_at hl 1 rfl) ?_
          refine lv_goto (tgt := 74) hx hb dX6_wordOf_50 (by decide) ?_
          refine lv_lstore (lv' := [(4, .long (lN (pkN g w k))), (6, .int (nI k)), (3, .int (nI w)), (2, .int (woV tb ln s0 b0 w)), (0, .ref (b 0)), (1, .ref ca)]) hx hb dX6_wordOf_74 hl (by decide) rfl (fun ls hl => ?_)
          refine n_iinc (lv' := [(6, .int (nI (k + 1))), (4, .long (lN (pkN g w k))), (3, .int (nI w)), (2, .int (woV tb ln s0 b0 w)), (0, .ref (b 0)), (1, .ref ca)]) hx hb dX6_wordOf_76 hl (k := 1) rfl (by decide) rfl (fun ls hl => ?_)
          refine lv_goto (tgt := 27) hx hb dX6_wordOf_79 (by decide) ?_
          have e1 : pkN g w (k + 1) = pkN g w k := by rw [pk_S]; first | rw [if_pos c_sp] | rw [if_neg c_sp]
          exact ih1 (k + 1) _ _ _ (by omega) (by omega) hP hD hS (by rw [e1]; exact (lv_sub hl [0, 1, 2, 3, 4, 5] rfl))
set_option maxHeartbeats 400000 in
set_option maxRecDepth 100000 in
theorem c_X6_takesNumber (l : Launch) (G : GT) (sz : Nat) (b : Nat → Nat) (ζ : Nat → Nat) (tb : Nat → Nat) (ln s0 : Nat) (h1 : ζ 1 = ln) (hln : ln ≤ 120) (hs0 : s0 ≤ ln) (htb : ∀ j, tb j < 256) (g0 : Nat) (hg0 : g0 ≤ 999) : MI (S := Unit) l G noX yX6_takesNumber wsX6_takesNumber ({ frames := 3, cells := 0, slots := 0, locals := 62 } : Room) [.ref (b 0), .int (nI 0), .int (nI g0)] ([mT b ζ tb ln s0, (b 5, .inl (G.2.1, 120, .inl (nF tb)))]) sz (fun _ => True) (fun _ => tnV tb ln s0 g0) (fun _ => [mT b ζ tb ln (tnP tb ln s0 g0), (b 5, .inl (G.2.1, 120, .inl (nF tb)))]) := by
  refine MI_enter (cc := cX6_takesNumber) (maxL := 4) (ret := (some .int)) (by decide) rfl (Nat.le_of_ble_eq_true rfl) ?_
  intro p e s m below meth c A ls H hx hb hr hlk hml hown hts hAq hS hP hK hD hX hl hnm
  have hown : s.vm.findClass RX6 = some m.cls := hown
  have hl : lv_has ls 4 [(0, .ref (b 0)), (1, .int (nI 0)), (2, .int (nI g0))] := hl
  have htk := tk_le tb ln s0
  have hva := va_le htb ln s0
  refine lv_aload_n hx hb dX6_takesNumber_0 rfl (lv_at hl 0 rfl) ?_
  refine n_get (C := RX6) (T := TX6) (N := 18) hx hb hts (fun _ h => List.mem_cons_of_mem _ (List.mem_append_right _ h)) hown hK hP 0 rfl rfl 7 (by decide) (List.mem_of_getElem? (i := 1) rfl) rfl (_) rfl dX6_takesNumber_1 ?_
  refine n_top (y := (nI (tkN tb ln s0))) (congrArg nI (Eq.trans (un_n (by decide)) (Eq.trans (un_n (by decide)) un_s))) ?_
  refine lv_iconst (v := nI 2) hx hb dX6_takesNumber_4 rfl ?_
  refine n_icmp_ne hx hb (by omega) (by omega) (tgt := 29) dX6_takesNumber_5 (by decide) (fun c_1 => ?_) (fun c_1 => ?_)
  · have hm1 : ((-1) : Int32).toInt = -1 := by decide
    have hnu : ¬ isNu tb ln s0 g0 := fun h => c_1 ((tk_nu hg0).mpr h).1
    refine lv_iconst (v := (-1)) hx hb dX6_takesNumber_29 rfl ?_
    refine lv_istore_n (lv' := [(3, .int (-1)), (0, .ref (b 0)), (1, .int (nI 0)), (2, .int (nI g0))]) hx hb dX6_takesNumber_30 rfl hl (by decide) rfl (fun ls hl => ?_)
    refine lv_iload_n hx hb dX6_takesNumber_31 rfl (lv_at hl 0 rfl) ?_
    refine r_if_lt hx hb (tgt := 39) dX6_takesNumber_32 (by decide) (fun c_2 => ?_) (fun c_2 => ?_)
    · refine lv_iload_n hx hb dX6_takesNumber_39 rfl (lv_at hl 0 rfl) ?_
      exact fin_i hx hb hr hlk hS hP hD () trivial (by unfold tnV; rw [if_neg hnu]) (by rw [show tnP tb ln s0 g0 = s0 from if_neg hnu]; exact eqW.rf _) dX6_takesNumber_40
    · omega
  · have hva9 : vaN tb ln s0 ≤ 999 := by unfold tkN at c_1; (repeat' split at c_1) <;> omega
    have c_tk := c_1
    refine lv_aload_n hx hb dX6_takesNumber_8 rfl (lv_at hl 0 rfl) ?_
    refine n_get (C := RX6) (T := TX6) (N := 18) hx hb hts (fun _ h => List.mem_cons_of_mem _ (List.mem_append_right _ h)) hown hK hP 0 rfl rfl 10 (by decide) (List.mem_of_getElem? (i := 2) rfl) rfl (.long (lN (vaN tb ln s0))) rfl dX6_takesNumber_9 ?_
    refine lv_l2i (v := nI (vaN tb ln s0)) hx hb dX6_takesNumber_12 (lN_i _) ?_
    refine lv_iload_n hx hb dX6_takesNumber_13 rfl (lv_at hl 1 rfl) ?_
    refine lv_iload_n hx hb dX6_takesNumber_14 rfl (lv_at hl 2 rfl) ?_
    refine callSI (rest := []) (wn := fun u => [mT b ζ tb ln s0, (b 5, .inl (G.2.1, 120, .inl (nF tb)))]) ⟨hx, hb, hml, hown, hts⟩ (c_X6_in1 l G H.size (nI (vaN tb ln s0)) (nI 0) (nI g0)) (va_cwS 3 hts gX6_takesNumber_X6_in1 rfl rfl rfl (by decide +kernel) ⟨Nat.le_of_ble_eq_true rfl, Nat.le_of_ble_eq_true rfl⟩) noXB (fun _ _ _ => trivial) hK hP hD hS hAq rfl hl.1 rfl (Nat.le_of_ble_eq_true rfl) dX6_takesNumber_15 ⟨Nat.le_of_ble_eq_true rfl, Nat.le_of_ble_eq_true rfl⟩ [] rfl rfl [] rfl (fun _ => rfl) (fun _ => rfl) (fun u H locs hok hP hD hS => ?_)
    refine z_if_eq hx hb (tgt := 29) dX6_takesNumber_18 (by decide) (fun c_3 => ?_) (fun c_3 => ?_)
    · rw [nI_T (show 0 < 2147483648 by decide), nI_T (show vaN tb ln s0 < 2147483648 by omega), nI_T (show g0 < 2147483648 by omega)] at c_3
      have hm1 : ((-1) : Int32).toInt = -1 := by decide
      have hnu : ¬ isNu tb ln s0 g0 := fun h => c_3 (by have := ((tk_nu hg0).mpr h).2; omega)
      refine lv_iconst (v := (-1)) hx hb dX6_takesNumber_29 rfl ?_
      refine lv_istore_n (lv' := [(3, .int (-1)), (0, .ref (b 0)), (1, .int (nI 0)), (2, .int (nI g0))]) hx hb dX6_takesNumber_30 rfl hl (by decide) rfl (fun ls hl => ?_)
      refine lv_iload_n hx hb dX6_takesNumber_31 rfl (lv_at hl 0 rfl) ?_
      refine r_if_lt hx hb (tgt := 39) dX6_takesNumber_32 (by decide) (fun c_4 => ?_) (fun c_4 => ?_)
      · refine lv_iload_n hx hb dX6_takesNumber_39 rfl (lv_at hl 0 rfl) ?_
        exact fin_i hx hb hr hlk hS hP hD () trivial (by unfold tnV; rw [if_neg hnu]) (by rw [show tnP tb ln s0 g0 = s0 from if_neg hnu]; exact eqW.rf _) dX6_takesNumber_40
      · omega
    · rw [nI_T (show 0 < 2147483648 by decide), nI_T (show vaN tb ln s0 < 2147483648 by omega), nI_T (show g0 < 2147483648 by omega)] at c_3
      have hnu : isNu tb ln s0 g0 := (tk_nu hg0).mp ⟨c_tk, by omega⟩
      refine lv_aload_n hx hb dX6_takesNumber_21 rfl (lv_at hl 0 rfl) ?_
      refine n_get (C := RX6) (T := TX6) (N := 18) hx hb hts (fun _ h => List.mem_cons_of_mem _ (List.mem_append_right _ h)) hown hK hP 0 rfl rfl 10 (by decide) (List.mem_of_getElem? (i := 2) rfl) rfl (.long (lN (vaN tb ln s0))) rfl dX6_takesNumber_22 ?_
      refine lv_l2i (v := nI (vaN tb ln s0)) hx hb dX6_takesNumber_25 (lN_i _) ?_
      refine lv_goto (tgt := 30) hx hb dX6_takesNumber_26 (by decide) ?_
      refine lv_istore_n (lv' := [(3, .int (nI (vaN tb ln s0))), (0, .ref (b 0)), (1, .int (nI 0)), (2, .int (nI g0))]) hx hb dX6_takesNumber_30 rfl hl (by decide) rfl (fun ls hl => ?_)
      refine lv_iload_n hx hb dX6_takesNumber_31 rfl (lv_at hl 0 rfl) ?_
      refine n_if_lt hx hb (by omega) (tgt := 39) dX6_takesNumber_32 (by decide) (fun c_5 => ?_) (fun c_5 => ?_)
      · omega
      · refine lv_aload_n hx hb dX6_takesNumber_35 rfl (lv_at hl 1 rfl) ?_
        have had_6 := ad_le (tb := tb) (ln := ln) (s := s0) (by omega)
        refine callVV (rest := []) (wn := fun u => [mT b ζ tb ln (adN tb ln s0), (b 5, .inl (G.2.1, 120, .inl (nF tb)))]) ⟨hx, hb, hml, hown, hts⟩ (c_nextA l G H.size b ζ tb ln s0 h1 (by omega) (by omega) htb) (cwV 0 hts gX6_takesNumber_X6_nextToken rfl rfl rfl (by decide +kernel) ⟨Nat.le_of_ble_eq_true rfl, Nat.le_of_ble_eq_true rfl⟩) noXB (fun _ _ _ => trivial) hK hP hD hS hAq 5 0 (T := TX6) (N := 18) rfl rfl rfl hl.1 rfl (Nat.le_of_ble_eq_true rfl) dX6_takesNumber_36 ⟨Nat.le_of_ble_eq_true rfl, Nat.le_of_ble_eq_true rfl⟩ [0, 1] rfl rfl [b 0, b 5] rfl (fun _ => rfl) (fun _ => rfl) (fun u H locs hok hP hD hS => ?_)
        refine lv_iload_n hx hb dX6_takesNumber_39 rfl (lv_at hl 0 rfl) ?_
        exact fin_i hx hb hr hlk hS hP hD () trivial (by unfold tnV; rw [if_pos hnu, va_nm (by omega) hnu]) (by rw [show tnP tb ln s0 g0 = adN tb ln s0 from if_pos hnu]; exact eqW.rf _) dX6_takesNumber_40
set_option maxHeartbeats 2000000 in
set_option maxRecDepth 100000 in
theorem c_X6_readsPerson (l : Launch) (G : GT) (sz : Nat) (b : Nat → Nat) (ζ : Nat → Nat) (tb : Nat → Nat) (ln s0 : Nat) (h1 : ζ 1 = ln) (hln : ln ≤ 120) (hs00 : s0 ≤ ln) (htb : ∀ j, tb j < 256) (σ : Sg) (kd : Nat) (h5 : σ 5 ≤ 8) : MI (S := Unit) l G noX yX6_readsPerson wsX6_readsPerson ({ frames := 4, cells := 0, slots := 0, locals := 85 } : Room) [.ref (b 0), .int (nI kd)] ([mT b ζ tb ln s0, (b 5, .inl (G.2.1, 120, .inl (nF tb))), (b 1, .inl (G.2.1, 46, .inl (nF σ))), (b 7, .inl (G.2.2.2, 24, .inl (nF ch1)))]) sz (fun _ => True) (fun _ => zI ((psN tb ln kd s0 σ).1 = true)) (fun _ => [mT b ζ tb ln ((psN tb ln kd s0 σ).2.1), (b 5, .inl (G.2.1, 120, .inl (nF tb))), (b 1, .inl (G.2.1, 46, .inl (nF ((psN tb ln kd s0 σ).2.2)))), (b 7, .inl (G.2.2.2, 24, .inl (nF ch1)))]) := by
  refine MI_enter (cc := cX6_readsPerson) (maxL := 5) (ret := (some .boolean)) (by decide) rfl (Nat.le_of_ble_eq_true rfl) ?_
  intro p e s m below meth c A ls H hx hb hr hlk hml hown hts hAq hS hP hK hD hX hl hnm
  have hown : s.vm.findClass RX6 = some m.cls := hown
  have hl : lv_has ls 5 [(0, .ref (b 0)), (1, .int (nI kd))] := hl
  refine lv_aload_n hx hb dX6_readsPerson_0 rfl (lv_at hl 0 rfl) ?_
  refine n_get (C := RX6) (T := TX6) (N := 18) hx hb hts (fun _ h => List.mem_cons_of_mem _ (List.mem_append_right _ h)) hown hK hP 0 rfl rfl 0 (by decide) (List.mem_of_getElem? (i := 1) rfl) rfl (.ref (b 1)) rfl dX6_readsPerson_1 ?_
  refine lv_iconst (v := nI 5) hx hb dX6_readsPerson_4 rfl ?_
  refine n_iald hx hb hK hP 2 (v := (nI (σ 5))) rfl (by omega) (by omega) rfl dX6_readsPerson_5 ?_
  refine lv_bipush (v := nI 8) hx hb dX6_readsPerson_6 rfl ?_
  refine n_icmp_ne hx hb (by omega) (by omega) (tgt := 13) dX6_readsPerson_8 (by decide) (fun c_1 => ?_) (fun c_1 => ?_)
  · have h58 : σ 5 < 8 := by omega
    refine lv_aload_n hx hb dX6_readsPerson_13 rfl (lv_at hl 0 rfl) ?_
    refine n_get (C := RX6) (T := TX6) (N := 18) hx hb hts (fun _ h => List.mem_cons_of_mem _ (List.mem_append_right _ h)) hown hK hP 0 rfl rfl 0 (by decide) (List.mem_of_getElem? (i := 1) rfl) rfl (.ref (b 1)) rfl dX6_readsPerson_14 ?_
    refine lv_iconst (v := nI 5) hx hb dX6_readsPerson_17 rfl ?_
    refine n_iald hx hb hK hP 2 (v := (nI (σ 5))) rfl (by omega) (by omega) rfl dX6_readsPerson_18 ?_
    refine lv_istore_n (lv' := [(2, .int (nI (σ 5))), (0, .ref (b 0)), (1, .int (nI kd))]) hx hb dX6_readsPerson_19 rfl hl (by decide) rfl (fun ls hl => ?_)
    refine lv_aload_n hx hb dX6_readsPerson_20 rfl (lv_at hl 1 rfl) ?_
    refine lv_iload_n hx hb dX6_readsPerson_21 rfl (lv_at hl 2 rfl) ?_
    refine callVV (rest := []) (wn := fun u => [mT b ζ tb ln s0, (b 5, .inl (G.2.1, 120, .inl (nF tb))), (b 1, .inl (G.2.1, 46, .inl (nF (addN σ kd)))), (b 7, .inl (G.2.2.2, 24, .inl (nF ch1)))]) ⟨hx, hb, hml, hown, hts⟩ (c_X6_addsPerson l G H.size b (un (un (un ζ 2 (tkN tb ln s0)) 3 s0) 4 (enN tb ln s0)) (lN (vaN tb ln s0)) σ kd (by omega)) (cwV 1 hts gX6_readsPerson_X6_addsPerson rfl rfl rfl (by decide +kernel) ⟨Nat.le_of_ble_eq_true rfl, Nat.le_of_ble_eq_true rfl⟩) noXB (fun _ _ _ => trivial) hK hP hD hS hAq 5 0 (T := TX6) (N := 18) rfl rfl rfl hl.1 rfl (Nat.le_of_ble_eq_true rfl) dX6_readsPerson_22 ⟨Nat.le_of_ble_eq_true rfl, Nat.le_of_ble_eq_true rfl⟩ [0, 2] rfl rfl [b 0, b 1] rfl (fun _ => rfl) (fun _ => rfl) (fun u H locs hok hP hD hS => ?_)
    refine lv_aload_n hx hb dX6_readsPerson_25 rfl (lv_at hl 1 rfl) ?_
    have had_2 := ad_le (tb := tb) (ln := ln) (s := s0) (by omega)
    refine callVV (rest := []) (wn := fun u => [mT b ζ tb ln (adN tb ln s0), (b 5, .inl (G.2.1, 120, .inl (nF tb))), (b 1, .inl (G.2.1, 46, .inl (nF (addN σ kd)))), (b 7, .inl (G.2.2.2, 24, .inl (nF ch1)))]) ⟨hx, hb, hml, hown, hts⟩ (c_nextA l G H.size b ζ tb ln s0 h1 (by omega) (by omega) htb) (cwV 0 hts gX6_readsPerson_X6_nextToken rfl rfl rfl (by decide +kernel) ⟨Nat.le_of_ble_eq_true rfl, Nat.le_of_ble_eq_true rfl⟩) noXB (fun _ _ _ => trivial) hK hP hD hS hAq 5 0 (T := TX6) (N := 18) rfl rfl rfl hl.1 rfl (Nat.le_of_ble_eq_true rfl) dX6_readsPerson_26 ⟨Nat.le_of_ble_eq_true rfl, Nat.le_of_ble_eq_true rfl⟩ [0, 1] rfl rfl [b 0, b 5] rfl (fun _ => rfl) (fun _ => rfl) (fun u H locs hok hP hD hS => ?_)
    refine lv_iconst (v := nI 0) hx hb dX6_readsPerson_29 rfl ?_
    refine lv_istore_n (lv' := [(3, .int (nI 0)), (2, .int (nI (σ 5))), (0, .ref (b 0)), (1, .int (nI kd))]) hx hb dX6_readsPerson_30 rfl hl (by decide) rfl (fun ls hl => ?_)
    refine lv_iload_n hx hb dX6_readsPerson_31 rfl (lv_at hl 0 rfl) ?_
    refine lv_iconst (v := nI 3) hx hb dX6_readsPerson_32 rfl ?_
    refine n_icmp_ge hx hb (by omega) (by omega) (tgt := 93) dX6_readsPerson_33 (by decide) (fun c_3 => ?_) (fun c_3 => ?_)
    · omega
    · refine lv_aload_n hx hb dX6_readsPerson_36 rfl (lv_at hl 2 rfl) ?_
      refine lv_aload_n hx hb dX6_readsPerson_37 rfl (lv_at hl 2 rfl) ?_
      refine n_get (C := RX6) (T := TX6) (N := 18) hx hb hts (fun _ h => List.mem_cons_of_mem _ (List.mem_append_right _ h)) hown hK hP 0 rfl rfl 12 (by decide) (List.mem_of_getElem? (i := 2) rfl) rfl (.ref (b 7)) rfl dX6_readsPerson_38 ?_
      refine callVI (rest := []) (wn := fun u => [mT b ζ tb ln (adN tb ln s0), (b 5, .inl (G.2.1, 120, .inl (nF tb))), (b 1, .inl (G.2.1, 46, .inl (nF (addN σ kd)))), (b 7, .inl (G.2.2.2, 24, .inl (nF ch1)))]) ⟨hx, hb, hml, hown, hts⟩ (c_X6_wordOf l G H.size b ζ tb ln (adN tb ln s0) h1 (by omega) (by omega) htb (b 7) 3 6 ch1 (by decide) ch1_ok ch1_pk) (cwV 1 hts gX6_readsPerson_X6_wordOf rfl rfl rfl (by decide +kernel) ⟨Nat.le_of_ble_eq_true rfl, Nat.le_of_ble_eq_true rfl⟩) noXB (fun _ _ _ => trivial) hK hP hD hS hAq 5 0 (T := TX6) (N := 18) rfl rfl rfl hl.1 rfl (Nat.le_of_ble_eq_true rfl) dX6_readsPerson_41 ⟨Nat.le_of_ble_eq_true rfl, Nat.le_of_ble_eq_true rfl⟩ [0, 3] rfl rfl [b 0, b 7] rfl (fun _ => rfl) (fun _ => rfl) (fun u H locs hok hP hD hS => ?_)
      refine lv_iload_n hx hb dX6_readsPerson_44 rfl (lv_at hl 0 rfl) ?_
      refine r_icmp_ne hx hb (tgt := 87) dX6_readsPerson_45 (by decide) (fun c_4 => ?_) (fun c_4 => ?_)
      · rw [nI_T (by omega)] at c_4
        have hw0 : ¬ isW tb ln 6 (adN tb ln s0) := fun h => c_4 ((wo_at (b0 := 6) (w := 0) (n := 3) (by decide) (by decide)).mpr h)
        have hs0 : psA tb ln kd s0 σ = (true, adN tb ln s0, addN σ kd) := by unfold psA; unfold phN; rw [if_neg hw0]
        refine n_iinc (lv' := [(3, .int (nI 1)), (2, .int (nI (σ 5))), (0, .ref (b 0)), (1, .int (nI kd))]) hx hb dX6_readsPerson_87 hl (k := 0) rfl (by decide) rfl (fun ls hl => ?_)
        refine lv_goto (tgt := 31) hx hb dX6_readsPerson_90 (by decide) ?_
        refine lv_iload_n hx hb dX6_readsPerson_31 rfl (lv_at hl 0 rfl) ?_
        refine lv_iconst (v := nI 3) hx hb dX6_readsPerson_32 rfl ?_
        refine n_icmp_ge hx hb (by omega) (by omega) (tgt := 93) dX6_readsPerson_33 (by decide) (fun c_5 => ?_) (fun c_5 => ?_)
        · omega
        · refine lv_aload_n hx hb dX6_readsPerson_36 rfl (lv_at hl 2 rfl) ?_
          refine lv_aload_n hx hb dX6_readsPerson_37 rfl (lv_at hl 2 rfl) ?_
          refine n_get (C := RX6) (T := TX6) (N := 18) hx hb hts (fun _ h => List.mem_cons_of_mem _ (List.mem_append_right _ h)) hown hK hP 0 rfl rfl 12 (by decide) (List.mem_of_getElem? (i := 2) rfl) rfl (.ref (b 7)) rfl dX6_readsPerson_38 ?_
          refine callVI (rest := []) (wn := fun u => [mT b ζ tb ln (adN tb ln s0), (b 5, .inl (G.2.1, 120, .inl (nF tb))), (b 1, .inl (G.2.1, 46, .inl (nF (addN σ kd)))), (b 7, .inl (G.2.2.2, 24, .inl (nF ch1)))]) ⟨hx, hb, hml, hown, hts⟩ (c_X6_wordOf l G H.size b ζ tb ln (adN tb ln s0) h1 (by omega) (by omega) htb (b 7) 3 6 ch1 (by decide) ch1_ok ch1_pk) (cwV 1 hts gX6_readsPerson_X6_wordOf rfl rfl rfl (by decide +kernel) ⟨Nat.le_of_ble_eq_true rfl, Nat.le_of_ble_eq_true rfl⟩) noXB (fun _ _ _ => trivial) hK hP hD hS hAq 5 0 (T := TX6) (N := 18) rfl rfl rfl hl.1 rfl (Nat.le_of_ble_eq_true rfl) dX6_readsPerson_41 ⟨Nat.le_of_ble_eq_true rfl, Nat.le_of_ble_eq_true rfl⟩ [0, 3] rfl rfl [b 0, b 7] rfl (fun _ => rfl) (fun _ => rfl) (fun u H locs hok hP hD hS => ?_)
          refine lv_iload_n hx hb dX6_readsPerson_44 rfl (lv_at hl 0 rfl) ?_
          refine r_icmp_ne hx hb (tgt := 87) dX6_readsPerson_45 (by decide) (fun c_6 => ?_) (fun c_6 => ?_)
          · rw [nI_T (by omega)] at c_6
            have hw1 : ¬ isW tb ln 7 (adN tb ln s0) := fun h => c_6 ((wo_at (b0 := 6) (w := 1) (n := 3) (by decide) (by decide)).mpr h)
            have hs1 : psB tb ln kd s0 σ = (true, adN tb ln s0, addN σ kd) := by unfold psB; rw [hs0]; dsimp only; unfold phN; rw [if_neg hw1]
            refine n_iinc (lv' := [(3, .int (nI 2)), (2, .int (nI (σ 5))), (0, .ref (b 0)), (1, .int (nI kd))]) hx hb dX6_readsPerson_87 hl (k := 0) rfl (by decide) rfl (fun ls hl => ?_)
            refine lv_goto (tgt := 31) hx hb dX6_readsPerson_90 (by decide) ?_
            refine lv_iload_n hx hb dX6_readsPerson_31 rfl (lv_at hl 0 rfl) ?_
            refine lv_iconst (v := nI 3) hx hb dX6_readsPerson_32 rfl ?_
            refine n_icmp_ge hx hb (by omega) (by omega) (tgt := 93) dX6_readsPerson_33 (by decide) (fun c_7 => ?_) (fun c_7 => ?_)
            · omega
            · refine lv_aload_n hx hb dX6_readsPerson_36 rfl (lv_at hl 2 rfl) ?_
              refine lv_aload_n hx hb dX6_readsPerson_37 rfl (lv_at hl 2 rfl) ?_
              refine n_get (C := RX6) (T := TX6) (N := 18) hx hb hts (fun _ h => List.mem_cons_of_mem _ (List.mem_append_right _ h)) hown hK hP 0 rfl rfl 12 (by decide) (List.mem_of_getElem? (i := 2) rfl) rfl (.ref (b 7)) rfl dX6_readsPerson_38 ?_
              refine callVI (rest := []) (wn := fun u => [mT b ζ tb ln (adN tb ln s0), (b 5, .inl (G.2.1, 120, .inl (nF tb))), (b 1, .inl (G.2.1, 46, .inl (nF (addN σ kd)))), (b 7, .inl (G.2.2.2, 24, .inl (nF ch1)))]) ⟨hx, hb, hml, hown, hts⟩ (c_X6_wordOf l G H.size b ζ tb ln (adN tb ln s0) h1 (by omega) (by omega) htb (b 7) 3 6 ch1 (by decide) ch1_ok ch1_pk) (cwV 1 hts gX6_readsPerson_X6_wordOf rfl rfl rfl (by decide +kernel) ⟨Nat.le_of_ble_eq_true rfl, Nat.le_of_ble_eq_true rfl⟩) noXB (fun _ _ _ => trivial) hK hP hD hS hAq 5 0 (T := TX6) (N := 18) rfl rfl rfl hl.1 rfl (Nat.le_of_ble_eq_true rfl) dX6_readsPerson_41 ⟨Nat.le_of_ble_eq_true rfl, Nat.le_of_ble_eq_true rfl⟩ [0, 3] rfl rfl [b 0, b 7] rfl (fun _ => rfl) (fun _ => rfl) (fun u H locs hok hP hD hS => ?_)
              refine lv_iload_n hx hb dX6_readsPerson_44 rfl (lv_at hl 0 rfl) ?_
              refine r_icmp_ne hx hb (tgt := 87) dX6_readsPerson_45 (by decide) (fun c_8 => ?_) (fun c_8 => ?_)
              · rw [nI_T (by omega)] at c_8
                have hw2 : ¬ isW tb ln 8 (adN tb ln s0) := fun h => c_8 ((wo_at (b0 := 6) (w := 2) (n := 3) (by decide) (by decide)).mpr h)
                have hs2 : psC tb ln kd s0 σ = (true, adN tb ln s0, addN σ kd) := by unfold psC; rw [hs1]; dsimp only; unfold phN; rw [if_neg hw2]
                refine n_iinc (lv' := [(3, .int (nI 3)), (2, .int (nI (σ 5))), (0, .ref (b 0)), (1, .int (nI kd))]) hx hb dX6_readsPerson_87 hl (k := 0) rfl (by decide) rfl (fun ls hl => ?_)
                refine lv_goto (tgt := 31) hx hb dX6_readsPerson_90 (by decide) ?_
                refine lv_iload_n hx hb dX6_readsPerson_31 rfl (lv_at hl 0 rfl) ?_
                refine lv_iconst (v := nI 3) hx hb dX6_readsPerson_32 rfl ?_
                refine n_icmp_ge hx hb (by omega) (by omega) (tgt := 93) dX6_readsPerson_33 (by decide) (fun c_9 => ?_) (fun c_9 => ?_)
                · refine lv_iconst (v := nI 1) hx hb dX6_readsPerson_93 rfl ?_
                  have hps : psN tb ln kd s0 σ = (true, adN tb ln s0, addN σ kd) := by unfold psN; rw [if_pos h58, if_pos (show (psA tb ln kd s0 σ).1 = true from congrArg Prod.fst hs0), if_pos (show (psB tb ln kd s0 σ).1 = true from congrArg Prod.fst hs1), hs2]
                  exact fin_z (ty := .boolean) (by decide) hx hb hr hlk hS hP hD () trivial (by rw [hps]; rfl) (by rw [hps]; exact eqW.rf _) dX6_readsPerson_94
                · omega
              · rw [nI_T (by omega)] at c_8
                have hw2 : isW tb ln 8 (adN tb ln s0) := (wo_at (b0 := 6) (w := 2) (n := 3) (by decide) (by decide)).mp (by omega)
                refine lv_aload_n hx hb dX6_readsPerson_48 rfl (lv_at hl 2 rfl) ?_
                have had_10 := ad_le (tb := tb) (ln := ln) (s := (adN tb ln s0)) (by omega)
                refine callVV (rest := []) (wn := fun u => [mT b ζ tb ln (adN tb ln (adN tb ln s0)), (b 5, .inl (G.2.1, 120, .inl (nF tb))), (b 1, .inl (G.2.1, 46, .inl (nF (addN σ kd)))), (b 7, .inl (G.2.2.2, 24, .inl (nF ch1)))]) ⟨hx, hb, hml, hown, hts⟩ (c_nextA l G H.size b ζ tb ln (adN tb ln s0) h1 (by omega) (by omega) htb) (cwV 0 hts gX6_readsPerson_X6_nextToken rfl rfl rfl (by decide +kernel) ⟨Nat.le_of_ble_eq_true rfl, Nat.le_of_ble_eq_true rfl⟩) noXB (fun _ _ _ => trivial) hK hP hD hS hAq 5 0 (T := TX6) (N := 18) rfl rfl rfl hl.1 rfl (Nat.le_of_ble_eq_true rfl) dX6_readsPerson_49 ⟨Nat.le_of_ble_eq_true rfl, Nat.le_of_ble_eq_true rfl⟩ [0, 1] rfl rfl [b 0, b 5] rfl (fun _ => rfl) (fun _ => rfl) (fun u H locs hok hP hD hS => ?_)
                refine lv_aload_n hx hb dX6_readsPerson_52 rfl (lv_at hl 2 rfl) ?_
                refine lv_iconst (v := nI 0) hx hb dX6_readsPerson_53 rfl ?_
                refine lv_iload_n hx hb dX6_readsPerson_54 rfl (lv_at hl 0 rfl) ?_
                refine n_if_ne hx hb (by omega) (tgt := 63) dX6_readsPerson_55 (by decide) (fun c_11 => ?_) (fun c_11 => ?_)
                · refine lv_bipush (v := nI 99) hx hb dX6_readsPerson_63 rfl ?_
                  refine callVI (rest := []) (wn := fun u => [mT b ζ tb ln (tnP tb ln (adN tb ln (adN tb ln s0)) 99), (b 5, .inl (G.2.1, 120, .inl (nF tb))), (b 1, .inl (G.2.1, 46, .inl (nF (addN σ kd)))), (b 7, .inl (G.2.2.2, 24, .inl (nF ch1)))]) ⟨hx, hb, hml, hown, hts⟩ (c_X6_takesNumber l G H.size b ζ tb ln (adN tb ln (adN tb ln s0)) h1 (by omega) (by omega) htb 99 (by decide)) (cwV 2 hts gX6_readsPerson_X6_takesNumber rfl rfl rfl (by decide +kernel) ⟨Nat.le_of_ble_eq_true rfl, Nat.le_of_ble_eq_true rfl⟩) noXB (fun _ _ _ => trivial) hK hP hD hS hAq 5 0 (T := TX6) (N := 18) rfl rfl rfl hl.1 rfl (Nat.le_of_ble_eq_true rfl) dX6_readsPerson_65 ⟨Nat.le_of_ble_eq_true rfl, Nat.le_of_ble_eq_true rfl⟩ [0, 1] rfl rfl [b 0, b 5] rfl (fun _ => rfl) (fun _ => rfl) (fun u H locs hok hP hD hS => ?_)
                  have hnm9 := nm_le tb ln (adN tb ln (adN tb ln s0))
                  by_cases hnu : isNu tb ln (adN tb ln (adN tb ln s0)) 99
                  · have e1 : tnP tb ln (adN tb ln (adN tb ln s0)) 99 = adN tb ln (adN tb ln (adN tb ln s0)) := if_pos hnu
                    rw [e1] at hP hD
                    refine n_top (y := nI (nmN tb ln (adN tb ln (adN tb ln s0)))) (show tnV tb ln (adN tb ln (adN tb ln s0)) 99 = _ from if_pos hnu) ?_
                    have hen_12 := en_le (tb := tb) (ln := ln) (s := (adN tb ln (adN tb ln s0))) (by omega)
                    have had_13 := ad_le (tb := tb) (ln := ln) (s := (adN tb ln (adN tb ln s0))) (by omega)
                    refine lv_istore (lv' := [(4, .int (nI (nmN tb ln (adN tb ln (adN tb ln s0))))), (3, .int (nI 2)), (2, .int (nI (σ 5))), (0, .ref (b 0)), (1, .int (nI kd))]) hx hb dX6_readsPerson_68 hl (by decide) rfl (fun ls hl => ?_)
                    refine lv_iload hx hb dX6_readsPerson_70 (lv_at hl 0 rfl) ?_
                    refine n_if_ge hx hb (by omega) (tgt := 77) dX6_readsPerson_72 (by decide) (fun c_14 => ?_) (fun c_14 => ?_)
                    · refine lv_aload_n hx hb dX6_readsPerson_77 rfl (lv_at hl 3 rfl) ?_
                      refine lv_iload_n hx hb dX6_readsPerson_78 rfl (lv_at hl 2 rfl) ?_
                      refine lv_iconst (v := nI 1) hx hb dX6_readsPerson_79 rfl ?_
                      refine lv_iload_n hx hb dX6_readsPerson_80 rfl (lv_at hl 1 rfl) ?_
                      refine n_iadd hx hb dX6_readsPerson_81 ?_
                      refine n_top (y := nI 3) rfl ?_
                      refine lv_iload hx hb dX6_readsPerson_82 (lv_at hl 0 rfl) ?_
                      refine callVV (rest := []) (wn := fun u => [mT b ζ tb ln (adN tb ln (adN tb ln (adN tb ln s0))), (b 5, .inl (G.2.1, 120, .inl (nF tb))), (b 1, .inl (G.2.1, 46, .inl (nF (un (addN σ kd) (pl (σ 5) 3) (nmN tb ln (adN tb ln (adN tb ln s0))))))), (b 7, .inl (G.2.2.2, 24, .inl (nF ch1)))]) ⟨hx, hb, hml, hown, hts⟩ (c_X6_puts l G H.size b (un (un (un ζ 2 (tkN tb ln (adN tb ln (adN tb ln (adN tb ln s0))))) 3 (adN tb ln (adN tb ln (adN tb ln s0)))) 4 (enN tb ln (adN tb ln (adN tb ln (adN tb ln s0))))) (lN (vaN tb ln (adN tb ln (adN tb ln (adN tb ln s0))))) (addN σ kd) (σ 5) 3 (nmN tb ln (adN tb ln (adN tb ln s0))) (by omega) (by omega)) (cwV 3 hts gX6_readsPerson_X6_puts rfl rfl rfl (by decide +kernel) ⟨Nat.le_of_ble_eq_true rfl, Nat.le_of_ble_eq_true rfl⟩) noXB (fun _ _ _ => trivial) hK hP hD hS hAq 5 0 (T := TX6) (N := 18) rfl rfl rfl hl.1 rfl (Nat.le_of_ble_eq_true rfl) dX6_readsPerson_84 ⟨Nat.le_of_ble_eq_true rfl, Nat.le_of_ble_eq_true rfl⟩ [0, 2] rfl rfl [b 0, b 1] rfl (fun _ => rfl) (fun _ => rfl) (fun u H locs hok hP hD hS => ?_)
                      have hs2 : psC tb ln kd s0 σ = (true, adN tb ln (adN tb ln (adN tb ln s0)), un (addN σ kd) (pl (σ 5) 3) (nmN tb ln (adN tb ln (adN tb ln s0)))) := by unfold psC; rw [hs1]; dsimp only; unfold phN; rw [if_pos hw2, if_pos hnu]
                      refine n_iinc (lv' := [(3, .int (nI 3)), (4, .int (nI (nmN tb ln (adN tb ln (adN tb ln s0))))), (2, .int (nI (σ 5))), (0, .ref (b 0)), (1, .int (nI kd))]) hx hb dX6_readsPerson_87 hl (k := 1) rfl (by decide) rfl (fun ls hl => ?_)
                      refine lv_goto (tgt := 31) hx hb dX6_readsPerson_90 (by decide) ?_
                      refine lv_iload_n hx hb dX6_readsPerson_31 rfl (lv_at hl 0 rfl) ?_
                      refine lv_iconst (v := nI 3) hx hb dX6_readsPerson_32 rfl ?_
                      refine n_icmp_ge hx hb (by omega) (by omega) (tgt := 93) dX6_readsPerson_33 (by decide) (fun c_15 => ?_) (fun c_15 => ?_)
                      · refine lv_iconst (v := nI 1) hx hb dX6_readsPerson_93 rfl ?_
                        have hps : psN tb ln kd s0 σ = (true, adN tb ln (adN tb ln (adN tb ln s0)), un (addN σ kd) (pl (σ 5) 3) (nmN tb ln (adN tb ln (adN tb ln s0)))) := by unfold psN; rw [if_pos h58, if_pos (show (psA tb ln kd s0 σ).1 = true from congrArg Prod.fst hs0), if_pos (show (psB tb ln kd s0 σ).1 = true from congrArg Prod.fst hs1), hs2]
                        exact fin_z (ty := .boolean) (by decide) hx hb hr hlk hS hP hD () trivial (by rw [hps]; rfl) (by rw [hps]; exact eqW.rf _) dX6_readsPerson_94
                      · omega
                    · omega
                  · have e1 : tnP tb ln (adN tb ln (adN tb ln s0)) 99 = adN tb ln (adN tb ln s0) := if_neg hnu
                    rw [e1] at hP hD
                    refine n_top (y := (-1)) (show tnV tb ln (adN tb ln (adN tb ln s0)) 99 = _ from if_neg hnu) ?_
                    have hm1 : ((-1) : Int32).toInt = -1 := by decide
                    have hs2 : psC tb ln kd s0 σ = (false, adN tb ln (adN tb ln s0), addN σ kd) := by unfold psC; rw [hs1]; dsimp only; unfold phN; rw [if_pos hw2, if_neg hnu]
                    refine lv_istore (lv' := [(4, .int (-1)), (3, .int (nI 2)), (2, .int (nI (σ 5))), (0, .ref (b 0)), (1, .int (nI kd))]) hx hb dX6_readsPerson_68 hl (by decide) rfl (fun ls hl => ?_)
                    refine lv_iload hx hb dX6_readsPerson_70 (lv_at hl 0 rfl) ?_
                    refine r_if_ge hx hb (tgt := 77) dX6_readsPerson_72 (by decide) (fun c_16 => ?_) (fun c_16 => ?_)
                    · omega
                    · refine lv_iconst (v := nI 0) hx hb dX6_readsPerson_75 rfl ?_
                      have hps : psN tb ln kd s0 σ = (false, adN tb ln (adN tb ln s0), addN σ kd) := by unfold psN; rw [if_pos h58, if_pos (show (psA tb ln kd s0 σ).1 = true from congrArg Prod.fst hs0), if_pos (show (psB tb ln kd s0 σ).1 = true from congrArg Prod.fst hs1), hs2]
                      exact fin_z (ty := .boolean) (by decide) hx hb hr hlk hS hP hD () trivial (by rw [hps]; rfl) (by rw [hps]; exact eqW.rf _) dX6_readsPerson_76
                · omega
          · rw [nI_T (by omega)] at c_6
            have hw1 : isW tb ln 7 (adN tb ln s0) := (wo_at (b0 := 6) (w := 1) (n := 3) (by decide) (by decide)).mp (by omega)
            refine lv_aload_n hx hb dX6_readsPerson_48 rfl (lv_at hl 2 rfl) ?_
            have had_17 := ad_le (tb := tb) (ln := ln) (s := (adN tb ln s0)) (by omega)
            refine callVV (rest := []) (wn := fun u => [mT b ζ tb ln (adN tb ln (adN tb ln s0)), (b 5, .inl (G.2.1, 120, .inl (nF tb))), (b 1, .inl (G.2.1, 46, .inl (nF (addN σ kd)))), (b 7, .inl (G.2.2.2, 24, .inl (nF ch1)))]) ⟨hx, hb, hml, hown, hts⟩ (c_nextA l G H.size b ζ tb ln (adN tb ln s0) h1 (by omega) (by omega) htb) (cwV 0 hts gX6_readsPerson_X6_nextToken rfl rfl rfl (by decide +kernel) ⟨Nat.le_of_ble_eq_true rfl, Nat.le_of_ble_eq_true rfl⟩) noXB (fun _ _ _ => trivial) hK hP hD hS hAq 5 0 (T := TX6) (N := 18) rfl rfl rfl hl.1 rfl (Nat.le_of_ble_eq_true rfl) dX6_readsPerson_49 ⟨Nat.le_of_ble_eq_true rfl, Nat.le_of_ble_eq_true rfl⟩ [0, 1] rfl rfl [b 0, b 5] rfl (fun _ => rfl) (fun _ => rfl) (fun u H locs hok hP hD hS => ?_)
            refine lv_aload_n hx hb dX6_readsPerson_52 rfl (lv_at hl 2 rfl) ?_
            refine lv_iconst (v := nI 0) hx hb dX6_readsPerson_53 rfl ?_
            refine lv_iload_n hx hb dX6_readsPerson_54 rfl (lv_at hl 0 rfl) ?_
            refine n_if_ne hx hb (by omega) (tgt := 63) dX6_readsPerson_55 (by decide) (fun c_18 => ?_) (fun c_18 => ?_)
            · refine lv_bipush (v := nI 99) hx hb dX6_readsPerson_63 rfl ?_
              refine callVI (rest := []) (wn := fun u => [mT b ζ tb ln (tnP tb ln (adN tb ln (adN tb ln s0)) 99), (b 5, .inl (G.2.1, 120, .inl (nF tb))), (b 1, .inl (G.2.1, 46, .inl (nF (addN σ kd)))), (b 7, .inl (G.2.2.2, 24, .inl (nF ch1)))]) ⟨hx, hb, hml, hown, hts⟩ (c_X6_takesNumber l G H.size b ζ tb ln (adN tb ln (adN tb ln s0)) h1 (by omega) (by omega) htb 99 (by decide)) (cwV 2 hts gX6_readsPerson_X6_takesNumber rfl rfl rfl (by decide +kernel) ⟨Nat.le_of_ble_eq_true rfl, Nat.le_of_ble_eq_true rfl⟩) noXB (fun _ _ _ => trivial) hK hP hD hS hAq 5 0 (T := TX6) (N := 18) rfl rfl rfl hl.1 rfl (Nat.le_of_ble_eq_true rfl) dX6_readsPerson_65 ⟨Nat.le_of_ble_eq_true rfl, Nat.le_of_ble_eq_true rfl⟩ [0, 1] rfl rfl [b 0, b 5] rfl (fun _ => rfl) (fun _ => rfl) (fun u H locs hok hP hD hS => ?_)
              have hnm9 := nm_le tb ln (adN tb ln (adN tb ln s0))
              by_cases hnu : isNu tb ln (adN tb ln (adN tb ln s0)) 99
              · have e1 : tnP tb ln (adN tb ln (adN tb ln s0)) 99 = adN tb ln (adN tb ln (adN tb ln s0)) := if_pos hnu
                rw [e1] at hP hD
                refine n_top (y := nI (nmN tb ln (adN tb ln (adN tb ln s0)))) (show tnV tb ln (adN tb ln (adN tb ln s0)) 99 = _ from if_pos hnu) ?_
                have hen_19 := en_le (tb := tb) (ln := ln) (s := (adN tb ln (adN tb ln s0))) (by omega)
                have had_20 := ad_le (tb := tb) (ln := ln) (s := (adN tb ln (adN tb ln s0))) (by omega)
                refine lv_istore (lv' := [(4, .int (nI (nmN tb ln (adN tb ln (adN tb ln s0))))), (3, .int (nI 1)), (2, .int (nI (σ 5))), (0, .ref (b 0)), (1, .int (nI kd))]) hx hb dX6_readsPerson_68 hl (by decide) rfl (fun ls hl => ?_)
                refine lv_iload hx hb dX6_readsPerson_70 (lv_at hl 0 rfl) ?_
                refine n_if_ge hx hb (by omega) (tgt := 77) dX6_readsPerson_72 (by decide) (fun c_21 => ?_) (fun c_21 => ?_)
                · refine lv_aload_n hx hb dX6_readsPerson_77 rfl (lv_at hl 3 rfl) ?_
                  refine lv_iload_n hx hb dX6_readsPerson_78 rfl (lv_at hl 2 rfl) ?_
                  refine lv_iconst (v := nI 1) hx hb dX6_readsPerson_79 rfl ?_
                  refine lv_iload_n hx hb dX6_readsPerson_80 rfl (lv_at hl 1 rfl) ?_
                  refine n_iadd hx hb dX6_readsPerson_81 ?_
                  refine n_top (y := nI 2) rfl ?_
                  refine lv_iload hx hb dX6_readsPerson_82 (lv_at hl 0 rfl) ?_
                  refine callVV (rest := []) (wn := fun u => [mT b ζ tb ln (adN tb ln (adN tb ln (adN tb ln s0))), (b 5, .inl (G.2.1, 120, .inl (nF tb))), (b 1, .inl (G.2.1, 46, .inl (nF (un (addN σ kd) (pl (σ 5) 2) (nmN tb ln (adN tb ln (adN tb ln s0))))))), (b 7, .inl (G.2.2.2, 24, .inl (nF ch1)))]) ⟨hx, hb, hml, hown, hts⟩ (c_X6_puts l G H.size b (un (un (un ζ 2 (tkN tb ln (adN tb ln (adN tb ln (adN tb ln s0))))) 3 (adN tb ln (adN tb ln (adN tb ln s0)))) 4 (enN tb ln (adN tb ln (adN tb ln (adN tb ln s0))))) (lN (vaN tb ln (adN tb ln (adN tb ln (adN tb ln s0))))) (addN σ kd) (σ 5) 2 (nmN tb ln (adN tb ln (adN tb ln s0))) (by omega) (by omega)) (cwV 3 hts gX6_readsPerson_X6_puts rfl rfl rfl (by decide +kernel) ⟨Nat.le_of_ble_eq_true rfl, Nat.le_of_ble_eq_true rfl⟩) noXB (fun _ _ _ => trivial) hK hP hD hS hAq 5 0 (T := TX6) (N := 18) rfl rfl rfl hl.1 rfl (Nat.le_of_ble_eq_true rfl) dX6_readsPerson_84 ⟨Nat.le_of_ble_eq_true rfl, Nat.le_of_ble_eq_true rfl⟩ [0, 2] rfl rfl [b 0, b 1] rfl (fun _ => rfl) (fun _ => rfl) (fun u H locs hok hP hD hS => ?_)
                  have hs1 : psB tb ln kd s0 σ = (true, adN tb ln (adN tb ln (adN tb ln s0)), un (addN σ kd) (pl (σ 5) 2) (nmN tb ln (adN tb ln (adN tb ln s0)))) := by unfold psB; rw [hs0]; dsimp only; unfold phN; rw [if_pos hw1, if_pos hnu]
                  refine n_iinc (lv' := [(3, .int (nI 2)), (4, .int (nI (nmN tb ln (adN tb ln (adN tb ln s0))))), (2, .int (nI (σ 5))), (0, .ref (b 0)), (1, .int (nI kd))]) hx hb dX6_readsPerson_87 hl (k := 1) rfl (by decide) rfl (fun ls hl => ?_)
                  refine lv_goto (tgt := 31) hx hb dX6_readsPerson_90 (by decide) ?_
                  refine lv_iload_n hx hb dX6_readsPerson_31 rfl (lv_at hl 0 rfl) ?_
                  refine lv_iconst (v := nI 3) hx hb dX6_readsPerson_32 rfl ?_
                  refine n_icmp_ge hx hb (by omega) (by omega) (tgt := 93) dX6_readsPerson_33 (by decide) (fun c_22 => ?_) (fun c_22 => ?_)
                  · omega
                  · refine lv_aload_n hx hb dX6_readsPerson_36 rfl (lv_at hl 3 rfl) ?_
                    refine lv_aload_n hx hb dX6_readsPerson_37 rfl (lv_at hl 3 rfl) ?_
                    refine n_get (C := RX6) (T := TX6) (N := 18) hx hb hts (fun _ h => List.mem_cons_of_mem _ (List.mem_append_right _ h)) hown hK hP 0 rfl rfl 12 (by decide) (List.mem_of_getElem? (i := 2) rfl) rfl (.ref (b 7)) rfl dX6_readsPerson_38 ?_
                    refine callVI (rest := []) (wn := fun u => [mT b ζ tb ln (adN tb ln (adN tb ln (adN tb ln s0))), (b 5, .inl (G.2.1, 120, .inl (nF tb))), (b 1, .inl (G.2.1, 46, .inl (nF (un (addN σ kd) (pl (σ 5) 2) (nmN tb ln (adN tb ln (adN tb ln s0))))))), (b 7, .inl (G.2.2.2, 24, .inl (nF ch1)))]) ⟨hx, hb, hml, hown, hts⟩ (c_X6_wordOf l G H.size b ζ tb ln (adN tb ln (adN tb ln (adN tb ln s0))) h1 (by omega) (by omega) htb (b 7) 3 6 ch1 (by decide) ch1_ok ch1_pk) (cwV 1 hts gX6_readsPerson_X6_wordOf rfl rfl rfl (by decide +kernel) ⟨Nat.le_of_ble_eq_true rfl, Nat.le_of_ble_eq_true rfl⟩) noXB (fun _ _ _ => trivial) hK hP hD hS hAq 5 0 (T := TX6) (N := 18) rfl rfl rfl hl.1 rfl (Nat.le_of_ble_eq_true rfl) dX6_readsPerson_41 ⟨Nat.le_of_ble_eq_true rfl, Nat.le_of_ble_eq_true rfl⟩ [0, 3] rfl rfl [b 0, b 7] rfl (fun _ => rfl) (fun _ => rfl) (fun u H locs hok hP hD hS => ?_)
                    refine lv_iload_n hx hb dX6_readsPerson_44 rfl (lv_at hl 0 rfl) ?_
                    refine r_icmp_ne hx hb (tgt := 87) dX6_readsPerson_45 (by decide) (fun c_23 => ?_) (fun c_23 => ?_)
                    · rw [nI_T (by omega)] at c_23
                      have hw2 : ¬ isW tb ln 8 (adN tb ln (adN tb ln (adN tb ln s0))) := fun h => c_23 ((wo_at (b0 := 6) (w := 2) (n := 3) (by decide) (by decide)).mpr h)
                      have hs2 : psC tb ln kd s0 σ = (true, adN tb ln (adN tb ln (adN tb ln s0)), un (addN σ kd) (pl (σ 5) 2) (nmN tb ln (adN tb ln (adN tb ln s0)))) := by unfold psC; rw [hs1]; dsimp only; unfold phN; rw [if_neg hw2]
                      refine n_iinc (lv' := [(3, .int (nI 3)), (4, .int (nI (nmN tb ln (adN tb ln (adN tb ln s0))))), (2, .int (nI (σ 5))), (0, .ref (b 0)), (1, .int (nI kd))]) hx hb dX6_readsPerson_87 hl (k := 0) rfl (by decide) rfl (fun ls hl => ?_)
                      refine lv_goto (tgt := 31) hx hb dX6_readsPerson_90 (by decide) ?_
                      refine lv_iload_n hx hb dX6_readsPerson_31 rfl (lv_at hl 0 rfl) ?_
                      refine lv_iconst (v := nI 3) hx hb dX6_readsPerson_32 rfl ?_
                      refine n_icmp_ge hx hb (by omega) (by omega) (tgt := 93) dX6_readsPerson_33 (by decide) (fun c_24 => ?_) (fun c_24 => ?_)
                      · refine lv_iconst (v := nI 1) hx hb dX6_readsPerson_93 rfl ?_
                        have hps : psN tb ln kd s0 σ = (true, adN tb ln (adN tb ln (adN tb ln s0)), un (addN σ kd) (pl (σ 5) 2) (nmN tb ln (adN tb ln (adN tb ln s0)))) := by unfold psN; rw [if_pos h58, if_pos (show (psA tb ln kd s0 σ).1 = true from congrArg Prod.fst hs0), if_pos (show (psB tb ln kd s0 σ).1 = true from congrArg Prod.fst hs1), hs2]
                        exact fin_z (ty := .boolean) (by decide) hx hb hr hlk hS hP hD () trivial (by rw [hps]; rfl) (by rw [hps]; exact eqW.rf _) dX6_readsPerson_94
                      · omega
                    · rw [nI_T (by omega)] at c_23
                      have hw2 : isW tb ln 8 (adN tb ln (adN tb ln (adN tb ln s0))) := (wo_at (b0 := 6) (w := 2) (n := 3) (by decide) (by decide)).mp (by omega)
                      refine lv_aload_n hx hb dX6_readsPerson_48 rfl (lv_at hl 3 rfl) ?_
                      have had_25 := ad_le (tb := tb) (ln := ln) (s := (adN tb ln (adN tb ln (adN tb ln s0)))) (by omega)
                      refine callVV (rest := []) (wn := fun u => [mT b ζ tb ln (adN tb ln (adN tb ln (adN tb ln (adN tb ln s0)))), (b 5, .inl (G.2.1, 120, .inl (nF tb))), (b 1, .inl (G.2.1, 46, .inl (nF (un (addN σ kd) (pl (σ 5) 2) (nmN tb ln (adN tb ln (adN tb ln s0))))))), (b 7, .inl (G.2.2.2, 24, .inl (nF ch1)))]) ⟨hx, hb, hml, hown, hts⟩ (c_nextA l G H.size b ζ tb ln (adN tb ln (adN tb ln (adN tb ln s0))) h1 (by omega) (by omega) htb) (cwV 0 hts gX6_readsPerson_X6_nextToken rfl rfl rfl (by decide +kernel) ⟨Nat.le_of_ble_eq_true rfl, Nat.le_of_ble_eq_true rfl⟩) noXB (fun _ _ _ => trivial) hK hP hD hS hAq 5 0 (T := TX6) (N := 18) rfl rfl rfl hl.1 rfl (Nat.le_of_ble_eq_true rfl) dX6_readsPerson_49 ⟨Nat.le_of_ble_eq_true rfl, Nat.le_of_ble_eq_true rfl⟩ [0, 1] rfl rfl [b 0, b 5] rfl (fun _ => rfl) (fun _ => rfl) (fun u H locs hok hP hD hS => ?_)
                      refine lv_aload_n hx hb dX6_readsPerson_52 rfl (lv_at hl 3 rfl) ?_
                      refine lv_iconst (v := nI 0) hx hb dX6_readsPerson_53 rfl ?_
                      refine lv_iload_n hx hb dX6_readsPerson_54 rfl (lv_at hl 0 rfl) ?_
                      refine n_if_ne hx hb (by omega) (tgt := 63) dX6_readsPerson_55 (by decide) (fun c_26 => ?_) (fun c_26 => ?_)
                      · refine lv_bipush (v := nI 99) hx hb dX6_readsPerson_63 rfl ?_
                        refine callVI (rest := []) (wn := fun u => [mT b ζ tb ln (tnP tb ln (adN tb ln (adN tb ln (adN tb ln (adN tb ln s0)))) 99), (b 5, .inl (G.2.1, 120, .inl (nF tb))), (b 1, .inl (G.2.1, 46, .inl (nF (un (addN σ kd) (pl (σ 5) 2) (nmN tb ln (adN tb ln (adN tb ln s0))))))), (b 7, .inl (G.2.2.2, 24, .inl (nF ch1)))]) ⟨hx, hb, hml, hown, hts⟩ (c_X6_takesNumber l G H.size b ζ tb ln (adN tb ln (adN tb ln (adN tb ln (adN tb ln s0)))) h1 (by omega) (by omega) htb 99 (by decide)) (cwV 2 hts gX6_readsPerson_X6_takesNumber rfl rfl rfl (by decide +kernel) ⟨Nat.le_of_ble_eq_true rfl, Nat.le_of_ble_eq_true rfl⟩) noXB (fun _ _ _ => trivial) hK hP hD hS hAq 5 0 (T := TX6) (N := 18) rfl rfl rfl hl.1 rfl (Nat.le_of_ble_eq_true rfl) dX6_readsPerson_65 ⟨Nat.le_of_ble_eq_true rfl, Nat.le_of_ble_eq_true rfl⟩ [0, 1] rfl rfl [b 0, b 5] rfl (fun _ => rfl) (fun _ => rfl) (fun u H locs hok hP hD hS => ?_)
                        have hnm9 := nm_le tb ln (adN tb ln (adN tb ln (adN tb ln (adN tb ln s0))))
                        by_cases hnu : isNu tb ln (adN tb ln (adN tb ln (adN tb ln (adN tb ln s0)))) 99
                        · have e1 : tnP tb ln (adN tb ln (adN tb ln (adN tb ln (adN tb ln s0)))) 99 = adN tb ln (adN tb ln (adN tb ln (adN tb ln (adN tb ln s0)))) := if_pos hnu
                          rw [e1] at hP hD
                          refine n_top (y := nI (nmN tb ln (adN tb ln (adN tb ln (adN tb ln (adN tb ln s0)))))) (show tnV tb ln (adN tb ln (adN tb ln (adN tb ln (adN tb ln s0)))) 99 = _ from if_pos hnu) ?_
                          have hen_27 := en_le (tb := tb) (ln := ln) (s := (adN tb ln (adN tb ln (adN tb ln (adN tb ln s0))))) (by omega)
                          have had_28 := ad_le (tb := tb) (ln := ln) (s := (adN tb ln (adN tb ln (adN tb ln (adN tb ln s0))))) (by omega)
                          refine lv_istore (lv' := [(4, .int (nI (nmN tb ln (adN tb ln (adN tb ln (adN tb ln (adN tb ln s0))))))), (3, .int (nI 2)), (2, .int (nI (σ 5))), (0, .ref (b 0)), (1, .int (nI kd))]) hx hb dX6_readsPerson_68 hl (by decide) rfl (fun ls hl => ?_)
                          refine lv_iload hx hb dX6_readsPerson_70 (lv_at hl 0 rfl) ?_
                          refine n_if_ge hx hb (by omega) (tgt := 77) dX6_readsPerson_72 (by decide) (fun c_29 => ?_) (fun c_29 => ?_)
                          · refine lv_aload_n hx hb dX6_readsPerson_77 rfl (lv_at hl 3 rfl) ?_
                            refine lv_iload_n hx hb dX6_readsPerson_78 rfl (lv_at hl 2 rfl) ?_
                            refine lv_iconst (v := nI 1) hx hb dX6_readsPerson_79 rfl ?_
                            refine lv_iload_n hx hb dX6_readsPerson_80 rfl (lv_at hl 1 rfl) ?_
                            refine n_iadd hx hb dX6_readsPerson_81 ?_
                            refine n_top (y := nI 3) rfl ?_
                            refine lv_iload hx hb dX6_readsPerson_82 (lv_at hl 0 rfl) ?_
                            refine callVV (rest := []) (wn := fun u => [mT b ζ tb ln (adN tb ln (adN tb ln (adN tb ln (adN tb ln (adN tb ln s0))))), (b 5, .inl (G.2.1, 120, .inl (nF tb))), (b 1, .inl (G.2.1, 46, .inl (nF (un (un (addN σ kd) (pl (σ 5) 2) (nmN tb ln (adN tb ln (adN tb ln s0)))) (pl (σ 5) 3) (nmN tb ln (adN tb ln (adN tb ln (adN tb ln (adN tb ln s0))))))))), (b 7, .inl (G.2.2.2, 24, .inl (nF ch1)))]) ⟨hx, hb, hml, hown, hts⟩ (c_X6_puts l G H.size b (un (un (un ζ 2 (tkN tb ln (adN tb ln (adN tb ln (adN tb ln (adN tb ln (adN tb ln s0))))))) 3 (adN tb ln (adN tb ln (adN tb ln (adN tb ln (adN tb ln s0)))))) 4 (enN tb ln (adN tb ln (adN tb ln (adN tb ln (adN tb ln (adN tb ln s0))))))) (lN (vaN tb ln (adN tb ln (adN tb ln (adN tb ln (adN tb ln (adN tb ln s0))))))) (un (addN σ kd) (pl (σ 5) 2) (nmN tb ln (adN tb ln (adN tb ln s0)))) (σ 5) 3 (nmN tb ln (adN tb ln (adN tb ln (adN tb ln (adN tb ln s0))))) (by omega) (by omega)) (cwV 3 hts gX6_readsPerson_X6_puts rfl rfl rfl (by decide +kernel) ⟨Nat.le_of_ble_eq_true rfl, Nat.le_of_ble_eq_true rfl⟩) noXB (fun _ _ _ => trivial) hK hP hD hS hAq 5 0 (T := TX6) (N := 18) rfl rfl rfl hl.1 rfl (Nat.le_of_ble_eq_true rfl) dX6_readsPerson_84 ⟨Nat.le_of_ble_eq_true rfl, Nat.le_of_ble_eq_true rfl⟩ [0, 2] rfl rfl [b 0, b 1] rfl (fun _ => rfl) (fun _ => rfl) (fun u H locs hok hP hD hS => ?_)
                            have hs2 : psC tb ln kd s0 σ = (true, adN tb ln (adN tb ln (adN tb ln (adN tb ln (adN tb ln s0)))), un (un (addN σ kd) (pl (σ 5) 2) (nmN tb ln (adN tb ln (adN tb ln s0)))) (pl (σ 5) 3) (nmN tb ln (adN tb ln (adN tb ln (adN tb ln (adN tb ln s0)))))) := by unfold psC; rw [hs1]; dsimp only; unfold phN; rw [if_pos hw2, if_pos hnu]
                            refine n_iinc (lv' := [(3, .int (nI 3)), (4, .int (nI (nmN tb ln (adN tb ln (adN tb ln (adN tb ln (adN tb ln s0))))))), (2, .int (nI (σ 5))), (0, .ref (b 0)), (1, .int (nI kd))]) hx hb dX6_readsPerson_87 hl (k := 1) rfl (by decide) rfl (fun ls hl => ?_)
                            refine lv_goto (tgt := 31) hx hb dX6_readsPerson_90 (by decide) ?_
                            refine lv_iload_n hx hb dX6_readsPerson_31 rfl (lv_at hl 0 rfl) ?_
                            refine lv_iconst (v := nI 3) hx hb dX6_readsPerson_32 rfl ?_
                            refine n_icmp_ge hx hb (by omega) (by omega) (tgt := 93) dX6_readsPerson_33 (by decide) (fun c_30 => ?_) (fun c_30 => ?_)
                            · refine lv_iconst (v := nI 1) hx hb dX6_readsPerson_93 rfl ?_
                              have hps : psN tb ln kd s0 σ = (true, adN tb ln (adN tb ln (adN tb ln (adN tb ln (adN tb ln s0)))), un (un (addN σ kd) (pl (σ 5) 2) (nmN tb ln (adN tb ln (adN tb ln s0)))) (pl (σ 5) 3) (nmN tb ln (adN tb ln (adN tb ln (adN tb ln (adN tb ln s0)))))) := by unfold psN; rw [if_pos h58, if_pos (show (psA tb ln kd s0 σ).1 = true from congrArg Prod.fst hs0), if_pos (show (psB tb ln kd s0 σ).1 = true from congrArg Prod.fst hs1), hs2]
                              exact fin_z (ty := .boolean) (by decide) hx hb hr hlk hS hP hD () trivial (by rw [hps]; rfl) (by rw [hps]; exact eqW.rf _) dX6_readsPerson_94
                            · omega
                          · omega
                        · have e1 : tnP tb ln (adN tb ln (adN tb ln (adN tb ln (adN tb ln s0)))) 99 = adN tb ln (adN tb ln (adN tb ln (adN tb ln s0))) := if_neg hnu
                          rw [e1] at hP hD
                          refine n_top (y := (-1)) (show tnV tb ln (adN tb ln (adN tb ln (adN tb ln (adN tb ln s0)))) 99 = _ from if_neg hnu) ?_
                          have hm1 : ((-1) : Int32).toInt = -1 := by decide
                          have hs2 : psC tb ln kd s0 σ = (false, adN tb ln (adN tb ln (adN tb ln (adN tb ln s0))), un (addN σ kd) (pl (σ 5) 2) (nmN tb ln (adN tb ln (adN tb ln s0)))) := by unfold psC; rw [hs1]; dsimp only; unfold phN; rw [if_pos hw2, if_neg hnu]
                          refine lv_istore (lv' := [(4, .int (-1)), (3, .int (nI 2)), (2, .int (nI (σ 5))), (0, .ref (b 0)), (1, .int (nI kd))]) hx hb dX6_readsPerson_68 hl (by decide) rfl (fun ls hl => ?_)
                          refine lv_iload hx hb dX6_readsPerson_70 (lv_at hl 0 rfl) ?_
                          refine r_if_ge hx hb (tgt := 77) dX6_readsPerson_72 (by decide) (fun c_31 => ?_) (fun c_31 => ?_)
                          · omega
                          · refine lv_iconst (v := nI 0) hx hb dX6_readsPerson_75 rfl ?_
                            have hps : psN tb ln kd s0 σ = (false, adN tb ln (adN tb ln (adN tb ln (adN tb ln s0))), un (addN σ kd) (pl (σ 5) 2) (nmN tb ln (adN tb ln (adN tb ln s0)))) := by unfold psN; rw [if_pos h58, if_pos (show (psA tb ln kd s0 σ).1 = true from congrArg Prod.fst hs0), if_pos (show (psB tb ln kd s0 σ).1 = true from congrArg Prod.fst hs1), hs2]
                            exact fin_z (ty := .boolean) (by decide) hx hb hr hlk hS hP hD () trivial (by rw [hps]; rfl) (by rw [hps]; exact eqW.rf _) dX6_readsPerson_76
                      · omega
                · omega
              · have e1 : tnP tb ln (adN tb ln (adN tb ln s0)) 99 = adN tb ln (adN tb ln s0) := if_neg hnu
                rw [e1] at hP hD
                refine n_top (y := (-1)) (show tnV tb ln (adN tb ln (adN tb ln s0)) 99 = _ from if_neg hnu) ?_
                have hm1 : ((-1) : Int32).toInt = -1 := by decide
                have hs1 : psB tb ln kd s0 σ = (false, adN tb ln (adN tb ln s0), addN σ kd) := by unfold psB; rw [hs0]; dsimp only; unfold phN; rw [if_pos hw1, if_neg hnu]
                refine lv_istore (lv' := [(4, .int (-1)), (3, .int (nI 1)), (2, .int (nI (σ 5))), (0, .ref (b 0)), (1, .int (nI kd))]) hx hb dX6_readsPerson_68 hl (by decide) rfl (fun ls hl => ?_)
                refine lv_iload hx hb dX6_readsPerson_70 (lv_at hl 0 rfl) ?_
                refine r_if_ge hx hb (tgt := 77) dX6_readsPerson_72 (by decide) (fun c_32 => ?_) (fun c_32 => ?_)
                · omega
                · refine lv_iconst (v := nI 0) hx hb dX6_readsPerson_75 rfl ?_
                  have hps : psN tb ln kd s0 σ = (false, adN tb ln (adN tb ln s0), addN σ kd) := by unfold psN; rw [if_pos h58, if_pos (show (psA tb ln kd s0 σ).1 = true from congrArg Prod.fst hs0), if_neg (show ¬ (psB tb ln kd s0 σ).1 = true from fun h => Bool.false_ne_true ((congrArg Prod.fst hs1).symm.trans h)), hs1]
                  exact fin_z (ty := .boolean) (by decide) hx hb hr hlk hS hP hD () trivial (by rw [hps]; rfl) (by rw [hps]; exact eqW.rf _) dX6_readsPerson_76
            · omega
      · rw [nI_T (by omega)] at c_4
        have hw0 : isW tb ln 6 (adN tb ln s0) := (wo_at (b0 := 6) (w := 0) (n := 3) (by decide) (by decide)).mp (by omega)
        refine lv_aload_n hx hb dX6_readsPerson_48 rfl (lv_at hl 2 rfl) ?_
        have had_33 := ad_le (tb := tb) (ln := ln) (s := (adN tb ln s0)) (by omega)
        refine callVV (rest := []) (wn := fun u => [mT b ζ tb ln (adN tb ln (adN tb ln s0)), (b 5, .inl (G.2.1, 120, .inl (nF tb))), (b 1, .inl (G.2.1, 46, .inl (nF (addN σ kd)))), (b 7, .inl (G.2.2.2, 24, .inl (nF ch1)))]) ⟨hx, hb, hml, hown, hts⟩ (c_nextA l G H.size b ζ tb ln (adN tb ln s0) h1 (by omega) (by omega) htb) (cwV 0 hts gX6_readsPerson_X6_nextToken rfl rfl rfl (by decide +kernel) ⟨Nat.le_of_ble_eq_true rfl, Nat.le_of_ble_eq_true rfl⟩) noXB (fun _ _ _ => trivial) hK hP hD hS hAq 5 0 (T := TX6) (N := 18) rfl rfl rfl hl.1 rfl (Nat.le_of_ble_eq_true rfl) dX6_readsPerson_49 ⟨Nat.le_of_ble_eq_true rfl, Nat.le_of_ble_eq_true rfl⟩ [0, 1] rfl rfl [b 0, b 5] rfl (fun _ => rfl) (fun _ => rfl) (fun u H locs hok hP hD hS => ?_)
        refine lv_aload_n hx hb dX6_readsPerson_52 rfl (lv_at hl 2 rfl) ?_
        refine lv_iconst (v := nI 0) hx hb dX6_readsPerson_53 rfl ?_
        refine lv_iload_n hx hb dX6_readsPerson_54 rfl (lv_at hl 0 rfl) ?_
        refine n_if_ne hx hb (by omega) (tgt := 63) dX6_readsPerson_55 (by decide) (fun c_34 => ?_) (fun c_34 => ?_)
        · omega
        · refine lv_bipush (v := nI 20) hx hb dX6_readsPerson_58 rfl ?_
          refine lv_goto (tgt := 65) hx hb dX6_readsPerson_60 (by decide) ?_
          refine callVI (rest := []) (wn := fun u => [mT b ζ tb ln (tnP tb ln (adN tb ln (adN tb ln s0)) 20), (b 5, .inl (G.2.1, 120, .inl (nF tb))), (b 1, .inl (G.2.1, 46, .inl (nF (addN σ kd)))), (b 7, .inl (G.2.2.2, 24, .inl (nF ch1)))]) ⟨hx, hb, hml, hown, hts⟩ (c_X6_takesNumber l G H.size b ζ tb ln (adN tb ln (adN tb ln s0)) h1 (by omega) (by omega) htb 20 (by decide)) (cwV 2 hts gX6_readsPerson_X6_takesNumber rfl rfl rfl (by decide +kernel) ⟨Nat.le_of_ble_eq_true rfl, Nat.le_of_ble_eq_true rfl⟩) noXB (fun _ _ _ => trivial) hK hP hD hS hAq 5 0 (T := TX6) (N := 18) rfl rfl rfl hl.1 rfl (Nat.le_of_ble_eq_true rfl) dX6_readsPerson_65 ⟨Nat.le_of_ble_eq_true rfl, Nat.le_of_ble_eq_true rfl⟩ [0, 1] rfl rfl [b 0, b 5] rfl (fun _ => rfl) (fun _ => rfl) (fun u H locs hok hP hD hS => ?_)
          have hnm9 := nm_le tb ln (adN tb ln (adN tb ln s0))
          by_cases hnu : isNu tb ln (adN tb ln (adN tb ln s0)) 20
          · have e1 : tnP tb ln (adN tb ln (adN tb ln s0)) 20 = adN tb ln (adN tb ln (adN tb ln s0)) := if_pos hnu
            rw [e1] at hP hD
            refine n_top (y := nI (nmN tb ln (adN tb ln (adN tb ln s0)))) (show tnV tb ln (adN tb ln (adN tb ln s0)) 20 = _ from if_pos hnu) ?_
            have hen_35 := en_le (tb := tb) (ln := ln) (s := (adN tb ln (adN tb ln s0))) (by omega)
            have had_36 := ad_le (tb := tb) (ln := ln) (s := (adN tb ln (adN tb ln s0))) (by omega)
            refine lv_istore (lv' := [(4, .int (nI (nmN tb ln (adN tb ln (adN tb ln s0))))), (3, .int (nI 0)), (2, .int (nI (σ 5))), (0, .ref (b 0)), (1, .int (nI kd))]) hx hb dX6_readsPerson_68 hl (by decide) rfl (fun ls hl => ?_)
            refine lv_iload hx hb dX6_readsPerson_70 (lv_at hl 0 rfl) ?_
            refine n_if_ge hx hb (by omega) (tgt := 77) dX6_readsPerson_72 (by decide) (fun c_37 => ?_) (fun c_37 => ?_)
            · refine lv_aload_n hx hb dX6_readsPerson_77 rfl (lv_at hl 3 rfl) ?_
              refine lv_iload_n hx hb dX6_readsPerson_78 rfl (lv_at hl 2 rfl) ?_
              refine lv_iconst (v := nI 1) hx hb dX6_readsPerson_79 rfl ?_
              refine lv_iload_n hx hb dX6_readsPerson_80 rfl (lv_at hl 1 rfl) ?_
              refine n_iadd hx hb dX6_readsPerson_81 ?_
              refine n_top (y := nI 1) rfl ?_
              refine lv_iload hx hb dX6_readsPerson_82 (lv_at hl 0 rfl) ?_
              refine callVV (rest := []) (wn := fun u => [mT b ζ tb ln (adN tb ln (adN tb ln (adN tb ln s0))), (b 5, .inl (G.2.1, 120, .inl (nF tb))), (b 1, .inl (G.2.1, 46, .inl (nF (un (addN σ kd) (pl (σ 5) 1) (nmN tb ln (adN tb ln (adN tb ln s0))))))), (b 7, .inl (G.2.2.2, 24, .inl (nF ch1)))]) ⟨hx, hb, hml, hown, hts⟩ (c_X6_puts l G H.size b (un (un (un ζ 2 (tkN tb ln (adN tb ln (adN tb ln (adN tb ln s0))))) 3 (adN tb ln (adN tb ln (adN tb ln s0)))) 4 (enN tb ln (adN tb ln (adN tb ln (adN tb ln s0))))) (lN (vaN tb ln (adN tb ln (adN tb ln (adN tb ln s0))))) (addN σ kd) (σ 5) 1 (nmN tb ln (adN tb ln (adN tb ln s0))) (by omega) (by omega)) (cwV 3 hts gX6_readsPerson_X6_puts rfl rfl rfl (by decide +kernel) ⟨Nat.le_of_ble_eq_true rfl, Nat.le_of_ble_eq_true rfl⟩) noXB (fun _ _ _ => trivial) hK hP hD hS hAq 5 0 (T := TX6) (N := 18) rfl rfl rfl hl.1 rfl (Nat.le_of_ble_eq_true rfl) dX6_readsPerson_84 ⟨Nat.le_of_ble_eq_true rfl, Nat.le_of_ble_eq_true rfl⟩ [0, 2] rfl rfl [b 0, b 1] rfl (fun _ => rfl) (fun _ => rfl) (fun u H locs hok hP hD hS => ?_)
              have hs0 : psA tb ln kd s0 σ = (true, adN tb ln (adN tb ln (adN tb ln s0)), un (addN σ kd) (pl (σ 5) 1) (nmN tb ln (adN tb ln (adN tb ln s0)))) := by unfold psA; unfold phN; rw [if_pos hw0, if_pos hnu]
              refine n_iinc (lv' := [(3, .int (nI 1)), (4, .int (nI (nmN tb ln (adN tb ln (adN tb ln s0))))), (2, .int (nI (σ 5))), (0, .ref (b 0)), (1, .int (nI kd))]) hx hb dX6_readsPerson_87 hl (k := 1) rfl (by decide) rfl (fun ls hl => ?_)
              refine lv_goto (tgt := 31) hx hb dX6_readsPerson_90 (by decide) ?_
              refine lv_iload_n hx hb dX6_readsPerson_31 rfl (lv_at hl 0 rfl) ?_
              refine lv_iconst (v := nI 3) hx hb dX6_readsPerson_32 rfl ?_
              refine n_icmp_ge hx hb (by omega) (by omega) (tgt := 93) dX6_readsPerson_33 (by decide) (fun c_38 => ?_) (fun c_38 => ?_)
              · omega
              · refine lv_aload_n hx hb dX6_readsPerson_36 rfl (lv_at hl 3 rfl) ?_
                refine lv_aload_n hx hb dX6_readsPerson_37 rfl (lv_at hl 3 rfl) ?_
                refine n_get (C := RX6) (T := TX6) (N := 18) hx hb hts (fun _ h => List.mem_cons_of_mem _ (List.mem_append_right _ h)) hown hK hP 0 rfl rfl 12 (by decide) (List.mem_of_getElem? (i := 2) rfl) rfl (.ref (b 7)) rfl dX6_readsPerson_38 ?_
                refine callVI (rest := []) (wn := fun u => [mT b ζ tb ln (adN tb ln (adN tb ln (adN tb ln s0))), (b 5, .inl (G.2.1, 120, .inl (nF tb))), (b 1, .inl (G.2.1, 46, .inl (nF (un (addN σ kd) (pl (σ 5) 1) (nmN tb ln (adN tb ln (adN tb ln s0))))))), (b 7, .inl (G.2.2.2, 24, .inl (nF ch1)))]) ⟨hx, hb, hml, hown, hts⟩ (c_X6_wordOf l G H.size b ζ tb ln (adN tb ln (adN tb ln (adN tb ln s0))) h1 (by omega) (by omega) htb (b 7) 3 6 ch1 (by decide) ch1_ok ch1_pk) (cwV 1 hts gX6_readsPerson_X6_wordOf rfl rfl rfl (by decide +kernel) ⟨Nat.le_of_ble_eq_true rfl, Nat.le_of_ble_eq_true rfl⟩) noXB (fun _ _ _ => trivial) hK hP hD hS hAq 5 0 (T := TX6) (N := 18) rfl rfl rfl hl.1 rfl (Nat.le_of_ble_eq_true rfl) dX6_readsPerson_41 ⟨Nat.le_of_ble_eq_true rfl, Nat.le_of_ble_eq_true rfl⟩ [0, 3] rfl rfl [b 0, b 7] rfl (fun _ => rfl) (fun _ => rfl) (fun u H locs hok hP hD hS => ?_)
                refine lv_iload_n hx hb dX6_readsPerson_44 rfl (lv_at hl 0 rfl) ?_
                refine r_icmp_ne hx hb (tgt := 87) dX6_readsPerson_45 (by decide) (fun c_39 => ?_) (fun c_39 => ?_)
                · rw [nI_T (by omega)] at c_39
                  have hw1 : ¬ isW tb ln 7 (adN tb ln (adN tb ln (adN tb ln s0))) := fun h => c_39 ((wo_at (b0 := 6) (w := 1) (n := 3) (by decide) (by decide)).mpr h)
                  have hs1 : psB tb ln kd s0 σ = (true, adN tb ln (adN tb ln (adN tb ln s0)), un (addN σ kd) (pl (σ 5) 1) (nmN tb ln (adN tb ln (adN tb ln s0)))) := by unfold psB; rw [hs0]; dsimp only; unfold phN; rw [if_neg hw1]
                  refine n_iinc (lv' := [(3, .int (nI 2)), (4, .int (nI (nmN tb ln (adN tb ln (adN tb ln s0))))), (2, .int (nI (σ 5))), (0, .ref (b 0)), (1, .int (nI kd))]) hx hb dX6_readsPerson_87 hl (k := 0) rfl (by decide) rfl (fun ls hl => ?_)
                  refine lv_goto (tgt := 31) hx hb dX6_readsPerson_90 (by decide) ?_
                  refine lv_iload_n hx hb dX6_readsPerson_31 rfl (lv_at hl 0 rfl) ?_
                  refine lv_iconst (v := nI 3) hx hb dX6_readsPerson_32 rfl ?_
                  refine n_icmp_ge hx hb (by omega) (by omega) (tgt := 93) dX6_readsPerson_33 (by decide) (fun c_40 => ?_) (fun c_40 => ?_)
                  · omega
                  · refine lv_aload_n hx hb dX6_readsPerson_36 rfl (lv_at hl 3 rfl) ?_
                    refine lv_aload_n hx hb dX6_readsPerson_37 rfl (lv_at hl 3 rfl) ?_
                    refine n_get (C := RX6) (T := TX6) (N := 18) hx hb hts (fun _ h => List.mem_cons_of_mem _ (List.mem_append_right _ h)) hown hK hP 0 rfl rfl 12 (by decide) (List.mem_of_getElem? (i := 2) rfl) rfl (.ref (b 7)) rfl dX6_readsPerson_38 ?_
                    refine callVI (rest := []) (wn := fun u => [mT b ζ tb ln (adN tb ln (adN tb ln (adN tb ln s0))), (b 5, .inl (G.2.1, 120, .inl (nF tb))), (b 1, .inl (G.2.1, 46, .inl (nF (un (addN σ kd) (pl (σ 5) 1) (nmN tb ln (adN tb ln (adN tb ln s0))))))), (b 7, .inl (G.2.2.2, 24, .inl (nF ch1)))]) ⟨hx, hb, hml, hown, hts⟩ (c_X6_wordOf l G H.size b ζ tb ln (adN tb ln (adN tb ln (adN tb ln s0))) h1 (by omega) (by omega) htb (b 7) 3 6 ch1 (by decide) ch1_ok ch1_pk) (cwV 1 hts gX6_readsPerson_X6_wordOf rfl rfl rfl (by decide +kernel) ⟨Nat.le_of_ble_eq_true rfl, Nat.le_of_ble_eq_true rfl⟩) noXB (fun _ _ _ => trivial) hK hP hD hS hAq 5 0 (T := TX6) (N := 18) rfl rfl rfl hl.1 rfl (Nat.le_of_ble_eq_true rfl) dX6_readsPerson_41 ⟨Nat.le_of_ble_eq_true rfl, Nat.le_of_ble_eq_true rfl⟩ [0, 3] rfl rfl [b 0, b 7] rfl (fun _ => rfl) (fun _ => rfl) (fun u H locs hok hP hD hS => ?_)
                    refine lv_iload_n hx hb dX6_readsPerson_44 rfl (lv_at hl 0 rfl) ?_
                    refine r_icmp_ne hx hb (tgt := 87) dX6_readsPerson_45 (by decide) (fun c_41 => ?_) (fun c_41 => ?_)
                    · rw [nI_T (by omega)] at c_41
                      have hw2 : ¬ isW tb ln 8 (adN tb ln (adN tb ln (adN tb ln s0))) := fun h => c_41 ((wo_at (b0 := 6) (w := 2) (n := 3) (by decide) (by decide)).mpr h)
                      have hs2 : psC tb ln kd s0 σ = (true, adN tb ln (adN tb ln (adN tb ln s0)), un (addN σ kd) (pl (σ 5) 1) (nmN tb ln (adN tb ln (adN tb ln s0)))) := by unfold psC; rw [hs1]; dsimp only; unfold phN; rw [if_neg hw2]
                      refine n_iinc (lv' := [(3, .int (nI 3)), (4, .int (nI (nmN tb ln (adN tb ln (adN tb ln s0))))), (2, .int (nI (σ 5))), (0, .ref (b 0)), (1, .int (nI kd))]) hx hb dX6_readsPerson_87 hl (k := 0) rfl (by decide) rfl (fun ls hl => ?_)
                      refine lv_goto (tgt := 31) hx hb dX6_readsPerson_90 (by decide) ?_
                      refine lv_iload_n hx hb dX6_readsPerson_31 rfl (lv_at hl 0 rfl) ?_
                      refine lv_iconst (v := nI 3) hx hb dX6_readsPerson_32 rfl ?_
                      refine n_icmp_ge hx hb (by omega) (by omega) (tgt := 93) dX6_readsPerson_33 (by decide) (fun c_42 => ?_) (fun c_42 => ?_)
                      · refine lv_iconst (v := nI 1) hx hb dX6_readsPerson_93 rfl ?_
                        have hps : psN tb ln kd s0 σ = (true, adN tb ln (adN tb ln (adN tb ln s0)), un (addN σ kd) (pl (σ 5) 1) (nmN tb ln (adN tb ln (adN tb ln s0)))) := by unfold psN; rw [if_pos h58, if_pos (show (psA tb ln kd s0 σ).1 = true from congrArg Prod.fst hs0), if_pos (show (psB tb ln kd s0 σ).1 = true from congrArg Prod.fst hs1), hs2]
                        exact fin_z (ty := .boolean) (by decide) hx hb hr hlk hS hP hD () trivial (by rw [hps]; rfl) (by rw [hps]; exact eqW.rf _) dX6_readsPerson_94
                      · omega
                    · rw [nI_T (by omega)] at c_41
                      have hw2 : isW tb ln 8 (adN tb ln (adN tb ln (adN tb ln s0))) := (wo_at (b0 := 6) (w := 2) (n := 3) (by decide) (by decide)).mp (by omega)
                      refine lv_aload_n hx hb dX6_readsPerson_48 rfl (lv_at hl 3 rfl) ?_
                      have had_43 := ad_le (tb := tb) (ln := ln) (s := (adN tb ln (adN tb ln (adN tb ln s0)))) (by omega)
                      refine callVV (rest := []) (wn := fun u => [mT b ζ tb ln (adN tb ln (adN tb ln (adN tb ln (adN tb ln s0)))), (b 5, .inl (G.2.1, 120, .inl (nF tb))), (b 1, .inl (G.2.1, 46, .inl (nF (un (addN σ kd) (pl (σ 5) 1) (nmN tb ln (adN tb ln (adN tb ln s0))))))), (b 7, .inl (G.2.2.2, 24, .inl (nF ch1)))]) ⟨hx, hb, hml, hown, hts⟩ (c_nextA l G H.size b ζ tb ln (adN tb ln (adN tb ln (adN tb ln s0))) h1 (by omega) (by omega) htb) (cwV 0 hts gX6_readsPerson_X6_nextToken rfl rfl rfl (by decide +kernel) ⟨Nat.le_of_ble_eq_true rfl, Nat.le_of_ble_eq_true rfl⟩) noXB (fun _ _ _ => trivial) hK hP hD hS hAq 5 0 (T := TX6) (N := 18) rfl rfl rfl hl.1 rfl (Nat.le_of_ble_eq_true rfl) dX6_readsPerson_49 ⟨Nat.le_of_ble_eq_true rfl, Nat.le_of_ble_eq_true rfl⟩ [0, 1] rfl rfl [b 0, b 5] rfl (fun _ => rfl) (fun _ => rfl) (fun u H locs hok hP hD hS => ?_)
                      refine lv_aload_n hx hb dX6_readsPerson_52 rfl (lv_at hl 3 rfl) ?_
                      refine lv_iconst (v := nI 0) hx hb dX6_readsPerson_53 rfl ?_
                      refine lv_iload_n hx hb dX6_readsPerson_54 rfl (lv_at hl 0 rfl) ?_
                      refine n_if_ne hx hb (by omega) (tgt := 63) dX6_readsPerson_55 (by decide) (fun c_44 => ?_) (fun c_44 => ?_)
                      · refine lv_bipush (v := nI 99) hx hb dX6_readsPerson_63 rfl ?_
                        refine callVI (rest := []) (wn := fun u => [mT b ζ tb ln (tnP tb ln (adN tb ln (adN tb ln (adN tb ln (adN tb ln s0)))) 99), (b 5, .inl (G.2.1, 120, .inl (nF tb))), (b 1, .inl (G.2.1, 46, .inl (nF (un (addN σ kd) (pl (σ 5) 1) (nmN tb ln (adN tb ln (adN tb ln s0))))))), (b 7, .inl (G.2.2.2, 24, .inl (nF ch1)))]) ⟨hx, hb, hml, hown, hts⟩ (c_X6_takesNumber l G H.size b ζ tb ln (adN tb ln (adN tb ln (adN tb ln (adN tb ln s0)))) h1 (by omega) (by omega) htb 99 (by decide)) (cwV 2 hts gX6_readsPerson_X6_takesNumber rfl rfl rfl (by decide +kernel) ⟨Nat.le_of_ble_eq_true rfl, Nat.le_of_ble_eq_true rfl⟩) noXB (fun _ _ _ => trivial) hK hP hD hS hAq 5 0 (T := TX6) (N := 18) rfl rfl rfl hl.1 rfl (Nat.le_of_ble_eq_true rfl) dX6_readsPerson_65 ⟨Nat.le_of_ble_eq_true rfl, Nat.le_of_ble_eq_true rfl⟩ [0, 1] rfl rfl [b 0, b 5] rfl (fun _ => rfl) (fun _ => rfl) (fun u H locs hok hP hD hS => ?_)
                        have hnm9 := nm_le tb ln (adN tb ln (adN tb ln (adN tb ln (adN tb ln s0))))
                        by_cases hnu : isNu tb ln (adN tb ln (adN tb ln (adN tb ln (adN tb ln s0)))) 99
                        · have e1 : tnP tb ln (adN tb ln (adN tb ln (adN tb ln (adN tb ln s0)))) 99 = adN tb ln (adN tb ln (adN tb ln (adN tb ln (adN tb ln s0)))) := if_pos hnu
                          rw [e1] at hP hD
                          refine n_top (y := nI (nmN tb ln (adN tb ln (adN tb ln (adN tb ln (adN tb ln s0)))))) (show tnV tb ln (adN tb ln (adN tb ln (adN tb ln (adN tb ln s0)))) 99 = _ from if_pos hnu) ?_
                          have hen_45 := en_le (tb := tb) (ln := ln) (s := (adN tb ln (adN tb ln (adN tb ln (adN tb ln s0))))) (by omega)
                          have had_46 := ad_le (tb := tb) (ln := ln) (s := (adN tb ln (adN tb ln (adN tb ln (adN tb ln s0))))) (by omega)
                          refine lv_istore (lv' := [(4, .int (nI (nmN tb ln (adN tb ln (adN tb ln (adN tb ln (adN tb ln s0))))))), (3, .int (nI 2)), (2, .int (nI (σ 5))), (0, .ref (b 0)), (1, .int (nI kd))]) hx hb dX6_readsPerson_68 hl (by decide) rfl (fun ls hl => ?_)
                          refine lv_iload hx hb dX6_readsPerson_70 (lv_at hl 0 rfl) ?_
                          refine n_if_ge hx hb (by omega) (tgt := 77) dX6_readsPerson_72 (by decide) (fun c_47 => ?_) (fun c_47 => ?_)
                          · refine lv_aload_n hx hb dX6_readsPerson_77 rfl (lv_at hl 3 rfl) ?_
                            refine lv_iload_n hx hb dX6_readsPerson_78 rfl (lv_at hl 2 rfl) ?_
                            refine lv_iconst (v := nI 1) hx hb dX6_readsPerson_79 rfl ?_
                            refine lv_iload_n hx hb dX6_readsPerson_80 rfl (lv_at hl 1 rfl) ?_
                            refine n_iadd hx hb dX6_readsPerson_81 ?_
                            refine n_top (y := nI 3) rfl ?_
                            refine lv_iload hx hb dX6_readsPerson_82 (lv_at hl 0 rfl) ?_
                            refine callVV (rest := []) (wn := fun u => [mT b ζ tb ln (adN tb ln (adN tb ln (adN tb ln (adN tb ln (adN tb ln s0))))), (b 5, .inl (G.2.1, 120, .inl (nF tb))), (b 1, .inl (G.2.1, 46, .inl (nF (un (un (addN σ kd) (pl (σ 5) 1) (nmN tb ln (adN tb ln (adN tb ln s0)))) (pl (σ 5) 3) (nmN tb ln (adN tb ln (adN tb ln (adN tb ln (adN tb ln s0))))))))), (b 7, .inl (G.2.2.2, 24, .inl (nF ch1)))]) ⟨hx, hb, hml, hown, hts⟩ (c_X6_puts l G H.size b (un (un (un ζ 2 (tkN tb ln (adN tb ln (adN tb ln (adN tb ln (adN tb ln (adN tb ln s0))))))) 3 (adN tb ln (adN tb ln (adN tb ln (adN tb ln (adN tb ln s0)))))) 4 (enN tb ln (adN tb ln (adN tb ln (adN tb ln (adN tb ln (adN tb ln s0))))))) (lN (vaN tb ln (adN tb ln (adN tb ln (adN tb ln (adN tb ln (adN tb ln s0))))))) (un (addN σ kd) (pl (σ 5) 1) (nmN tb ln (adN tb ln (adN tb ln s0)))) (σ 5) 3 (nmN tb ln (adN tb ln (adN tb ln (adN tb ln (adN tb ln s0))))) (by omega) (by omega)) (cwV 3 hts gX6_readsPerson_X6_puts rfl rfl rfl (by decide +kernel) ⟨Nat.le_of_ble_eq_true rfl, Nat.le_of_ble_eq_true rfl⟩) noXB (fun _ _ _ => trivial) hK hP hD hS hAq 5 0 (T := TX6) (N := 18) rfl rfl rfl hl.1 rfl (Nat.le_of_ble_eq_true rfl) dX6_readsPerson_84 ⟨Nat.le_of_ble_eq_true rfl, Nat.le_of_ble_eq_true rfl⟩ [0, 2] rfl rfl [b 0, b 1] rfl (fun _ => rfl) (fun _ => rfl) (fun u H locs hok hP hD hS => ?_)
                            have hs2 : psC tb ln kd s0 σ = (true, adN tb ln (adN tb ln (adN tb ln (adN tb ln (adN tb ln s0)))), un (un (addN σ kd) (pl (σ 5) 1) (nmN tb ln (adN tb ln (adN tb ln s0)))) (pl (σ 5) 3) (nmN tb ln (adN tb ln (adN tb ln (adN tb ln (adN tb ln s0)))))) := by unfold psC; rw [hs1]; dsimp only; unfold phN; rw [if_pos hw2, if_pos hnu]
                            refine n_iinc (lv' := [(3, .int (nI 3)), (4, .int (nI (nmN tb ln (adN tb ln (adN tb ln (adN tb ln (adN tb ln s0))))))), (2, .int (nI (σ 5))), (0, .ref (b 0)), (1, .int (nI kd))]) hx hb dX6_readsPerson_87 hl (k := 1) rfl (by decide) rfl (fun ls hl => ?_)
                            refine lv_goto (tgt := 31) hx hb dX6_readsPerson_90 (by decide) ?_
                            refine lv_iload_n hx hb dX6_readsPerson_31 rfl (lv_at hl 0 rfl) ?_
                            refine lv_iconst (v := nI 3) hx hb dX6_readsPerson_32 rfl ?_
                            refine n_icmp_ge hx hb (by omega) (by omega) (tgt := 93) dX6_readsPerson_33 (by decide) (fun c_48 => ?_) (fun c_48 => ?_)
                            · refine lv_iconst (v := nI 1) hx hb dX6_readsPerson_93 rfl ?_
                              have hps : psN tb ln kd s0 σ = (true, adN tb ln (adN tb ln (adN tb ln (adN tb ln (adN tb ln s0)))), un (un (addN σ kd) (pl (σ 5) 1) (nmN tb ln (adN tb ln (adN tb ln s0)))) (pl (σ 5) 3) (nmN tb ln (adN tb ln (adN tb ln (adN tb ln (adN tb ln s0)))))) := by unfold psN; rw [if_pos h58, if_pos (show (psA tb ln kd s0 σ).1 = true from congrArg Prod.fst hs0), if_pos (show (psB tb ln kd s0 σ).1 = true from congrArg Prod.fst hs1), hs2]
                              exact fin_z (ty := .boolean) (by decide) hx hb hr hlk hS hP hD () trivial (by rw [hps]; rfl) (by rw [hps]; exact eqW.rf _) dX6_readsPerson_94
                            · omega
                          · omega
                        · have e1 : tnP tb ln (adN tb ln (adN tb ln (adN tb ln (adN tb ln s0)))) 99 = adN tb ln (adN tb ln (adN tb ln (adN tb ln s0))) := if_neg hnu
                          rw [e1] at hP hD
                          refine n_top (y := (-1)) (show tnV tb ln (adN tb ln (adN tb ln (adN tb ln (adN tb ln s0)))) 99 = _ from if_neg hnu) ?_
                          have hm1 : ((-1) : Int32).toInt = -1 := by decide
                          have hs2 : psC tb ln kd s0 σ = (false, adN tb ln (adN tb ln (adN tb ln (adN tb ln s0))), un (addN σ kd) (pl (σ 5) 1) (nmN tb ln (adN tb ln (adN tb ln s0)))) := by unfold psC; rw [hs1]; dsimp only; unfold phN; rw [if_pos hw2, if_neg hnu]
                          refine lv_istore (lv' := [(4, .int (-1)), (3, .int (nI 2)), (2, .int (nI (σ 5))), (0, .ref (b 0)), (1, .int (nI kd))]) hx hb dX6_readsPerson_68 hl (by decide) rfl (fun ls hl => ?_)
                          refine lv_iload hx hb dX6_readsPerson_70 (lv_at hl 0 rfl) ?_
                          refine r_if_ge hx hb (tgt := 77) dX6_readsPerson_72 (by decide) (fun c_49 => ?_) (fun c_49 => ?_)
                          · omega
                          · refine lv_iconst (v := nI 0) hx hb dX6_readsPerson_75 rfl ?_
                            have hps : psN tb ln kd s0 σ = (false, adN tb ln (adN tb ln (adN tb ln (adN tb ln s0))), un (addN σ kd) (pl (σ 5) 1) (nmN tb ln (adN tb ln (adN tb ln s0)))) := by unfold psN; rw [if_pos h58, if_pos (show (psA tb ln kd s0 σ).1 = true from congrArg Prod.fst hs0), if_pos (show (psB tb ln kd s0 σ).1 = true from congrArg Prod.fst hs1), hs2]
                            exact fin_z (ty := .boolean) (by decide) hx hb hr hlk hS hP hD () trivial (by rw [hps]; rfl) (by rw [hps]; exact eqW.rf _) dX6_readsPerson_76
                      · omega
                · rw [nI_T (by omega)] at c_39
                  have hw1 : isW tb ln 7 (adN tb ln (adN tb ln (adN tb ln s0))) := (wo_at (b0 := 6) (w := 1) (n := 3) (by decide) (by decide)).mp (by omega)
                  refine lv_aload_n hx hb dX6_readsPerson_48 rfl (lv_at hl 3 rfl) ?_
                  have had_50 := ad_le (tb := tb) (ln := ln) (s := (adN tb ln (adN tb ln (adN tb ln s0)))) (by omega)
                  refine callVV (rest := []) (wn := fun u => [mT b ζ tb ln (adN tb ln (adN tb ln (adN tb ln (adN tb ln s0)))), (b 5, .inl (G.2.1, 120, .inl (nF tb))), (b 1, .inl (G.2.1, 46, .inl (nF (un (addN σ kd) (pl (σ 5) 1) (nmN tb ln (adN tb ln (adN tb ln s0))))))), (b 7, .inl (G.2.2.2, 24, .inl (nF ch1)))]) ⟨hx, hb, hml, hown, hts⟩ (c_nextA l G H.size b ζ tb ln (adN tb ln (adN tb ln (adN tb ln s0))) h1 (by omega) (by omega) htb) (cwV 0 hts gX6_readsPerson_X6_nextToken rfl rfl rfl (by decide +kernel) ⟨Nat.le_of_ble_eq_true rfl, Nat.le_of_ble_eq_true rfl⟩) noXB (fun _ _ _ => trivial) hK hP hD hS hAq 5 0 (T := TX6) (N := 18) rfl rfl rfl hl.1 rfl (Nat.le_of_ble_eq_true rfl) dX6_readsPerson_49 ⟨Nat.le_of_ble_eq_true rfl, Nat.le_of_ble_eq_true rfl⟩ [0, 1] rfl rfl [b 0, b 5] rfl (fun _ => rfl) (fun _ => rfl) (fun u H locs hok hP hD hS => ?_)
                  refine lv_aload_n hx hb dX6_readsPerson_52 rfl (lv_at hl 3 rfl) ?_
                  refine lv_iconst (v := nI 0) hx hb dX6_readsPerson_53 rfl ?_
                  refine lv_iload_n hx hb dX6_readsPerson_54 rfl (lv_at hl 0 rfl) ?_
                  refine n_if_ne hx hb (by omega) (tgt := 63) dX6_readsPerson_55 (by decide) (fun c_51 => ?_) (fun c_51 => ?_)
                  · refine lv_bipush (v := nI 99) hx hb dX6_readsPerson_63 rfl ?_
                    refine callVI (rest := []) (wn := fun u => [mT b ζ tb ln (tnP tb ln (adN tb ln (adN tb ln (adN tb ln (adN tb ln s0)))) 99), (b 5, .inl (G.2.1, 120, .inl (nF tb))), (b 1, .inl (G.2.1, 46, .inl (nF (un (addN σ kd) (pl (σ 5) 1) (nmN tb ln (adN tb ln (adN tb ln s0))))))), (b 7, .inl (G.2.2.2, 24, .inl (nF ch1)))]) ⟨hx, hb, hml, hown, hts⟩ (c_X6_takesNumber l G H.size b ζ tb ln (adN tb ln (adN tb ln (adN tb ln (adN tb ln s0)))) h1 (by omega) (by omega) htb 99 (by decide)) (cwV 2 hts gX6_readsPerson_X6_takesNumber rfl rfl rfl (by decide +kernel) ⟨Nat.le_of_ble_eq_true rfl, Nat.le_of_ble_eq_true rfl⟩) noXB (fun _ _ _ => trivial) hK hP hD hS hAq 5 0 (T := TX6) (N := 18) rfl rfl rfl hl.1 rfl (Nat.le_of_ble_eq_true rfl) dX6_readsPerson_65 ⟨Nat.le_of_ble_eq_true rfl, Nat.le_of_ble_eq_true rfl⟩ [0, 1] rfl rfl [b 0, b 5] rfl (fun _ => rfl) (fun _ => rfl) (fun u H locs hok hP hD hS => ?_)
                    have hnm9 := nm_le tb ln (adN tb ln (adN tb ln (adN tb ln (adN tb ln s0))))
                    by_cases hnu : isNu tb ln (adN tb ln (adN tb ln (adN tb ln (adN tb ln s0)))) 99
                    · have e1 : tnP tb ln (adN tb ln (adN tb ln (adN tb ln (adN tb ln s0)))) 99 = adN tb ln (adN tb ln (adN tb ln (adN tb ln (adN tb ln s0)))) := if_pos hnu
                      rw [e1] at hP hD
                      refine n_top (y := nI (nmN tb ln (adN tb ln (adN tb ln (adN tb ln (adN tb ln s0)))))) (show tnV tb ln (adN tb ln (adN tb ln (adN tb ln (adN tb ln s0)))) 99 = _ from if_pos hnu) ?_
                      have hen_52 := en_le (tb := tb) (ln := ln) (s := (adN tb ln (adN tb ln (adN tb ln (adN tb ln s0))))) (by omega)
                      have had_53 := ad_le (tb := tb) (ln := ln) (s := (adN tb ln (adN tb ln (adN tb ln (adN tb ln s0))))) (by omega)
                      refine lv_istore (lv' := [(4, .int (nI (nmN tb ln (adN tb ln (adN tb ln (adN tb ln (adN tb ln s0))))))), (3, .int (nI 1)), (2, .int (nI (σ 5))), (0, .ref (b 0)), (1, .int (nI kd))]) hx hb dX6_readsPerson_68 hl (by decide) rfl (fun ls hl => ?_)
                      refine lv_iload hx hb dX6_readsPerson_70 (lv_at hl 0 rfl) ?_
                      refine n_if_ge hx hb (by omega) (tgt := 77) dX6_readsPerson_72 (by decide) (fun c_54 => ?_) (fun c_54 => ?_)
                      · refine lv_aload_n hx hb dX6_readsPerson_77 rfl (lv_at hl 3 rfl) ?_
                        refine lv_iload_n hx hb dX6_readsPerson_78 rfl (lv_at hl 2 rfl) ?_
                        refine lv_iconst (v := nI 1) hx hb dX6_readsPerson_79 rfl ?_
                        refine lv_iload_n hx hb dX6_readsPerson_80 rfl (lv_at hl 1 rfl) ?_
                        refine n_iadd hx hb dX6_readsPerson_81 ?_
                        refine n_top (y := nI 2) rfl ?_
                        refine lv_iload hx hb dX6_readsPerson_82 (lv_at hl 0 rfl) ?_
                        refine callVV (rest := []) (wn := fun u => [mT b ζ tb ln (adN tb ln (adN tb ln (adN tb ln (adN tb ln (adN tb ln s0))))), (b 5, .inl (G.2.1, 120, .inl (nF tb))), (b 1, .inl (G.2.1, 46, .inl (nF (un (un (addN σ kd) (pl (σ 5) 1) (nmN tb ln (adN tb ln (adN tb ln s0)))) (pl (σ 5) 2) (nmN tb ln (adN tb ln (adN tb ln (adN tb ln (adN tb ln s0))))))))), (b 7, .inl (G.2.2.2, 24, .inl (nF ch1)))]) ⟨hx, hb, hml, hown, hts⟩ (c_X6_puts l G H.size b (un (un (un ζ 2 (tkN tb ln (adN tb ln (adN tb ln (adN tb ln (adN tb ln (adN tb ln s0))))))) 3 (adN tb ln (adN tb ln (adN tb ln (adN tb ln (adN tb ln s0)))))) 4 (enN tb ln (adN tb ln (adN tb ln (adN tb ln (adN tb ln (adN tb ln s0))))))) (lN (vaN tb ln (adN tb ln (adN tb ln (adN tb ln (adN tb ln (adN tb ln s0))))))) (un (addN σ kd) (pl (σ 5) 1) (nmN tb ln (adN tb ln (adN tb ln s0)))) (σ 5) 2 (nmN tb ln (adN tb ln (adN tb ln (adN tb ln (adN tb ln s0))))) (by omega) (by omega)) (cwV 3 hts gX6_readsPerson_X6_puts rfl rfl rfl (by decide +kernel) ⟨Nat.le_of_ble_eq_true rfl, Nat.le_of_ble_eq_true rfl⟩) noXB (fun _ _ _ => trivial) hK hP hD hS hAq 5 0 (T := TX6) (N := 18) rfl rfl rfl hl.1 rfl (Nat.le_of_ble_eq_true rfl) dX6_readsPerson_84 ⟨Nat.le_of_ble_eq_true rfl, Nat.le_of_ble_eq_true rfl⟩ [0, 2] rfl rfl [b 0, b 1] rfl (fun _ => rfl) (fun _ => rfl) (fun u H locs hok hP hD hS => ?_)
                        have hs1 : psB tb ln kd s0 σ = (true, adN tb ln (adN tb ln (adN tb ln (adN tb ln (adN tb ln s0)))), un (un (addN σ kd) (pl (σ 5) 1) (nmN tb ln (adN tb ln (adN tb ln s0)))) (pl (σ 5) 2) (nmN tb ln (adN tb ln (adN tb ln (adN tb ln (adN tb ln s0)))))) := by unfold psB; rw [hs0]; dsimp only; unfold phN; rw [if_pos hw1, if_pos hnu]
                        refine n_iinc (lv' := [(3, .int (nI 2)), (4, .int (nI (nmN tb ln (adN tb ln (adN tb ln (adN tb ln (adN tb ln s0))))))), (2, .int (nI (σ 5))), (0, .ref (b 0)), (1, .int (nI kd))]) hx hb dX6_readsPerson_87 hl (k := 1) rfl (by decide) rfl (fun ls hl => ?_)
                        refine lv_goto (tgt := 31) hx hb dX6_readsPerson_90 (by decide) ?_
                        refine lv_iload_n hx hb dX6_readsPerson_31 rfl (lv_at hl 0 rfl) ?_
                        refine lv_iconst (v := nI 3) hx hb dX6_readsPerson_32 rfl ?_
                        refine n_icmp_ge hx hb (by omega) (by omega) (tgt := 93) dX6_readsPerson_33 (by decide) (fun c_55 => ?_) (fun c_55 => ?_)
                        · omega
                        · refine lv_aload_n hx hb dX6_readsPerson_36 rfl (lv_at hl 3 rfl) ?_
                          refine lv_aload_n hx hb dX6_readsPerson_37 rfl (lv_at hl 3 rfl) ?_
                          refine n_get (C := RX6) (T := TX6) (N := 18) hx hb hts (fun _ h => List.mem_cons_of_mem _ (List.mem_append_right _ h)) hown hK hP 0 rfl rfl 12 (by decide) (List.mem_of_getElem? (i := 2) rfl) rfl (.ref (b 7)) rfl dX6_readsPerson_38 ?_
                          refine callVI (rest := []) (wn := fun u => [mT b ζ tb ln (adN tb ln (adN tb ln (adN tb ln (adN tb ln (adN tb ln s0))))), (b 5, .inl (G.2.1, 120, .inl (nF tb))), (b 1, .inl (G.2.1, 46, .inl (nF (un (un (addN σ kd) (pl (σ 5) 1) (nmN tb ln (adN tb ln (adN tb ln s0)))) (pl (σ 5) 2) (nmN tb ln (adN tb ln (adN tb ln (adN tb ln (adN tb ln s0))))))))), (b 7, .inl (G.2.2.2, 24, .inl (nF ch1)))]) ⟨hx, hb, hml, hown, hts⟩ (c_X6_wordOf l G H.size b ζ tb ln (adN tb ln (adN tb ln (adN tb ln (adN tb ln (adN tb ln s0))))) h1 (by omega) (by omega) htb (b 7) 3 6 ch1 (by decide) ch1_ok ch1_pk) (cwV 1 hts gX6_readsPerson_X6_wordOf rfl rfl rfl (by decide +kernel) ⟨Nat.le_of_ble_eq_true rfl, Nat.le_of_ble_eq_true rfl⟩) noXB (fun _ _ _ => trivial) hK hP hD hS hAq 5 0 (T := TX6) (N := 18) rfl rfl rfl hl.1 rfl (Nat.le_of_ble_eq_true rfl) dX6_readsPerson_41 ⟨Nat.le_of_ble_eq_true rfl, Nat.le_of_ble_eq_true rfl⟩ [0, 3] rfl rfl [b 0, b 7] rfl (fun _ => rfl) (fun _ => rfl) (fun u H locs hok hP hD hS => ?_)
                          refine lv_iload_n hx hb dX6_readsPerson_44 rfl (lv_at hl 0 rfl) ?_
                          refine r_icmp_ne hx hb (tgt := 87) dX6_readsPerson_45 (by decide) (fun c_56 => ?_) (fun c_56 => ?_)
                          · rw [nI_T (by omega)] at c_56
                            have hw2 : ¬ isW tb ln 8 (adN tb ln (adN tb ln (adN tb ln (adN tb ln (adN tb ln s0))))) := fun h => c_56 ((wo_at (b0 := 6) (w := 2) (n := 3) (by decide) (by decide)).mpr h)
                            have hs2 : psC tb ln kd s0 σ = (true, adN tb ln (adN tb ln (adN tb ln (adN tb ln (adN tb ln s0)))), un (un (addN σ kd) (pl (σ 5) 1) (nmN tb ln (adN tb ln (adN tb ln s0)))) (pl (σ 5) 2) (nmN tb ln (adN tb ln (adN tb ln (adN tb ln (adN tb ln s0)))))) := by unfold psC; rw [hs1]; dsimp only; unfold phN; rw [if_neg hw2]
                            refine n_iinc (lv' := [(3, .int (nI 3)), (4, .int (nI (nmN tb ln (adN tb ln (adN tb ln (adN tb ln (adN tb ln s0))))))), (2, .int (nI (σ 5))), (0, .ref (b 0)), (1, .int (nI kd))]) hx hb dX6_readsPerson_87 hl (k := 0) rfl (by decide) rfl (fun ls hl => ?_)
                            refine lv_goto (tgt := 31) hx hb dX6_readsPerson_90 (by decide) ?_
                            refine lv_iload_n hx hb dX6_readsPerson_31 rfl (lv_at hl 0 rfl) ?_
                            refine lv_iconst (v := nI 3) hx hb dX6_readsPerson_32 rfl ?_
                            refine n_icmp_ge hx hb (by omega) (by omega) (tgt := 93) dX6_readsPerson_33 (by decide) (fun c_57 => ?_) (fun c_57 => ?_)
                            · refine lv_iconst (v := nI 1) hx hb dX6_readsPerson_93 rfl ?_
                              have hps : psN tb ln kd s0 σ = (true, adN tb ln (adN tb ln (adN tb ln (adN tb ln (adN tb ln s0)))), un (un (addN σ kd) (pl (σ 5) 1) (nmN tb ln (adN tb ln (adN tb ln s0)))) (pl (σ 5) 2) (nmN tb ln (adN tb ln (adN tb ln (adN tb ln (adN tb ln s0)))))) := by unfold psN; rw [if_pos h58, if_pos (show (psA tb ln kd s0 σ).1 = true from congrArg Prod.fst hs0), if_pos (show (psB tb ln kd s0 σ).1 = true from congrArg Prod.fst hs1), hs2]
                              exact fin_z (ty := .boolean) (by decide) hx hb hr hlk hS hP hD () trivial (by rw [hps]; rfl) (by rw [hps]; exact eqW.rf _) dX6_readsPerson_94
                            · omega
                          · rw [nI_T (by omega)] at c_56
                            have hw2 : isW tb ln 8 (adN tb ln (adN tb ln (adN tb ln (adN tb ln (adN tb ln s0))))) := (wo_at (b0 := 6) (w := 2) (n := 3) (by decide) (by decide)).mp (by omega)
                            refine lv_aload_n hx hb dX6_readsPerson_48 rfl (lv_at hl 3 rfl) ?_
                            have had_58 := ad_le (tb := tb) (ln := ln) (s := (adN tb ln (adN tb ln (adN tb ln (adN tb ln (adN tb ln s0)))))) (by omega)
                            refine callVV (rest := []) (wn := fun u => [mT b ζ tb ln (adN tb ln (adN tb ln (adN tb ln (adN tb ln (adN tb ln (adN tb ln s0)))))), (b 5, .inl (G.2.1, 120, .inl (nF tb))), (b 1, .inl (G.2.1, 46, .inl (nF (un (un (addN σ kd) (pl (σ 5) 1) (nmN tb ln (adN tb ln (adN tb ln s0)))) (pl (σ 5) 2) (nmN tb ln (adN tb ln (adN tb ln (adN tb ln (adN tb ln s0))))))))), (b 7, .inl (G.2.2.2, 24, .inl (nF ch1)))]) ⟨hx, hb, hml, hown, hts⟩ (c_nextA l G H.size b ζ tb ln (adN tb ln (adN tb ln (adN tb ln (adN tb ln (adN tb ln s0))))) h1 (by omega) (by omega) htb) (cwV 0 hts gX6_readsPerson_X6_nextToken rfl rfl rfl (by decide +kernel) ⟨Nat.le_of_ble_eq_true rfl, Nat.le_of_ble_eq_true rfl⟩) noXB (fun _ _ _ => trivial) hK hP hD hS hAq 5 0 (T := TX6) (N := 18) rfl rfl rfl hl.1 rfl (Nat.le_of_ble_eq_true rfl) dX6_readsPerson_49 ⟨Nat.le_of_ble_eq_true rfl, Nat.le_of_ble_eq_true rfl⟩ [0, 1] rfl rfl [b 0, b 5] rfl (fun _ => rfl) (fun _ => rfl) (fun u H locs hok hP hD hS => ?_)
                            refine lv_aload_n hx hb dX6_readsPerson_52 rfl (lv_at hl 3 rfl) ?_
                            refine lv_iconst (v := nI 0) hx hb dX6_readsPerson_53 rfl ?_
                            refine lv_iload_n hx hb dX6_readsPerson_54 rfl (lv_at hl 0 rfl) ?_
                            refine n_if_ne hx hb (by omega) (tgt := 63) dX6_readsPerson_55 (by decide) (fun c_59 => ?_) (fun c_59 => ?_)
                            · refine lv_bipush (v := nI 99) hx hb dX6_readsPerson_63 rfl ?_
                              refine callVI (rest := []) (wn := fun u => [mT b ζ tb ln (tnP tb ln (adN tb ln (adN tb ln (adN tb ln (adN tb ln (adN tb ln (adN tb ln s0)))))) 99), (b 5, .inl (G.2.1, 120, .inl (nF tb))), (b 1, .inl (G.2.1, 46, .inl (nF (un (un (addN σ kd) (pl (σ 5) 1) (nmN tb ln (adN tb ln (adN tb ln s0)))) (pl (σ 5) 2) (nmN tb ln (adN tb ln (adN tb ln (adN tb ln (adN tb ln s0))))))))), (b 7, .inl (G.2.2.2, 24, .inl (nF ch1)))]) ⟨hx, hb, hml, hown, hts⟩ (c_X6_takesNumber l G H.size b ζ tb ln (adN tb ln (adN tb ln (adN tb ln (adN tb ln (adN tb ln (adN tb ln s0)))))) h1 (by omega) (by omega) htb 99 (by decide)) (cwV 2 hts gX6_readsPerson_X6_takesNumber rfl rfl rfl (by decide +kernel) ⟨Nat.le_of_ble_eq_true rfl, Nat.le_of_ble_eq_true rfl⟩) noXB (fun _ _ _ => trivial) hK hP hD hS hAq 5 0 (T := TX6) (N := 18) rfl rfl rfl hl.1 rfl (Nat.le_of_ble_eq_true rfl) dX6_readsPerson_65 ⟨Nat.le_of_ble_eq_true rfl, Nat.le_of_ble_eq_true rfl⟩ [0, 1] rfl rfl [b 0, b 5] rfl (fun _ => rfl) (fun _ => rfl) (fun u H locs hok hP hD hS => ?_)
                              have hnm9 := nm_le tb ln (adN tb ln (adN tb ln (adN tb ln (adN tb ln (adN tb ln (adN tb ln s0))))))
                              by_cases hnu : isNu tb ln (adN tb ln (adN tb ln (adN tb ln (adN tb ln (adN tb ln (adN tb ln s0)))))) 99
                              · have e1 : tnP tb ln (adN tb ln (adN tb ln (adN tb ln (adN tb ln (adN tb ln (adN tb ln s0)))))) 99 = adN tb ln (adN tb ln (adN tb ln (adN tb ln (adN tb ln (adN tb ln (adN tb ln s0)))))) := if_pos hnu
                                rw [e1] at hP hD
                                refine n_top (y := nI (nmN tb ln (adN tb ln (adN tb ln (adN tb ln (adN tb ln (adN tb ln (adN tb ln s0)))))))) (show tnV tb ln (adN tb ln (adN tb ln (adN tb ln (adN tb ln (adN tb ln (adN tb ln s0)))))) 99 = _ from if_pos hnu) ?_
                                have hen_60 := en_le (tb := tb) (ln := ln) (s := (adN tb ln (adN tb ln (adN tb ln (adN tb ln (adN tb ln (adN tb ln s0))))))) (by omega)
                                have had_61 := ad_le (tb := tb) (ln := ln) (s := (adN tb ln (adN tb ln (adN tb ln (adN tb ln (adN tb ln (adN tb ln s0))))))) (by omega)
                                refine lv_istore (lv' := [(4, .int (nI (nmN tb ln (adN tb ln (adN tb ln (adN tb ln (adN tb ln (adN tb ln (adN tb ln s0))))))))), (3, .int (nI 2)), (2, .int (nI (σ 5))), (0, .ref (b 0)), (1, .int (nI kd))]) hx hb dX6_readsPerson_68 hl (by decide) rfl (fun ls hl => ?_)
                                refine lv_iload hx hb dX6_readsPerson_70 (lv_at hl 0 rfl) ?_
                                refine n_if_ge hx hb (by omega) (tgt := 77) dX6_readsPerson_72 (by decide) (fun c_62 => ?_) (fun c_62 => ?_)
                                · refine lv_aload_n hx hb dX6_readsPerson_77 rfl (lv_at hl 3 rfl) ?_
                                  refine lv_iload_n hx hb dX6_readsPerson_78 rfl (lv_at hl 2 rfl) ?_
                                  refine lv_iconst (v := nI 1) hx hb dX6_readsPerson_79 rfl ?_
                                  refine lv_iload_n hx hb dX6_readsPerson_80 rfl (lv_at hl 1 rfl) ?_
                                  refine n_iadd hx hb dX6_readsPerson_81 ?_
                                  refine n_top (y := nI 3) rfl ?_
                                  refine lv_iload hx hb dX6_readsPerson_82 (lv_at hl 0 rfl) ?_
                                  refine callVV (rest := []) (wn := fun u => [mT b ζ tb ln (adN tb ln (adN tb ln (adN tb ln (adN tb ln (adN tb ln (adN tb ln (adN tb ln s0))))))), (b 5, .inl (G.2.1, 120, .inl (nF tb))), (b 1, .inl (G.2.1, 46, .inl (nF (un (un (un (addN σ kd) (pl (σ 5) 1) (nmN tb ln (adN tb ln (adN tb ln s0)))) (pl (σ 5) 2) (nmN tb ln (adN tb ln (adN tb ln (adN tb ln (adN tb ln s0)))))) (pl (σ 5) 3) (nmN tb ln (adN tb ln (adN tb ln (adN tb ln (adN tb ln (adN tb ln (adN tb ln s0))))))))))), (b 7, .inl (G.2.2.2, 24, .inl (nF ch1)))]) ⟨hx, hb, hml, hown, hts⟩ (c_X6_puts l G H.size b (un (un (un ζ 2 (tkN tb ln (adN tb ln (adN tb ln (adN tb ln (adN tb ln (adN tb ln (adN tb ln (adN tb ln s0))))))))) 3 (adN tb ln (adN tb ln (adN tb ln (adN tb ln (adN tb ln (adN tb ln (adN tb ln s0)))))))) 4 (enN tb ln (adN tb ln (adN tb ln (adN tb ln (adN tb ln (adN tb ln (adN tb ln (adN tb ln s0))))))))) (lN (vaN tb ln (adN tb ln (adN tb ln (adN tb ln (adN tb ln (adN tb ln (adN tb ln (adN tb ln s0))))))))) (un (un (addN σ kd) (pl (σ 5) 1) (nmN tb ln (adN tb ln (adN tb ln s0)))) (pl (σ 5) 2) (nmN tb ln (adN tb ln (adN tb ln (adN tb ln (adN tb ln s0)))))) (σ 5) 3 (nmN tb ln (adN tb ln (adN tb ln (adN tb ln (adN tb ln (adN tb ln (adN tb ln s0))))))) (by omega) (by omega)) (cwV 3 hts gX6_readsPerson_X6_puts rfl rfl rfl (by decide +kernel) ⟨Nat.le_of_ble_eq_true rfl, Nat.le_of_ble_eq_true rfl⟩) noXB (fun _ _ _ => trivial) hK hP hD hS hAq 5 0 (T := TX6) (N := 18) rfl rfl rfl hl.1 rfl (Nat.le_of_ble_eq_true rfl) dX6_readsPerson_84 ⟨Nat.le_of_ble_eq_true rfl, Nat.le_of_ble_eq_true rfl⟩ [0, 2] rfl rfl [b 0, b 1] rfl (fun _ => rfl) (fun _ => rfl) (fun u H locs hok hP hD hS => ?_)
                                  have hs2 : psC tb ln kd s0 σ = (true, adN tb ln (adN tb ln (adN tb ln (adN tb ln (adN tb ln (adN tb ln (adN tb ln s0)))))), un (un (un (addN σ kd) (pl (σ 5) 1) (nmN tb ln (adN tb ln (adN tb ln s0)))) (pl (σ 5) 2) (nmN tb ln (adN tb ln (adN tb ln (adN tb ln (adN tb ln s0)))))) (pl (σ 5) 3) (nmN tb ln (adN tb ln (adN tb ln (adN tb ln (adN tb ln (adN tb ln (adN tb ln s0)))))))) := by unfold psC; rw [hs1]; dsimp only; unfold phN; rw [if_pos hw2, if_pos hnu]
                                  refine n_iinc (lv' := [(3, .int (nI 3)), (4, .int (nI (nmN tb ln (adN tb ln (adN tb ln (adN tb ln (adN tb ln (adN tb ln (adN tb ln s0))))))))), (2, .int (nI (σ 5))), (0, .ref (b 0)), (1, .int (nI kd))]) hx hb dX6_readsPerson_87 hl (k := 1) rfl (by decide) rfl (fun ls hl => ?_)
                                  refine lv_goto (tgt := 31) hx hb dX6_readsPerson_90 (by decide) ?_
                                  refine lv_iload_n hx hb dX6_readsPerson_31 rfl (lv_at hl 0 rfl) ?_
                                  refine lv_iconst (v := nI 3) hx hb dX6_readsPerson_32 rfl ?_
                                  refine n_icmp_ge hx hb (by omega) (by omega) (tgt := 93) dX6_readsPerson_33 (by decide) (fun c_63 => ?_) (fun c_63 => ?_)
                                  · refine lv_iconst (v := nI 1) hx hb dX6_readsPerson_93 rfl ?_
                                    have hps : psN tb ln kd s0 σ = (true, adN tb ln (adN tb ln (adN tb ln (adN tb ln (adN tb ln (adN tb ln (adN tb ln s0)))))), un (un (un (addN σ kd) (pl (σ 5) 1) (nmN tb ln (adN tb ln (adN tb ln s0)))) (pl (σ 5) 2) (nmN tb ln (adN tb ln (adN tb ln (adN tb ln (adN tb ln s0)))))) (pl (σ 5) 3) (nmN tb ln (adN tb ln (adN tb ln (adN tb ln (adN tb ln (adN tb ln (adN tb ln s0)))))))) := by unfold psN; rw [if_pos h58, if_pos (show (psA tb ln kd s0 σ).1 = true from congrArg Prod.fst hs0), if_pos (show (psB tb ln kd s0 σ).1 = true from congrArg Prod.fst hs1), hs2]
                                    exact fin_z (ty := .boolean) (by decide) hx hb hr hlk hS hP hD () trivial (by rw [hps]; rfl) (by rw [hps]; exact eqW.rf _) dX6_readsPerson_94
                                  · omega
                                · omega
                              · have e1 : tnP tb ln (adN tb ln (adN tb ln (adN tb ln (adN tb ln (adN tb ln (adN tb ln s0)))))) 99 = adN tb ln (adN tb ln (adN tb ln (adN tb ln (adN tb ln (adN tb ln s0))))) := if_neg hnu
                                rw [e1] at hP hD
                                refine n_top (y := (-1)) (show tnV tb ln (adN tb ln (adN tb ln (adN tb ln (adN tb ln (adN tb ln (adN tb ln s0)))))) 99 = _ from if_neg hnu) ?_
                                have hm1 : ((-1) : Int32).toInt = -1 := by decide
                                have hs2 : psC tb ln kd s0 σ = (false, adN tb ln (adN tb ln (adN tb ln (adN tb ln (adN tb ln (adN tb ln s0))))), un (un (addN σ kd) (pl (σ 5) 1) (nmN tb ln (adN tb ln (adN tb ln s0)))) (pl (σ 5) 2) (nmN tb ln (adN tb ln (adN tb ln (adN tb ln (adN tb ln s0)))))) := by unfold psC; rw [hs1]; dsimp only; unfold phN; rw [if_pos hw2, if_neg hnu]
                                refine lv_istore (lv' := [(4, .int (-1)), (3, .int (nI 2)), (2, .int (nI (σ 5))), (0, .ref (b 0)), (1, .int (nI kd))]) hx hb dX6_readsPerson_68 hl (by decide) rfl (fun ls hl => ?_)
                                refine lv_iload hx hb dX6_readsPerson_70 (lv_at hl 0 rfl) ?_
                                refine r_if_ge hx hb (tgt := 77) dX6_readsPerson_72 (by decide) (fun c_64 => ?_) (fun c_64 => ?_)
                                · omega
                                · refine lv_iconst (v := nI 0) hx hb dX6_readsPerson_75 rfl ?_
                                  have hps : psN tb ln kd s0 σ = (false, adN tb ln (adN tb ln (adN tb ln (adN tb ln (adN tb ln (adN tb ln s0))))), un (un (addN σ kd) (pl (σ 5) 1) (nmN tb ln (adN tb ln (adN tb ln s0)))) (pl (σ 5) 2) (nmN tb ln (adN tb ln (adN tb ln (adN tb ln (adN tb ln s0)))))) := by unfold psN; rw [if_pos h58, if_pos (show (psA tb ln kd s0 σ).1 = true from congrArg Prod.fst hs0), if_pos (show (psB tb ln kd s0 σ).1 = true from congrArg Prod.fst hs1), hs2]
                                  exact fin_z (ty := .boolean) (by decide) hx hb hr hlk hS hP hD () trivial (by rw [hps]; rfl) (by rw [hps]; exact eqW.rf _) dX6_readsPerson_76
                            · omega
                      · omega
                    · have e1 : tnP tb ln (adN tb ln (adN tb ln (adN tb ln (adN tb ln s0)))) 99 = adN tb ln (adN tb ln (adN tb ln (adN tb ln s0))) := if_neg hnu
                      rw [e1] at hP hD
                      refine n_top (y := (-1)) (show tnV tb ln (adN tb ln (adN tb ln (adN tb ln (adN tb ln s0)))) 99 = _ from if_neg hnu) ?_
                      have hm1 : ((-1) : Int32).toInt = -1 := by decide
                      have hs1 : psB tb ln kd s0 σ = (false, adN tb ln (adN tb ln (adN tb ln (adN tb ln s0))), un (addN σ kd) (pl (σ 5) 1) (nmN tb ln (adN tb ln (adN tb ln s0)))) := by unfold psB; rw [hs0]; dsimp only; unfold phN; rw [if_pos hw1, if_neg hnu]
                      refine lv_istore (lv' := [(4, .int (-1)), (3, .int (nI 1)), (2, .int (nI (σ 5))), (0, .ref (b 0)), (1, .int (nI kd))]) hx hb dX6_readsPerson_68 hl (by decide) rfl (fun ls hl => ?_)
                      refine lv_iload hx hb dX6_readsPerson_70 (lv_at hl 0 rfl) ?_
                      refine r_if_ge hx hb (tgt := 77) dX6_readsPerson_72 (by decide) (fun c_65 => ?_) (fun c_65 => ?_)
                      · omega
                      · refine lv_iconst (v := nI 0) hx hb dX6_readsPerson_75 rfl ?_
                        have hps : psN tb ln kd s0 σ = (false, adN tb ln (adN tb ln (adN tb ln (adN tb ln s0))), un (addN σ kd) (pl (σ 5) 1) (nmN tb ln (adN tb ln (adN tb ln s0)))) := by unfold psN; rw [if_pos h58, if_pos (show (psA tb ln kd s0 σ).1 = true from congrArg Prod.fst hs0), if_neg (show ¬ (psB tb ln kd s0 σ).1 = true from fun h => Bool.false_ne_true ((congrArg Prod.fst hs1).symm.trans h)), hs1]
                        exact fin_z (ty := .boolean) (by decide) hx hb hr hlk hS hP hD () trivial (by rw [hps]; rfl) (by rw [hps]; exact eqW.rf _) dX6_readsPerson_76
                  · omega
            · omega
          · have e1 : tnP tb ln (adN tb ln (adN tb ln s0)) 20 = adN tb ln (adN tb ln s0) := if_neg hnu
            rw [e1] at hP hD
            refine n_top (y := (-1)) (show tnV tb ln (adN tb ln (adN tb ln s0)) 20 = _ from if_neg hnu) ?_
            have hm1 : ((-1) : Int32).toInt = -1 := by decide
            have hs0 : psA tb ln kd s0 σ = (false, adN tb ln (adN tb ln s0), addN σ kd) := by unfold psA; unfold phN; rw [if_pos hw0, if_neg hnu]
            refine lv_istore (lv' := [(4, .int (-1)), (3, .int (nI 0)), (2, .int (nI (σ 5))), (0, .ref (b 0)), (1, .int (nI kd))]) hx hb dX6_readsPerson_68 hl (by decide) rfl (fun ls hl => ?_)
            refine lv_iload hx hb dX6_readsPerson_70 (lv_at hl 0 rfl) ?_
            refine r_if_ge hx hb (tgt := 77) dX6_readsPerson_72 (by decide) (fun c_66 => ?_) (fun c_66 => ?_)
            · omega
            · refine lv_iconst (v := nI 0) hx hb dX6_readsPerson_75 rfl ?_
              have hps : psN tb ln kd s0 σ = (false, adN tb ln (adN tb ln s0), addN σ kd) := by unfold psN; rw [if_pos h58, if_neg (show ¬ (psA tb ln kd s0 σ).1 = true from fun h => Bool.false_ne_true ((congrArg Prod.fst hs0).symm.trans h)), hs0]
              exact fin_z (ty := .boolean) (by decide) hx hb hr hlk hS hP hD () trivial (by rw [hps]; rfl) (by rw [hps]; exact eqW.rf _) dX6_readsPerson_76
  · refine lv_iconst (v := nI 0) hx hb dX6_readsPerson_11 rfl ?_
    have hps : psN tb ln kd s0 σ = (false, s0, σ) := by unfold psN; rw [if_neg (by omega)]
    exact fin_z (ty := .boolean) (by decide) hx hb hr hlk hS hP hD () trivial (by rw [hps]; rfl) (by rw [hps]; exact eqW.rf _) dX6_readsPerson_12
set_option maxHeartbeats 400000 in
set_option maxRecDepth 100000 in
theorem c_X6_readsItem (l : Launch) (G : GT) (sz : Nat) (b : Nat → Nat) (ζ : Nat → Nat) (tb : Nat → Nat) (ln s0 : Nat) (h1 : ζ 1 = ln) (hln : ln ≤ 120) (hs0 : s0 ≤ ln) (htb : ∀ j, tb j < 256) (σ : Sg) (h5 : σ 5 ≤ 8) : MI (S := Nat → Int32) l G noX yX6_readsItem wsX6_readsItem ({ frames := 5, cells := 0, slots := 0, locals := 109 } : Room) [.ref (b 0)] ([mT b ζ tb ln s0, (b 5, .inl (G.2.1, 120, .inl (nF tb))), (b 1, .inl (G.2.1, 46, .inl (nF σ))), (b 6, .inl (G.2.2.2, 48, .inl (nF ch0))), (b 7, .inl (G.2.2.2, 24, .inl (nF ch1))), (b 8, .inl (G.2.2.2, 16, .inl (nF ch2)))]) sz (fun u => (itN tb ln s0 σ).1 = true → u = nF (itN tb ln s0 σ).2.2) (fun u => zI ((itN tb ln s0 σ).1 = true)) (fun u => [mT b ζ tb ln ((itN tb ln s0 σ).2.1), (b 5, .inl (G.2.1, 120, .inl (nF tb))), (b 1, .inl (G.2.1, 46, .inl u)), (b 6, .inl (G.2.2.2, 48, .inl (nF ch0))), (b 7, .inl (G.2.2.2, 24, .inl (nF ch1))), (b 8, .inl (G.2.2.2, 16, .inl (nF ch2)))]) := by
  refine MI_enter (cc := cX6_readsItem) (maxL := 4) (ret := (some .boolean)) (by decide) rfl (Nat.le_of_ble_eq_true rfl) ?_
  intro p e s m below meth c A ls H hx hb hr hlk hml hown hts hAq hS hP hK hD hX hl hnm
  have hown : s.vm.findClass RX6 = some m.cls := hown
  have hl : lv_has ls 4 [(0, .ref (b 0))] := hl
  refine lv_aload_n hx hb dX6_readsItem_0 rfl (lv_at hl 0 rfl) ?_
  refine lv_aload_n hx hb dX6_readsItem_1 rfl (lv_at hl 0 rfl) ?_
  refine n_get (C := RX6) (T := TX6) (N := 18) hx hb hts (fun _ h => List.mem_cons_of_mem _ (List.mem_append_right _ h)) hown hK hP 0 rfl rfl 11 (by decide) (List.mem_of_getElem? (i := 1) rfl) rfl (.ref (b 6)) rfl dX6_readsItem_2 ?_
  refine callVI (rest := []) (wn := fun u => [mT b ζ tb ln s0, (b 5, .inl (G.2.1, 120, .inl (nF tb))), (b 1, .inl (G.2.1, 46, .inl (nF σ))), (b 6, .inl (G.2.2.2, 48, .inl (nF ch0))), (b 7, .inl (G.2.2.2, 24, .inl (nF ch1))), (b 8, .inl (G.2.2.2, 16, .inl (nF ch2)))]) ⟨hx, hb, hml, hown, hts⟩ (c_X6_wordOf l G H.size b ζ tb ln s0 h1 (by omega) (by omega) htb (b 6) 6 0 ch0 (by decide) ch0_ok ch0_pk) (cwV 1 hts gX6_readsItem_X6_wordOf rfl rfl rfl (by decide +kernel) ⟨Nat.le_of_ble_eq_true rfl, Nat.le_of_ble_eq_true rfl⟩) noXB (fun _ _ _ => trivial) hK hP hD hS hAq 5 0 (T := TX6) (N := 18) rfl rfl rfl hl.1 rfl (Nat.le_of_ble_eq_true rfl) dX6_readsItem_5 ⟨Nat.le_of_ble_eq_true rfl, Nat.le_of_ble_eq_true rfl⟩ [0, 3] rfl rfl [b 0, b 6] rfl (fun _ => rfl) (fun _ => rfl) (fun u H locs hok hP hD hS => ?_)
  by_cases hk6 : kiN tb ln s0 < 6
  · refine n_top (y := nI (kiN tb ln s0)) ((wo_ki tb ln s0).trans (show kiV tb ln s0 = _ from if_pos hk6)) ?_
    refine lv_istore_n (lv' := [(1, .int (nI (kiN tb ln s0))), (0, .ref (b 0))]) hx hb dX6_readsItem_8 rfl hl (by decide) rfl (fun ls hl => ?_)
    refine lv_iload_n hx hb dX6_readsItem_9 rfl (lv_at hl 0 rfl) ?_
    refine n_if_lt hx hb (by omega) (tgt := 19) dX6_readsItem_10 (by decide) (fun c_1 => ?_) (fun c_1 => ?_)
    · omega
    · refine lv_aload_n hx hb dX6_readsItem_13 rfl (lv_at hl 1 rfl) ?_
      refine lv_iload_n hx hb dX6_readsItem_14 rfl (lv_at hl 0 rfl) ?_
      have hps_2 := ps_le (tb := tb) (ln := ln) (kd := kiN tb ln s0) (s := s0) (σ := σ) (by omega)
      refine callVI (rest := []) (wn := fun u => [mT b ζ tb ln ((psN tb ln (kiN tb ln s0) s0 σ).2.1), (b 5, .inl (G.2.1, 120, .inl (nF tb))), (b 1, .inl (G.2.1, 46, .inl (nF ((psN tb ln (kiN tb ln s0) s0 σ).2.2)))), (b 6, .inl (G.2.2.2, 48, .inl (nF ch0))), (b 7, .inl (G.2.2.2, 24, .inl (nF ch1))), (b 8, .inl (G.2.2.2, 16, .inl (nF ch2)))]) ⟨hx, hb, hml, hown, hts⟩ (c_X6_readsPerson l G H.size b ζ tb ln s0 h1 (by omega) (by omega) htb σ (kiN tb ln s0) (by omega)) (cwV 1 hts gX6_readsItem_X6_readsPerson rfl rfl rfl (by decide +kernel) ⟨Nat.le_of_ble_eq_true rfl, Nat.le_of_ble_eq_true rfl⟩) noXB (fun _ _ _ => trivial) hK hP hD hS hAq 5 0 (T := TX6) (N := 18) rfl rfl rfl hl.1 rfl (Nat.le_of_ble_eq_true rfl) dX6_readsItem_15 ⟨Nat.le_of_ble_eq_true rfl, Nat.le_of_ble_eq_true rfl⟩ [0, 1, 2, 4] rfl rfl [b 0, b 5, b 1, b 7] rfl (fun _ => rfl) (fun _ => rfl) (fun u H locs hok hP hD hS => ?_)
      have hit : itN tb ln s0 σ = psN tb ln (kiN tb ln s0) s0 σ := by unfold itN; rw [if_pos hk6]
      exact fin_z (ty := .boolean) zI_n hx hb hr hlk hS hP hD (nF ((psN tb ln (kiN tb ln s0) s0 σ).2.2)) (fun _ => by rw [hit]) (by rw [hit]) (by rw [hit]; exact eqW.rf _) dX6_readsItem_18
  · refine n_top (y := (-1)) ((wo_ki tb ln s0).trans (show kiV tb ln s0 = _ from if_neg hk6)) ?_
    have hm1 : ((-1) : Int32).toInt = -1 := by decide
    refine lv_istore_n (lv' := [(1, .int (-1)), (0, .ref (b 0))]) hx hb dX6_readsItem_8 rfl hl (by decide) rfl (fun ls hl => ?_)
    refine lv_iload_n hx hb dX6_readsItem_9 rfl (lv_at hl 0 rfl) ?_
    refine r_if_lt hx hb (tgt := 19) dX6_readsItem_10 (by decide) (fun c_3 => ?_) (fun c_3 => ?_)
    · refine lv_aload_n hx hb dX6_readsItem_19 rfl (lv_at hl 1 rfl) ?_
      refine lv_aload_n hx hb dX6_readsItem_20 rfl (lv_at hl 1 rfl) ?_
      refine n_get (C := RX6) (T := TX6) (N := 18) hx hb hts (fun _ h => List.mem_cons_of_mem _ (List.mem_append_right _ h)) hown hK hP 0 rfl rfl 13 (by decide) (List.mem_of_getElem? (i := 2) rfl) rfl (.ref (b 8)) rfl dX6_readsItem_21 ?_
      refine callVI (rest := []) (wn := fun u => [mT b ζ tb ln s0, (b 5, .inl (G.2.1, 120, .inl (nF tb))), (b 1, .inl (G.2.1, 46, .inl (nF σ))), (b 6, .inl (G.2.2.2, 48, .inl (nF ch0))), (b 7, .inl (G.2.2.2, 24, .inl (nF ch1))), (b 8, .inl (G.2.2.2, 16, .inl (nF ch2)))]) ⟨hx, hb, hml, hown, hts⟩ (c_X6_wordOf l G H.size b ζ tb ln s0 h1 (by omega) (by omega) htb (b 8) 2 9 ch2 (by decide) ch2_ok ch2_pk) (cwV 1 hts gX6_readsItem_X6_wordOf rfl rfl rfl (by decide +kernel) ⟨Nat.le_of_ble_eq_true rfl, Nat.le_of_ble_eq_true rfl⟩) noXB (fun _ _ _ => trivial) hK hP hD hS hAq 5 0 (T := TX6) (N := 18) rfl rfl rfl hl.1 rfl (Nat.le_of_ble_eq_true rfl) dX6_readsItem_24 ⟨Nat.le_of_ble_eq_true rfl, Nat.le_of_ble_eq_true rfl⟩ [0, 5] rfl rfl [b 0, b 8] rfl (fun _ => rfl) (fun _ => rfl) (fun u H locs hok hP hD hS => ?_)
      by_cases hw9 : isW tb ln 9 s0
      · refine n_top (wo_9a hw9) ?_
        refine lv_istore_n (lv' := [(2, .int (nI 0)), (1, .int (-1)), (0, .ref (b 0))]) hx hb dX6_readsItem_27 rfl hl (by decide) rfl (fun ls hl => ?_)
        refine lv_iload_n hx hb dX6_readsItem_28 rfl (lv_at hl 0 rfl) ?_
        refine n_if_ge hx hb (by omega) (tgt := 34) dX6_readsItem_29 (by decide) (fun c_4 => ?_) (fun c_4 => ?_)
        · refine lv_aload_n hx hb dX6_readsItem_34 rfl (lv_at hl 2 rfl) ?_
          have had_5 := ad_le (tb := tb) (ln := ln) (s := s0) (by omega)
          refine callVV (rest := []) (wn := fun u => [mT b ζ tb ln (adN tb ln s0), (b 5, .inl (G.2.1, 120, .inl (nF tb))), (b 1, .inl (G.2.1, 46, .inl (nF σ))), (b 6, .inl (G.2.2.2, 48, .inl (nF ch0))), (b 7, .inl (G.2.2.2, 24, .inl (nF ch1))), (b 8, .inl (G.2.2.2, 16, .inl (nF ch2)))]) ⟨hx, hb, hml, hown, hts⟩ (c_nextA l G H.size b ζ tb ln s0 h1 (by omega) (by omega) htb) (cwV 0 hts gX6_readsItem_X6_nextToken rfl rfl rfl (by decide +kernel) ⟨Nat.le_of_ble_eq_true rfl, Nat.le_of_ble_eq_true rfl⟩) noXB (fun _ _ _ => trivial) hK hP hD hS hAq 5 0 (T := TX6) (N := 18) rfl rfl rfl hl.1 rfl (Nat.le_of_ble_eq_true rfl) dX6_readsItem_35 ⟨Nat.le_of_ble_eq_true rfl, Nat.le_of_ble_eq_true rfl⟩ [0, 1] rfl rfl [b 0, b 5] rfl (fun _ => rfl) (fun _ => rfl) (fun u H locs hok hP hD hS => ?_)
          refine lv_aload_n hx hb dX6_readsItem_38 rfl (lv_at hl 2 rfl) ?_
          refine lv_iconst (v := nI 0) hx hb dX6_readsItem_39 rfl ?_
          refine lv_iload_n hx hb dX6_readsItem_40 rfl (lv_at hl 0 rfl) ?_
          refine n_if_ne hx hb (by omega) (tgt := 50) dX6_readsItem_41 (by decide) (fun c_6 => ?_) (fun c_6 => ?_)
          · omega
          · refine lv_sipush (v := nI 999) hx hb dX6_readsItem_44 rfl ?_
            refine lv_goto (tgt := 52) hx hb dX6_readsItem_47 (by decide) ?_
            refine callVI (rest := []) (wn := fun u => [mT b ζ tb ln (tnP tb ln (adN tb ln s0) 999), (b 5, .inl (G.2.1, 120, .inl (nF tb))), (b 1, .inl (G.2.1, 46, .inl (nF σ))), (b 6, .inl (G.2.2.2, 48, .inl (nF ch0))), (b 7, .inl (G.2.2.2, 24, .inl (nF ch1))), (b 8, .inl (G.2.2.2, 16, .inl (nF ch2)))]) ⟨hx, hb, hml, hown, hts⟩ (c_X6_takesNumber l G H.size b ζ tb ln (adN tb ln s0) h1 (by omega) (by omega) htb 999 (by decide)) (cwV 2 hts gX6_readsItem_X6_takesNumber rfl rfl rfl (by decide +kernel) ⟨Nat.le_of_ble_eq_true rfl, Nat.le_of_ble_eq_true rfl⟩) noXB (fun _ _ _ => trivial) hK hP hD hS hAq 5 0 (T := TX6) (N := 18) rfl rfl rfl hl.1 rfl (Nat.le_of_ble_eq_true rfl) dX6_readsItem_52 ⟨Nat.le_of_ble_eq_true rfl, Nat.le_of_ble_eq_true rfl⟩ [0, 1] rfl rfl [b 0, b 5] rfl (fun _ => rfl) (fun _ => rfl) (fun u H locs hok hP hD hS => ?_)
            have hnm9 := nm_le tb ln (adN tb ln s0)
            by_cases hnu : isNu tb ln (adN tb ln s0) 999
            · have e1 : tnP tb ln (adN tb ln s0) 999 = adN tb ln (adN tb ln s0) := if_pos hnu
              rw [e1] at hP hD
              refine n_top (y := nI (nmN tb ln (adN tb ln s0))) (show tnV tb ln (adN tb ln s0) 999 = _ from if_pos hnu) ?_
              have hen_7 := en_le (tb := tb) (ln := ln) (s := (adN tb ln s0)) (by omega)
              have had_8 := ad_le (tb := tb) (ln := ln) (s := (adN tb ln s0)) (by omega)
              refine lv_istore_n (lv' := [(3, .int (nI (nmN tb ln (adN tb ln s0)))), (2, .int (nI 0)), (1, .int (-1)), (0, .ref (b 0))]) hx hb dX6_readsItem_55 rfl hl (by decide) rfl (fun ls hl => ?_)
              refine lv_aload_n hx hb dX6_readsItem_56 rfl (lv_at hl 3 rfl) ?_
              refine n_get (C := RX6) (T := TX6) (N := 18) hx hb hts (fun _ h => List.mem_cons_of_mem _ (List.mem_append_right _ h)) hown hK hP 0 rfl rfl 0 (by decide) (List.mem_of_getElem? (i := 3) rfl) rfl (.ref (b 1)) rfl dX6_readsItem_57 ?_
              refine lv_iconst (v := nI 1) hx hb dX6_readsItem_60 rfl ?_
              refine lv_iload_n hx hb dX6_readsItem_61 rfl (lv_at hl 1 rfl) ?_
              refine n_iadd hx hb dX6_readsItem_62 ?_
              refine n_top (y := nI 1) rfl ?_
              refine lv_iload_n hx hb dX6_readsItem_63 rfl (lv_at hl 0 rfl) ?_
              refine n_iast hx hb hK hP hD hS 2 (wn := [mT b ζ tb ln (adN tb ln (adN tb ln s0)), (b 5, .inl (G.2.1, 120, .inl (nF tb))), (b 1, .inl (G.2.1, 46, .inl (nF (un σ 1 (nmN tb ln (adN tb ln s0)))))), (b 6, .inl (G.2.2.2, 48, .inl (nF ch0))), (b 7, .inl (G.2.2.2, 24, .inl (nF ch1))), (b 8, .inl (G.2.2.2, 16, .inl (nF ch2)))]) rfl (by omega) (by omega) (by rw [nF_un]; rfl) dX6_readsItem_64 (fun H locs hP hD hS => ?_)
              refine lv_iload_n hx hb dX6_readsItem_65 rfl (lv_at hl 0 rfl) ?_
              refine n_if_lt hx hb (by omega) (tgt := 73) dX6_readsItem_66 (by decide) (fun c_9 => ?_) (fun c_9 => ?_)
              · omega
              · refine lv_iconst (v := nI 1) hx hb dX6_readsItem_69 rfl ?_
                refine lv_goto (tgt := 74) hx hb dX6_readsItem_70 (by decide) ?_
                have hit : itN tb ln s0 σ = (true, adN tb ln (adN tb ln s0), (un σ 1 (nmN tb ln (adN tb ln s0)))) := by unfold itN; rw [if_neg hk6, if_pos hw9]; unfold egN; rw [if_pos hnu]
                exact fin_z (ty := .boolean) (by decide) hx hb hr hlk hS hP hD (nF (un σ 1 (nmN tb ln (adN tb ln s0)))) (fun _ => by rw [hit]) (by rw [hit]; rfl) (by rw [hit]; exact eqW.rf _) dX6_readsItem_74
            · have e1 : tnP tb ln (adN tb ln s0) 999 = adN tb ln s0 := if_neg hnu
              rw [e1] at hP hD
              refine n_top (y := (-1)) (show tnV tb ln (adN tb ln s0) 999 = _ from if_neg hnu) ?_
              have hm1 : ((-1) : Int32).toInt = -1 := by decide
              refine lv_istore_n (lv' := [(3, .int (-1)), (2, .int (nI 0)), (1, .int (-1)), (0, .ref (b 0))]) hx hb dX6_readsItem_55 rfl hl (by decide) rfl (fun ls hl => ?_)
              refine lv_aload_n hx hb dX6_readsItem_56 rfl (lv_at hl 3 rfl) ?_
              refine n_get (C := RX6) (T := TX6) (N := 18) hx hb hts (fun _ h => List.mem_cons_of_mem _ (List.mem_append_right _ h)) hown hK hP 0 rfl rfl 0 (by decide) (List.mem_of_getElem? (i := 3) rfl) rfl (.ref (b 1)) rfl dX6_readsItem_57 ?_
              refine lv_iconst (v := nI 1) hx hb dX6_readsItem_60 rfl ?_
              refine lv_iload_n hx hb dX6_readsItem_61 rfl (lv_at hl 1 rfl) ?_
              refine n_iadd hx hb dX6_readsItem_62 ?_
              refine n_top (y := nI 1) rfl ?_
              refine lv_iload_n hx hb dX6_readsItem_63 rfl (lv_at hl 0 rfl) ?_
              refine n_iast hx hb hK hP hD hS 2 (wn := [mT b ζ tb ln (adN tb ln s0), (b 5, .inl (G.2.1, 120, .inl (nF tb))), (b 1, .inl (G.2.1, 46, .inl (upd (nF σ) 1 (-1)))), (b 6, .inl (G.2.2.2, 48, .inl (nF ch0))), (b 7, .inl (G.2.2.2, 24, .inl (nF ch1))), (b 8, .inl (G.2.2.2, 16, .inl (nF ch2)))]) rfl (by omega) (by omega) rfl dX6_readsItem_64 (fun H locs hP hD hS => ?_)
              refine lv_iload_n hx hb dX6_readsItem_65 rfl (lv_at hl 0 rfl) ?_
              refine r_if_lt hx hb (tgt := 73) dX6_readsItem_66 (by decide) (fun c_10 => ?_) (fun c_10 => ?_)
              · refine lv_iconst (v := nI 0) hx hb dX6_readsItem_73 rfl ?_
                have hit : itN tb ln s0 σ = (false, adN tb ln s0, σ) := by unfold itN; rw [if_neg hk6, if_pos hw9]; unfold egN; rw [if_neg hnu]
                exact fin_z (ty := .boolean) (by decide) hx hb hr hlk hS hP hD (upd (nF σ) 1 (-1)) (fun h => by rw [hit] at h; exact absurd h Bool.false_ne_true) (by rw [hit]; rfl) (by rw [hit]; exact eqW.rf _) dX6_readsItem_74
              · omega
        · omega
      · by_cases hw10 : isW tb ln 10 s0
        · refine n_top (wo_9b hw10) ?_
          refine lv_istore_n (lv' := [(2, .int (nI 1)), (1, .int (-1)), (0, .ref (b 0))]) hx hb dX6_readsItem_27 rfl hl (by decide) rfl (fun ls hl => ?_)
          refine lv_iload_n hx hb dX6_readsItem_28 rfl (lv_at hl 0 rfl) ?_
          refine n_if_ge hx hb (by omega) (tgt := 34) dX6_readsItem_29 (by decide) (fun c_11 => ?_) (fun c_11 => ?_)
          · refine lv_aload_n hx hb dX6_readsItem_34 rfl (lv_at hl 2 rfl) ?_
            have had_12 := ad_le (tb := tb) (ln := ln) (s := s0) (by omega)
            refine callVV (rest := []) (wn := fun u => [mT b ζ tb ln (adN tb ln s0), (b 5, .inl (G.2.1, 120, .inl (nF tb))), (b 1, .inl (G.2.1, 46, .inl (nF σ))), (b 6, .inl (G.2.2.2, 48, .inl (nF ch0))), (b 7, .inl (G.2.2.2, 24, .inl (nF ch1))), (b 8, .inl (G.2.2.2, 16, .inl (nF ch2)))]) ⟨hx, hb, hml, hown, hts⟩ (c_nextA l G H.size b ζ tb ln s0 h1 (by omega) (by omega) htb) (cwV 0 hts gX6_readsItem_X6_nextToken rfl rfl rfl (by decide +kernel) ⟨Nat.le_of_ble_eq_true rfl, Nat.le_of_ble_eq_true rfl⟩) noXB (fun _ _ _ => trivial) hK hP hD hS hAq 5 0 (T := TX6) (N := 18) rfl rfl rfl hl.1 rfl (Nat.le_of_ble_eq_true rfl) dX6_readsItem_35 ⟨Nat.le_of_ble_eq_true rfl, Nat.le_of_ble_eq_true rfl⟩ [0, 1] rfl rfl [b 0, b 5] rfl (fun _ => rfl) (fun _ => rfl) (fun u H locs hok hP hD hS => ?_)
            refine lv_aload_n hx hb dX6_readsItem_38 rfl (lv_at hl 2 rfl) ?_
            refine lv_iconst (v := nI 0) hx hb dX6_readsItem_39 rfl ?_
            refine lv_iload_n hx hb dX6_readsItem_40 rfl (lv_at hl 0 rfl) ?_
            refine n_if_ne hx hb (by omega) (tgt := 50) dX6_readsItem_41 (by decide) (fun c_13 => ?_) (fun c_13 => ?_)
            · refine lv_bipush (v := nI 99) hx hb dX6_readsItem_50 rfl ?_
              refine callVI (rest := []) (wn := fun u => [mT b ζ tb ln (tnP tb ln (adN tb ln s0) 99), (b 5, .inl (G.2.1, 120, .inl (nF tb))), (b 1, .inl (G.2.1, 46, .inl (nF σ))), (b 6, .inl (G.2.2.2, 48, .inl (nF ch0))), (b 7, .inl (G.2.2.2, 24, .inl (nF ch1))), (b 8, .inl (G.2.2.2, 16, .inl (nF ch2)))]) ⟨hx, hb, hml, hown, hts⟩ (c_X6_takesNumber l G H.size b ζ tb ln (adN tb ln s0) h1 (by omega) (by omega) htb 99 (by decide)) (cwV 2 hts gX6_readsItem_X6_takesNumber rfl rfl rfl (by decide +kernel) ⟨Nat.le_of_ble_eq_true rfl, Nat.le_of_ble_eq_true rfl⟩) noXB (fun _ _ _ => trivial) hK hP hD hS hAq 5 0 (T := TX6) (N := 18) rfl rfl rfl hl.1 rfl (Nat.le_of_ble_eq_true rfl) dX6_readsItem_52 ⟨Nat.le_of_ble_eq_true rfl, Nat.le_of_ble_eq_true rfl⟩ [0, 1] rfl rfl [b 0, b 5] rfl (fun _ => rfl) (fun _ => rfl) (fun u H locs hok hP hD hS => ?_)
              have hnm9 := nm_le tb ln (adN tb ln s0)
              by_cases hnu : isNu tb ln (adN tb ln s0) 99
              · have e1 : tnP tb ln (adN tb ln s0) 99 = adN tb ln (adN tb ln s0) := if_pos hnu
                rw [e1] at hP hD
                refine n_top (y := nI (nmN tb ln (adN tb ln s0))) (show tnV tb ln (adN tb ln s0) 99 = _ from if_pos hnu) ?_
                have hen_14 := en_le (tb := tb) (ln := ln) (s := (adN tb ln s0)) (by omega)
                have had_15 := ad_le (tb := tb) (ln := ln) (s := (adN tb ln s0)) (by omega)
                refine lv_istore_n (lv' := [(3, .int (nI (nmN tb ln (adN tb ln s0)))), (2, .int (nI 1)), (1, .int (-1)), (0, .ref (b 0))]) hx hb dX6_readsItem_55 rfl hl (by decide) rfl (fun ls hl => ?_)
                refine lv_aload_n hx hb dX6_readsItem_56 rfl (lv_at hl 3 rfl) ?_
                refine n_get (C := RX6) (T := TX6) (N := 18) hx hb hts (fun _ h => List.mem_cons_of_mem _ (List.mem_append_right _ h)) hown hK hP 0 rfl rfl 0 (by decide) (List.mem_of_getElem? (i := 3) rfl) rfl (.ref (b 1)) rfl dX6_readsItem_57 ?_
                refine lv_iconst (v := nI 1) hx hb dX6_readsItem_60 rfl ?_
                refine lv_iload_n hx hb dX6_readsItem_61 rfl (lv_at hl 1 rfl) ?_
                refine n_iadd hx hb dX6_readsItem_62 ?_
                refine n_top (y := nI 2) rfl ?_
                refine lv_iload_n hx hb dX6_readsItem_63 rfl (lv_at hl 0 rfl) ?_
                refine n_iast hx hb hK hP hD hS 2 (wn := [mT b ζ tb ln (adN tb ln (adN tb ln s0)), (b 5, .inl (G.2.1, 120, .inl (nF tb))), (b 1, .inl (G.2.1, 46, .inl (nF (un σ 2 (nmN tb ln (adN tb ln s0)))))), (b 6, .inl (G.2.2.2, 48, .inl (nF ch0))), (b 7, .inl (G.2.2.2, 24, .inl (nF ch1))), (b 8, .inl (G.2.2.2, 16, .inl (nF ch2)))]) rfl (by omega) (by omega) (by rw [nF_un]; rfl) dX6_readsItem_64 (fun H locs hP hD hS => ?_)
                refine lv_iload_n hx hb dX6_readsItem_65 rfl (lv_at hl 0 rfl) ?_
                refine n_if_lt hx hb (by omega) (tgt := 73) dX6_readsItem_66 (by decide) (fun c_16 => ?_) (fun c_16 => ?_)
                · omega
                · refine lv_iconst (v := nI 1) hx hb dX6_readsItem_69 rfl ?_
                  refine lv_goto (tgt := 74) hx hb dX6_readsItem_70 (by decide) ?_
                  have hit : itN tb ln s0 σ = (true, adN tb ln (adN tb ln s0), (un σ 2 (nmN tb ln (adN tb ln s0)))) := by unfold itN; rw [if_neg hk6, if_neg hw9, if_pos hw10]; unfold egN; rw [if_pos hnu]
                  exact fin_z (ty := .boolean) (by decide) hx hb hr hlk hS hP hD (nF (un σ 2 (nmN tb ln (adN tb ln s0)))) (fun _ => by rw [hit]) (by rw [hit]; rfl) (by rw [hit]; exact eqW.rf _) dX6_readsItem_74
              · have e1 : tnP tb ln (adN tb ln s0) 99 = adN tb ln s0 := if_neg hnu
                rw [e1] at hP hD
                refine n_top (y := (-1)) (show tnV tb ln (adN tb ln s0) 99 = _ from if_neg hnu) ?_
                have hm1 : ((-1) : Int32).toInt = -1 := by decide
                refine lv_istore_n (lv' := [(3, .int (-1)), (2, .int (nI 1)), (1, .int (-1)), (0, .ref (b 0))]) hx hb dX6_readsItem_55 rfl hl (by decide) rfl (fun ls hl => ?_)
                refine lv_aload_n hx hb dX6_readsItem_56 rfl (lv_at hl 3 rfl) ?_
                refine n_get (C := RX6) (T := TX6) (N := 18) hx hb hts (fun _ h => List.mem_cons_of_mem _ (List.mem_append_right _ h)) hown hK hP 0 rfl rfl 0 (by decide) (List.mem_of_getElem? (i := 3) rfl) rfl (.ref (b 1)) rfl dX6_readsItem_57 ?_
                refine lv_iconst (v := nI 1) hx hb dX6_readsItem_60 rfl ?_
                refine lv_iload_n hx hb dX6_readsItem_61 rfl (lv_at hl 1 rfl) ?_
                refine n_iadd hx hb dX6_readsItem_62 ?_
                refine n_top (y := nI 2) rfl ?_
                refine lv_iload_n hx hb dX6_readsItem_63 rfl (lv_at hl 0 rfl) ?_
                refine n_iast hx hb hK hP hD hS 2 (wn := [mT b ζ tb ln (adN tb ln s0), (b 5, .inl (G.2.1, 120, .inl (nF tb))), (b 1, .inl (G.2.1, 46, .inl (upd (nF σ) 2 (-1)))), (b 6, .inl (G.2.2.2, 48, .inl (nF ch0))), (b 7, .inl (G.2.2.2, 24, .inl (nF ch1))), (b 8, .inl (G.2.2.2, 16, .inl (nF ch2)))]) rfl (by omega) (by omega) rfl dX6_readsItem_64 (fun H locs hP hD hS => ?_)
                refine lv_iload_n hx hb dX6_readsItem_65 rfl (lv_at hl 0 rfl) ?_
                refine r_if_lt hx hb (tgt := 73) dX6_readsItem_66 (by decide) (fun c_17 => ?_) (fun c_17 => ?_)
                · refine lv_iconst (v := nI 0) hx hb dX6_readsItem_73 rfl ?_
                  have hit : itN tb ln s0 σ = (false, adN tb ln s0, σ) := by unfold itN; rw [if_neg hk6, if_neg hw9, if_pos hw10]; unfold egN; rw [if_neg hnu]
                  exact fin_z (ty := .boolean) (by decide) hx hb hr hlk hS hP hD (upd (nF σ) 2 (-1)) (fun h => by rw [hit] at h; exact absurd h Bool.false_ne_true) (by rw [hit]; rfl) (by rw [hit]; exact eqW.rf _) dX6_readsItem_74
                · omega
            · omega
          · omega
        · refine n_top (wo_9n hw9 hw10) ?_
          refine lv_istore_n (lv' := [(2, .int (-1)), (1, .int (-1)), (0, .ref (b 0))]) hx hb dX6_readsItem_27 rfl hl (by decide) rfl (fun ls hl => ?_)
          refine lv_iload_n hx hb dX6_readsItem_28 rfl (lv_at hl 0 rfl) ?_
          refine r_if_ge hx hb (tgt := 34) dX6_readsItem_29 (by decide) (fun c_18 => ?_) (fun c_18 => ?_)
          · omega
          · refine lv_iconst (v := nI 0) hx hb dX6_readsItem_32 rfl ?_
            have hit : itN tb ln s0 σ = (false, s0, σ) := by unfold itN; rw [if_neg hk6, if_neg hw9, if_neg hw10]
            exact fin_z (ty := .boolean) (by decide) hx hb hr hlk hS hP hD (nF σ) (fun h => by rw [hit] at h; exact absurd h Bool.false_ne_true) (by rw [hit]; rfl) (by rw [hit]; exact eqW.rf _) dX6_readsItem_33
    · omega
set_option maxHeartbeats 2000000 in
set_option maxRecDepth 100000 in
theorem c_X6_text (l : Launch) (G : GT) (sz : Nat) (b : Nat → Nat) (ζ : Nat → Nat) (vv : Int64) (tb : Nat → Nat) (ln : Nat) (h1 : ζ 1 = ln) (hln : ln ≤ 120) (htb : ∀ j, tb j < 256) (σ : Sg) (F0 : Nat → Int32) (hI : Inv σ) : MI (S := (Nat → Nat) × Int64) l G noX yX6_text wsX6_text ({ frames := 6, cells := 0, slots := 0, locals := 132 } : Room) [.ref (b 0)] ([mO b ζ vv, (b 1, .inl (G.2.1, 46, .inl (nF σ))), (b 3, .inl (G.2.1, 46, .inl F0)), (b 5, .inl (G.2.1, 120, .inl (nF tb))), (b 6, .inl (G.2.2.2, 48, .inl (nF ch0))), (b 7, .inl (G.2.2.2, 24, .inl (nF ch1))), (b 8, .inl (G.2.2.2, 16, .inl (nF ch2)))]) sz (fun u => u.1 0 = ζ 0 ∧ u.1 1 = 0) (fun u => txV tb ln σ) (fun u => [mO b u.1 u.2, (b 1, .inl (G.2.1, 46, .inl (nF (if txI tb ln σ then (txN tb ln σ).2.2 else σ)))), (b 3, .inl (G.2.1, 46, .inl (nF σ))), (b 5, .inl (G.2.1, 120, .inl (nF tb))), (b 6, .inl (G.2.2.2, 48, .inl (nF ch0))), (b 7, .inl (G.2.2.2, 24, .inl (nF ch1))), (b 8, .inl (G.2.2.2, 16, .inl (nF ch2)))]) := by
  refine MI_enter (cc := cX6_text) (maxL := 3) (ret := (some .int)) (by decide) rfl (Nat.le_of_ble_eq_true rfl) ?_
  intro p e s m below meth c A ls H hx hb hr hlk hml hown hts hAq hS hP hK hD hX hl hnm
  have hown : s.vm.findClass RX6 = some m.cls := hown
  have hl : lv_has ls 3 [(0, .ref (b 0))] := hl
  refine lv_aload_n hx hb dX6_text_0 rfl (lv_at hl 0 rfl) ?_
  refine callVV (rest := []) (wn := fun u => [mO b ζ vv, (b 1, .inl (G.2.1, 46, .inl (nF σ))), (b 3, .inl (G.2.1, 46, .inl (nF σ))), (b 5, .inl (G.2.1, 120, .inl (nF tb))), (b 6, .inl (G.2.2.2, 48, .inl (nF ch0))), (b 7, .inl (G.2.2.2, 24, .inl (nF ch1))), (b 8, .inl (G.2.2.2, 16, .inl (nF ch2)))]) ⟨hx, hb, hml, hown, hts⟩ (c_X6_setsAside l G H.size b ζ vv σ F0) (cwV 0 hts gX6_text_X6_setsAside rfl rfl rfl (by decide +kernel) ⟨Nat.le_of_ble_eq_true rfl, Nat.le_of_ble_eq_true rfl⟩) noXB (fun _ _ _ => trivial) hK hP hD hS hAq 5 0 (T := TX6) (N := 18) rfl rfl rfl hl.1 rfl (Nat.le_of_ble_eq_true rfl) dX6_text_1 ⟨Nat.le_of_ble_eq_true rfl, Nat.le_of_ble_eq_true rfl⟩ [0, 1, 2] rfl rfl [b 0, b 1, b 3] rfl (fun _ => rfl) (fun _ => rfl) (fun u H locs hok hP hD hS => ?_)
  refine lv_aload_n hx hb dX6_text_4 rfl (lv_at hl 0 rfl) ?_
  refine lv_iconst (v := nI 0) hx hb dX6_text_5 rfl ?_
  refine n_put (C := RX6) (T := TX6) (N := 18) hx hb hts (fun _ h => List.mem_cons_of_mem _ (List.mem_append_right _ h)) tyX6 tyX6_ok nmX6 hown hK hP hD hS 0 rfl rfl 9 (by decide) (List.mem_of_getElem? (i := 1) rfl) rfl rfl (ty := .int) (v := .int (nI 0)) rfl rfl rfl (Nat.le_of_ble_eq_true rfl) (wn := [mO b (un ζ 4 0) vv, (b 1, .inl (G.2.1, 46, .inl (nF σ))), (b 3, .inl (G.2.1, 46, .inl (nF σ))), (b 5, .inl (G.2.1, 120, .inl (nF tb))), (b 6, .inl (G.2.2.2, 48, .inl (nF ch0))), (b 7, .inl (G.2.2.2, 24, .inl (nF ch1))), (b 8, .inl (G.2.2.2, 16, .inl (nF ch2)))]) rfl dX6_text_6 (fun H locs hP hD hS => ?_)
  refine lv_aload_n hx hb dX6_text_9 rfl (lv_at hl 0 rfl) ?_
  refine callVV (rest := []) (wn := fun u => [mT b ζ tb ln (stN tb ln 0), (b 1, .inl (G.2.1, 46, .inl (nF σ))), (b 3, .inl (G.2.1, 46, .inl (nF σ))), (b 5, .inl (G.2.1, 120, .inl (nF tb))), (b 6, .inl (G.2.2.2, 48, .inl (nF ch0))), (b 7, .inl (G.2.2.2, 24, .inl (nF ch1))), (b 8, .inl (G.2.2.2, 16, .inl (nF ch2)))]) ⟨hx, hb, hml, hown, hts⟩ (c_next0 l G H.size b ζ tb vv ln h1 (by omega) htb) (cwV 0 hts gX6_text_X6_nextToken rfl rfl rfl (by decide +kernel) ⟨Nat.le_of_ble_eq_true rfl, Nat.le_of_ble_eq_true rfl⟩) noXB (fun _ _ _ => trivial) hK hP hD hS hAq 5 0 (T := TX6) (N := 18) rfl rfl rfl hl.1 rfl (Nat.le_of_ble_eq_true rfl) dX6_text_10 ⟨Nat.le_of_ble_eq_true rfl, Nat.le_of_ble_eq_true rfl⟩ [0, 3] rfl rfl [b 0, b 5] rfl (fun _ => rfl) (fun _ => rfl) (fun u H locs hok hP hD hS => ?_)
  refine lv_iconst (v := nI 1) hx hb dX6_text_13 rfl ?_
  refine lv_istore_n (lv' := [(1, .int (nI 1)), (0, .ref (b 0))]) hx hb dX6_text_14 rfl hl (by decide) rfl (fun ls hl => ?_)
  refine lv_aload_n hx hb dX6_text_15 rfl (lv_at hl 1 rfl) ?_
  obtain ⟨hib1, hib2⟩ := ia_le (tb := tb) (ln := ln) (σ := σ) 0
  have hx5 : (hdN tb ln σ 0).2 5 ≤ 8 := (hd_Inv (tb := tb) (ln := ln) hI 0).1.2.2.2.2
  have hxl : (hdN tb ln σ 0).1 ≤ ln := hd_le (tb := tb) (ln := ln) (σ := σ) 0
  refine callVI (rest := []) (wn := fun u => [mT b ζ tb ln ((iaN tb ln σ 0).2.1), (b 1, .inl (G.2.1, 46, .inl u)), (b 3, .inl (G.2.1, 46, .inl (nF σ))), (b 5, .inl (G.2.1, 120, .inl (nF tb))), (b 6, .inl (G.2.2.2, 48, .inl (nF ch0))), (b 7, .inl (G.2.2.2, 24, .inl (nF ch1))), (b 8, .inl (G.2.2.2, 16, .inl (nF ch2)))]) ⟨hx, hb, hml, hown, hts⟩ (c_X6_readsItem l G H.size b ζ tb ln (hdN tb ln σ 0).1 h1 (by omega) hxl htb (hdN tb ln σ 0).2 hx5) (cwV 0 hts gX6_text_X6_readsItem rfl rfl rfl (by decide +kernel) ⟨Nat.le_of_ble_eq_true rfl, Nat.le_of_ble_eq_true rfl⟩) noXB (fun _ _ _ => trivial) hK hP hD hS hAq 5 0 (T := TX6) (N := 18) rfl rfl rfl hl.1 rfl (Nat.le_of_ble_eq_true rfl) dX6_text_16 ⟨Nat.le_of_ble_eq_true rfl, Nat.le_of_ble_eq_true rfl⟩ [0, 3, 1, 4, 5, 6] rfl rfl [b 0, b 5, b 1, b 6, b 7, b 8] rfl (fun _ => rfl) (fun _ => rfl) (fun u H locs hok hP hD hS => ?_)
  have hok : (iaN tb ln σ 0).1 = true → u = nF (iaN tb ln σ 0).2.2 := hok
  refine lv_istore_n (lv' := [(2, .int (zI ((iaN tb ln σ 0).1 = true))), (1, .int (nI 1)), (0, .ref (b 0))]) hx hb dX6_text_19 rfl hl (by decide) rfl (fun ls hl => ?_)
  refine W_loop2 (I := fun (n : Nat) (F : Nat → Int32) => n ≤ 120 ∧ NoQ (ntQ tb ln σ) n ∧ ((iaN tb ln σ n).1 = true → F = nF (iaN tb ln σ n).2.2)) (wd := fun (n : Nat) (F : Nat → Int32) => [mT b ζ tb ln ((iaN tb ln σ n).2.1), (b 1, .inl (G.2.1, 46, .inl F)), (b 3, .inl (G.2.1, 46, .inl (nF σ))), (b 5, .inl (G.2.1, 120, .inl (nF tb))), (b 6, .inl (G.2.2.2, 48, .inl (nF ch0))), (b 7, .inl (G.2.2.2, 24, .inl (nF ch1))), (b 8, .inl (G.2.2.2, 16, .inl (nF ch2)))]) (lv := fun (n : Nat) (F : Nat → Int32) => [(1, .int (nI (n + 1))), (2, .int (zI ((iaN tb ln σ n).1 = true))), (0, .ref (b 0))]) (μ := fun (n : Nat) (F : Nat → Int32) => 121 - n) ?_ 0 u ⟨by omega, NoQ_0, hok⟩ hP hD hS (lv_sub hl [1, 0, 2] rfl)
  intro n F H locs ls hI0 hP hD hS hl ih
  obtain ⟨hn, hno, hF⟩ := hI0
  obtain ⟨hia1, hia2⟩ := ia_le (tb := tb) (ln := ln) (σ := σ) n
  have htki := tk_le tb ln (iaN tb ln σ n).2.1
  refine lv_iload_n hx hb dX6_text_20 rfl (lv_at hl 1 rfl) ?_
  refine z_if_eq hx hb (tgt := 47) dX6_text_21 (by decide) (fun c_1 => ?_) (fun c_1 => ?_)
  · have hgood : ¬ (iaN tb ln σ n).1 = true := c_1
    have hni : niN tb ln σ = n := ni_of hno (fun h => hgood h.1) (by omega)
    refine lv_iload_n hx hb dX6_text_47 rfl (lv_at hl 1 rfl) ?_
    refine z_if_eq hx hb (tgt := 62) dX6_text_48 (by decide) (fun c_2 => ?_) (fun c_2 => ?_)
    · have htI : ¬ txI tb ln σ := fun h => hgood (txI_of (tx_of hni) h).1
      refine lv_iconst (v := nI 0) hx hb dX6_text_62 rfl ?_
      refine lv_istore_n (lv' := [(2, .int (nI 0)), (1, .int (nI (n + 1))), (0, .ref (b 0))]) hx hb dX6_text_63 rfl hl (by decide) rfl (fun ls hl => ?_)
      refine lv_aload_n hx hb dX6_text_64 rfl (lv_at hl 2 rfl) ?_
      refine lv_iconst (v := nI 0) hx hb dX6_text_65 rfl ?_
      refine n_put (C := RX6) (T := TX6) (N := 18) hx hb hts (fun _ h => List.mem_cons_of_mem _ (List.mem_append_right _ h)) tyX6 tyX6_ok nmX6 hown hK hP hD hS 0 rfl rfl 6 (by decide) (List.mem_of_getElem? (i := 3) rfl) rfl rfl (ty := .int) (v := .int (nI 0)) rfl rfl rfl (Nat.le_of_ble_eq_true rfl) (wn := [mO b (un (un (un (un ζ 1 0) 2 (tkN tb ln ((iaN tb ln σ n).2.1))) 3 ((iaN tb ln σ n).2.1)) 4 (enN tb ln ((iaN tb ln σ n).2.1))) (lN (vaN tb ln ((iaN tb ln σ n).2.1))), (b 1, .inl (G.2.1, 46, .inl F)), (b 3, .inl (G.2.1, 46, .inl (nF σ))), (b 5, .inl (G.2.1, 120, .inl (nF tb))), (b 6, .inl (G.2.2.2, 48, .inl (nF ch0))), (b 7, .inl (G.2.2.2, 24, .inl (nF ch1))), (b 8, .inl (G.2.2.2, 16, .inl (nF ch2)))]) rfl dX6_text_66 (fun H locs hP hD hS => ?_)
      refine lv_iload_n hx hb dX6_text_69 rfl (lv_at hl 0 rfl) ?_
      refine n_if_ne hx hb (by omega) (tgt := 84) dX6_text_70 (by decide) (fun c_3 => ?_) (fun c_3 => ?_)
      · omega
      · refine lv_aload_n hx hb dX6_text_73 rfl (lv_at hl 2 rfl) ?_
        refine callVV (rest := []) (wn := fun u => [mO b (un (un (un (un ζ 1 0) 2 (tkN tb ln ((iaN tb ln σ n).2.1))) 3 ((iaN tb ln σ n).2.1)) 4 (enN tb ln ((iaN tb ln σ n).2.1))) (lN (vaN tb ln ((iaN tb ln σ n).2.1))), (b 1, .inl (G.2.1, 46, .inl (nF σ))), (b 3, .inl (G.2.1, 46, .inl (nF σ))), (b 5, .inl (G.2.1, 120, .inl (nF tb))), (b 6, .inl (G.2.2.2, 48, .inl (nF ch0))), (b 7, .inl (G.2.2.2, 24, .inl (nF ch1))), (b 8, .inl (G.2.2.2, 16, .inl (nF ch2)))]) ⟨hx, hb, hml, hown, hts⟩ (c_X6_laysBack l G H.size b (un (un (un (un ζ 1 0) 2 (tkN tb ln ((iaN tb ln σ n).2.1))) 3 ((iaN tb ln σ n).2.1)) 4 (enN tb ln ((iaN tb ln σ n).2.1))) (lN (vaN tb ln ((iaN tb ln σ n).2.1))) σ F) (cwV 0 hts gX6_text_X6_laysBack rfl rfl rfl (by decide +kernel) ⟨Nat.le_of_ble_eq_true rfl, Nat.le_of_ble_eq_true rfl⟩) noXB (fun _ _ _ => trivial) hK hP hD hS hAq 5 0 (T := TX6) (N := 18) rfl rfl rfl hl.1 rfl (Nat.le_of_ble_eq_true rfl) dX6_text_74 ⟨Nat.le_of_ble_eq_true rfl, Nat.le_of_ble_eq_true rfl⟩ [0, 1, 2] rfl rfl [b 0, b 1, b 3] rfl (fun _ => rfl) (fun _ => rfl) (fun u H locs hok hP hD hS => ?_)
        refine lv_iconst (v := (-1)) hx hb dX6_text_77 rfl ?_
        refine lv_aload_n hx hb dX6_text_78 rfl (lv_at hl 2 rfl) ?_
        refine n_get (C := RX6) (T := TX6) (N := 18) hx hb hts (fun _ h => List.mem_cons_of_mem _ (List.mem_append_right _ h)) hown hK hP 0 rfl rfl 8 (by decide) (List.mem_of_getElem? (i := 4) rfl) rfl (_) rfl dX6_text_79 ?_
        refine n_top (y := (nI ((iaN tb ln σ n).2.1))) (congrArg nI (Eq.trans (un_n (by decide)) un_s)) ?_
        refine lv_isub hx hb dX6_text_82 ?_
        have htx := tx_of hni
        exact fin_i hx hb hr hlk hS hP hD (un (un (un (un ζ 1 0) 2 (tkN tb ln ((iaN tb ln σ n).2.1))) 3 ((iaN tb ln σ n).2.1)) 4 (enN tb ln ((iaN tb ln σ n).2.1)), lN (vaN tb ln ((iaN tb ln σ n).2.1))) ⟨rfl, rfl⟩ (by rw [tx_no htI, htx]) (by rw [if_neg htI]; exact eqW.rf _) dX6_text_83
    · exact absurd c_2 hgood
  · have hgood : (iaN tb ln σ n).1 = true := c_1
    refine lv_aload_n hx hb dX6_text_24 rfl (lv_at hl 2 rfl) ?_
    refine n_get (C := RX6) (T := TX6) (N := 18) hx hb hts (fun _ h => List.mem_cons_of_mem _ (List.mem_append_right _ h)) hown hK hP 0 rfl rfl 7 (by decide) (List.mem_of_getElem? (i := 2) rfl) rfl (_) rfl dX6_text_25 ?_
    refine n_top (y := (nI (tkN tb ln ((iaN tb ln σ n).2.1)))) (congrArg nI (Eq.trans (un_n (by decide)) (Eq.trans (un_n (by decide)) un_s))) ?_
    refine lv_iconst (v := nI 3) hx hb dX6_text_28 rfl ?_
    refine n_icmp_ne hx hb (by omega) (by omega) (tgt := 47) dX6_text_29 (by decide) (fun c_4 => ?_) (fun c_4 => ?_)
    · have hni : niN tb ln σ = n := ni_of hno (fun h => c_4 (tk_3.mpr h.2)) (by omega)
      refine lv_iload_n hx hb dX6_text_47 rfl (lv_at hl 1 rfl) ?_
      refine z_if_eq hx hb (tgt := 62) dX6_text_48 (by decide) (fun c_5 => ?_) (fun c_5 => ?_)
      · exact absurd hgood c_5
      · refine lv_aload_n hx hb dX6_text_51 rfl (lv_at hl 2 rfl) ?_
        refine n_get (C := RX6) (T := TX6) (N := 18) hx hb hts (fun _ h => List.mem_cons_of_mem _ (List.mem_append_right _ h)) hown hK hP 0 rfl rfl 7 (by decide) (List.mem_of_getElem? (i := 2) rfl) rfl (_) rfl dX6_text_52 ?_
        refine n_top (y := (nI (tkN tb ln ((iaN tb ln σ n).2.1)))) (congrArg nI (Eq.trans (un_n (by decide)) (Eq.trans (un_n (by decide)) un_s))) ?_
        refine n_if_ne hx hb (by omega) (tgt := 62) dX6_text_55 (by decide) (fun c_6 => ?_) (fun c_6 => ?_)
        · have htI : ¬ txI tb ln σ := fun h => c_6 (tk_0.mpr (txI_of (tx_of hni) h).2)
          refine lv_iconst (v := nI 0) hx hb dX6_text_62 rfl ?_
          refine lv_istore_n (lv' := [(2, .int (nI 0)), (1, .int (nI (n + 1))), (0, .ref (b 0))]) hx hb dX6_text_63 rfl hl (by decide) rfl (fun ls hl => ?_)
          refine lv_aload_n hx hb dX6_text_64 rfl (lv_at hl 2 rfl) ?_
          refine lv_iconst (v := nI 0) hx hb dX6_text_65 rfl ?_
          refine n_put (C := RX6) (T := TX6) (N := 18) hx hb hts (fun _ h => List.mem_cons_of_mem _ (List.mem_append_right _ h)) tyX6 tyX6_ok nmX6 hown hK hP hD hS 0 rfl rfl 6 (by decide) (List.mem_of_getElem? (i := 3) rfl) rfl rfl (ty := .int) (v := .int (nI 0)) rfl rfl rfl (Nat.le_of_ble_eq_true rfl) (wn := [mO b (un (un (un (un ζ 1 0) 2 (tkN tb ln ((iaN tb ln σ n).2.1))) 3 ((iaN tb ln σ n).2.1)) 4 (enN tb ln ((iaN tb ln σ n).2.1))) (lN (vaN tb ln ((iaN tb ln σ n).2.1))), (b 1, .inl (G.2.1, 46, .inl F)), (b 3, .inl (G.2.1, 46, .inl (nF σ))), (b 5, .inl (G.2.1, 120, .inl (nF tb))), (b 6, .inl (G.2.2.2, 48, .inl (nF ch0))), (b 7, .inl (G.2.2.2, 24, .inl (nF ch1))), (b 8, .inl (G.2.2.2, 16, .inl (nF ch2)))]) rfl dX6_text_66 (fun H locs hP hD hS => ?_)
          refine lv_iload_n hx hb dX6_text_69 rfl (lv_at hl 0 rfl) ?_
          refine n_if_ne hx hb (by omega) (tgt := 84) dX6_text_70 (by decide) (fun c_7 => ?_) (fun c_7 => ?_)
          · omega
          · refine lv_aload_n hx hb dX6_text_73 rfl (lv_at hl 2 rfl) ?_
            refine callVV (rest := []) (wn := fun u => [mO b (un (un (un (un ζ 1 0) 2 (tkN tb ln ((iaN tb ln σ n).2.1))) 3 ((iaN tb ln σ n).2.1)) 4 (enN tb ln ((iaN tb ln σ n).2.1))) (lN (vaN tb ln ((iaN tb ln σ n).2.1))), (b 1, .inl (G.2.1, 46, .inl (nF σ))), (b 3, .inl (G.2.1, 46, .inl (nF σ))), (b 5, .inl (G.2.1, 120, .inl (nF tb))), (b 6, .inl (G.2.2.2, 48, .inl (nF ch0))), (b 7, .inl (G.2.2.2, 24, .inl (nF ch1))), (b 8, .inl (G.2.2.2, 16, .inl (nF ch2)))]) ⟨hx, hb, hml, hown, hts⟩ (c_X6_laysBack l G H.size b (un (un (un (un ζ 1 0) 2 (tkN tb ln ((iaN tb ln σ n).2.1))) 3 ((iaN tb ln σ n).2.1)) 4 (enN tb ln ((iaN tb ln σ n).2.1))) (lN (vaN tb ln ((iaN tb ln σ n).2.1))) σ F) (cwV 0 hts gX6_text_X6_laysBack rfl rfl rfl (by decide +kernel) ⟨Nat.le_of_ble_eq_true rfl, Nat.le_of_ble_eq_true rfl⟩) noXB (fun _ _ _ => trivial) hK hP hD hS hAq 5 0 (T := TX6) (N := 18) rfl rfl rfl hl.1 rfl (Nat.le_of_ble_eq_true rfl) dX6_text_74 ⟨Nat.le_of_ble_eq_true rfl, Nat.le_of_ble_eq_true rfl⟩ [0, 1, 2] rfl rfl [b 0, b 1, b 3] rfl (fun _ => rfl) (fun _ => rfl) (fun u H locs hok hP hD hS => ?_)
            refine lv_iconst (v := (-1)) hx hb dX6_text_77 rfl ?_
            refine lv_aload_n hx hb dX6_text_78 rfl (lv_at hl 2 rfl) ?_
            refine n_get (C := RX6) (T := TX6) (N := 18) hx hb hts (fun _ h => List.mem_cons_of_mem _ (List.mem_append_right _ h)) hown hK hP 0 rfl rfl 8 (by decide) (List.mem_of_getElem? (i := 4) rfl) rfl (_) rfl dX6_text_79 ?_
            refine n_top (y := (nI ((iaN tb ln σ n).2.1))) (congrArg nI (Eq.trans (un_n (by decide)) un_s)) ?_
            refine lv_isub hx hb dX6_text_82 ?_
            have htx := tx_of hni
            exact fin_i hx hb hr hlk hS hP hD (un (un (un (un ζ 1 0) 2 (tkN tb ln ((iaN tb ln σ n).2.1))) 3 ((iaN tb ln σ n).2.1)) 4 (enN tb ln ((iaN tb ln σ n).2.1)), lN (vaN tb ln ((iaN tb ln σ n).2.1))) ⟨rfl, rfl⟩ (by rw [tx_no htI, htx]) (by rw [if_neg htI]; exact eqW.rf _) dX6_text_83
        · have htI : txI tb ln σ := txI_mk (tx_of hni) ⟨hgood, tk_0.mp c_6⟩
          refine lv_iconst (v := nI 1) hx hb dX6_text_58 rfl ?_
          refine lv_goto (tgt := 63) hx hb dX6_text_59 (by decide) ?_
          refine lv_istore_n (lv' := [(2, .int (nI 1)), (1, .int (nI (n + 1))), (0, .ref (b 0))]) hx hb dX6_text_63 rfl hl (by decide) rfl (fun ls hl => ?_)
          refine lv_aload_n hx hb dX6_text_64 rfl (lv_at hl 2 rfl) ?_
          refine lv_iconst (v := nI 0) hx hb dX6_text_65 rfl ?_
          refine n_put (C := RX6) (T := TX6) (N := 18) hx hb hts (fun _ h => List.mem_cons_of_mem _ (List.mem_append_right _ h)) tyX6 tyX6_ok nmX6 hown hK hP hD hS 0 rfl rfl 6 (by decide) (List.mem_of_getElem? (i := 3) rfl) rfl rfl (ty := .int) (v := .int (nI 0)) rfl rfl rfl (Nat.le_of_ble_eq_true rfl) (wn := [mO b (un (un (un (un ζ 1 0) 2 (tkN tb ln ((iaN tb ln σ n).2.1))) 3 ((iaN tb ln σ n).2.1)) 4 (enN tb ln ((iaN tb ln σ n).2.1))) (lN (vaN tb ln ((iaN tb ln σ n).2.1))), (b 1, .inl (G.2.1, 46, .inl F)), (b 3, .inl (G.2.1, 46, .inl (nF σ))), (b 5, .inl (G.2.1, 120, .inl (nF tb))), (b 6, .inl (G.2.2.2, 48, .inl (nF ch0))), (b 7, .inl (G.2.2.2, 24, .inl (nF ch1))), (b 8, .inl (G.2.2.2, 16, .inl (nF ch2)))]) rfl dX6_text_66 (fun H locs hP hD hS => ?_)
          have hFe := hF hgood
          subst hFe
          refine lv_iload_n hx hb dX6_text_69 rfl (lv_at hl 0 rfl) ?_
          refine n_if_ne hx hb (by omega) (tgt := 84) dX6_text_70 (by decide) (fun c_8 => ?_) (fun c_8 => ?_)
          · refine lv_iload_n hx hb dX6_text_84 rfl (lv_at hl 1 rfl) ?_
            have htx := tx_of hni
            exact fin_i hx hb hr hlk hS hP hD (un (un (un (un ζ 1 0) 2 (tkN tb ln ((iaN tb ln σ n).2.1))) 3 ((iaN tb ln σ n).2.1)) 4 (enN tb ln ((iaN tb ln σ n).2.1)), lN (vaN tb ln ((iaN tb ln σ n).2.1))) ⟨rfl, rfl⟩ (by rw [tx_yes htI, hni]) (by rw [if_pos htI, htx]; exact eqW.rf _) dX6_text_85
          · omega
    · have c3 : tyN tb ln (iaN tb ln σ n).2.1 = 3 := tk_3.mp c_4
      have hnx : n + 1 ≤ (hdN tb ln σ (n + 1)).1 := hd_n (n + 1) (NoQ_S hno (decide_eq_false (fun h => h ⟨hgood, c3⟩)))
      have hlx := hd_le (tb := tb) (ln := ln) (σ := σ) (n + 1)
      refine lv_aload_n hx hb dX6_text_32 rfl (lv_at hl 2 rfl) ?_
      have had_9 := ad_le (tb := tb) (ln := ln) (s := ((iaN tb ln σ n).2.1)) (by omega)
      refine callVV (rest := []) (wn := fun u => [mT b ζ tb ln (adN tb ln ((iaN tb ln σ n).2.1)), (b 1, .inl (G.2.1, 46, .inl F)), (b 3, .inl (G.2.1, 46, .inl (nF σ))), (b 5, .inl (G.2.1, 120, .inl (nF tb))), (b 6, .inl (G.2.2.2, 48, .inl (nF ch0))), (b 7, .inl (G.2.2.2, 24, .inl (nF ch1))), (b 8, .inl (G.2.2.2, 16, .inl (nF ch2)))]) ⟨hx, hb, hml, hown, hts⟩ (c_nextA l G H.size b ζ tb ln ((iaN tb ln σ n).2.1) h1 (by omega) (by omega) htb) (cwV 0 hts gX6_text_X6_nextToken rfl rfl rfl (by decide +kernel) ⟨Nat.le_of_ble_eq_true rfl, Nat.le_of_ble_eq_true rfl⟩) noXB (fun _ _ _ => trivial) hK hP hD hS hAq 5 0 (T := TX6) (N := 18) rfl rfl rfl hl.1 rfl (Nat.le_of_ble_eq_true rfl) dX6_text_33 ⟨Nat.le_of_ble_eq_true rfl, Nat.le_of_ble_eq_true rfl⟩ [0, 3] rfl rfl [b 0, b 5] rfl (fun _ => rfl) (fun _ => rfl) (fun u H locs hok hP hD hS => ?_)
      have hFe := hF hgood
      subst hFe
      rw [← hd_11, ← hd_12] at hP hD
      refine lv_aload_n hx hb dX6_text_36 rfl (lv_at hl 2 rfl) ?_
      obtain ⟨hib1, hib2⟩ := ia_le (tb := tb) (ln := ln) (σ := σ) (n + 1)
      have hx5 : (hdN tb ln σ (n + 1)).2 5 ≤ 8 := (hd_Inv (tb := tb) (ln := ln) hI (n + 1)).1.2.2.2.2
      have hxl : (hdN tb ln σ (n + 1)).1 ≤ ln := hd_le (tb := tb) (ln := ln) (σ := σ) (n + 1)
      obtain ⟨P, hPe⟩ : ∃ P, P = (hdN tb ln σ (n + 1)).1 := ⟨_, rfl⟩
      obtain ⟨ρ, hρe⟩ : ∃ ρ, ρ = (hdN tb ln σ (n + 1)).2 := ⟨_, rfl⟩
      rw [← hPe] at hxl hP hD
      rw [← hρe] at hx5 hP hD
      refine callVI (rest := []) (wn := fun u => [mT b ζ tb ln ((itN tb ln P ρ).2.1), (b 1, .inl (G.2.1, 46, .inl u)), (b 3, .inl (G.2.1, 46, .inl (nF σ))), (b 5, .inl (G.2.1, 120, .inl (nF tb))), (b 6, .inl (G.2.2.2, 48, .inl (nF ch0))), (b 7, .inl (G.2.2.2, 24, .inl (nF ch1))), (b 8, .inl (G.2.2.2, 16, .inl (nF ch2)))]) ⟨hx, hb, hml, hown, hts⟩ (c_X6_readsItem l G H.size b ζ tb ln P h1 (by omega) hxl htb ρ hx5) (cwV 0 hts gX6_text_X6_readsItem rfl rfl rfl (by decide +kernel) ⟨Nat.le_of_ble_eq_true rfl, Nat.le_of_ble_eq_true rfl⟩) noXB (fun _ _ _ => trivial) hK hP hD hS hAq 5 0 (T := TX6) (N := 18) rfl rfl rfl hl.1 rfl (Nat.le_of_ble_eq_true rfl) dX6_text_37 ⟨Nat.le_of_ble_eq_true rfl, Nat.le_of_ble_eq_true rfl⟩ [0, 3, 1, 4, 5, 6] rfl rfl [b 0, b 5, b 1, b 6, b 7, b 8] rfl (fun _ => rfl) (fun _ => rfl) (fun u H locs hok hP hD hS => ?_)
      have hit : itN tb ln P ρ = iaN tb ln σ (n + 1) := by rw [hPe, hρe, iaN]
      rw [hit] at hok hP hD
      refine n_top (y := zI ((iaN tb ln σ (n + 1)).1 = true)) (by rw [hit]) ?_
      refine lv_istore_n (lv' := [(2, .int (zI ((iaN tb ln σ (n + 1)).1 = true))), (1, .int (nI (n + 1))), (0, .ref (b 0))]) hx hb dX6_text_40 rfl hl (by decide) rfl (fun ls hl => ?_)
      refine n_iinc (lv' := [(1, .int (nI ((n + 1) + 1))), (2, .int (zI ((iaN tb ln σ (n + 1)).1 = true))), (0, .ref (b 0))]) hx hb dX6_text_41 hl (k := 1) rfl (by decide) rfl (fun ls hl => ?_)
      refine lv_goto (tgt := 20) hx hb dX6_text_44 (by decide) ?_
      exact ih (n + 1) u _ _ _ (by omega) ⟨by omega, NoQ_S hno (decide_eq_false (fun h => h ⟨hgood, c3⟩)), hok⟩ hP hD hS (lv_sub hl [0, 1, 2] rfl)
