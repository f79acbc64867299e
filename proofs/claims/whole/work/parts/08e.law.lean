set_option maxHeartbeats 2000000 in
set_option maxRecDepth 100000 in
theorem law_dflt {p : Program} {l : Launch} {e : Env} {s : State} {m : MethodId} {below : List Frame} {meth : Method} {c : Code} {G : GT} {x hm kp tr b adK adV : Nat → Nat} {sq L t j : Nat} {xs : Nat → Int32} (C : LCtx p s m meth c G adK adV sq L t xs) (hj : 6 * j + 6 ≤ L) (ih : LGoal p l e s m below meth c G x hm kp tr b sq (j + 1)) (σ κ κ' τ ζ tb wd zs : Nat → Nat) (vv : Int64) (tl F : Nat → Int32) (nb cr : Nat → Int64) {H : Heap} {locs : List Loc} {ls : Array Slot} (hv : LInv σ κ κ' ζ tb wd zs) (hP : PP G (([xO x hm kp tr (ζ 0), (x 7, .inl (G.2.1, 7, .inl tl))] ++ (wH G hm σ ++ (wH G kp κ ++ (wH G tr τ ++ ([(x 1, .inr (3, [.ref (x 2), .int (nI (ζ 1))])), (x 2, .inl (G.2.1, 120, .inl (nF tb))), (x 3, .inr (2, [.ref (x 4), .ref (x 5), .ref (x 6)])), (x 4, .inl (G.2.1, 4, .inl (nF wd))), (x 5, .inl (G.2.1, 4, .inl (nF zs))), (x 6, .inl (G.2.2.1, 160, .inr (.inl nb))), mO b ζ vv, (b 4, .inl (G.2.1, 7, .inl tl)), (b 1, .inl (G.2.1, 46, .inl (nF σ))), (b 2, .inl (G.2.1, 46, .inl (nF κ'))), (b 3, .inl (G.2.1, 46, .inl F)), (b 5, .inl (G.2.1, 120, .inl (nF tb))), (b 6, .inl (G.2.2.2, 48, .inl (nF ch0))), (b 7, .inl (G.2.2.2, 24, .inl (nF ch1))), (b 8, .inl (G.2.2.2, 16, .inl (nF ch2))), (b 9, .inl (G.2.1, 4, .inl (nF wd))), (b 10, .inl (G.2.1, 4, .inl (nF zs))), (b 11, .inl (G.2.2.1, 160, .inr (.inl nb))), (b 12, .inl (G.2.2.1, 40, .inr (.inl cr)))])))))) H) (hD : va_D (fun q : Nat => s.heap.size ≤ q) (([xO x hm kp tr (ζ 0), (x 7, .inl (G.2.1, 7, .inl tl))] ++ (wH G hm σ ++ (wH G kp κ ++ (wH G tr τ ++ ([(x 1, .inr (3, [.ref (x 2), .int (nI (ζ 1))])), (x 2, .inl (G.2.1, 120, .inl (nF tb))), (x 3, .inr (2, [.ref (x 4), .ref (x 5), .ref (x 6)])), (x 4, .inl (G.2.1, 4, .inl (nF wd))), (x 5, .inl (G.2.1, 4, .inl (nF zs))), (x 6, .inl (G.2.2.1, 160, .inr (.inl nb))), mO b ζ vv, (b 4, .inl (G.2.1, 7, .inl tl)), (b 1, .inl (G.2.1, 46, .inl (nF σ))), (b 2, .inl (G.2.1, 46, .inl (nF κ'))), (b 3, .inl (G.2.1, 46, .inl F)), (b 5, .inl (G.2.1, 120, .inl (nF tb))), (b 6, .inl (G.2.2.2, 48, .inl (nF ch0))), (b 7, .inl (G.2.2.2, 24, .inl (nF ch1))), (b 8, .inl (G.2.2.2, 16, .inl (nF ch2))), (b 9, .inl (G.2.1, 4, .inl (nF wd))), (b 10, .inl (G.2.1, 4, .inl (nF zs))), (b 11, .inl (G.2.2.1, 160, .inr (.inl nb))), (b 12, .inl (G.2.2.1, 40, .inr (.inl cr)))]))))))) (hS : va_S (fun q : Nat => s.heap.size ≤ q) s.heap H locs) (hl : lv_has ls 4 [(3, .int (nI (6 * j))), (2, .ref (b 0)), (1, .ref (x 0)), (0, .ref sq)]) : W p l e room_1 s m #[Value.ref sq] below meth c H locs (100 + j) (2000 + 6 * j) (lw_Z below #[Value.ref sq] s) (F0 m 1288 ls []) := by
  obtain ⟨hx, hb, hr, hml, hown, hts, hXs, hbl, hlk, hK, hZ, hXS, hL⟩ := C
  obtain ⟨⟨hI, hd0⟩, ⟨hIk, hdk⟩, ⟨h5k, hkk⟩, ⟨hz0, hz1⟩, htb, hSI⟩ := hv
  have h5 := hI.1.2.2.2.2
  have h5κ := hIk.1.2.2.2.2
  have hAq : ∀ q : Nat, s.heap.size ≤ q → (fun q : Nat => s.heap.size ≤ q) q := fun _ h => h
  have hbA : ¬ (fun q : Nat => s.heap.size ≤ q) sq := Nat.not_le.mpr hbl
  refine lv_iinc (v := nI (6 * (j + 1))) (lv' := [(3, .int (nI (6 * (j + 1)))), (2, .ref (b 0)), (1, .ref (x 0)), (0, .ref sq)]) hx hb dL_law_1288 hl (k := 0) rfl (nI_six j) (by decide) rfl (fun ls hl => ?_)
  refine lv_goto (tgt := 18) hx hb dL_law_1291 (by decide) ?_
  refine W.widen (k := 100 + (j + 1)) (n := 2000 + 6 * (j + 1)) (by omega) (by omega) ?_
  exact ih σ κ κ' τ ζ tb wd zs vv tl F nb cr _ _ _ ⟨⟨hI, hd0⟩, ⟨hIk, hdk⟩, ⟨h5k, hkk⟩, ⟨hz0, hz1⟩, htb, hSI⟩ hP hD hS (lv_sub hl [0, 1, 2, 3] rfl)
set_option maxHeartbeats 2000000 in
set_option maxRecDepth 100000 in
theorem law_step {p : Program} {l : Launch} {e : Env} {s : State} {m : MethodId} {below : List Frame} {meth : Method} {c : Code} {G : GT} {x hm kp tr b adK adV : Nat → Nat} {sq L t j : Nat} {xs : Nat → Int32} (hflags : l.flags = flags0) (C : LCtx p s m meth c G adK adV sq L t xs) (hj0 : 6 * j ≤ L) (ih : 6 * j + 6 ≤ L → LGoal p l e s m below meth c G x hm kp tr b sq (j + 1)) : LGoal p l e s m below meth c G x hm kp tr b sq j := by
  intro σ κ κ' τ ζ tb wd zs vv tl F nb cr H locs ls hv hP hD hS hl
  obtain ⟨hx, hb, hr, hml, hown, hts, hXs, hbl, hlk, hK, hZ, hXS, hL⟩ := id C
  have hbA : ¬ (fun q : Nat => s.heap.size ≤ q) sq := Nat.not_le.mpr hbl
  refine lv_iload_n hx hb dL_law_18 rfl (lv_at hl 0 rfl) ?_
  refine lv_aload_n hx hb dL_law_19 rfl (lv_at hl 3 rfl) ?_
  refine va_slen hx hb hXs hbl hbA hS dL_law_20 ?_
  refine n_top (y := nI L) rfl ?_
  refine lv_bipush (v := nI 6) hx hb dL_law_21 rfl ?_
  refine lv_isub hx hb dL_law_23 ?_
  refine r_icmp_gt hx hb (tgt := 1294) dL_law_24 (by decide) (fun hc => ?_) (fun hc => ?_)
  · refine lv_iconst (v := 1) hx hb dL_law_1294 rfl ?_
    refine va_forget hS.2.2 ?_
    refine W.widen (k := 600000) (n := 7302250) (by omega) (by omega) ?_
    exact lw_ret hx hb hr hlk dL_law_1295
  · rw [len_T (show L < 2147483648 by omega), nI_T (show 6 * j < 2147483648 by omega)] at hc
    have hj : 6 * j + 6 ≤ L := by omega
    refine lv_aload_n hx hb dL_law_27 rfl (lv_at hl 3 rfl) ?_
    refine lv_iload_n hx hb dL_law_28 rfl (lv_at hl 0 rfl) ?_
    refine n_sld hx hb hXs hbl hbA hS (i := 6 * j) (by omega) (by omega) dL_law_29 ?_
    refine lv_bipush (v := nI 63) hx hb dL_law_30 rfl ?_
    refine lv_iand hx hb dL_law_32 ?_
    obtain ⟨k, hk, hke⟩ := pk_andE (xs (6 * j)) (m := nI 63) 6 (by decide)
    refine n_top hke ?_
    rcases (show k = 0 ∨ k = 1 ∨ k = 2 ∨ k = 3 ∨ k = 4 ∨ k = 5 ∨ k = 6 ∨ k = 7 ∨ k = 8 ∨ k = 9 ∨ k = 10 ∨ k = 11 ∨ k = 12 ∨ k = 13 ∨ k = 14 ∨ k = 15 ∨ k = 16 ∨ k = 17 ∨ k = 18 ∨ k = 19 ∨ k = 20 ∨ k = 21 ∨ k = 22 ∨ k = 23 ∨ k = 24 ∨ k = 25 ∨ k = 26 ∨ k = 27 ∨ k = 28 ∨ k = 29 ∨ k = 30 ∨ k = 31 ∨ k = 32 ∨ k = 33 ∨ k = 34 ∨ k = 35 ∨ k = 36 ∨ 37 ≤ k by omega) with hsw | hsw | hsw | hsw | hsw | hsw | hsw | hsw | hsw | hsw | hsw | hsw | hsw | hsw | hsw | hsw | hsw | hsw | hsw | hsw | hsw | hsw | hsw | hsw | hsw | hsw | hsw | hsw | hsw | hsw | hsw | hsw | hsw | hsw | hsw | hsw | hsw | hsw
    · refine n_tableIn hsw (off := 163) (tgt := 196) hx hb dL_law_33 (by decide) (by decide) (by decide) (by decide) ?_
      exact law_house C hj (ih hj) σ κ κ' τ ζ tb wd zs vv tl F nb cr hv hP hD hS hl
    · refine n_tableIn hsw (off := 196) (tgt := 229) hx hb dL_law_33 (by decide) (by decide) (by decide) (by decide) ?_
      exact law_now C hj (ih hj) σ κ κ' τ ζ tb wd zs vv tl F nb cr hv hP hD hS hl
    · refine n_tableIn hsw (off := 219) (tgt := 252) hx hb dL_law_33 (by decide) (by decide) (by decide) (by decide) ?_
      exact law_person C hj (ih hj) σ κ κ' τ ζ tb wd zs vv tl F nb cr hv hP hD hS hl
    · refine n_tableIn hsw (off := 242) (tgt := 275) hx hb dL_law_33 (by decide) (by decide) (by decide) (by decide) ?_
      exact law_of C hj (ih hj) σ κ κ' τ ζ tb wd zs vv tl F nb cr hv hP hD hS hl
    · refine n_tableIn hsw (off := 275) (tgt := 308) hx hb dL_law_33 (by decide) (by decide) (by decide) (by decide) ?_
      exact law_says C hj (ih hj) σ κ κ' τ ζ tb wd zs vv tl F nb cr hv hP hD hS hl
    · refine n_tableIn hsw (off := 318) (tgt := 351) hx hb dL_law_33 (by decide) (by decide) (by decide) (by decide) ?_
      exact law_set C hj (ih hj) σ κ κ' τ ζ tb wd zs vv tl F nb cr hv hP hD hS hl
    · refine n_tableIn hsw (off := 361) (tgt := 394) hx hb dL_law_33 (by decide) (by decide) (by decide) (by decide) ?_
      exact law_turn C hj (ih hj) σ κ κ' τ ζ tb wd zs vv tl F nb cr hv hP hD hS hl
    · refine n_tableIn hsw (off := 394) (tgt := 427) hx hb dL_law_33 (by decide) (by decide) (by decide) (by decide) ?_
      exact law_as C hj (ih hj) σ κ κ' τ ζ tb wd zs vv tl F nb cr hv hP hD hS hl
    · refine n_tableIn hsw (off := 427) (tgt := 460) hx hb dL_law_33 (by decide) (by decide) (by decide) (by decide) ?_
      exact law_swap C hj (ih hj) σ κ κ' τ ζ tb wd zs vv tl F nb cr hv hP hD hS hl
    · refine n_tableIn hsw (off := 460) (tgt := 493) hx hb dL_law_33 (by decide) (by decide) (by decide) (by decide) ?_
      exact law_breaks C hj (ih hj) σ κ κ' τ ζ tb wd zs vv tl F nb cr hv hP hD hS hl
    · refine n_tableIn hsw (off := 493) (tgt := 526) hx hb dL_law_33 (by decide) (by decide) (by decide) (by decide) ?_
      exact law_days C hj (ih hj) σ κ κ' τ ζ tb wd zs vv tl F nb cr hv hP hD hS hl
    · refine n_tableIn hsw (off := 516) (tgt := 549) hx hb dL_law_33 (by decide) (by decide) (by decide) (by decide) ?_
      exact law_on C hj (ih hj) σ κ κ' τ ζ tb wd zs vv tl F nb cr hv hP hD hS hl
    · refine n_tableIn hsw (off := 549) (tgt := 582) hx hb dL_law_33 (by decide) (by decide) (by decide) (by decide) ?_
      exact law_then C hj (ih hj) σ κ κ' τ ζ tb wd zs vv tl F nb cr hv hP hD hS hl
    · refine n_tableIn hsw (off := 592) (tgt := 625) hx hb dL_law_33 (by decide) (by decide) (by decide) (by decide) ?_
      exact law_hunger C hj (ih hj) σ κ κ' τ ζ tb wd zs vv tl F nb cr hv hP hD hS hl
    · refine n_tableIn hsw (off := 605) (tgt := 638) hx hb dL_law_33 (by decide) (by decide) (by decide) (by decide) ?_
      exact law_comes C hj (ih hj) σ κ κ' τ ζ tb wd zs vv tl F nb cr hv hP hD hS hl
    · refine n_tableIn hsw (off := 628) (tgt := 661) hx hb dL_law_33 (by decide) (by decide) (by decide) (by decide) ?_
      exact law_watched C hj (ih hj) σ κ κ' τ ζ tb wd zs vv tl F nb cr hv hP hD hS hl
    · refine n_tableIn hsw (off := 651) (tgt := 684) hx hb dL_law_33 (by decide) (by decide) (by decide) (by decide) ?_
      exact law_turns C hj (ih hj) σ κ κ' τ ζ tb wd zs vv tl F nb cr hv hP hD hS hl
    · refine n_tableIn hsw (off := 674) (tgt := 707) hx hb dL_law_33 (by decide) (by decide) (by decide) (by decide) ?_
      exact law_reason C hj (ih hj) σ κ κ' τ ζ tb wd zs vv tl F nb cr hv hP hD hS hl
    · refine n_tableIn hsw (off := 717) (tgt := 750) hx hb dL_law_33 (by decide) (by decide) (by decide) (by decide) ?_
      exact law_enough C hj (ih hj) σ κ κ' τ ζ tb wd zs vv tl F nb cr hv hP hD hS hl
    · refine n_tableIn hsw (off := 740) (tgt := 773) hx hb dL_law_33 (by decide) (by decide) (by decide) (by decide) ?_
      exact law_kind C hj (ih hj) σ κ κ' τ ζ tb wd zs vv tl F nb cr hv hP hD hS hl
    · refine n_tableIn hsw (off := 773) (tgt := 806) hx hb dL_law_33 (by decide) (by decide) (by decide) (by decide) ?_
      exact law_needs C hj (ih hj) σ κ κ' τ ζ tb wd zs vv tl F nb cr hv hP hD hS hl
    · refine n_tableIn hsw (off := 806) (tgt := 839) hx hb dL_law_33 (by decide) (by decide) (by decide) (by decide) ?_
      exact law_keep C hj (ih hj) σ κ κ' τ ζ tb wd zs vv tl F nb cr hv hP hD hS hl
    · refine n_tableIn hsw (off := 829) (tgt := 862) hx hb dL_law_33 (by decide) (by decide) (by decide) (by decide) ?_
      exact law_most C hj (ih hj) σ κ κ' τ ζ tb wd zs vv tl F nb cr hv hP hD hS hl
    · refine n_tableIn hsw (off := 852) (tgt := 885) hx hb dL_law_33 (by decide) (by decide) (by decide) (by decide) ?_
      exact law_feed C hj (ih hj) σ κ κ' τ ζ tb wd zs vv tl F nb cr hv hP hD hS hl
    · refine n_tableIn hsw (off := 885) (tgt := 918) hx hb dL_law_33 (by decide) (by decide) (by decide) (by decide) ?_
      exact law_wipe C hj (ih hj) σ κ κ' τ ζ tb wd zs vv tl F nb cr hv hP hD hS hl
    · refine n_tableIn hsw (off := 898) (tgt := 931) hx hb dL_law_33 (by decide) (by decide) (by decide) (by decide) ?_
      exact law_text C hj (ih hj) σ κ κ' τ ζ tb wd zs vv tl F nb cr hv hP hD hS hl
    · refine n_tableIn hsw (off := 911) (tgt := 944) hx hb dL_law_33 (by decide) (by decide) (by decide) (by decide) ?_
      exact law_sheet C hj (ih hj) σ κ κ' τ ζ tb wd zs vv tl F nb cr hv hP hD hS hl
    · refine n_tableIn hsw (off := 954) (tgt := 987) hx hb dL_law_33 (by decide) (by decide) (by decide) (by decide) ?_
      exact law_write C hj (ih hj) σ κ κ' τ ζ tb wd zs vv tl F nb cr hv hP hD hS hl
    · refine n_tableIn hsw (off := 1028) (tgt := 1061) hx hb dL_law_33 (by decide) (by decide) (by decide) (by decide) ?_
      exact law_copy C hj (ih hj) σ κ κ' τ ζ tb wd zs vv tl F nb cr hv hP hD hS hl
    · refine n_tableIn hsw (off := 1091) (tgt := 1124) hx hb dL_law_33 (by decide) (by decide) (by decide) (by decide) ?_
      exact law_lays C hj (ih hj) σ κ κ' τ ζ tb wd zs vv tl F nb cr hv hP hD hS hl
    · refine n_tableIn hsw (off := 1114) (tgt := 1147) hx hb dL_law_33 (by decide) (by decide) (by decide) (by decide) ?_
      exact law_book C hj (ih hj) σ κ κ' τ ζ tb wd zs vv tl F nb cr hv hP hD hS hl
    · refine n_tableIn hsw (off := 1137) (tgt := 1170) hx hb dL_law_33 (by decide) (by decide) (by decide) (by decide) ?_
      exact law_read C hj (ih hj) σ κ κ' τ ζ tb wd zs vv tl F nb cr hv hP hD hS hl
    · refine n_tableIn hsw (off := 1170) (tgt := 1203) hx hb dL_law_33 (by decide) (by decide) (by decide) (by decide) ?_
      exact law_image C hj (ih hj) σ κ κ' τ ζ tb wd zs vv tl F nb cr hv hP hD hS hl
    · refine n_tableIn hsw (off := 1183) (tgt := 1216) hx hb dL_law_33 (by decide) (by decide) (by decide) (by decide) ?_
      exact law_undo C hj (ih hj) σ κ κ' τ ζ tb wd zs vv tl F nb cr hv hP hD hS hl
    · refine n_tableIn hsw (off := 1196) (tgt := 1229) hx hb dL_law_33 (by decide) (by decide) (by decide) (by decide) ?_
      exact law_tear C hj (ih hj) σ κ κ' τ ζ tb wd zs vv tl F nb cr hv hP hD hS hl
    · refine n_tableIn hsw (off := 1209) (tgt := 1242) hx hb dL_law_33 (by decide) (by decide) (by decide) (by decide) ?_
      exact law_count C hj (ih hj) σ κ κ' τ ζ tb wd zs vv tl F nb cr hv hP hD hS hl
    · refine n_tableIn hsw (off := 1232) (tgt := 1265) hx hb dL_law_33 (by decide) (by decide) (by decide) (by decide) ?_
      exact law_status C hj (ih hj) σ κ κ' τ ζ tb wd zs vv tl F nb cr hv hP hD hS hl
    · refine lv_tableOut hx hb (tgt := 1288) dL_law_33 (by rw [nI_T (show k < 2147483648 by omega)]; omega) (by decide) ?_
      exact law_dflt C hj (ih hj) σ κ κ' τ ζ tb wd zs vv tl F nb cr hv hP hD hS hl
theorem law_run {p : Program} {l : Launch} {e : Env} {s : State} {m : MethodId} {below : List Frame} {meth : Method} {c : Code} {G : GT} {x hm kp tr b adK adV : Nat → Nat} {sq L t : Nat} {xs : Nat → Int32} (hflags : l.flags = flags0) (C : LCtx p s m meth c G adK adV sq L t xs) : ∀ n j, 6 * j ≤ L → L < 6 * (j + n) → LGoal p l e s m below meth c G x hm kp tr b sq j
  | 0, j, h1, h2 => absurd h2 (by omega)
  | n + 1, j, h1, h2 => law_step hflags C h1 (fun h => law_run hflags C n (j + 1) (by omega) (by omega))
