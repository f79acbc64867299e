theorem dX5_count_69 : decode cX5_count 69 = .ok (.invokevirtual 48, 3) := by decide +kernel
theorem dX5_count_72 : decode cX5_count 72 = .ok (.ireturn, 1) := by decide +kernel
set_option maxRecDepth 20000 in
theorem ggX5_status_X5_toldTogether : GoodIn wsX5_status wsX5_toldTogether := goodIn_sub (List.forall_mem_cons.mpr ⟨List.mem_of_getElem? (i := 6) rfl, (List.forall_mem_append.mpr ⟨(List.forall_mem_cons.mpr ⟨List.mem_of_getElem? (i := 1) rfl, fun _ h => absurd h List.not_mem_nil⟩), (fun _ h => List.mem_cons_of_mem _ (List.mem_append_right _ h))⟩)⟩) (by decide +kernel)
set_option maxRecDepth 20000 in
theorem gX5_status_X5_toldTogether : GoodIn wsX5_status (wsV RX5 218 RX5 yX5_toldTogether wsX5_toldTogether) := goodIn_app (goodIn_sub (List.forall_mem_cons.mpr ⟨List.mem_of_getElem? (i := 2) rfl, List.forall_mem_cons.mpr ⟨List.mem_of_getElem? (i := 3) rfl, List.forall_mem_cons.mpr ⟨List.mem_of_getElem? (i := 4) rfl, List.forall_mem_cons.mpr ⟨List.mem_of_getElem? (i := 5) rfl, fun _ h => absurd h List.not_mem_nil⟩⟩⟩⟩) (by decide +kernel)) ggX5_status_X5_toldTogether
set_option maxRecDepth 20000 in
theorem ggX5_status_X5_tell : GoodIn wsX5_status wsX5_tell := goodIn_sub (List.forall_mem_cons.mpr ⟨List.mem_of_getElem? (i := 10) rfl, (List.forall_mem_append.mpr ⟨(List.forall_mem_cons.mpr ⟨List.mem_of_getElem? (i := 1) rfl, List.forall_mem_cons.mpr ⟨List.mem_of_getElem? (i := 11) rfl, List.forall_mem_cons.mpr ⟨List.mem_of_getElem? (i := 12) rfl, List.forall_mem_cons.mpr ⟨List.mem_of_getElem? (i := 13) rfl, List.forall_mem_cons.mpr ⟨List.mem_of_getElem? (i := 5) rfl, List.forall_mem_cons.mpr ⟨List.mem_of_getElem? (i := 14) rfl, fun _ h => absurd h List.not_mem_nil⟩⟩⟩⟩⟩⟩), (fun _ h => List.mem_cons_of_mem _ (List.mem_append_right _ h))⟩)⟩) (by decide +kernel)
set_option maxRecDepth 20000 in
theorem gX5_status_X5_tell : GoodIn wsX5_status (wsV RX5 48 RX5 yX5_tell wsX5_tell) := goodIn_app (goodIn_sub (List.forall_mem_cons.mpr ⟨List.mem_of_getElem? (i := 7) rfl, List.forall_mem_cons.mpr ⟨List.mem_of_getElem? (i := 8) rfl, List.forall_mem_cons.mpr ⟨List.mem_of_getElem? (i := 9) rfl, List.forall_mem_cons.mpr ⟨List.mem_of_getElem? (i := 5) rfl, fun _ h => absurd h List.not_mem_nil⟩⟩⟩⟩) (by decide +kernel)) ggX5_status_X5_tell
theorem dX5_status_0 : decode cX5_status 0 = .ok (.iload_n 1, 1) := by decide +kernel
theorem dX5_status_1 : decode cX5_status 1 = .ok (.iconst (-1), 1) := by decide +kernel
theorem dX5_status_2 : decode cX5_status 2 = .ok (.if_icmp .ne 8, 3) := by decide +kernel
theorem dX5_status_5 : decode cX5_status 5 = .ok (.aload_n 0, 1) := by decide +kernel
theorem dX5_status_6 : decode cX5_status 6 = .ok (.invokevirtual 218, 3) := by decide +kernel
theorem dX5_status_9 : decode cX5_status 9 = .ok (.ireturn, 1) := by decide +kernel
theorem dX5_status_10 : decode cX5_status 10 = .ok (.iload_n 1, 1) := by decide +kernel
theorem dX5_status_11 : decode cX5_status 11 = .ok (.ifCond .lt 9, 3) := by decide +kernel
theorem dX5_status_14 : decode cX5_status 14 = .ok (.iload_n 1, 1) := by decide +kernel
theorem dX5_status_15 : decode cX5_status 15 = .ok (.bipush 7, 2) := by decide +kernel
theorem dX5_status_17 : decode cX5_status 17 = .ok (.if_icmp .lt 9, 3) := by decide +kernel
theorem dX5_status_20 : decode cX5_status 20 = .ok (.aload_n 0, 1) := by decide +kernel
theorem dX5_status_21 : decode cX5_status 21 = .ok (.iconst 0, 1) := by decide +kernel
theorem dX5_status_22 : decode cX5_status 22 = .ok (.invokevirtual 48, 3) := by decide +kernel
theorem dX5_status_25 : decode cX5_status 25 = .ok (.ireturn, 1) := by decide +kernel
theorem dX5_status_26 : decode cX5_status 26 = .ok (.aload_n 0, 1) := by decide +kernel
theorem dX5_status_27 : decode cX5_status 27 = .ok (.getfield 36, 3) := by decide +kernel
theorem dX5_status_30 : decode cX5_status 30 = .ok (.iload_n 1, 1) := by decide +kernel
theorem dX5_status_31 : decode cX5_status 31 = .ok (.iaload, 1) := by decide +kernel
theorem dX5_status_32 : decode cX5_status 32 = .ok (.ireturn, 1) := by decide +kernel
theorem dX5_isWithin_0 : decode cX5_isWithin 0 = .ok (.iload_n 0, 1) := by decide +kernel
theorem dX5_isWithin_1 : decode cX5_isWithin 1 = .ok (.iload_n 1, 1) := by decide +kernel
theorem dX5_isWithin_2 : decode cX5_isWithin 2 = .ok (.if_icmp .lt 12, 3) := by decide +kernel
theorem dX5_isWithin_5 : decode cX5_isWithin 5 = .ok (.iload_n 0, 1) := by decide +kernel
theorem dX5_isWithin_6 : decode cX5_isWithin 6 = .ok (.iload_n 2, 1) := by decide +kernel
theorem dX5_isWithin_7 : decode cX5_isWithin 7 = .ok (.if_icmp .gt 7, 3) := by decide +kernel
theorem dX5_isWithin_10 : decode cX5_isWithin 10 = .ok (.iconst 1, 1) := by decide +kernel
theorem dX5_isWithin_11 : decode cX5_isWithin 11 = .ok (.goto 4, 3) := by decide +kernel
theorem dX5_isWithin_14 : decode cX5_isWithin 14 = .ok (.iconst 0, 1) := by decide +kernel
theorem dX5_isWithin_15 : decode cX5_isWithin 15 = .ok (.ireturn, 1) := by decide +kernel
set_option maxRecDepth 20000 in
theorem ggX5_tell_X5_isWithin : GoodIn wsX5_tell wsX5_isWithin := goodIn_sub (List.forall_mem_cons.mpr ⟨List.mem_of_getElem? (i := 6) rfl, (fun _ h => absurd h List.not_mem_nil)⟩) (by decide +kernel)
set_option maxRecDepth 20000 in
theorem gX5_tell_X5_isWithin : GoodIn wsX5_tell (va_wsS RX5 44 yX5_isWithin wsX5_isWithin) := goodIn_app (goodIn_sub (List.forall_mem_cons.mpr ⟨List.mem_of_getElem? (i := 3) rfl, List.forall_mem_cons.mpr ⟨List.mem_of_getElem? (i := 4) rfl, List.forall_mem_cons.mpr ⟨List.mem_of_getElem? (i := 5) rfl, fun _ h => absurd h List.not_mem_nil⟩⟩⟩) (by decide +kernel)) ggX5_tell_X5_isWithin
theorem dX5_tell_0 : decode cX5_tell 0 = .ok (.iload_n 1, 1) := by decide +kernel
theorem dX5_tell_1 : decode cX5_tell 1 = .ok (.iconst 0, 1) := by decide +kernel
theorem dX5_tell_2 : decode cX5_tell 2 = .ok (.bipush 6, 2) := by decide +kernel
theorem dX5_tell_4 : decode cX5_tell 4 = .ok (.invokestatic 44, 3) := by decide +kernel
theorem dX5_tell_7 : decode cX5_tell 7 = .ok (.ifCond .eq 13, 3) := by decide +kernel
theorem dX5_tell_10 : decode cX5_tell 10 = .ok (.aload_n 0, 1) := by decide +kernel
theorem dX5_tell_11 : decode cX5_tell 11 = .ok (.getfield 36, 3) := by decide +kernel
theorem dX5_tell_14 : decode cX5_tell 14 = .ok (.iload_n 1, 1) := by decide +kernel
theorem dX5_tell_15 : decode cX5_tell 15 = .ok (.dup2, 1) := by decide +kernel
theorem dX5_tell_16 : decode cX5_tell 16 = .ok (.iaload, 1) := by decide +kernel
theorem dX5_tell_17 : decode cX5_tell 17 = .ok (.iconst 1, 1) := by decide +kernel
theorem dX5_tell_18 : decode cX5_tell 18 = .ok (.iadd, 1) := by decide +kernel
theorem dX5_tell_19 : decode cX5_tell 19 = .ok (.iastore, 1) := by decide +kernel
theorem dX5_tell_20 : decode cX5_tell 20 = .ok (.ldc 221, 2) := by decide +kernel
theorem dX5_tell_22 : decode cX5_tell 22 = .ok (.iload_n 1, 1) := by decide +kernel
theorem dX5_tell_23 : decode cX5_tell 23 = .ok (.isub, 1) := by decide +kernel
theorem dX5_tell_24 : decode cX5_tell 24 = .ok (.ireturn, 1) := by decide +kernel
theorem dX5_toldTogether_0 : decode cX5_toldTogether 0 = .ok (.iconst 0, 1) := by decide +kernel
theorem dX5_toldTogether_1 : decode cX5_toldTogether 1 = .ok (.istore_n 1, 1) := by decide +kernel
theorem dX5_toldTogether_2 : decode cX5_toldTogether 2 = .ok (.iconst 0, 1) := by decide +kernel
theorem dX5_toldTogether_3 : decode cX5_toldTogether 3 = .ok (.istore_n 2, 1) := by decide +kernel
theorem dX5_toldTogether_4 : decode cX5_toldTogether 4 = .ok (.iload_n 2, 1) := by decide +kernel
theorem dX5_toldTogether_5 : decode cX5_toldTogether 5 = .ok (.bipush 7, 2) := by decide +kernel
theorem dX5_toldTogether_7 : decode cX5_toldTogether 7 = .ok (.if_icmp .ge 18, 3) := by decide +kernel
theorem dX5_toldTogether_10 : decode cX5_toldTogether 10 = .ok (.iload_n 1, 1) := by decide +kernel
theorem dX5_toldTogether_11 : decode cX5_toldTogether 11 = .ok (.aload_n 0, 1) := by decide +kernel
theorem dX5_toldTogether_12 : decode cX5_toldTogether 12 = .ok (.getfield 36, 3) := by decide +kernel
theorem dX5_toldTogether_15 : decode cX5_toldTogether 15 = .ok (.iload_n 2, 1) := by decide +kernel
theorem dX5_toldTogether_16 : decode cX5_toldTogether 16 = .ok (.iaload, 1) := by decide +kernel
theorem dX5_toldTogether_17 : decode cX5_toldTogether 17 = .ok (.iadd, 1) := by decide +kernel
theorem dX5_toldTogether_18 : decode cX5_toldTogether 18 = .ok (.istore_n 1, 1) := by decide +kernel
theorem dX5_toldTogether_19 : decode cX5_toldTogether 19 = .ok (.iinc 2 1, 3) := by decide +kernel
theorem dX5_toldTogether_22 : decode cX5_toldTogether 22 = .ok (.goto (-18), 3) := by decide +kernel
theorem dX5_toldTogether_25 : decode cX5_toldTogether 25 = .ok (.iload_n 1, 1) := by decide +kernel
theorem dX5_toldTogether_26 : decode cX5_toldTogether 26 = .ok (.ireturn, 1) := by decide +kernel
theorem dX5_put_0 : decode cX5_put 0 = .ok (.iload_n 1, 1) := by decide +kernel
theorem dX5_put_1 : decode cX5_put 1 = .ok (.ifCond .lt 9, 3) := by decide +kernel
theorem dX5_put_4 : decode cX5_put 4 = .ok (.iload_n 1, 1) := by decide +kernel
theorem dX5_put_5 : decode cX5_put 5 = .ok (.aload_n 0, 1) := by decide +kernel
theorem dX5_put_6 : decode cX5_put 6 = .ok (.arraylength, 1) := by decide +kernel
theorem dX5_put_7 : decode cX5_put 7 = .ok (.if_icmp .lt 5, 3) := by decide +kernel
theorem dX5_put_10 : decode cX5_put 10 = .ok (.iconst 0, 1) := by decide +kernel
theorem dX5_put_11 : decode cX5_put 11 = .ok (.ireturn, 1) := by decide +kernel
theorem dX5_put_12 : decode cX5_put 12 = .ok (.aload_n 0, 1) := by decide +kernel
theorem dX5_put_13 : decode cX5_put 13 = .ok (.iload_n 1, 1) := by decide +kernel
theorem dX5_put_14 : decode cX5_put 14 = .ok (.iaload, 1) := by decide +kernel
theorem dX5_put_15 : decode cX5_put 15 = .ok (.istore_n 3, 1) := by decide +kernel
theorem dX5_put_16 : decode cX5_put 16 = .ok (.aload_n 0, 1) := by decide +kernel
theorem dX5_put_17 : decode cX5_put 17 = .ok (.iload_n 1, 1) := by decide +kernel
theorem dX5_put_18 : decode cX5_put 18 = .ok (.iload_n 2, 1) := by decide +kernel
theorem dX5_put_19 : decode cX5_put 19 = .ok (.iastore, 1) := by decide +kernel
theorem dX5_put_20 : decode cX5_put 20 = .ok (.iload_n 3, 1) := by decide +kernel
theorem dX5_put_21 : decode cX5_put 21 = .ok (.ireturn, 1) := by decide +kernel
set_option maxRecDepth 20000 in
theorem ggX5_tryAsItIs_X0_become : GoodIn wsX5_tryAsItIs wsX0_become := goodIn_sub (List.forall_mem_cons.mpr ⟨List.mem_of_getElem? (i := 7) rfl, (List.forall_mem_append.mpr ⟨(List.forall_mem_cons.mpr ⟨List.mem_of_getElem? (i := 8) rfl, List.forall_mem_cons.mpr ⟨List.mem_of_getElem? (i := 9) rfl, List.forall_mem_cons.mpr ⟨List.mem_of_getElem? (i := 10) rfl, List.forall_mem_cons.mpr ⟨List.mem_of_getElem? (i := 11) rfl, List.forall_mem_cons.mpr ⟨List.mem_of_getElem? (i := 12) rfl, List.forall_mem_cons.mpr ⟨List.mem_of_getElem? (i := 13) rfl, List.forall_mem_cons.mpr ⟨List.mem_of_getElem? (i := 14) rfl, List.forall_mem_cons.mpr ⟨List.mem_of_getElem? (i := 15) rfl, List.forall_mem_cons.mpr ⟨List.mem_of_getElem? (i := 16) rfl, List.forall_mem_cons.mpr ⟨List.mem_of_getElem? (i := 17) rfl, List.forall_mem_cons.mpr ⟨List.mem_of_getElem? (i := 18) rfl, fun _ h => absurd h List.not_mem_nil⟩⟩⟩⟩⟩⟩⟩⟩⟩⟩⟩), (fun _ h => List.mem_cons_of_mem _ (List.mem_append_right _ h))⟩)⟩) (by decide +kernel)
set_option maxRecDepth 20000 in
theorem gX5_tryAsItIs_X0_become : GoodIn wsX5_tryAsItIs (wsV RX5 140 RX0 yX0_become wsX0_become) := goodIn_app (goodIn_sub (List.forall_mem_cons.mpr ⟨List.mem_of_getElem? (i := 3) rfl, List.forall_mem_cons.mpr ⟨List.mem_of_getElem? (i := 4) rfl, List.forall_mem_cons.mpr ⟨List.mem_of_getElem? (i := 5) rfl, List.forall_mem_cons.mpr ⟨List.mem_of_getElem? (i := 6) rfl, fun _ h => absurd h List.not_mem_nil⟩⟩⟩⟩) (by decide +kernel)) ggX5_tryAsItIs_X0_become
set_option maxRecDepth 20000 in
theorem ggX5_tryAsItIs_X0_goOn : GoodIn wsX5_tryAsItIs wsX0_goOn := goodIn_sub (List.forall_mem_cons.mpr ⟨List.mem_of_getElem? (i := 22) rfl, (List.forall_mem_append.mpr ⟨(List.forall_mem_append.mpr ⟨(List.forall_mem_cons.mpr ⟨List.mem_of_getElem? (i := 23) rfl, List.forall_mem_cons.mpr ⟨List.mem_of_getElem? (i := 24) rfl, List.forall_mem_cons.mpr ⟨List.mem_of_getElem? (i := 25) rfl, List.forall_mem_cons.mpr ⟨List.mem_of_getElem? (i := 6) rfl, List.forall_mem_cons.mpr ⟨List.mem_of_getElem? (i := 26) rfl, List.forall_mem_cons.mpr ⟨List.mem_of_getElem? (i := 9) rfl, List.forall_mem_cons.mpr ⟨List.mem_of_getElem? (i := 10) rfl, List.forall_mem_cons.mpr ⟨List.mem_of_getElem? (i := 27) rfl, List.forall_mem_cons.mpr ⟨List.mem_of_getElem? (i := 28) rfl, List.forall_mem_cons.mpr ⟨List.mem_of_getElem? (i := 29) rfl, List.forall_mem_cons.mpr ⟨List.mem_of_getElem? (i := 30) rfl, List.forall_mem_cons.mpr ⟨List.mem_of_getElem? (i := 13) rfl, List.forall_mem_cons.mpr ⟨List.mem_of_getElem? (i := 17) rfl, List.forall_mem_cons.mpr ⟨List.mem_of_getElem? (i := 12) rfl, List.forall_mem_cons.mpr ⟨List.mem_of_getElem? (i := 8) rfl, List.forall_mem_cons.mpr ⟨List.mem_of_getElem? (i := 31) rfl, List.forall_mem_cons.mpr ⟨List.mem_of_getElem? (i := 32) rfl, List.forall_mem_cons.mpr ⟨List.mem_of_getElem? (i := 33) rfl, List.forall_mem_cons.mpr ⟨List.mem_of_getElem? (i := 34) rfl, List.forall_mem_cons.mpr ⟨List.mem_of_getElem? (i := 14) rfl, List.forall_mem_cons.mpr ⟨List.mem_of_getElem? (i := 15) rfl, List.forall_mem_cons.mpr ⟨List.mem_of_getElem? (i := 11) rfl, List.forall_mem_cons.mpr ⟨List.mem_of_getElem? (i := 35) rfl, List.forall_mem_cons.mpr ⟨List.mem_of_getElem? (i := 36) rfl, fun _ h => absurd h List.not_mem_nil⟩⟩⟩⟩⟩⟩⟩⟩⟩⟩⟩⟩⟩⟩⟩⟩⟩⟩⟩⟩⟩⟩⟩⟩), (List.forall_mem_append.mpr ⟨(List.forall_mem_cons.mpr ⟨List.mem_of_getElem? (i := 37) rfl, List.forall_mem_cons.mpr ⟨List.mem_of_getElem? (i := 38) rfl, List.forall_mem_cons.mpr ⟨List.mem_of_getElem? (i := 39) rfl, List.forall_mem_cons.mpr ⟨List.mem_of_getElem? (i := 40) rfl, List.forall_mem_cons.mpr ⟨List.mem_of_getElem? (i := 41) rfl, List.forall_mem_cons.mpr ⟨List.mem_of_getElem? (i := 42) rfl, List.forall_mem_cons.mpr ⟨List.mem_of_getElem? (i := 43) rfl, List.forall_mem_cons.mpr ⟨List.mem_of_getElem? (i := 44) rfl, List.forall_mem_cons.mpr ⟨List.mem_of_getElem? (i := 45) rfl, List.forall_mem_cons.mpr ⟨List.mem_of_getElem? (i := 46) rfl, List.forall_mem_cons.mpr ⟨List.mem_of_getElem? (i := 47) rfl, List.forall_mem_cons.mpr ⟨List.mem_of_getElem? (i := 48) rfl, List.forall_mem_cons.mpr ⟨List.mem_of_getElem? (i := 49) rfl, List.forall_mem_cons.mpr ⟨List.mem_of_getElem? (i := 50) rfl, List.forall_mem_cons.mpr ⟨List.mem_of_getElem? (i := 51) rfl, List.forall_mem_cons.mpr ⟨List.mem_of_getElem? (i := 52) rfl, List.forall_mem_cons.mpr ⟨List.mem_of_getElem? (i := 16) rfl, List.forall_mem_cons.mpr ⟨List.mem_of_getElem? (i := 18) rfl, List.forall_mem_cons.mpr ⟨List.mem_of_getElem? (i := 53) rfl, List.forall_mem_cons.mpr ⟨List.mem_of_getElem? (i := 54) rfl, List.forall_mem_cons.mpr ⟨List.mem_of_getElem? (i := 55) rfl, List.forall_mem_cons.mpr ⟨List.mem_of_getElem? (i := 56) rfl, List.forall_mem_cons.mpr ⟨List.mem_of_getElem? (i := 57) rfl, List.forall_mem_cons.mpr ⟨List.mem_of_getElem? (i := 58) rfl, fun _ h => absurd h List.not_mem_nil⟩⟩⟩⟩⟩⟩⟩⟩⟩⟩⟩⟩⟩⟩⟩⟩⟩⟩⟩⟩⟩⟩⟩⟩), (List.forall_mem_cons.mpr ⟨List.mem_of_getElem? (i := 59) rfl, List.forall_mem_cons.mpr ⟨List.mem_of_getElem? (i := 60) rfl, List.forall_mem_cons.mpr ⟨List.mem_of_getElem? (i := 61) rfl, List.forall_mem_cons.mpr ⟨List.mem_of_getElem? (i := 62) rfl, List.forall_mem_cons.mpr ⟨List.mem_of_getElem? (i := 63) rfl, List.forall_mem_cons.mpr ⟨List.mem_of_getElem? (i := 64) rfl, List.forall_mem_cons.mpr ⟨List.mem_of_getElem? (i := 65) rfl, List.forall_mem_cons.mpr ⟨List.mem_of_getElem? (i := 66) rfl, List.forall_mem_cons.mpr ⟨List.mem_of_getElem? (i := 67) rfl, List.forall_mem_cons.mpr ⟨List.mem_of_getElem? (i := 68) rfl, List.forall_mem_cons.mpr ⟨List.mem_of_getElem? (i := 69) rfl, List.forall_mem_cons.mpr ⟨List.mem_of_getElem? (i := 70) rfl, List.forall_mem_cons.mpr ⟨List.mem_of_getElem? (i := 71) rfl, List.forall_mem_cons.mpr ⟨List.mem_of_getElem? (i := 72) rfl, List.forall_mem_cons.mpr ⟨List.mem_of_getElem? (i := 73) rfl, fun _ h => absurd h List.not_mem_nil⟩⟩⟩⟩⟩⟩⟩⟩⟩⟩⟩⟩⟩⟩⟩)⟩)⟩), (fun _ h => List.mem_cons_of_mem _ (List.mem_append_right _ h))⟩)⟩) (by decide +kernel)
set_option maxRecDepth 20000 in
theorem gX5_tryAsItIs_X0_goOn : GoodIn wsX5_tryAsItIs (wsV RX5 133 RX0 yX0_goOn wsX0_goOn) := goodIn_app (goodIn_sub (List.forall_mem_cons.mpr ⟨List.mem_of_getElem? (i := 19) rfl, List.forall_mem_cons.mpr ⟨List.mem_of_getElem? (i := 20) rfl, List.forall_mem_cons.mpr ⟨List.mem_of_getElem? (i := 21) rfl, List.forall_mem_cons.mpr ⟨List.mem_of_getElem? (i := 6) rfl, fun _ h => absurd h List.not_mem_nil⟩⟩⟩⟩) (by decide +kernel)) ggX5_tryAsItIs_X0_goOn
theorem dX5_tryAsItIs_0 : decode cX5_tryAsItIs 0 = .ok (.aload_n 0, 1) := by decide +kernel
theorem dX5_tryAsItIs_1 : decode cX5_tryAsItIs 1 = .ok (.getfield 19, 3) := by decide +kernel
theorem dX5_tryAsItIs_4 : decode cX5_tryAsItIs 4 = .ok (.aload_n 0, 1) := by decide +kernel
theorem dX5_tryAsItIs_5 : decode cX5_tryAsItIs 5 = .ok (.getfield 10, 3) := by decide +kernel
theorem dX5_tryAsItIs_8 : decode cX5_tryAsItIs 8 = .ok (.invokevirtual 140, 3) := by decide +kernel
theorem dX5_tryAsItIs_11 : decode cX5_tryAsItIs 11 = .ok (.aload_n 0, 1) := by decide +kernel
theorem dX5_tryAsItIs_12 : decode cX5_tryAsItIs 12 = .ok (.getfield 19, 3) := by decide +kernel
theorem dX5_tryAsItIs_15 : decode cX5_tryAsItIs 15 = .ok (.iload_n 1, 1) := by decide +kernel
theorem dX5_tryAsItIs_16 : decode cX5_tryAsItIs 16 = .ok (.invokevirtual 133, 3) := by decide +kernel
theorem dX5_tryAsItIs_19 : decode cX5_tryAsItIs 19 = .ok (.return_, 1) := by decide +kernel
set_option maxRecDepth 20000 in
theorem ggX5_isTrialFed_X0_goOneDay : GoodIn wsX5_isTrialFed wsX0_goOneDay := goodIn_sub (List.forall_mem_cons.mpr ⟨List.mem_of_getElem? (i := 8) rfl, (List.forall_mem_append.mpr ⟨(List.forall_mem_append.mpr ⟨(List.forall_mem_cons.mpr ⟨List.mem_of_getElem? (i := 9) rfl, List.forall_mem_cons.mpr ⟨List.mem_of_getElem? (i := 10) rfl, List.forall_mem_cons.mpr ⟨List.mem_of_getElem? (i := 11) rfl, List.forall_mem_cons.mpr ⟨List.mem_of_getElem? (i := 12) rfl, List.forall_mem_cons.mpr ⟨List.mem_of_getElem? (i := 13) rfl, List.forall_mem_cons.mpr ⟨List.mem_of_getElem? (i := 14) rfl, List.forall_mem_cons.mpr ⟨List.mem_of_getElem? (i := 15) rfl, List.forall_mem_cons.mpr ⟨List.mem_of_getElem? (i := 16) rfl, List.forall_mem_cons.mpr ⟨List.mem_of_getElem? (i := 17) rfl, List.forall_mem_cons.mpr ⟨List.mem_of_getElem? (i := 18) rfl, List.forall_mem_cons.mpr ⟨List.mem_of_getElem? (i := 19) rfl, List.forall_mem_cons.mpr ⟨List.mem_of_getElem? (i := 20) rfl, List.forall_mem_cons.mpr ⟨List.mem_of_getElem? (i := 21) rfl, List.forall_mem_cons.mpr ⟨List.mem_of_getElem? (i := 7) rfl, List.forall_mem_cons.mpr ⟨List.mem_of_getElem? (i := 22) rfl, List.forall_mem_cons.mpr ⟨List.mem_of_getElem? (i := 23) rfl, List.forall_mem_cons.mpr ⟨List.mem_of_getElem? (i := 24) rfl, List.forall_mem_cons.mpr ⟨List.mem_of_getElem? (i := 25) rfl, List.forall_mem_cons.mpr ⟨List.mem_of_getElem? (i := 26) rfl, List.forall_mem_cons.mpr ⟨List.mem_of_getElem? (i := 27) rfl, List.forall_mem_cons.mpr ⟨List.mem_of_getElem? (i := 28) rfl, List.forall_mem_cons.mpr ⟨List.mem_of_getElem? (i := 29) rfl, List.forall_mem_cons.mpr ⟨List.mem_of_getElem? (i := 30) rfl, List.forall_mem_cons.mpr ⟨List.mem_of_getElem? (i := 31) rfl, fun _ h => absurd h List.not_mem_nil⟩⟩⟩⟩⟩⟩⟩⟩⟩⟩⟩⟩⟩⟩⟩⟩⟩⟩⟩⟩⟩⟩⟩⟩), (List.forall_mem_append.mpr ⟨(List.forall_mem_cons.mpr ⟨List.mem_of_getElem? (i := 32) rfl, List.forall_mem_cons.mpr ⟨List.mem_of_getElem? (i := 33) rfl, List.forall_mem_cons.mpr ⟨List.mem_of_getElem? (i := 34) rfl, List.forall_mem_cons.mpr ⟨List.mem_of_getElem? (i := 35) rfl, List.forall_mem_cons.mpr ⟨List.mem_of_getElem? (i := 36) rfl, List.forall_mem_cons.mpr ⟨List.mem_of_getElem? (i := 37) rfl, List.forall_mem_cons.mpr ⟨List.mem_of_getElem? (i := 38) rfl, List.forall_mem_cons.mpr ⟨List.mem_of_getElem? (i := 39) rfl, List.forall_mem_cons.mpr ⟨List.mem_of_getElem? (i := 40) rfl, List.forall_mem_cons.mpr ⟨List.mem_of_getElem? (i := 41) rfl, List.forall_mem_cons.mpr ⟨List.mem_of_getElem? (i := 42) rfl, List.forall_mem_cons.mpr ⟨List.mem_of_getElem? (i := 43) rfl, List.forall_mem_cons.mpr ⟨List.mem_of_getElem? (i := 44) rfl, List.forall_mem_cons.mpr ⟨List.mem_of_getElem? (i := 45) rfl, List.forall_mem_cons.mpr ⟨List.mem_of_getElem? (i := 46) rfl, List.forall_mem_cons.mpr ⟨List.mem_of_getElem? (i := 47) rfl, List.forall_mem_cons.mpr ⟨List.mem_of_getElem? (i := 48) rfl, List.forall_mem_cons.mpr ⟨List.mem_of_getElem? (i := 49) rfl, List.forall_mem_cons.mpr ⟨List.mem_of_getElem? (i := 50) rfl, List.forall_mem_cons.mpr ⟨List.mem_of_getElem? (i := 51) rfl, List.forall_mem_cons.mpr ⟨List.mem_of_getElem? (i := 52) rfl, List.forall_mem_cons.mpr ⟨List.mem_of_getElem? (i := 53) rfl, List.forall_mem_cons.mpr ⟨List.mem_of_getElem? (i := 54) rfl, List.forall_mem_cons.mpr ⟨List.mem_of_getElem? (i := 55) rfl, fun _ h => absurd h List.not_mem_nil⟩⟩⟩⟩⟩⟩⟩⟩⟩⟩⟩⟩⟩⟩⟩⟩⟩⟩⟩⟩⟩⟩⟩⟩), (List.forall_mem_cons.mpr ⟨List.mem_of_getElem? (i := 56) rfl, List.forall_mem_cons.mpr ⟨List.mem_of_getElem? (i := 57) rfl, List.forall_mem_cons.mpr ⟨List.mem_of_getElem? (i := 58) rfl, List.forall_mem_cons.mpr ⟨List.mem_of_getElem? (i := 59) rfl, List.forall_mem_cons.mpr ⟨List.mem_of_getElem? (i := 60) rfl, List.forall_mem_cons.mpr ⟨List.mem_of_getElem? (i := 61) rfl, List.forall_mem_cons.mpr ⟨List.mem_of_getElem? (i := 62) rfl, List.forall_mem_cons.mpr ⟨List.mem_of_getElem? (i := 63) rfl, List.forall_mem_cons.mpr ⟨List.mem_of_getElem? (i := 64) rfl, List.forall_mem_cons.mpr ⟨List.mem_of_getElem? (i := 65) rfl, List.forall_mem_cons.mpr ⟨List.mem_of_getElem? (i := 66) rfl, fun _ h => absurd h List.not_mem_nil⟩⟩⟩⟩⟩⟩⟩⟩⟩⟩⟩)⟩)⟩), (fun _ h => List.mem_cons_of_mem _ (List.mem_append_right _ h))⟩)⟩) (by decide +kernel)
set_option maxRecDepth 20000 in
theorem gX5_isTrialFed_X0_goOneDay : GoodIn wsX5_isTrialFed (wsV RX5 144 RX0 yX0_goOneDay wsX0_goOneDay) := goodIn_app (goodIn_sub (List.forall_mem_cons.mpr ⟨List.mem_of_getElem? (i := 4) rfl, List.forall_mem_cons.mpr ⟨List.mem_of_getElem? (i := 5) rfl, List.forall_mem_cons.mpr ⟨List.mem_of_getElem? (i := 6) rfl, List.forall_mem_cons.mpr ⟨List.mem_of_getElem? (i := 7) rfl, fun _ h => absurd h List.not_mem_nil⟩⟩⟩⟩) (by decide +kernel)) ggX5_isTrialFed_X0_goOneDay
theorem dX5_isTrialFed_0 : decode cX5_isTrialFed 0 = .ok (.iconst 0, 1) := by decide +kernel
theorem dX5_isTrialFed_1 : decode cX5_isTrialFed 1 = .ok (.istore_n 2, 1) := by decide +kernel
theorem dX5_isTrialFed_2 : decode cX5_isTrialFed 2 = .ok (.iload_n 2, 1) := by decide +kernel
theorem dX5_isTrialFed_3 : decode cX5_isTrialFed 3 = .ok (.iload_n 1, 1) := by decide +kernel
theorem dX5_isTrialFed_4 : decode cX5_isTrialFed 4 = .ok (.if_icmp .ge 35, 3) := by decide +kernel
theorem dX5_isTrialFed_7 : decode cX5_isTrialFed 7 = .ok (.aload_n 0, 1) := by decide +kernel
theorem dX5_isTrialFed_8 : decode cX5_isTrialFed 8 = .ok (.getfield 19, 3) := by decide +kernel
theorem dX5_isTrialFed_11 : decode cX5_isTrialFed 11 = .ok (.invokevirtual 144, 3) := by decide +kernel
theorem dX5_isTrialFed_14 : decode cX5_isTrialFed 14 = .ok (.aload_n 0, 1) := by decide +kernel
theorem dX5_isTrialFed_15 : decode cX5_isTrialFed 15 = .ok (.getfield 19, 3) := by decide +kernel
theorem dX5_isTrialFed_18 : decode cX5_isTrialFed 18 = .ok (.getfield 66, 3) := by decide +kernel
theorem dX5_isTrialFed_21 : decode cX5_isTrialFed 21 = .ok (.aload_n 0, 1) := by decide +kernel
theorem dX5_isTrialFed_22 : decode cX5_isTrialFed 22 = .ok (.getfield 10, 3) := by decide +kernel
theorem dX5_isTrialFed_25 : decode cX5_isTrialFed 25 = .ok (.getfield 66, 3) := by decide +kernel
theorem dX5_isTrialFed_28 : decode cX5_isTrialFed 28 = .ok (.if_icmp .le 5, 3) := by decide +kernel
theorem dX5_isTrialFed_31 : decode cX5_isTrialFed 31 = .ok (.iconst 0, 1) := by decide +kernel
theorem dX5_isTrialFed_32 : decode cX5_isTrialFed 32 = .ok (.ireturn, 1) := by decide +kernel
theorem dX5_isTrialFed_33 : decode cX5_isTrialFed 33 = .ok (.iinc 2 1, 3) := by decide +kernel
theorem dX5_isTrialFed_36 : decode cX5_isTrialFed 36 = .ok (.goto (-34), 3) := by decide +kernel
theorem dX5_isTrialFed_39 : decode cX5_isTrialFed 39 = .ok (.iconst 1, 1) := by decide +kernel
theorem dX5_isTrialFed_40 : decode cX5_isTrialFed 40 = .ok (.ireturn, 1) := by decide +kernel
set_option maxRecDepth 20000 in
theorem ggX5_isTrialAsTold_X3_numberAt : GoodIn wsX5_isTrialAsTold wsX3_numberAt := goodIn_sub (List.forall_mem_cons.mpr ⟨List.mem_of_getElem? (i := 9) rfl, (List.forall_mem_append.mpr ⟨(List.forall_mem_cons.mpr ⟨List.mem_of_getElem? (i := 10) rfl, List.forall_mem_cons.mpr ⟨List.mem_of_getElem? (i := 11) rfl, List.forall_mem_cons.mpr ⟨List.mem_of_getElem? (i := 12) rfl, List.forall_mem_cons.mpr ⟨List.mem_of_getElem? (i := 13) rfl, List.forall_mem_cons.mpr ⟨List.mem_of_getElem? (i := 8) rfl, List.forall_mem_cons.mpr ⟨List.mem_of_getElem? (i := 14) rfl, List.forall_mem_cons.mpr ⟨List.mem_of_getElem? (i := 15) rfl, List.forall_mem_cons.mpr ⟨List.mem_of_getElem? (i := 16) rfl, List.forall_mem_cons.mpr ⟨List.mem_of_getElem? (i := 17) rfl, List.forall_mem_cons.mpr ⟨List.mem_of_getElem? (i := 18) rfl, fun _ h => absurd h List.not_mem_nil⟩⟩⟩⟩⟩⟩⟩⟩⟩⟩), (fun _ h => List.mem_cons_of_mem _ (List.mem_append_left _ (List.mem_append_right _ h)))⟩)⟩) (by decide +kernel)
set_option maxRecDepth 20000 in
theorem gX5_isTrialAsTold_X3_numberAt : GoodIn wsX5_isTrialAsTold (wsV RX5 192 RX3 yX3_numberAt wsX3_numberAt) := goodIn_app (goodIn_sub (List.forall_mem_cons.mpr ⟨List.mem_of_getElem? (i := 5) rfl, List.forall_mem_cons.mpr ⟨List.mem_of_getElem? (i := 6) rfl, List.forall_mem_cons.mpr ⟨List.mem_of_getElem? (i := 7) rfl, List.forall_mem_cons.mpr ⟨List.mem_of_getElem? (i := 8) rfl, fun _ h => absurd h List.not_mem_nil⟩⟩⟩⟩) (by decide +kernel)) ggX5_isTrialAsTold_X3_numberAt
set_option maxRecDepth 20000 in
theorem ggX5_isTrialAsTold_X0_goOneDay : GoodIn wsX5_isTrialAsTold wsX0_goOneDay := goodIn_sub (List.forall_mem_cons.mpr ⟨List.mem_of_getElem? (i := 23) rfl, (List.forall_mem_append.mpr ⟨(List.forall_mem_append.mpr ⟨(List.forall_mem_cons.mpr ⟨List.mem_of_getElem? (i := 24) rfl, List.forall_mem_cons.mpr ⟨List.mem_of_getElem? (i := 25) rfl, List.forall_mem_cons.mpr ⟨List.mem_of_getElem? (i := 26) rfl, List.forall_mem_cons.mpr ⟨List.mem_of_getElem? (i := 27) rfl, List.forall_mem_cons.mpr ⟨List.mem_of_getElem? (i := 28) rfl, List.forall_mem_cons.mpr ⟨List.mem_of_getElem? (i := 29) rfl, List.forall_mem_cons.mpr ⟨List.mem_of_getElem? (i := 30) rfl, List.forall_mem_cons.mpr ⟨List.mem_of_getElem? (i := 31) rfl, List.forall_mem_cons.mpr ⟨List.mem_of_getElem? (i := 32) rfl, List.forall_mem_cons.mpr ⟨List.mem_of_getElem? (i := 33) rfl, List.forall_mem_cons.mpr ⟨List.mem_of_getElem? (i := 34) rfl, List.forall_mem_cons.mpr ⟨List.mem_of_getElem? (i := 35) rfl, List.forall_mem_cons.mpr ⟨List.mem_of_getElem? (i := 36) rfl, List.forall_mem_cons.mpr ⟨List.mem_of_getElem? (i := 22) rfl, List.forall_mem_cons.mpr ⟨List.mem_of_getElem? (i := 37) rfl, List.forall_mem_cons.mpr ⟨List.mem_of_getElem? (i := 38) rfl, List.forall_mem_cons.mpr ⟨List.mem_of_getElem? (i := 39) rfl, List.forall_mem_cons.mpr ⟨List.mem_of_getElem? (i := 40) rfl, List.forall_mem_cons.mpr ⟨List.mem_of_getElem? (i := 41) rfl, List.forall_mem_cons.mpr ⟨List.mem_of_getElem? (i := 42) rfl, List.forall_mem_cons.mpr ⟨List.mem_of_getElem? (i := 43) rfl, List.forall_mem_cons.mpr ⟨List.mem_of_getElem? (i := 44) rfl, List.forall_mem_cons.mpr ⟨List.mem_of_getElem? (i := 45) rfl, List.forall_mem_cons.mpr ⟨List.mem_of_getElem? (i := 46) rfl, fun _ h => absurd h List.not_mem_nil⟩⟩⟩⟩⟩⟩⟩⟩⟩⟩⟩⟩⟩⟩⟩⟩⟩⟩⟩⟩⟩⟩⟩⟩), (List.forall_mem_append.mpr ⟨(List.forall_mem_cons.mpr ⟨List.mem_of_getElem? (i := 47) rfl, List.forall_mem_cons.mpr ⟨List.mem_of_getElem? (i := 48) rfl, List.forall_mem_cons.mpr ⟨List.mem_of_getElem? (i := 49) rfl, List.forall_mem_cons.mpr ⟨List.mem_of_getElem? (i := 50) rfl, List.forall_mem_cons.mpr ⟨List.mem_of_getElem? (i := 51) rfl, List.forall_mem_cons.mpr ⟨List.mem_of_getElem? (i := 52) rfl, List.forall_mem_cons.mpr ⟨List.mem_of_getElem? (i := 53) rfl, List.forall_mem_cons.mpr ⟨List.mem_of_getElem? (i := 54) rfl, List.forall_mem_cons.mpr ⟨List.mem_of_getElem? (i := 55) rfl, List.forall_mem_cons.mpr ⟨List.mem_of_getElem? (i := 56) rfl, List.forall_mem_cons.mpr ⟨List.mem_of_getElem? (i := 57) rfl, List.forall_mem_cons.mpr ⟨List.mem_of_getElem? (i := 58) rfl, List.forall_mem_cons.mpr ⟨List.mem_of_getElem? (i := 59) rfl, List.forall_mem_cons.mpr ⟨List.mem_of_getElem? (i := 60) rfl, List.forall_mem_cons.mpr ⟨List.mem_of_getElem? (i := 61) rfl, List.forall_mem_cons.mpr ⟨List.mem_of_getElem? (i := 62) rfl, List.forall_mem_cons.mpr ⟨List.mem_of_getElem? (i := 63) rfl, List.forall_mem_cons.mpr ⟨List.mem_of_getElem? (i := 64) rfl, List.forall_mem_cons.mpr ⟨List.mem_of_getElem? (i := 65) rfl, List.forall_mem_cons.mpr ⟨List.mem_of_getElem? (i := 66) rfl, List.forall_mem_cons.mpr ⟨List.mem_of_getElem? (i := 67) rfl, List.forall_mem_cons.mpr ⟨List.mem_of_getElem? (i := 68) rfl, List.forall_mem_cons.mpr ⟨List.mem_of_getElem? (i := 69) rfl, List.forall_mem_cons.mpr ⟨List.mem_of_getElem? (i := 70) rfl, fun _ h => absurd h List.not_mem_nil⟩⟩⟩⟩⟩⟩⟩⟩⟩⟩⟩⟩⟩⟩⟩⟩⟩⟩⟩⟩⟩⟩⟩⟩), (List.forall_mem_cons.mpr ⟨List.mem_of_getElem? (i := 71) rfl, List.forall_mem_cons.mpr ⟨List.mem_of_getElem? (i := 72) rfl, List.forall_mem_cons.mpr ⟨List.mem_of_getElem? (i := 73) rfl, List.forall_mem_cons.mpr ⟨List.mem_of_getElem? (i := 74) rfl, List.forall_mem_cons.mpr ⟨List.mem_of_getElem? (i := 75) rfl, List.forall_mem_cons.mpr ⟨List.mem_of_getElem? (i := 76) rfl, List.forall_mem_cons.mpr ⟨List.mem_of_getElem? (i := 77) rfl, List.forall_mem_cons.mpr ⟨List.mem_of_getElem? (i := 78) rfl, List.forall_mem_cons.mpr ⟨List.mem_of_getElem? (i := 79) rfl, List.forall_mem_cons.mpr ⟨List.mem_of_getElem? (i := 80) rfl, List.forall_mem_cons.mpr ⟨List.mem_of_getElem? (i := 81) rfl, fun _ h => absurd h List.not_mem_nil⟩⟩⟩⟩⟩⟩⟩⟩⟩⟩⟩)⟩)⟩), (fun _ h => List.mem_cons_of_mem _ (List.mem_append_right _ h))⟩)⟩) (by decide +kernel)
set_option maxRecDepth 20000 in
theorem gX5_isTrialAsTold_X0_goOneDay : GoodIn wsX5_isTrialAsTold (wsV RX5 144 RX0 yX0_goOneDay wsX0_goOneDay) := goodIn_app (goodIn_sub (List.forall_mem_cons.mpr ⟨List.mem_of_getElem? (i := 19) rfl, List.forall_mem_cons.mpr ⟨List.mem_of_getElem? (i := 20) rfl, List.forall_mem_cons.mpr ⟨List.mem_of_getElem? (i := 21) rfl, List.forall_mem_cons.mpr ⟨List.mem_of_getElem? (i := 22) rfl, fun _ h => absurd h List.not_mem_nil⟩⟩⟩⟩) (by decide +kernel)) ggX5_isTrialAsTold_X0_goOneDay
theorem dX5_isTrialAsTold_0 : decode cX5_isTrialAsTold 0 = .ok (.iconst 0, 1) := by decide +kernel
theorem dX5_isTrialAsTold_1 : decode cX5_isTrialAsTold 1 = .ok (.istore_n 2, 1) := by decide +kernel
theorem dX5_isTrialAsTold_2 : decode cX5_isTrialAsTold 2 = .ok (.iload_n 2, 1) := by decide +kernel
theorem dX5_isTrialAsTold_3 : decode cX5_isTrialAsTold 3 = .ok (.aload_n 0, 1) := by decide +kernel
theorem dX5_isTrialAsTold_4 : decode cX5_isTrialAsTold 4 = .ok (.getfield 32, 3) := by decide +kernel
theorem dX5_isTrialAsTold_7 : decode cX5_isTrialAsTold 7 = .ok (.getfield 186, 3) := by decide +kernel
theorem dX5_isTrialAsTold_10 : decode cX5_isTrialAsTold 10 = .ok (.iload_n 1, 1) := by decide +kernel
theorem dX5_isTrialAsTold_11 : decode cX5_isTrialAsTold 11 = .ok (.iaload, 1) := by decide +kernel
theorem dX5_isTrialAsTold_12 : decode cX5_isTrialAsTold 12 = .ok (.if_icmp .ge 39, 3) := by decide +kernel
theorem dX5_isTrialAsTold_15 : decode cX5_isTrialAsTold 15 = .ok (.aload_n 0, 1) := by decide +kernel
theorem dX5_isTrialAsTold_16 : decode cX5_isTrialAsTold 16 = .ok (.getfield 32, 3) := by decide +kernel
theorem dX5_isTrialAsTold_19 : decode cX5_isTrialAsTold 19 = .ok (.iload_n 1, 1) := by decide +kernel
theorem dX5_isTrialAsTold_20 : decode cX5_isTrialAsTold 20 = .ok (.iload_n 2, 1) := by decide +kernel
theorem dX5_isTrialAsTold_21 : decode cX5_isTrialAsTold 21 = .ok (.invokevirtual 192, 3) := by decide +kernel
theorem dX5_isTrialAsTold_24 : decode cX5_isTrialAsTold 24 = .ok (.aload_n 0, 1) := by decide +kernel
theorem dX5_isTrialAsTold_25 : decode cX5_isTrialAsTold 25 = .ok (.getfield 19, 3) := by decide +kernel
theorem dX5_isTrialAsTold_28 : decode cX5_isTrialAsTold 28 = .ok (.getfield 52, 3) := by decide +kernel
theorem dX5_isTrialAsTold_31 : decode cX5_isTrialAsTold 31 = .ok (.i2l, 1) := by decide +kernel
theorem dX5_isTrialAsTold_32 : decode cX5_isTrialAsTold 32 = .ok (.lcmp, 1) := by decide +kernel
theorem dX5_isTrialAsTold_33 : decode cX5_isTrialAsTold 33 = .ok (.ifCond .eq 5, 3) := by decide +kernel
theorem dX5_isTrialAsTold_36 : decode cX5_isTrialAsTold 36 = .ok (.iconst 0, 1) := by decide +kernel
theorem dX5_isTrialAsTold_37 : decode cX5_isTrialAsTold 37 = .ok (.ireturn, 1) := by decide +kernel
theorem dX5_isTrialAsTold_38 : decode cX5_isTrialAsTold 38 = .ok (.aload_n 0, 1) := by decide +kernel
theorem dX5_isTrialAsTold_39 : decode cX5_isTrialAsTold 39 = .ok (.getfield 19, 3) := by decide +kernel
theorem dX5_isTrialAsTold_42 : decode cX5_isTrialAsTold 42 = .ok (.invokevirtual 144, 3) := by decide +kernel
theorem dX5_isTrialAsTold_45 : decode cX5_isTrialAsTold 45 = .ok (.iinc 2 1, 3) := by decide +kernel
theorem dX5_isTrialAsTold_48 : decode cX5_isTrialAsTold 48 = .ok (.goto (-46), 3) := by decide +kernel
theorem dX5_isTrialAsTold_51 : decode cX5_isTrialAsTold 51 = .ok (.iconst 1, 1) := by decide +kernel
theorem dX5_isTrialAsTold_52 : decode cX5_isTrialAsTold 52 = .ok (.ireturn, 1) := by decide +kernel
theorem dX6_init_0 : decode cX6_init 0 = .ok (.aload_n 0, 1) := by decide +kernel
theorem dX6_init_1 : decode cX6_init 1 = .ok (.invokespecial 1, 3) := by decide +kernel
theorem dX6_init_4 : decode cX6_init 4 = .ok (.aload_n 0, 1) := by decide +kernel
theorem dX6_init_5 : decode cX6_init 5 = .ok (.bipush 46, 2) := by decide +kernel
theorem dX6_init_7 : decode cX6_init 7 = .ok (.newarray .int, 2) := by decide +kernel
theorem dX6_init_9 : decode cX6_init 9 = .ok (.putfield 9, 3) := by decide +kernel
theorem dX6_init_12 : decode cX6_init 12 = .ok (.aload_n 0, 1) := by decide +kernel
theorem dX6_init_13 : decode cX6_init 13 = .ok (.bipush 46, 2) := by decide +kernel
theorem dX6_init_15 : decode cX6_init 15 = .ok (.newarray .int, 2) := by decide +kernel
theorem dX6_init_17 : decode cX6_init 17 = .ok (.putfield 13, 3) := by decide +kernel
theorem dX6_init_20 : decode cX6_init 20 = .ok (.aload_n 0, 1) := by decide +kernel
theorem dX6_init_21 : decode cX6_init 21 = .ok (.bipush 46, 2) := by decide +kernel
theorem dX6_init_23 : decode cX6_init 23 = .ok (.newarray .int, 2) := by decide +kernel
theorem dX6_init_25 : decode cX6_init 25 = .ok (.putfield 16, 3) := by decide +kernel
theorem dX6_init_28 : decode cX6_init 28 = .ok (.aload_n 0, 1) := by decide +kernel
theorem dX6_init_29 : decode cX6_init 29 = .ok (.bipush 7, 2) := by decide +kernel
theorem dX6_init_31 : decode cX6_init 31 = .ok (.newarray .int, 2) := by decide +kernel
theorem dX6_init_33 : decode cX6_init 33 = .ok (.putfield 19, 3) := by decide +kernel
theorem dX6_init_36 : decode cX6_init 36 = .ok (.aload_n 0, 1) := by decide +kernel
theorem dX6_init_37 : decode cX6_init 37 = .ok (.bipush 120, 2) := by decide +kernel
theorem dX6_init_39 : decode cX6_init 39 = .ok (.newarray .int, 2) := by decide +kernel
theorem dX6_init_41 : decode cX6_init 41 = .ok (.putfield 22, 3) := by decide +kernel
theorem dX6_init_44 : decode cX6_init 44 = .ok (.aload_n 0, 1) := by decide +kernel
theorem dX6_init_45 : decode cX6_init 45 = .ok (.bipush 48, 2) := by decide +kernel
theorem dX6_init_47 : decode cX6_init 47 = .ok (.newarray .char, 2) := by decide +kernel
theorem dX6_init_49 : decode cX6_init 49 = .ok (.dup, 1) := by decide +kernel
theorem dX6_init_50 : decode cX6_init 50 = .ok (.iconst 0, 1) := by decide +kernel
theorem dX6_init_51 : decode cX6_init 51 = .ok (.bipush 99, 2) := by decide +kernel
theorem dX6_init_53 : decode cX6_init 53 = .ok (.castore, 1) := by decide +kernel
theorem dX6_init_54 : decode cX6_init 54 = .ok (.dup, 1) := by decide +kernel
theorem dX6_init_55 : decode cX6_init 55 = .ok (.iconst 1, 1) := by decide +kernel
theorem dX6_init_56 : decode cX6_init 56 = .ok (.bipush 111, 2) := by decide +kernel
theorem dX6_init_58 : decode cX6_init 58 = .ok (.castore, 1) := by decide +kernel
theorem dX6_init_59 : decode cX6_init 59 = .ok (.dup, 1) := by decide +kernel
theorem dX6_init_60 : decode cX6_init 60 = .ok (.iconst 2, 1) := by decide +kernel
theorem dX6_init_61 : decode cX6_init 61 = .ok (.bipush 111, 2) := by decide +kernel
theorem dX6_init_63 : decode cX6_init 63 = .ok (.castore, 1) := by decide +kernel
theorem dX6_init_64 : decode cX6_init 64 = .ok (.dup, 1) := by decide +kernel
theorem dX6_init_65 : decode cX6_init 65 = .ok (.iconst 3, 1) := by decide +kernel
theorem dX6_init_66 : decode cX6_init 66 = .ok (.bipush 107, 2) := by decide +kernel
theorem dX6_init_68 : decode cX6_init 68 = .ok (.castore, 1) := by decide +kernel
theorem dX6_init_69 : decode cX6_init 69 = .ok (.dup, 1) := by decide +kernel
theorem dX6_init_70 : decode cX6_init 70 = .ok (.iconst 4, 1) := by decide +kernel
theorem dX6_init_71 : decode cX6_init 71 = .ok (.bipush 32, 2) := by decide +kernel
theorem dX6_init_73 : decode cX6_init 73 = .ok (.castore, 1) := by decide +kernel
theorem dX6_init_74 : decode cX6_init 74 = .ok (.dup, 1) := by decide +kernel
theorem dX6_init_75 : decode cX6_init 75 = .ok (.iconst 5, 1) := by decide +kernel
theorem dX6_init_76 : decode cX6_init 76 = .ok (.bipush 32, 2) := by decide +kernel
theorem dX6_init_78 : decode cX6_init 78 = .ok (.castore, 1) := by decide +kernel
theorem dX6_init_79 : decode cX6_init 79 = .ok (.dup, 1) := by decide +kernel
theorem dX6_init_80 : decode cX6_init 80 = .ok (.bipush 6, 2) := by decide +kernel
theorem dX6_init_82 : decode cX6_init 82 = .ok (.bipush 32, 2) := by decide +kernel
theorem dX6_init_84 : decode cX6_init 84 = .ok (.castore, 1) := by decide +kernel
theorem dX6_init_85 : decode cX6_init 85 = .ok (.dup, 1) := by decide +kernel
theorem dX6_init_86 : decode cX6_init 86 = .ok (.bipush 7, 2) := by decide +kernel
theorem dX6_init_88 : decode cX6_init 88 = .ok (.bipush 32, 2) := by decide +kernel
theorem dX6_init_90 : decode cX6_init 90 = .ok (.castore, 1) := by decide +kernel
theorem dX6_init_91 : decode cX6_init 91 = .ok (.dup, 1) := by decide +kernel
theorem dX6_init_92 : decode cX6_init 92 = .ok (.bipush 8, 2) := by decide +kernel
theorem dX6_init_94 : decode cX6_init 94 = .ok (.bipush 98, 2) := by decide +kernel
theorem dX6_init_96 : decode cX6_init 96 = .ok (.castore, 1) := by decide +kernel
theorem dX6_init_97 : decode cX6_init 97 = .ok (.dup, 1) := by decide +kernel
theorem dX6_init_98 : decode cX6_init 98 = .ok (.bipush 9, 2) := by decide +kernel
theorem dX6_init_100 : decode cX6_init 100 = .ok (.bipush 111, 2) := by decide +kernel
theorem dX6_init_102 : decode cX6_init 102 = .ok (.castore, 1) := by decide +kernel
theorem dX6_init_103 : decode cX6_init 103 = .ok (.dup, 1) := by decide +kernel
theorem dX6_init_104 : decode cX6_init 104 = .ok (.bipush 10, 2) := by decide +kernel
theorem dX6_init_106 : decode cX6_init 106 = .ok (.bipush 121, 2) := by decide +kernel
theorem dX6_init_108 : decode cX6_init 108 = .ok (.castore, 1) := by decide +kernel
theorem dX6_init_109 : decode cX6_init 109 = .ok (.dup, 1) := by decide +kernel
theorem dX6_init_110 : decode cX6_init 110 = .ok (.bipush 11, 2) := by decide +kernel
theorem dX6_init_112 : decode cX6_init 112 = .ok (.bipush 32, 2) := by decide +kernel
theorem dX6_init_114 : decode cX6_init 114 = .ok (.castore, 1) := by decide +kernel
theorem dX6_init_115 : decode cX6_init 115 = .ok (.dup, 1) := by decide +kernel
theorem dX6_init_116 : decode cX6_init 116 = .ok (.bipush 12, 2) := by decide +kernel
theorem dX6_init_118 : decode cX6_init 118 = .ok (.bipush 32, 2) := by decide +kernel
theorem dX6_init_120 : decode cX6_init 120 = .ok (.castore, 1) := by decide +kernel
theorem dX6_init_121 : decode cX6_init 121 = .ok (.dup, 1) := by decide +kernel
theorem dX6_init_122 : decode cX6_init 122 = .ok (.bipush 13, 2) := by decide +kernel
theorem dX6_init_124 : decode cX6_init 124 = .ok (.bipush 32, 2) := by decide +kernel
theorem dX6_init_126 : decode cX6_init 126 = .ok (.castore, 1) := by decide +kernel
theorem dX6_init_127 : decode cX6_init 127 = .ok (.dup, 1) := by decide +kernel
theorem dX6_init_128 : decode cX6_init 128 = .ok (.bipush 14, 2) := by decide +kernel
theorem dX6_init_130 : decode cX6_init 130 = .ok (.bipush 32, 2) := by decide +kernel
theorem dX6_init_132 : decode cX6_init 132 = .ok (.castore, 1) := by decide +kernel
theorem dX6_init_133 : decode cX6_init 133 = .ok (.dup, 1) := by decide +kernel
theorem dX6_init_134 : decode cX6_init 134 = .ok (.bipush 15, 2) := by decide +kernel
theorem dX6_init_136 : decode cX6_init 136 = .ok (.bipush 32, 2) := by decide +kernel
theorem dX6_init_138 : decode cX6_init 138 = .ok (.castore, 1) := by decide +kernel
theorem dX6_init_139 : decode cX6_init 139 = .ok (.dup, 1) := by decide +kernel
theorem dX6_init_140 : decode cX6_init 140 = .ok (.bipush 16, 2) := by decide +kernel
theorem dX6_init_142 : decode cX6_init 142 = .ok (.bipush 114, 2) := by decide +kernel
theorem dX6_init_144 : decode cX6_init 144 = .ok (.castore, 1) := by decide +kernel
theorem dX6_init_145 : decode cX6_init 145 = .ok (.dup, 1) := by decide +kernel
theorem dX6_init_146 : decode cX6_init 146 = .ok (.bipush 17, 2) := by decide +kernel
theorem dX6_init_148 : decode cX6_init 148 = .ok (.bipush 101, 2) := by decide +kernel
theorem dX6_init_150 : decode cX6_init 150 = .ok (.castore, 1) := by decide +kernel
theorem dX6_init_151 : decode cX6_init 151 = .ok (.dup, 1) := by decide +kernel
theorem dX6_init_152 : decode cX6_init 152 = .ok (.bipush 18, 2) := by decide +kernel
theorem dX6_init_154 : decode cX6_init 154 = .ok (.bipush 98, 2) := by decide +kernel
theorem dX6_init_156 : decode cX6_init 156 = .ok (.castore, 1) := by decide +kernel
theorem dX6_init_157 : decode cX6_init 157 = .ok (.dup, 1) := by decide +kernel
theorem dX6_init_158 : decode cX6_init 158 = .ok (.bipush 19, 2) := by decide +kernel
theorem dX6_init_160 : decode cX6_init 160 = .ok (.bipush 101, 2) := by decide +kernel
theorem dX6_init_162 : decode cX6_init 162 = .ok (.castore, 1) := by decide +kernel
theorem dX6_init_163 : decode cX6_init 163 = .ok (.dup, 1) := by decide +kernel
theorem dX6_init_164 : decode cX6_init 164 = .ok (.bipush 20, 2) := by decide +kernel
theorem dX6_init_166 : decode cX6_init 166 = .ok (.bipush 108, 2) := by decide +kernel
theorem dX6_init_168 : decode cX6_init 168 = .ok (.castore, 1) := by decide +kernel
theorem dX6_init_169 : decode cX6_init 169 = .ok (.dup, 1) := by decide +kernel
theorem dX6_init_170 : decode cX6_init 170 = .ok (.bipush 21, 2) := by decide +kernel
theorem dX6_init_172 : decode cX6_init 172 = .ok (.bipush 32, 2) := by decide +kernel
theorem dX6_init_174 : decode cX6_init 174 = .ok (.castore, 1) := by decide +kernel
theorem dX6_init_175 : decode cX6_init 175 = .ok (.dup, 1) := by decide +kernel
theorem dX6_init_176 : decode cX6_init 176 = .ok (.bipush 22, 2) := by decide +kernel
theorem dX6_init_178 : decode cX6_init 178 = .ok (.bipush 32, 2) := by decide +kernel
theorem dX6_init_180 : decode cX6_init 180 = .ok (.castore, 1) := by decide +kernel
theorem dX6_init_181 : decode cX6_init 181 = .ok (.dup, 1) := by decide +kernel
theorem dX6_init_182 : decode cX6_init 182 = .ok (.bipush 23, 2) := by decide +kernel
theorem dX6_init_184 : decode cX6_init 184 = .ok (.bipush 32, 2) := by decide +kernel
theorem dX6_init_186 : decode cX6_init 186 = .ok (.castore, 1) := by decide +kernel
theorem dX6_init_187 : decode cX6_init 187 = .ok (.dup, 1) := by decide +kernel
theorem dX6_init_188 : decode cX6_init 188 = .ok (.bipush 24, 2) := by decide +kernel
theorem dX6_init_190 : decode cX6_init 190 = .ok (.bipush 112, 2) := by decide +kernel
theorem dX6_init_192 : decode cX6_init 192 = .ok (.castore, 1) := by decide +kernel
theorem dX6_init_193 : decode cX6_init 193 = .ok (.dup, 1) := by decide +kernel
theorem dX6_init_194 : decode cX6_init 194 = .ok (.bipush 25, 2) := by decide +kernel
theorem dX6_init_196 : decode cX6_init 196 = .ok (.bipush 111, 2) := by decide +kernel
theorem dX6_init_198 : decode cX6_init 198 = .ok (.castore, 1) := by decide +kernel
theorem dX6_init_199 : decode cX6_init 199 = .ok (.dup, 1) := by decide +kernel
theorem dX6_init_200 : decode cX6_init 200 = .ok (.bipush 26, 2) := by decide +kernel
theorem dX6_init_202 : decode cX6_init 202 = .ok (.bipush 97, 2) := by decide +kernel
theorem dX6_init_204 : decode cX6_init 204 = .ok (.castore, 1) := by decide +kernel
theorem dX6_init_205 : decode cX6_init 205 = .ok (.dup, 1) := by decide +kernel
theorem dX6_init_206 : decode cX6_init 206 = .ok (.bipush 27, 2) := by decide +kernel
theorem dX6_init_208 : decode cX6_init 208 = .ok (.bipush 99, 2) := by decide +kernel
theorem dX6_init_210 : decode cX6_init 210 = .ok (.castore, 1) := by decide +kernel
theorem dX6_init_211 : decode cX6_init 211 = .ok (.dup, 1) := by decide +kernel
theorem dX6_init_212 : decode cX6_init 212 = .ok (.bipush 28, 2) := by decide +kernel
theorem dX6_init_214 : decode cX6_init 214 = .ok (.bipush 104, 2) := by decide +kernel
theorem dX6_init_216 : decode cX6_init 216 = .ok (.castore, 1) := by decide +kernel
theorem dX6_init_217 : decode cX6_init 217 = .ok (.dup, 1) := by decide +kernel
theorem dX6_init_218 : decode cX6_init 218 = .ok (.bipush 29, 2) := by decide +kernel
theorem dX6_init_220 : decode cX6_init 220 = .ok (.bipush 101, 2) := by decide +kernel
theorem dX6_init_222 : decode cX6_init 222 = .ok (.castore, 1) := by decide +kernel
theorem dX6_init_223 : decode cX6_init 223 = .ok (.dup, 1) := by decide +kernel
theorem dX6_init_224 : decode cX6_init 224 = .ok (.bipush 30, 2) := by decide +kernel
theorem dX6_init_226 : decode cX6_init 226 = .ok (.bipush 114, 2) := by decide +kernel
theorem dX6_init_228 : decode cX6_init 228 = .ok (.castore, 1) := by decide +kernel
theorem dX6_init_229 : decode cX6_init 229 = .ok (.dup, 1) := by decide +kernel
theorem dX6_init_230 : decode cX6_init 230 = .ok (.bipush 31, 2) := by decide +kernel
theorem dX6_init_232 : decode cX6_init 232 = .ok (.bipush 32, 2) := by decide +kernel
theorem dX6_init_234 : decode cX6_init 234 = .ok (.castore, 1) := by decide +kernel
theorem dX6_init_235 : decode cX6_init 235 = .ok (.dup, 1) := by decide +kernel
theorem dX6_init_236 : decode cX6_init 236 = .ok (.bipush 32, 2) := by decide +kernel
theorem dX6_init_238 : decode cX6_init 238 = .ok (.bipush 112, 2) := by decide +kernel
theorem dX6_init_240 : decode cX6_init 240 = .ok (.castore, 1) := by decide +kernel
theorem dX6_init_241 : decode cX6_init 241 = .ok (.dup, 1) := by decide +kernel
theorem dX6_init_242 : decode cX6_init 242 = .ok (.bipush 33, 2) := by decide +kernel
theorem dX6_init_244 : decode cX6_init 244 = .ok (.bipush 117, 2) := by decide +kernel
theorem dX6_init_246 : decode cX6_init 246 = .ok (.castore, 1) := by decide +kernel
theorem dX6_init_247 : decode cX6_init 247 = .ok (.dup, 1) := by decide +kernel
theorem dX6_init_248 : decode cX6_init 248 = .ok (.bipush 34, 2) := by decide +kernel
theorem dX6_init_250 : decode cX6_init 250 = .ok (.bipush 112, 2) := by decide +kernel
theorem dX6_init_252 : decode cX6_init 252 = .ok (.castore, 1) := by decide +kernel
theorem dX6_init_253 : decode cX6_init 253 = .ok (.dup, 1) := by decide +kernel
theorem dX6_init_254 : decode cX6_init 254 = .ok (.bipush 35, 2) := by decide +kernel
theorem dX6_init_256 : decode cX6_init 256 = .ok (.bipush 105, 2) := by decide +kernel
theorem dX6_init_258 : decode cX6_init 258 = .ok (.castore, 1) := by decide +kernel
theorem dX6_init_259 : decode cX6_init 259 = .ok (.dup, 1) := by decide +kernel
theorem dX6_init_260 : decode cX6_init 260 = .ok (.bipush 36, 2) := by decide +kernel
theorem dX6_init_262 : decode cX6_init 262 = .ok (.bipush 108, 2) := by decide +kernel
theorem dX6_init_264 : decode cX6_init 264 = .ok (.castore, 1) := by decide +kernel
theorem dX6_init_265 : decode cX6_init 265 = .ok (.dup, 1) := by decide +kernel
theorem dX6_init_266 : decode cX6_init 266 = .ok (.bipush 37, 2) := by decide +kernel
theorem dX6_init_268 : decode cX6_init 268 = .ok (.bipush 32, 2) := by decide +kernel
theorem dX6_init_270 : decode cX6_init 270 = .ok (.castore, 1) := by decide +kernel
theorem dX6_init_271 : decode cX6_init 271 = .ok (.dup, 1) := by decide +kernel
theorem dX6_init_272 : decode cX6_init 272 = .ok (.bipush 38, 2) := by decide +kernel
theorem dX6_init_274 : decode cX6_init 274 = .ok (.bipush 32, 2) := by decide +kernel
theorem dX6_init_276 : decode cX6_init 276 = .ok (.castore, 1) := by decide +kernel
theorem dX6_init_277 : decode cX6_init 277 = .ok (.dup, 1) := by decide +kernel
theorem dX6_init_278 : decode cX6_init 278 = .ok (.bipush 39, 2) := by decide +kernel
theorem dX6_init_280 : decode cX6_init 280 = .ok (.bipush 32, 2) := by decide +kernel
theorem dX6_init_282 : decode cX6_init 282 = .ok (.castore, 1) := by decide +kernel
theorem dX6_init_283 : decode cX6_init 283 = .ok (.dup, 1) := by decide +kernel
theorem dX6_init_284 : decode cX6_init 284 = .ok (.bipush 40, 2) := by decide +kernel
theorem dX6_init_286 : decode cX6_init 286 = .ok (.bipush 108, 2) := by decide +kernel
theorem dX6_init_288 : decode cX6_init 288 = .ok (.castore, 1) := by decide +kernel
theorem dX6_init_289 : decode cX6_init 289 = .ok (.dup, 1) := by decide +kernel
theorem dX6_init_290 : decode cX6_init 290 = .ok (.bipush 41, 2) := by decide +kernel
theorem dX6_init_292 : decode cX6_init 292 = .ok (.bipush 101, 2) := by decide +kernel
theorem dX6_init_294 : decode cX6_init 294 = .ok (.castore, 1) := by decide +kernel
theorem dX6_init_295 : decode cX6_init 295 = .ok (.dup, 1) := by decide +kernel
theorem dX6_init_296 : decode cX6_init 296 = .ok (.bipush 42, 2) := by decide +kernel
theorem dX6_init_298 : decode cX6_init 298 = .ok (.bipush 97, 2) := by decide +kernel
theorem dX6_init_300 : decode cX6_init 300 = .ok (.castore, 1) := by decide +kernel
theorem dX6_init_301 : decode cX6_init 301 = .ok (.dup, 1) := by decide +kernel
theorem dX6_init_302 : decode cX6_init 302 = .ok (.bipush 43, 2) := by decide +kernel
theorem dX6_init_304 : decode cX6_init 304 = .ok (.bipush 100, 2) := by decide +kernel
theorem dX6_init_306 : decode cX6_init 306 = .ok (.castore, 1) := by decide +kernel
theorem dX6_init_307 : decode cX6_init 307 = .ok (.dup, 1) := by decide +kernel
theorem dX6_init_308 : decode cX6_init 308 = .ok (.bipush 44, 2) := by decide +kernel
theorem dX6_init_310 : decode cX6_init 310 = .ok (.bipush 101, 2) := by decide +kernel
theorem dX6_init_312 : decode cX6_init 312 = .ok (.castore, 1) := by decide +kernel
theorem dX6_init_313 : decode cX6_init 313 = .ok (.dup, 1) := by decide +kernel
theorem dX6_init_314 : decode cX6_init 314 = .ok (.bipush 45, 2) := by decide +kernel
theorem dX6_init_316 : decode cX6_init 316 = .ok (.bipush 114, 2) := by decide +kernel
theorem dX6_init_318 : decode cX6_init 318 = .ok (.castore, 1) := by decide +kernel
theorem dX6_init_319 : decode cX6_init 319 = .ok (.dup, 1) := by decide +kernel
theorem dX6_init_320 : decode cX6_init 320 = .ok (.bipush 46, 2) := by decide +kernel
theorem dX6_init_322 : decode cX6_init 322 = .ok (.bipush 32, 2) := by decide +kernel
theorem dX6_init_324 : decode cX6_init 324 = .ok (.castore, 1) := by decide +kernel
theorem dX6_init_325 : decode cX6_init 325 = .ok (.dup, 1) := by decide +kernel
theorem dX6_init_326 : decode cX6_init 326 = .ok (.bipush 47, 2) := by decide +kernel
theorem dX6_init_328 : decode cX6_init 328 = .ok (.bipush 32, 2) := by decide +kernel
theorem dX6_init_330 : decode cX6_init 330 = .ok (.castore, 1) := by decide +kernel
theorem dX6_init_331 : decode cX6_init 331 = .ok (.putfield 25, 3) := by decide +kernel
theorem dX6_init_334 : decode cX6_init 334 = .ok (.aload_n 0, 1) := by decide +kernel
theorem dX6_init_335 : decode cX6_init 335 = .ok (.bipush 24, 2) := by decide +kernel
theorem dX6_init_337 : decode cX6_init 337 = .ok (.newarray .char, 2) := by decide +kernel
theorem dX6_init_339 : decode cX6_init 339 = .ok (.dup, 1) := by decide +kernel
theorem dX6_init_340 : decode cX6_init 340 = .ok (.iconst 0, 1) := by decide +kernel
theorem dX6_init_341 : decode cX6_init 341 = .ok (.bipush 110, 2) := by decide +kernel
theorem dX6_init_343 : decode cX6_init 343 = .ok (.castore, 1) := by decide +kernel
theorem dX6_init_344 : decode cX6_init 344 = .ok (.dup, 1) := by decide +kernel
theorem dX6_init_345 : decode cX6_init 345 = .ok (.iconst 1, 1) := by decide +kernel
theorem dX6_init_346 : decode cX6_init 346 = .ok (.bipush 101, 2) := by decide +kernel
theorem dX6_init_348 : decode cX6_init 348 = .ok (.castore, 1) := by decide +kernel
theorem dX6_init_349 : decode cX6_init 349 = .ok (.dup, 1) := by decide +kernel
theorem dX6_init_350 : decode cX6_init 350 = .ok (.iconst 2, 1) := by decide +kernel
theorem dX6_init_351 : decode cX6_init 351 = .ok (.bipush 101, 2) := by decide +kernel
theorem dX6_init_353 : decode cX6_init 353 = .ok (.castore, 1) := by decide +kernel
theorem dX6_init_354 : decode cX6_init 354 = .ok (.dup, 1) := by decide +kernel
theorem dX6_init_355 : decode cX6_init 355 = .ok (.iconst 3, 1) := by decide +kernel
theorem dX6_init_356 : decode cX6_init 356 = .ok (.bipush 100, 2) := by decide +kernel
theorem dX6_init_358 : decode cX6_init 358 = .ok (.castore, 1) := by decide +kernel
theorem dX6_init_359 : decode cX6_init 359 = .ok (.dup, 1) := by decide +kernel
theorem dX6_init_360 : decode cX6_init 360 = .ok (.iconst 4, 1) := by decide +kernel
theorem dX6_init_361 : decode cX6_init 361 = .ok (.bipush 115, 2) := by decide +kernel
theorem dX6_init_363 : decode cX6_init 363 = .ok (.castore, 1) := by decide +kernel
theorem dX6_init_364 : decode cX6_init 364 = .ok (.dup, 1) := by decide +kernel
theorem dX6_init_365 : decode cX6_init 365 = .ok (.iconst 5, 1) := by decide +kernel
theorem dX6_init_366 : decode cX6_init 366 = .ok (.bipush 32, 2) := by decide +kernel
theorem dX6_init_368 : decode cX6_init 368 = .ok (.castore, 1) := by decide +kernel
theorem dX6_init_369 : decode cX6_init 369 = .ok (.dup, 1) := by decide +kernel
theorem dX6_init_370 : decode cX6_init 370 = .ok (.bipush 6, 2) := by decide +kernel
theorem dX6_init_372 : decode cX6_init 372 = .ok (.bipush 32, 2) := by decide +kernel
theorem dX6_init_374 : decode cX6_init 374 = .ok (.castore, 1) := by decide +kernel
theorem dX6_init_375 : decode cX6_init 375 = .ok (.dup, 1) := by decide +kernel
theorem dX6_init_376 : decode cX6_init 376 = .ok (.bipush 7, 2) := by decide +kernel
theorem dX6_init_378 : decode cX6_init 378 = .ok (.bipush 32, 2) := by decide +kernel
theorem dX6_init_380 : decode cX6_init 380 = .ok (.castore, 1) := by decide +kernel
theorem dX6_init_381 : decode cX6_init 381 = .ok (.dup, 1) := by decide +kernel
theorem dX6_init_382 : decode cX6_init 382 = .ok (.bipush 8, 2) := by decide +kernel
theorem dX6_init_384 : decode cX6_init 384 = .ok (.bipush 114, 2) := by decide +kernel
theorem dX6_init_386 : decode cX6_init 386 = .ok (.castore, 1) := by decide +kernel
theorem dX6_init_387 : decode cX6_init 387 = .ok (.dup, 1) := by decide +kernel
theorem dX6_init_388 : decode cX6_init 388 = .ok (.bipush 9, 2) := by decide +kernel
theorem dX6_init_390 : decode cX6_init 390 = .ok (.bipush 101, 2) := by decide +kernel
theorem dX6_init_392 : decode cX6_init 392 = .ok (.castore, 1) := by decide +kernel
theorem dX6_init_393 : decode cX6_init 393 = .ok (.dup, 1) := by decide +kernel
theorem dX6_init_394 : decode cX6_init 394 = .ok (.bipush 10, 2) := by decide +kernel
theorem dX6_init_396 : decode cX6_init 396 = .ok (.bipush 97, 2) := by decide +kernel
theorem dX6_init_398 : decode cX6_init 398 = .ok (.castore, 1) := by decide +kernel
theorem dX6_init_399 : decode cX6_init 399 = .ok (.dup, 1) := by decide +kernel
theorem dX6_init_400 : decode cX6_init 400 = .ok (.bipush 11, 2) := by decide +kernel
theorem dX6_init_402 : decode cX6_init 402 = .ok (.bipush 115, 2) := by decide +kernel
theorem dX6_init_404 : decode cX6_init 404 = .ok (.castore, 1) := by decide +kernel
theorem dX6_init_405 : decode cX6_init 405 = .ok (.dup, 1) := by decide +kernel
theorem dX6_init_406 : decode cX6_init 406 = .ok (.bipush 12, 2) := by decide +kernel
theorem dX6_init_408 : decode cX6_init 408 = .ok (.bipush 111, 2) := by decide +kernel
theorem dX6_init_410 : decode cX6_init 410 = .ok (.castore, 1) := by decide +kernel
theorem dX6_init_411 : decode cX6_init 411 = .ok (.dup, 1) := by decide +kernel
theorem dX6_init_412 : decode cX6_init 412 = .ok (.bipush 13, 2) := by decide +kernel
theorem dX6_init_414 : decode cX6_init 414 = .ok (.bipush 110, 2) := by decide +kernel
theorem dX6_init_416 : decode cX6_init 416 = .ok (.castore, 1) := by decide +kernel
theorem dX6_init_417 : decode cX6_init 417 = .ok (.dup, 1) := by decide +kernel
theorem dX6_init_418 : decode cX6_init 418 = .ok (.bipush 14, 2) := by decide +kernel
theorem dX6_init_420 : decode cX6_init 420 = .ok (.bipush 32, 2) := by decide +kernel
theorem dX6_init_422 : decode cX6_init 422 = .ok (.castore, 1) := by decide +kernel
theorem dX6_init_423 : decode cX6_init 423 = .ok (.dup, 1) := by decide +kernel
theorem dX6_init_424 : decode cX6_init 424 = .ok (.bipush 15, 2) := by decide +kernel
theorem dX6_init_426 : decode cX6_init 426 = .ok (.bipush 32, 2) := by decide +kernel
theorem dX6_init_428 : decode cX6_init 428 = .ok (.castore, 1) := by decide +kernel
theorem dX6_init_429 : decode cX6_init 429 = .ok (.dup, 1) := by decide +kernel
theorem dX6_init_430 : decode cX6_init 430 = .ok (.bipush 16, 2) := by decide +kernel
theorem dX6_init_432 : decode cX6_init 432 = .ok (.bipush 119, 2) := by decide +kernel
theorem dX6_init_434 : decode cX6_init 434 = .ok (.castore, 1) := by decide +kernel
theorem dX6_init_435 : decode cX6_init 435 = .ok (.dup, 1) := by decide +kernel
theorem dX6_init_436 : decode cX6_init 436 = .ok (.bipush 17, 2) := by decide +kernel
theorem dX6_init_438 : decode cX6_init 438 = .ok (.bipush 97, 2) := by decide +kernel
theorem dX6_init_440 : decode cX6_init 440 = .ok (.castore, 1) := by decide +kernel
theorem dX6_init_441 : decode cX6_init 441 = .ok (.dup, 1) := by decide +kernel
theorem dX6_init_442 : decode cX6_init 442 = .ok (.bipush 18, 2) := by decide +kernel
theorem dX6_init_444 : decode cX6_init 444 = .ok (.bipush 116, 2) := by decide +kernel
theorem dX6_init_446 : decode cX6_init 446 = .ok (.castore, 1) := by decide +kernel
theorem dX6_init_447 : decode cX6_init 447 = .ok (.dup, 1) := by decide +kernel
theorem dX6_init_448 : decode cX6_init 448 = .ok (.bipush 19, 2) := by decide +kernel
theorem dX6_init_450 : decode cX6_init 450 = .ok (.bipush 99, 2) := by decide +kernel
theorem dX6_init_452 : decode cX6_init 452 = .ok (.castore, 1) := by decide +kernel
theorem dX6_init_453 : decode cX6_init 453 = .ok (.dup, 1) := by decide +kernel
theorem dX6_init_454 : decode cX6_init 454 = .ok (.bipush 20, 2) := by decide +kernel
theorem dX6_init_456 : decode cX6_init 456 = .ok (.bipush 104, 2) := by decide +kernel
theorem dX6_init_458 : decode cX6_init 458 = .ok (.castore, 1) := by decide +kernel
theorem dX6_init_459 : decode cX6_init 459 = .ok (.dup, 1) := by decide +kernel
theorem dX6_init_460 : decode cX6_init 460 = .ok (.bipush 21, 2) := by decide +kernel
theorem dX6_init_462 : decode cX6_init 462 = .ok (.bipush 101, 2) := by decide +kernel
theorem dX6_init_464 : decode cX6_init 464 = .ok (.castore, 1) := by decide +kernel
theorem dX6_init_465 : decode cX6_init 465 = .ok (.dup, 1) := by decide +kernel
theorem dX6_init_466 : decode cX6_init 466 = .ok (.bipush 22, 2) := by decide +kernel
theorem dX6_init_468 : decode cX6_init 468 = .ok (.bipush 100, 2) := by decide +kernel
theorem dX6_init_470 : decode cX6_init 470 = .ok (.castore, 1) := by decide +kernel
theorem dX6_init_471 : decode cX6_init 471 = .ok (.dup, 1) := by decide +kernel
theorem dX6_init_472 : decode cX6_init 472 = .ok (.bipush 23, 2) := by decide +kernel
theorem dX6_init_474 : decode cX6_init 474 = .ok (.bipush 32, 2) := by decide +kernel
theorem dX6_init_476 : decode cX6_init 476 = .ok (.castore, 1) := by decide +kernel
theorem dX6_init_477 : decode cX6_init 477 = .ok (.putfield 29, 3) := by decide +kernel
theorem dX6_init_480 : decode cX6_init 480 = .ok (.aload_n 0, 1) := by decide +kernel
theorem dX6_init_481 : decode cX6_init 481 = .ok (.bipush 16, 2) := by decide +kernel
theorem dX6_init_483 : decode cX6_init 483 = .ok (.newarray .char, 2) := by decide +kernel
theorem dX6_init_485 : decode cX6_init 485 = .ok (.dup, 1) := by decide +kernel
theorem dX6_init_486 : decode cX6_init 486 = .ok (.iconst 0, 1) := by decide +kernel
theorem dX6_init_487 : decode cX6_init 487 = .ok (.bipush 101, 2) := by decide +kernel
theorem dX6_init_489 : decode cX6_init 489 = .ok (.castore, 1) := by decide +kernel
theorem dX6_init_490 : decode cX6_init 490 = .ok (.dup, 1) := by decide +kernel
theorem dX6_init_491 : decode cX6_init 491 = .ok (.iconst 1, 1) := by decide +kernel
theorem dX6_init_492 : decode cX6_init 492 = .ok (.bipush 103, 2) := by decide +kernel
theorem dX6_init_494 : decode cX6_init 494 = .ok (.castore, 1) := by decide +kernel
theorem dX6_init_495 : decode cX6_init 495 = .ok (.dup, 1) := by decide +kernel
theorem dX6_init_496 : decode cX6_init 496 = .ok (.iconst 2, 1) := by decide +kernel
theorem dX6_init_497 : decode cX6_init 497 = .ok (.bipush 103, 2) := by decide +kernel
theorem dX6_init_499 : decode cX6_init 499 = .ok (.castore, 1) := by decide +kernel
theorem dX6_init_500 : decode cX6_init 500 = .ok (.dup, 1) := by decide +kernel
theorem dX6_init_501 : decode cX6_init 501 = .ok (.iconst 3, 1) := by decide +kernel
theorem dX6_init_502 : decode cX6_init 502 = .ok (.bipush 115, 2) := by decide +kernel
theorem dX6_init_504 : decode cX6_init 504 = .ok (.castore, 1) := by decide +kernel
theorem dX6_init_505 : decode cX6_init 505 = .ok (.dup, 1) := by decide +kernel
theorem dX6_init_506 : decode cX6_init 506 = .ok (.iconst 4, 1) := by decide +kernel
theorem dX6_init_507 : decode cX6_init 507 = .ok (.bipush 32, 2) := by decide +kernel
theorem dX6_init_509 : decode cX6_init 509 = .ok (.castore, 1) := by decide +kernel
theorem dX6_init_510 : decode cX6_init 510 = .ok (.dup, 1) := by decide +kernel
theorem dX6_init_511 : decode cX6_init 511 = .ok (.iconst 5, 1) := by decide +kernel
theorem dX6_init_512 : decode cX6_init 512 = .ok (.bipush 32, 2) := by decide +kernel
theorem dX6_init_514 : decode cX6_init 514 = .ok (.castore, 1) := by decide +kernel
theorem dX6_init_515 : decode cX6_init 515 = .ok (.dup, 1) := by decide +kernel
theorem dX6_init_516 : decode cX6_init 516 = .ok (.bipush 6, 2) := by decide +kernel
theorem dX6_init_518 : decode cX6_init 518 = .ok (.bipush 32, 2) := by decide +kernel
theorem dX6_init_520 : decode cX6_init 520 = .ok (.castore, 1) := by decide +kernel
theorem dX6_init_521 : decode cX6_init 521 = .ok (.dup, 1) := by decide +kernel
theorem dX6_init_522 : decode cX6_init 522 = .ok (.bipush 7, 2) := by decide +kernel
theorem dX6_init_524 : decode cX6_init 524 = .ok (.bipush 32, 2) := by decide +kernel
theorem dX6_init_526 : decode cX6_init 526 = .ok (.castore, 1) := by decide +kernel
theorem dX6_init_527 : decode cX6_init 527 = .ok (.dup, 1) := by decide +kernel
theorem dX6_init_528 : decode cX6_init 528 = .ok (.bipush 8, 2) := by decide +kernel
theorem dX6_init_530 : decode cX6_init 530 = .ok (.bipush 108, 2) := by decide +kernel
theorem dX6_init_532 : decode cX6_init 532 = .ok (.castore, 1) := by decide +kernel
theorem dX6_init_533 : decode cX6_init 533 = .ok (.dup, 1) := by decide +kernel
theorem dX6_init_534 : decode cX6_init 534 = .ok (.bipush 9, 2) := by decide +kernel
theorem dX6_init_536 : decode cX6_init 536 = .ok (.bipush 97, 2) := by decide +kernel
theorem dX6_init_538 : decode cX6_init 538 = .ok (.castore, 1) := by decide +kernel
theorem dX6_init_539 : decode cX6_init 539 = .ok (.dup, 1) := by decide +kernel
theorem dX6_init_540 : decode cX6_init 540 = .ok (.bipush 10, 2) := by decide +kernel
theorem dX6_init_542 : decode cX6_init 542 = .ok (.bipush 105, 2) := by decide +kernel
theorem dX6_init_544 : decode cX6_init 544 = .ok (.castore, 1) := by decide +kernel
theorem dX6_init_545 : decode cX6_init 545 = .ok (.dup, 1) := by decide +kernel
theorem dX6_init_546 : decode cX6_init 546 = .ok (.bipush 11, 2) := by decide +kernel
theorem dX6_init_548 : decode cX6_init 548 = .ok (.bipush 100, 2) := by decide +kernel
theorem dX6_init_550 : decode cX6_init 550 = .ok (.castore, 1) := by decide +kernel
theorem dX6_init_551 : decode cX6_init 551 = .ok (.dup, 1) := by decide +kernel
theorem dX6_init_552 : decode cX6_init 552 = .ok (.bipush 12, 2) := by decide +kernel
theorem dX6_init_554 : decode cX6_init 554 = .ok (.bipush 32, 2) := by decide +kernel
theorem dX6_init_556 : decode cX6_init 556 = .ok (.castore, 1) := by decide +kernel
theorem dX6_init_557 : decode cX6_init 557 = .ok (.dup, 1) := by decide +kernel
theorem dX6_init_558 : decode cX6_init 558 = .ok (.bipush 13, 2) := by decide +kernel
theorem dX6_init_560 : decode cX6_init 560 = .ok (.bipush 32, 2) := by decide +kernel
theorem dX6_init_562 : decode cX6_init 562 = .ok (.castore, 1) := by decide +kernel
theorem dX6_init_563 : decode cX6_init 563 = .ok (.dup, 1) := by decide +kernel
theorem dX6_init_564 : decode cX6_init 564 = .ok (.bipush 14, 2) := by decide +kernel
theorem dX6_init_566 : decode cX6_init 566 = .ok (.bipush 32, 2) := by decide +kernel
theorem dX6_init_568 : decode cX6_init 568 = .ok (.castore, 1) := by decide +kernel
theorem dX6_init_569 : decode cX6_init 569 = .ok (.dup, 1) := by decide +kernel
theorem dX6_init_570 : decode cX6_init 570 = .ok (.bipush 15, 2) := by decide +kernel
theorem dX6_init_572 : decode cX6_init 572 = .ok (.bipush 32, 2) := by decide +kernel
theorem dX6_init_574 : decode cX6_init 574 = .ok (.castore, 1) := by decide +kernel
theorem dX6_init_575 : decode cX6_init 575 = .ok (.putfield 32, 3) := by decide +kernel
theorem dX6_init_578 : decode cX6_init 578 = .ok (.aload_n 0, 1) := by decide +kernel
theorem dX6_init_579 : decode cX6_init 579 = .ok (.iconst 4, 1) := by decide +kernel
theorem dX6_init_580 : decode cX6_init 580 = .ok (.newarray .int, 2) := by decide +kernel
theorem dX6_init_582 : decode cX6_init 582 = .ok (.putfield 35, 3) := by decide +kernel
theorem dX6_init_585 : decode cX6_init 585 = .ok (.aload_n 0, 1) := by decide +kernel
theorem dX6_init_586 : decode cX6_init 586 = .ok (.iconst 4, 1) := by decide +kernel
theorem dX6_init_587 : decode cX6_init 587 = .ok (.newarray .int, 2) := by decide +kernel
theorem dX6_init_589 : decode cX6_init 589 = .ok (.putfield 38, 3) := by decide +kernel
theorem dX6_init_592 : decode cX6_init 592 = .ok (.aload_n 0, 1) := by decide +kernel
theorem dX6_init_593 : decode cX6_init 593 = .ok (.sipush 160, 3) := by decide +kernel
theorem dX6_init_596 : decode cX6_init 596 = .ok (.newarray .long, 2) := by decide +kernel
theorem dX6_init_598 : decode cX6_init 598 = .ok (.putfield 41, 3) := by decide +kernel
theorem dX6_init_601 : decode cX6_init 601 = .ok (.aload_n 0, 1) := by decide +kernel
theorem dX6_init_602 : decode cX6_init 602 = .ok (.bipush 40, 2) := by decide +kernel
theorem dX6_init_604 : decode cX6_init 604 = .ok (.newarray .long, 2) := by decide +kernel
theorem dX6_init_606 : decode cX6_init 606 = .ok (.putfield 45, 3) := by decide +kernel
theorem dX6_init_609 : decode cX6_init 609 = .ok (.aload_n 0, 1) := by decide +kernel
theorem dX6_init_610 : decode cX6_init 610 = .ok (.getfield 9, 3) := by decide +kernel
theorem dX6_init_613 : decode cX6_init 613 = .ok (.iconst 1, 1) := by decide +kernel
theorem dX6_init_614 : decode cX6_init 614 = .ok (.bipush 50, 2) := by decide +kernel
theorem dX6_init_616 : decode cX6_init 616 = .ok (.iastore, 1) := by decide +kernel
theorem dX6_init_617 : decode cX6_init 617 = .ok (.aload_n 0, 1) := by decide +kernel
theorem dX6_init_618 : decode cX6_init 618 = .ok (.getfield 9, 3) := by decide +kernel
theorem dX6_init_621 : decode cX6_init 621 = .ok (.iconst 2, 1) := by decide +kernel
theorem dX6_init_622 : decode cX6_init 622 = .ok (.bipush 12, 2) := by decide +kernel
theorem dX6_init_624 : decode cX6_init 624 = .ok (.iastore, 1) := by decide +kernel
theorem dX6_init_625 : decode cX6_init 625 = .ok (.return_, 1) := by decide +kernel
theorem dX6_no_0 : decode cX6_no 0 = .ok (.aload_n 0, 1) := by decide +kernel
theorem dX6_no_1 : decode cX6_no 1 = .ok (.getfield 19, 3) := by decide +kernel
theorem dX6_no_4 : decode cX6_no 4 = .ok (.iload_n 1, 1) := by decide +kernel
theorem dX6_no_5 : decode cX6_no 5 = .ok (.dup2, 1) := by decide +kernel
theorem dX6_no_6 : decode cX6_no 6 = .ok (.iaload, 1) := by decide +kernel
theorem dX6_no_7 : decode cX6_no 7 = .ok (.iconst 1, 1) := by decide +kernel
theorem dX6_no_8 : decode cX6_no 8 = .ok (.iadd, 1) := by decide +kernel
theorem dX6_no_9 : decode cX6_no 9 = .ok (.iastore, 1) := by decide +kernel
theorem dX6_no_10 : decode cX6_no 10 = .ok (.ldc 48, 2) := by decide +kernel
theorem dX6_no_12 : decode cX6_no 12 = .ok (.iload_n 1, 1) := by decide +kernel
theorem dX6_no_13 : decode cX6_no 13 = .ok (.isub, 1) := by decide +kernel
theorem dX6_no_14 : decode cX6_no 14 = .ok (.ireturn, 1) := by decide +kernel
theorem dX6_in1_0 : decode cX6_in1 0 = .ok (.iload_n 0, 1) := by decide +kernel
theorem dX6_in1_1 : decode cX6_in1 1 = .ok (.iload_n 1, 1) := by decide +kernel
theorem dX6_in1_2 : decode cX6_in1 2 = .ok (.if_icmp .lt 12, 3) := by decide +kernel
theorem dX6_in1_5 : decode cX6_in1 5 = .ok (.iload_n 0, 1) := by decide +kernel
theorem dX6_in1_6 : decode cX6_in1 6 = .ok (.iload_n 2, 1) := by decide +kernel
theorem dX6_in1_7 : decode cX6_in1 7 = .ok (.if_icmp .gt 7, 3) := by decide +kernel
theorem dX6_in1_10 : decode cX6_in1 10 = .ok (.iconst 1, 1) := by decide +kernel
theorem dX6_in1_11 : decode cX6_in1 11 = .ok (.goto 4, 3) := by decide +kernel
theorem dX6_in1_14 : decode cX6_in1 14 = .ok (.iconst 0, 1) := by decide +kernel
theorem dX6_in1_15 : decode cX6_in1 15 = .ok (.ireturn, 1) := by decide +kernel
theorem dX6_less_0 : decode cX6_less 0 = .ok (.iload_n 0, 1) := by decide +kernel
theorem dX6_less_1 : decode cX6_less 1 = .ok (.iload_n 1, 1) := by decide +kernel
theorem dX6_less_2 : decode cX6_less 2 = .ok (.if_icmp .ge 7, 3) := by decide +kernel
theorem dX6_less_5 : decode cX6_less 5 = .ok (.iload_n 0, 1) := by decide +kernel
theorem dX6_less_6 : decode cX6_less 6 = .ok (.goto 4, 3) := by decide +kernel
theorem dX6_less_9 : decode cX6_less 9 = .ok (.iload_n 1, 1) := by decide +kernel
theorem dX6_less_10 : decode cX6_less 10 = .ok (.ireturn, 1) := by decide +kernel
theorem dX6_bits_0 : decode cX6_bits 0 = .ok (.iconst 0, 1) := by decide +kernel
theorem dX6_bits_1 : decode cX6_bits 1 = .ok (.istore_n 1, 1) := by decide +kernel
theorem dX6_bits_2 : decode cX6_bits 2 = .ok (.iload_n 0, 1) := by decide +kernel
theorem dX6_bits_3 : decode cX6_bits 3 = .ok (.istore_n 2, 1) := by decide +kernel
theorem dX6_bits_4 : decode cX6_bits 4 = .ok (.iload_n 2, 1) := by decide +kernel
theorem dX6_bits_5 : decode cX6_bits 5 = .ok (.ifCond .eq 15, 3) := by decide +kernel
theorem dX6_bits_8 : decode cX6_bits 8 = .ok (.iinc 1 1, 3) := by decide +kernel
theorem dX6_bits_11 : decode cX6_bits 11 = .ok (.iload_n 2, 1) := by decide +kernel
theorem dX6_bits_12 : decode cX6_bits 12 = .ok (.iload_n 2, 1) := by decide +kernel
theorem dX6_bits_13 : decode cX6_bits 13 = .ok (.iconst 1, 1) := by decide +kernel
theorem dX6_bits_14 : decode cX6_bits 14 = .ok (.isub, 1) := by decide +kernel
theorem dX6_bits_15 : decode cX6_bits 15 = .ok (.iand, 1) := by decide +kernel
theorem dX6_bits_16 : decode cX6_bits 16 = .ok (.istore_n 2, 1) := by decide +kernel
theorem dX6_bits_17 : decode cX6_bits 17 = .ok (.goto (-13), 3) := by decide +kernel
theorem dX6_bits_20 : decode cX6_bits 20 = .ok (.iload_n 1, 1) := by decide +kernel
theorem dX6_bits_21 : decode cX6_bits 21 = .ok (.ireturn, 1) := by decide +kernel
set_option maxRecDepth 20000 in
theorem ggX6_isPerson_X6_in1 : GoodIn wsX6_isPerson wsX6_in1 := goodIn_sub (List.forall_mem_cons.mpr ⟨List.mem_of_getElem? (i := 5) rfl, (fun _ h => absurd h List.not_mem_nil)⟩) (by decide +kernel)
set_option maxRecDepth 20000 in
theorem gX6_isPerson_X6_in1 : GoodIn wsX6_isPerson (va_wsS RX6 49 yX6_in1 wsX6_in1) := goodIn_app (goodIn_sub (List.forall_mem_cons.mpr ⟨List.mem_of_getElem? (i := 2) rfl, List.forall_mem_cons.mpr ⟨List.mem_of_getElem? (i := 3) rfl, List.forall_mem_cons.mpr ⟨List.mem_of_getElem? (i := 4) rfl, fun _ h => absurd h List.not_mem_nil⟩⟩⟩) (by decide +kernel)) ggX6_isPerson_X6_in1
theorem dX6_isPerson_0 : decode cX6_isPerson 0 = .ok (.iload_n 1, 1) := by decide +kernel
theorem dX6_isPerson_1 : decode cX6_isPerson 1 = .ok (.iconst 0, 1) := by decide +kernel
theorem dX6_isPerson_2 : decode cX6_isPerson 2 = .ok (.aload_n 0, 1) := by decide +kernel
theorem dX6_isPerson_3 : decode cX6_isPerson 3 = .ok (.getfield 9, 3) := by decide +kernel
theorem dX6_isPerson_6 : decode cX6_isPerson 6 = .ok (.iconst 5, 1) := by decide +kernel
theorem dX6_isPerson_7 : decode cX6_isPerson 7 = .ok (.iaload, 1) := by decide +kernel
theorem dX6_isPerson_8 : decode cX6_isPerson 8 = .ok (.iconst 1, 1) := by decide +kernel
theorem dX6_isPerson_9 : decode cX6_isPerson 9 = .ok (.isub, 1) := by decide +kernel
theorem dX6_isPerson_10 : decode cX6_isPerson 10 = .ok (.invokestatic 49, 3) := by decide +kernel
theorem dX6_isPerson_13 : decode cX6_isPerson 13 = .ok (.ireturn, 1) := by decide +kernel
theorem dX6_get_0 : decode cX6_get 0 = .ok (.aload_n 0, 1) := by decide +kernel
theorem dX6_get_1 : decode cX6_get 1 = .ok (.getfield 9, 3) := by decide +kernel
theorem dX6_get_4 : decode cX6_get 4 = .ok (.bipush 6, 2) := by decide +kernel
theorem dX6_get_6 : decode cX6_get 6 = .ok (.iconst 5, 1) := by decide +kernel
theorem dX6_get_7 : decode cX6_get 7 = .ok (.iload_n 1, 1) := by decide +kernel
theorem dX6_get_8 : decode cX6_get 8 = .ok (.imul, 1) := by decide +kernel
theorem dX6_get_9 : decode cX6_get 9 = .ok (.iadd, 1) := by decide +kernel
theorem dX6_get_10 : decode cX6_get 10 = .ok (.iload_n 2, 1) := by decide +kernel
theorem dX6_get_11 : decode cX6_get 11 = .ok (.iadd, 1) := by decide +kernel
theorem dX6_get_12 : decode cX6_get 12 = .ok (.iaload, 1) := by decide +kernel
theorem dX6_get_13 : decode cX6_get 13 = .ok (.ireturn, 1) := by decide +kernel
theorem dX6_puts_0 : decode cX6_puts 0 = .ok (.aload_n 0, 1) := by decide +kernel
theorem dX6_puts_1 : decode cX6_puts 1 = .ok (.getfield 9, 3) := by decide +kernel
theorem dX6_puts_4 : decode cX6_puts 4 = .ok (.bipush 6, 2) := by decide +kernel
theorem dX6_puts_6 : decode cX6_puts 6 = .ok (.iconst 5, 1) := by decide +kernel
theorem dX6_puts_7 : decode cX6_puts 7 = .ok (.iload_n 1, 1) := by decide +kernel
theorem dX6_puts_8 : decode cX6_puts 8 = .ok (.imul, 1) := by decide +kernel
theorem dX6_puts_9 : decode cX6_puts 9 = .ok (.iadd, 1) := by decide +kernel
theorem dX6_puts_10 : decode cX6_puts 10 = .ok (.iload_n 2, 1) := by decide +kernel
theorem dX6_puts_11 : decode cX6_puts 11 = .ok (.iadd, 1) := by decide +kernel
theorem dX6_puts_12 : decode cX6_puts 12 = .ok (.iload_n 3, 1) := by decide +kernel
theorem dX6_puts_13 : decode cX6_puts 13 = .ok (.iastore, 1) := by decide +kernel
theorem dX6_puts_14 : decode cX6_puts 14 = .ok (.return_, 1) := by decide +kernel
theorem dX6_setsAside_0 : decode cX6_setsAside 0 = .ok (.iconst 0, 1) := by decide +kernel
theorem dX6_setsAside_1 : decode cX6_setsAside 1 = .ok (.istore_n 1, 1) := by decide +kernel
theorem dX6_setsAside_2 : decode cX6_setsAside 2 = .ok (.iload_n 1, 1) := by decide +kernel
theorem dX6_setsAside_3 : decode cX6_setsAside 3 = .ok (.bipush 46, 2) := by decide +kernel
theorem dX6_setsAside_5 : decode cX6_setsAside 5 = .ok (.if_icmp .ge 21, 3) := by decide +kernel
theorem dX6_setsAside_8 : decode cX6_setsAside 8 = .ok (.aload_n 0, 1) := by decide +kernel
theorem dX6_setsAside_9 : decode cX6_setsAside 9 = .ok (.getfield 16, 3) := by decide +kernel
theorem dX6_setsAside_12 : decode cX6_setsAside 12 = .ok (.iload_n 1, 1) := by decide +kernel
theorem dX6_setsAside_13 : decode cX6_setsAside 13 = .ok (.aload_n 0, 1) := by decide +kernel
theorem dX6_setsAside_14 : decode cX6_setsAside 14 = .ok (.getfield 9, 3) := by decide +kernel
theorem dX6_setsAside_17 : decode cX6_setsAside 17 = .ok (.iload_n 1, 1) := by decide +kernel
theorem dX6_setsAside_18 : decode cX6_setsAside 18 = .ok (.iaload, 1) := by decide +kernel
theorem dX6_setsAside_19 : decode cX6_setsAside 19 = .ok (.iastore, 1) := by decide +kernel
theorem dX6_setsAside_20 : decode cX6_setsAside 20 = .ok (.iinc 1 1, 3) := by decide +kernel
theorem dX6_setsAside_23 : decode cX6_setsAside 23 = .ok (.goto (-21), 3) := by decide +kernel
theorem dX6_setsAside_26 : decode cX6_setsAside 26 = .ok (.return_, 1) := by decide +kernel
theorem dX6_laysBack_0 : decode cX6_laysBack 0 = .ok (.iconst 0, 1) := by decide +kernel
theorem dX6_laysBack_1 : decode cX6_laysBack 1 = .ok (.istore_n 1, 1) := by decide +kernel
theorem dX6_laysBack_2 : decode cX6_laysBack 2 = .ok (.iload_n 1, 1) := by decide +kernel
theorem dX6_laysBack_3 : decode cX6_laysBack 3 = .ok (.bipush 46, 2) := by decide +kernel
theorem dX6_laysBack_5 : decode cX6_laysBack 5 = .ok (.if_icmp .ge 21, 3) := by decide +kernel
theorem dX6_laysBack_8 : decode cX6_laysBack 8 = .ok (.aload_n 0, 1) := by decide +kernel
theorem dX6_laysBack_9 : decode cX6_laysBack 9 = .ok (.getfield 9, 3) := by decide +kernel
theorem dX6_laysBack_12 : decode cX6_laysBack 12 = .ok (.iload_n 1, 1) := by decide +kernel
theorem dX6_laysBack_13 : decode cX6_laysBack 13 = .ok (.aload_n 0, 1) := by decide +kernel
theorem dX6_laysBack_14 : decode cX6_laysBack 14 = .ok (.getfield 16, 3) := by decide +kernel
theorem dX6_laysBack_17 : decode cX6_laysBack 17 = .ok (.iload_n 1, 1) := by decide +kernel
theorem dX6_laysBack_18 : decode cX6_laysBack 18 = .ok (.iaload, 1) := by decide +kernel
theorem dX6_laysBack_19 : decode cX6_laysBack 19 = .ok (.iastore, 1) := by decide +kernel
theorem dX6_laysBack_20 : decode cX6_laysBack 20 = .ok (.iinc 1 1, 3) := by decide +kernel
theorem dX6_laysBack_23 : decode cX6_laysBack 23 = .ok (.goto (-21), 3) := by decide +kernel
theorem dX6_laysBack_26 : decode cX6_laysBack 26 = .ok (.return_, 1) := by decide +kernel
set_option maxRecDepth 20000 in
theorem ggX6_wantsOf_X6_get : GoodIn wsX6_wantsOf wsX6_get := goodIn_sub (List.forall_mem_cons.mpr ⟨List.mem_of_getElem? (i := 6) rfl, (List.forall_mem_append.mpr ⟨(List.forall_mem_cons.mpr ⟨List.mem_of_getElem? (i := 1) rfl, fun _ h => absurd h List.not_mem_nil⟩), (fun _ h => List.mem_cons_of_mem _ (List.mem_append_right _ h))⟩)⟩) (by decide +kernel)
set_option maxRecDepth 20000 in
theorem gX6_wantsOf_X6_get : GoodIn wsX6_wantsOf (wsV RX6 53 RX6 yX6_get wsX6_get) := goodIn_app (goodIn_sub (List.forall_mem_cons.mpr ⟨List.mem_of_getElem? (i := 2) rfl, List.forall_mem_cons.mpr ⟨List.mem_of_getElem? (i := 3) rfl, List.forall_mem_cons.mpr ⟨List.mem_of_getElem? (i := 4) rfl, List.forall_mem_cons.mpr ⟨List.mem_of_getElem? (i := 5) rfl, fun _ h => absurd h List.not_mem_nil⟩⟩⟩⟩) (by decide +kernel)) ggX6_wantsOf_X6_get
theorem dX6_wantsOf_0 : decode cX6_wantsOf 0 = .ok (.aload_n 0, 1) := by decide +kernel
theorem dX6_wantsOf_1 : decode cX6_wantsOf 1 = .ok (.iload_n 1, 1) := by decide +kernel
theorem dX6_wantsOf_2 : decode cX6_wantsOf 2 = .ok (.iconst 1, 1) := by decide +kernel
theorem dX6_wantsOf_3 : decode cX6_wantsOf 3 = .ok (.invokevirtual 53, 3) := by decide +kernel
theorem dX6_wantsOf_6 : decode cX6_wantsOf 6 = .ok (.istore_n 2, 1) := by decide +kernel
theorem dX6_wantsOf_7 : decode cX6_wantsOf 7 = .ok (.aload_n 0, 1) := by decide +kernel
theorem dX6_wantsOf_8 : decode cX6_wantsOf 8 = .ok (.getfield 9, 3) := by decide +kernel
theorem dX6_wantsOf_11 : decode cX6_wantsOf 11 = .ok (.iconst 0, 1) := by decide +kernel
theorem dX6_wantsOf_12 : decode cX6_wantsOf 12 = .ok (.iaload, 1) := by decide +kernel
theorem dX6_wantsOf_13 : decode cX6_wantsOf 13 = .ok (.iconst 2, 1) := by decide +kernel
theorem dX6_wantsOf_14 : decode cX6_wantsOf 14 = .ok (.irem, 1) := by decide +kernel
theorem dX6_wantsOf_15 : decode cX6_wantsOf 15 = .ok (.iconst 1, 1) := by decide +kernel
theorem dX6_wantsOf_16 : decode cX6_wantsOf 16 = .ok (.if_icmp .ne 7, 3) := by decide +kernel
theorem dX6_wantsOf_19 : decode cX6_wantsOf 19 = .ok (.iconst 1, 1) := by decide +kernel
theorem dX6_wantsOf_20 : decode cX6_wantsOf 20 = .ok (.goto 4, 3) := by decide +kernel
theorem dX6_wantsOf_23 : decode cX6_wantsOf 23 = .ok (.iconst 0, 1) := by decide +kernel
theorem dX6_wantsOf_24 : decode cX6_wantsOf 24 = .ok (.istore_n 3, 1) := by decide +kernel
theorem dX6_wantsOf_25 : decode cX6_wantsOf 25 = .ok (.aload_n 0, 1) := by decide +kernel
theorem dX6_wantsOf_26 : decode cX6_wantsOf 26 = .ok (.getfield 9, 3) := by decide +kernel
theorem dX6_wantsOf_29 : decode cX6_wantsOf 29 = .ok (.iconst 3, 1) := by decide +kernel
theorem dX6_wantsOf_30 : decode cX6_wantsOf 30 = .ok (.iaload, 1) := by decide +kernel
theorem dX6_wantsOf_31 : decode cX6_wantsOf 31 = .ok (.sipush 500, 3) := by decide +kernel
theorem dX6_wantsOf_34 : decode cX6_wantsOf 34 = .ok (.if_icmp .le 9, 3) := by decide +kernel
theorem dX6_wantsOf_37 : decode cX6_wantsOf 37 = .ok (.iconst 4, 1) := by decide +kernel
theorem dX6_wantsOf_38 : decode cX6_wantsOf 38 = .ok (.iload_n 2, 1) := by decide +kernel
theorem dX6_wantsOf_39 : decode cX6_wantsOf 39 = .ok (.imul, 1) := by decide +kernel
theorem dX6_wantsOf_40 : decode cX6_wantsOf 40 = .ok (.goto 4, 3) := by decide +kernel
theorem dX6_wantsOf_43 : decode cX6_wantsOf 43 = .ok (.iload_n 2, 1) := by decide +kernel
theorem dX6_wantsOf_44 : decode cX6_wantsOf 44 = .ok (.istore 4, 2) := by decide +kernel
theorem dX6_wantsOf_46 : decode cX6_wantsOf 46 = .ok (.aload_n 0, 1) := by decide +kernel
theorem dX6_wantsOf_47 : decode cX6_wantsOf 47 = .ok (.iload_n 1, 1) := by decide +kernel
theorem dX6_wantsOf_48 : decode cX6_wantsOf 48 = .ok (.iconst 0, 1) := by decide +kernel
theorem dX6_wantsOf_49 : decode cX6_wantsOf 49 = .ok (.invokevirtual 53, 3) := by decide +kernel
theorem dX6_wantsOf_52 : decode cX6_wantsOf 52 = .ok (.tableswitch 96 1 5 #[36, 46, 49, 61, 73], 36) := by decide +kernel
theorem dX6_wantsOf_88 : decode cX6_wantsOf 88 = .ok (.iload_n 3, 1) := by decide +kernel
theorem dX6_wantsOf_89 : decode cX6_wantsOf 89 = .ok (.ifCond .eq 7, 3) := by decide +kernel
theorem dX6_wantsOf_92 : decode cX6_wantsOf 92 = .ok (.iconst 1, 1) := by decide +kernel
theorem dX6_wantsOf_93 : decode cX6_wantsOf 93 = .ok (.goto 4, 3) := by decide +kernel
theorem dX6_wantsOf_96 : decode cX6_wantsOf 96 = .ok (.iload_n 2, 1) := by decide +kernel
theorem dX6_wantsOf_97 : decode cX6_wantsOf 97 = .ok (.ireturn, 1) := by decide +kernel
theorem dX6_wantsOf_98 : decode cX6_wantsOf 98 = .ok (.iload 4, 2) := by decide +kernel
theorem dX6_wantsOf_100 : decode cX6_wantsOf 100 = .ok (.ireturn, 1) := by decide +kernel
theorem dX6_wantsOf_101 : decode cX6_wantsOf 101 = .ok (.iload_n 3, 1) := by decide +kernel
theorem dX6_wantsOf_102 : decode cX6_wantsOf 102 = .ok (.ifCond .eq 7, 3) := by decide +kernel
theorem dX6_wantsOf_105 : decode cX6_wantsOf 105 = .ok (.iload_n 2, 1) := by decide +kernel
theorem dX6_wantsOf_106 : decode cX6_wantsOf 106 = .ok (.goto 6, 3) := by decide +kernel
theorem dX6_wantsOf_109 : decode cX6_wantsOf 109 = .ok (.iload_n 2, 1) := by decide +kernel
theorem dX6_wantsOf_110 : decode cX6_wantsOf 110 = .ok (.iconst 1, 1) := by decide +kernel
theorem dX6_wantsOf_111 : decode cX6_wantsOf 111 = .ok (.iadd, 1) := by decide +kernel
theorem dX6_wantsOf_112 : decode cX6_wantsOf 112 = .ok (.ireturn, 1) := by decide +kernel
theorem dX6_wantsOf_113 : decode cX6_wantsOf 113 = .ok (.iload_n 3, 1) := by decide +kernel
theorem dX6_wantsOf_114 : decode cX6_wantsOf 114 = .ok (.ifCond .eq 7, 3) := by decide +kernel
theorem dX6_wantsOf_117 : decode cX6_wantsOf 117 = .ok (.iconst 2, 1) := by decide +kernel
theorem dX6_wantsOf_118 : decode cX6_wantsOf 118 = .ok (.goto 6, 3) := by decide +kernel
theorem dX6_wantsOf_121 : decode cX6_wantsOf 121 = .ok (.iload_n 2, 1) := by decide +kernel
theorem dX6_wantsOf_122 : decode cX6_wantsOf 122 = .ok (.iconst 1, 1) := by decide +kernel
theorem dX6_wantsOf_123 : decode cX6_wantsOf 123 = .ok (.iadd, 1) := by decide +kernel
theorem dX6_wantsOf_124 : decode cX6_wantsOf 124 = .ok (.ireturn, 1) := by decide +kernel
theorem dX6_wantsOf_125 : decode cX6_wantsOf 125 = .ok (.aload_n 0, 1) := by decide +kernel
theorem dX6_wantsOf_126 : decode cX6_wantsOf 126 = .ok (.getfield 9, 3) := by decide +kernel
theorem dX6_wantsOf_129 : decode cX6_wantsOf 129 = .ok (.iconst 0, 1) := by decide +kernel
theorem dX6_wantsOf_130 : decode cX6_wantsOf 130 = .ok (.iaload, 1) := by decide +kernel
theorem dX6_wantsOf_131 : decode cX6_wantsOf 131 = .ok (.bipush 10, 2) := by decide +kernel
theorem dX6_wantsOf_133 : decode cX6_wantsOf 133 = .ok (.irem, 1) := by decide +kernel
theorem dX6_wantsOf_134 : decode cX6_wantsOf 134 = .ok (.ifCond .ne 11, 3) := by decide +kernel
theorem dX6_wantsOf_137 : decode cX6_wantsOf 137 = .ok (.iload 4, 2) := by decide +kernel
theorem dX6_wantsOf_139 : decode cX6_wantsOf 139 = .ok (.bipush 12, 2) := by decide +kernel
theorem dX6_wantsOf_141 : decode cX6_wantsOf 141 = .ok (.iadd, 1) := by decide +kernel
theorem dX6_wantsOf_142 : decode cX6_wantsOf 142 = .ok (.goto 5, 3) := by decide +kernel
theorem dX6_wantsOf_145 : decode cX6_wantsOf 145 = .ok (.iload 4, 2) := by decide +kernel
theorem dX6_wantsOf_147 : decode cX6_wantsOf 147 = .ok (.ireturn, 1) := by decide +kernel
theorem dX6_wantsOf_148 : decode cX6_wantsOf 148 = .ok (.iload_n 2, 1) := by decide +kernel
theorem dX6_wantsOf_149 : decode cX6_wantsOf 149 = .ok (.ireturn, 1) := by decide +kernel
set_option maxRecDepth 20000 in
theorem ggX6_entersOf_X6_get : GoodIn wsX6_entersOf wsX6_get := goodIn_sub (List.forall_mem_cons.mpr ⟨List.mem_of_getElem? (i := 5) rfl, (List.forall_mem_append.mpr ⟨(List.forall_mem_cons.mpr ⟨List.mem_of_getElem? (i := 6) rfl, fun _ h => absurd h List.not_mem_nil⟩), (fun _ h => List.mem_cons_of_mem _ (List.mem_append_right _ h))⟩)⟩) (by decide +kernel)
set_option maxRecDepth 20000 in
theorem gX6_entersOf_X6_get : GoodIn wsX6_entersOf (wsV RX6 53 RX6 yX6_get wsX6_get) := goodIn_app (goodIn_sub (List.forall_mem_cons.mpr ⟨List.mem_of_getElem? (i := 1) rfl, List.forall_mem_cons.mpr ⟨List.mem_of_getElem? (i := 2) rfl, List.forall_mem_cons.mpr ⟨List.mem_of_getElem? (i := 3) rfl, List.forall_mem_cons.mpr ⟨List.mem_of_getElem? (i := 4) rfl, fun _ h => absurd h List.not_mem_nil⟩⟩⟩⟩) (by decide +kernel)) ggX6_entersOf_X6_get
theorem dX6_entersOf_0 : decode cX6_entersOf 0 = .ok (.aload_n 0, 1) := by decide +kernel
theorem dX6_entersOf_1 : decode cX6_entersOf 1 = .ok (.iload_n 1, 1) := by decide +kernel
theorem dX6_entersOf_2 : decode cX6_entersOf 2 = .ok (.iconst 2, 1) := by decide +kernel
theorem dX6_entersOf_3 : decode cX6_entersOf 3 = .ok (.invokevirtual 53, 3) := by decide +kernel
theorem dX6_entersOf_6 : decode cX6_entersOf 6 = .ok (.istore_n 3, 1) := by decide +kernel
theorem dX6_entersOf_7 : decode cX6_entersOf 7 = .ok (.iload_n 2, 1) := by decide +kernel
theorem dX6_entersOf_8 : decode cX6_entersOf 8 = .ok (.ifCond .ne 5, 3) := by decide +kernel
theorem dX6_entersOf_11 : decode cX6_entersOf 11 = .ok (.iconst 0, 1) := by decide +kernel
theorem dX6_entersOf_12 : decode cX6_entersOf 12 = .ok (.ireturn, 1) := by decide +kernel
theorem dX6_entersOf_13 : decode cX6_entersOf 13 = .ok (.aload_n 0, 1) := by decide +kernel
theorem dX6_entersOf_14 : decode cX6_entersOf 14 = .ok (.iload_n 1, 1) := by decide +kernel
theorem dX6_entersOf_15 : decode cX6_entersOf 15 = .ok (.iconst 0, 1) := by decide +kernel
theorem dX6_entersOf_16 : decode cX6_entersOf 16 = .ok (.invokevirtual 53, 3) := by decide +kernel
theorem dX6_entersOf_19 : decode cX6_entersOf 19 = .ok (.tableswitch 59 1 5 #[33, 37, 43, 45, 51], 33) := by decide +kernel
theorem dX6_entersOf_52 : decode cX6_entersOf 52 = .ok (.iconst 2, 1) := by decide +kernel
theorem dX6_entersOf_53 : decode cX6_entersOf 53 = .ok (.iload_n 2, 1) := by decide +kernel
theorem dX6_entersOf_54 : decode cX6_entersOf 54 = .ok (.imul, 1) := by decide +kernel
theorem dX6_entersOf_55 : decode cX6_entersOf 55 = .ok (.ireturn, 1) := by decide +kernel
theorem dX6_entersOf_56 : decode cX6_entersOf 56 = .ok (.iload_n 2, 1) := by decide +kernel
theorem dX6_entersOf_57 : decode cX6_entersOf 57 = .ok (.iload_n 3, 1) := by decide +kernel
theorem dX6_entersOf_58 : decode cX6_entersOf 58 = .ok (.imul, 1) := by decide +kernel
theorem dX6_entersOf_59 : decode cX6_entersOf 59 = .ok (.iload_n 2, 1) := by decide +kernel
theorem dX6_entersOf_60 : decode cX6_entersOf 60 = .ok (.iadd, 1) := by decide +kernel
theorem dX6_entersOf_61 : decode cX6_entersOf 61 = .ok (.ireturn, 1) := by decide +kernel
theorem dX6_entersOf_62 : decode cX6_entersOf 62 = .ok (.iconst 0, 1) := by decide +kernel
theorem dX6_entersOf_63 : decode cX6_entersOf 63 = .ok (.ireturn, 1) := by decide +kernel
theorem dX6_entersOf_64 : decode cX6_entersOf 64 = .ok (.iconst 2, 1) := by decide +kernel
theorem dX6_entersOf_65 : decode cX6_entersOf 65 = .ok (.iload_n 2, 1) := by decide +kernel
theorem dX6_entersOf_66 : decode cX6_entersOf 66 = .ok (.imul, 1) := by decide +kernel
theorem dX6_entersOf_67 : decode cX6_entersOf 67 = .ok (.iload_n 3, 1) := by decide +kernel
theorem dX6_entersOf_68 : decode cX6_entersOf 68 = .ok (.iadd, 1) := by decide +kernel
theorem dX6_entersOf_69 : decode cX6_entersOf 69 = .ok (.ireturn, 1) := by decide +kernel
theorem dX6_entersOf_70 : decode cX6_entersOf 70 = .ok (.iconst 2, 1) := by decide +kernel
theorem dX6_entersOf_71 : decode cX6_entersOf 71 = .ok (.iload_n 2, 1) := by decide +kernel
theorem dX6_entersOf_72 : decode cX6_entersOf 72 = .ok (.iload_n 3, 1) := by decide +kernel
theorem dX6_entersOf_73 : decode cX6_entersOf 73 = .ok (.imul, 1) := by decide +kernel
theorem dX6_entersOf_74 : decode cX6_entersOf 74 = .ok (.iload_n 2, 1) := by decide +kernel
theorem dX6_entersOf_75 : decode cX6_entersOf 75 = .ok (.iadd, 1) := by decide +kernel
theorem dX6_entersOf_76 : decode cX6_entersOf 76 = .ok (.imul, 1) := by decide +kernel
theorem dX6_entersOf_77 : decode cX6_entersOf 77 = .ok (.ireturn, 1) := by decide +kernel
theorem dX6_entersOf_78 : decode cX6_entersOf 78 = .ok (.iload_n 2, 1) := by decide +kernel
theorem dX6_entersOf_79 : decode cX6_entersOf 79 = .ok (.iload_n 3, 1) := by decide +kernel
theorem dX6_entersOf_80 : decode cX6_entersOf 80 = .ok (.imul, 1) := by decide +kernel
theorem dX6_entersOf_81 : decode cX6_entersOf 81 = .ok (.ireturn, 1) := by decide +kernel
set_option maxRecDepth 20000 in
theorem ggX6_isWatchedFor_X6_entersOf : GoodIn wsX6_isWatchedFor wsX6_entersOf := goodIn_sub (List.forall_mem_cons.mpr ⟨List.mem_of_getElem? (i := 5) rfl, (List.forall_mem_append.mpr ⟨(List.forall_mem_cons.mpr ⟨List.mem_of_getElem? (i := 6) rfl, List.forall_mem_cons.mpr ⟨List.mem_of_getElem? (i := 7) rfl, List.forall_mem_cons.mpr ⟨List.mem_of_getElem? (i := 8) rfl, List.forall_mem_cons.mpr ⟨List.mem_of_getElem? (i := 4) rfl, List.forall_mem_cons.mpr ⟨List.mem_of_getElem? (i := 9) rfl, List.forall_mem_cons.mpr ⟨List.mem_of_getElem? (i := 10) rfl, fun _ h => absurd h List.not_mem_nil⟩⟩⟩⟩⟩⟩), (fun _ h => List.mem_cons_of_mem _ (List.mem_append_right _ h))⟩)⟩) (by decide +kernel)
set_option maxRecDepth 20000 in
theorem gX6_isWatchedFor_X6_entersOf : GoodIn wsX6_isWatchedFor (wsV RX6 57 RX6 yX6_entersOf wsX6_entersOf) := goodIn_app (goodIn_sub (List.forall_mem_cons.mpr ⟨List.mem_of_getElem? (i := 1) rfl, List.forall_mem_cons.mpr ⟨List.mem_of_getElem? (i := 2) rfl, List.forall_mem_cons.mpr ⟨List.mem_of_getElem? (i := 3) rfl, List.forall_mem_cons.mpr ⟨List.mem_of_getElem? (i := 4) rfl, fun _ h => absurd h List.not_mem_nil⟩⟩⟩⟩) (by decide +kernel)) ggX6_isWatchedFor_X6_entersOf
set_option maxRecDepth 20000 in
theorem ggX6_isWatchedFor_X6_get : GoodIn wsX6_isWatchedFor wsX6_get := goodIn_sub (List.forall_mem_cons.mpr ⟨List.mem_of_getElem? (i := 9) rfl, (List.forall_mem_append.mpr ⟨(List.forall_mem_cons.mpr ⟨List.mem_of_getElem? (i := 10) rfl, fun _ h => absurd h List.not_mem_nil⟩), (fun _ h => List.mem_cons_of_mem _ (List.mem_append_right _ h))⟩)⟩) (by decide +kernel)
set_option maxRecDepth 20000 in
theorem gX6_isWatchedFor_X6_get : GoodIn wsX6_isWatchedFor (wsV RX6 53 RX6 yX6_get wsX6_get) := goodIn_app (goodIn_sub (List.forall_mem_cons.mpr ⟨List.mem_of_getElem? (i := 6) rfl, List.forall_mem_cons.mpr ⟨List.mem_of_getElem? (i := 7) rfl, List.forall_mem_cons.mpr ⟨List.mem_of_getElem? (i := 8) rfl, List.forall_mem_cons.mpr ⟨List.mem_of_getElem? (i := 4) rfl, fun _ h => absurd h List.not_mem_nil⟩⟩⟩⟩) (by decide +kernel)) ggX6_isWatchedFor_X6_get
theorem dX6_isWatchedFor_0 : decode cX6_isWatchedFor 0 = .ok (.aload_n 0, 1) := by decide +kernel
theorem dX6_isWatchedFor_1 : decode cX6_isWatchedFor 1 = .ok (.iload_n 1, 1) := by decide +kernel
theorem dX6_isWatchedFor_2 : decode cX6_isWatchedFor 2 = .ok (.iload_n 2, 1) := by decide +kernel
theorem dX6_isWatchedFor_3 : decode cX6_isWatchedFor 3 = .ok (.invokevirtual 57, 3) := by decide +kernel
theorem dX6_isWatchedFor_6 : decode cX6_isWatchedFor 6 = .ok (.iload_n 2, 1) := by decide +kernel
theorem dX6_isWatchedFor_7 : decode cX6_isWatchedFor 7 = .ok (.if_icmp .ge 7, 3) := by decide +kernel
theorem dX6_isWatchedFor_10 : decode cX6_isWatchedFor 10 = .ok (.iconst 2, 1) := by decide +kernel
theorem dX6_isWatchedFor_11 : decode cX6_isWatchedFor 11 = .ok (.goto 4, 3) := by decide +kernel
theorem dX6_isWatchedFor_14 : decode cX6_isWatchedFor 14 = .ok (.iconst 0, 1) := by decide +kernel
theorem dX6_isWatchedFor_15 : decode cX6_isWatchedFor 15 = .ok (.istore_n 3, 1) := by decide +kernel
theorem dX6_isWatchedFor_16 : decode cX6_isWatchedFor 16 = .ok (.iload_n 2, 1) := by decide +kernel
theorem dX6_isWatchedFor_17 : decode cX6_isWatchedFor 17 = .ok (.ifCond .ne 5, 3) := by decide +kernel
theorem dX6_isWatchedFor_20 : decode cX6_isWatchedFor 20 = .ok (.iconst 0, 1) := by decide +kernel
theorem dX6_isWatchedFor_21 : decode cX6_isWatchedFor 21 = .ok (.ireturn, 1) := by decide +kernel
theorem dX6_isWatchedFor_22 : decode cX6_isWatchedFor 22 = .ok (.aload_n 0, 1) := by decide +kernel
theorem dX6_isWatchedFor_23 : decode cX6_isWatchedFor 23 = .ok (.iload_n 1, 1) := by decide +kernel
theorem dX6_isWatchedFor_24 : decode cX6_isWatchedFor 24 = .ok (.iconst 0, 1) := by decide +kernel
theorem dX6_isWatchedFor_25 : decode cX6_isWatchedFor 25 = .ok (.invokevirtual 53, 3) := by decide +kernel
theorem dX6_isWatchedFor_28 : decode cX6_isWatchedFor 28 = .ok (.tableswitch 63 1 5 #[36, 63, 36, 38, 49], 36) := by decide +kernel
theorem dX6_isWatchedFor_64 : decode cX6_isWatchedFor 64 = .ok (.iconst 0, 1) := by decide +kernel
theorem dX6_isWatchedFor_65 : decode cX6_isWatchedFor 65 = .ok (.ireturn, 1) := by decide +kernel
theorem dX6_isWatchedFor_66 : decode cX6_isWatchedFor 66 = .ok (.iload_n 2, 1) := by decide +kernel
theorem dX6_isWatchedFor_67 : decode cX6_isWatchedFor 67 = .ok (.iconst 5, 1) := by decide +kernel
theorem dX6_isWatchedFor_68 : decode cX6_isWatchedFor 68 = .ok (.if_icmp .le 7, 3) := by decide +kernel
theorem dX6_isWatchedFor_71 : decode cX6_isWatchedFor 71 = .ok (.iconst 1, 1) := by decide +kernel
theorem dX6_isWatchedFor_72 : decode cX6_isWatchedFor 72 = .ok (.goto 4, 3) := by decide +kernel
theorem dX6_isWatchedFor_75 : decode cX6_isWatchedFor 75 = .ok (.iconst 0, 1) := by decide +kernel
theorem dX6_isWatchedFor_76 : decode cX6_isWatchedFor 76 = .ok (.ireturn, 1) := by decide +kernel
theorem dX6_isWatchedFor_77 : decode cX6_isWatchedFor 77 = .ok (.iload_n 2, 1) := by decide +kernel
theorem dX6_isWatchedFor_78 : decode cX6_isWatchedFor 78 = .ok (.bipush 30, 2) := by decide +kernel
theorem dX6_isWatchedFor_80 : decode cX6_isWatchedFor 80 = .ok (.if_icmp .le 9, 3) := by decide +kernel
theorem dX6_isWatchedFor_83 : decode cX6_isWatchedFor 83 = .ok (.iload_n 3, 1) := by decide +kernel
theorem dX6_isWatchedFor_84 : decode cX6_isWatchedFor 84 = .ok (.iconst 1, 1) := by decide +kernel
theorem dX6_isWatchedFor_85 : decode cX6_isWatchedFor 85 = .ok (.iadd, 1) := by decide +kernel
theorem dX6_isWatchedFor_86 : decode cX6_isWatchedFor 86 = .ok (.goto 4, 3) := by decide +kernel
theorem dX6_isWatchedFor_89 : decode cX6_isWatchedFor 89 = .ok (.iload_n 3, 1) := by decide +kernel
theorem dX6_isWatchedFor_90 : decode cX6_isWatchedFor 90 = .ok (.ireturn, 1) := by decide +kernel
theorem dX6_isWatchedFor_91 : decode cX6_isWatchedFor 91 = .ok (.iload_n 3, 1) := by decide +kernel
theorem dX6_isWatchedFor_92 : decode cX6_isWatchedFor 92 = .ok (.ireturn, 1) := by decide +kernel
set_option maxRecDepth 20000 in
theorem ggX6_breaksOf_X6_get : GoodIn wsX6_breaksOf wsX6_get := goodIn_sub (List.forall_mem_cons.mpr ⟨List.mem_of_getElem? (i := 8) rfl, (List.forall_mem_append.mpr ⟨(List.forall_mem_cons.mpr ⟨List.mem_of_getElem? (i := 1) rfl, fun _ h => absurd h List.not_mem_nil⟩), (fun _ h => List.mem_cons_of_mem _ (List.mem_append_right _ h))⟩)⟩) (by decide +kernel)
set_option maxRecDepth 20000 in
theorem gX6_breaksOf_X6_get : GoodIn wsX6_breaksOf (wsV RX6 53 RX6 yX6_get wsX6_get) := goodIn_app (goodIn_sub (List.forall_mem_cons.mpr ⟨List.mem_of_getElem? (i := 4) rfl, List.forall_mem_cons.mpr ⟨List.mem_of_getElem? (i := 5) rfl, List.forall_mem_cons.mpr ⟨List.mem_of_getElem? (i := 6) rfl, List.forall_mem_cons.mpr ⟨List.mem_of_getElem? (i := 7) rfl, fun _ h => absurd h List.not_mem_nil⟩⟩⟩⟩) (by decide +kernel)) ggX6_breaksOf_X6_get
set_option maxRecDepth 20000 in
theorem ggX6_breaksOf_X6_less : GoodIn wsX6_breaksOf wsX6_less := goodIn_sub (List.forall_mem_cons.mpr ⟨List.mem_of_getElem? (i := 11) rfl, (fun _ h => absurd h List.not_mem_nil)⟩) (by decide +kernel)
set_option maxRecDepth 20000 in
theorem gX6_breaksOf_X6_less : GoodIn wsX6_breaksOf (va_wsS RX6 61 yX6_less wsX6_less) := goodIn_app (goodIn_sub (List.forall_mem_cons.mpr ⟨List.mem_of_getElem? (i := 9) rfl, List.forall_mem_cons.mpr ⟨List.mem_of_getElem? (i := 10) rfl, List.forall_mem_cons.mpr ⟨List.mem_of_getElem? (i := 7) rfl, fun _ h => absurd h List.not_mem_nil⟩⟩⟩) (by decide +kernel)) ggX6_breaksOf_X6_less
set_option maxRecDepth 20000 in
theorem ggX6_breaksOf_X6_puts : GoodIn wsX6_breaksOf wsX6_puts := goodIn_sub (List.forall_mem_cons.mpr ⟨List.mem_of_getElem? (i := 15) rfl, (List.forall_mem_append.mpr ⟨(List.forall_mem_cons.mpr ⟨List.mem_of_getElem? (i := 1) rfl, fun _ h => absurd h List.not_mem_nil⟩), (fun _ h => List.mem_cons_of_mem _ (List.mem_append_right _ h))⟩)⟩) (by decide +kernel)
set_option maxRecDepth 20000 in
theorem gX6_breaksOf_X6_puts : GoodIn wsX6_breaksOf (wsV RX6 64 RX6 yX6_puts wsX6_puts) := goodIn_app (goodIn_sub (List.forall_mem_cons.mpr ⟨List.mem_of_getElem? (i := 12) rfl, List.forall_mem_cons.mpr ⟨List.mem_of_getElem? (i := 13) rfl, List.forall_mem_cons.mpr ⟨List.mem_of_getElem? (i := 14) rfl, List.forall_mem_cons.mpr ⟨List.mem_of_getElem? (i := 7) rfl, fun _ h => absurd h List.not_mem_nil⟩⟩⟩⟩) (by decide +kernel)) ggX6_breaksOf_X6_puts
set_option maxRecDepth 20000 in
theorem ggX6_breaksOf_X6_entersOf : GoodIn wsX6_breaksOf wsX6_entersOf := goodIn_sub (List.forall_mem_cons.mpr ⟨List.mem_of_getElem? (i := 19) rfl, (List.forall_mem_append.mpr ⟨(List.forall_mem_cons.mpr ⟨List.mem_of_getElem? (i := 4) rfl, List.forall_mem_cons.mpr ⟨List.mem_of_getElem? (i := 5) rfl, List.forall_mem_cons.mpr ⟨List.mem_of_getElem? (i := 6) rfl, List.forall_mem_cons.mpr ⟨List.mem_of_getElem? (i := 7) rfl, List.forall_mem_cons.mpr ⟨List.mem_of_getElem? (i := 8) rfl, List.forall_mem_cons.mpr ⟨List.mem_of_getElem? (i := 1) rfl, fun _ h => absurd h List.not_mem_nil⟩⟩⟩⟩⟩⟩), (fun _ h => List.mem_cons_of_mem _ (List.mem_append_right _ h))⟩)⟩) (by decide +kernel)
set_option maxRecDepth 20000 in
theorem gX6_breaksOf_X6_entersOf : GoodIn wsX6_breaksOf (wsV RX6 57 RX6 yX6_entersOf wsX6_entersOf) := goodIn_app (goodIn_sub (List.forall_mem_cons.mpr ⟨List.mem_of_getElem? (i := 16) rfl, List.forall_mem_cons.mpr ⟨List.mem_of_getElem? (i := 17) rfl, List.forall_mem_cons.mpr ⟨List.mem_of_getElem? (i := 18) rfl, List.forall_mem_cons.mpr ⟨List.mem_of_getElem? (i := 7) rfl, fun _ h => absurd h List.not_mem_nil⟩⟩⟩⟩) (by decide +kernel)) ggX6_breaksOf_X6_entersOf
set_option maxRecDepth 20000 in
theorem ggX6_breaksOf_X6_isWatchedFor : GoodIn wsX6_breaksOf wsX6_isWatchedFor := goodIn_sub (List.forall_mem_cons.mpr ⟨List.mem_of_getElem? (i := 23) rfl, (List.forall_mem_append.mpr ⟨(List.forall_mem_cons.mpr ⟨List.mem_of_getElem? (i := 16) rfl, List.forall_mem_cons.mpr ⟨List.mem_of_getElem? (i := 17) rfl, List.forall_mem_cons.mpr ⟨List.mem_of_getElem? (i := 18) rfl, List.forall_mem_cons.mpr ⟨List.mem_of_getElem? (i := 7) rfl, List.forall_mem_cons.mpr ⟨List.mem_of_getElem? (i := 19) rfl, List.forall_mem_cons.mpr ⟨List.mem_of_getElem? (i := 4) rfl, List.forall_mem_cons.mpr ⟨List.mem_of_getElem? (i := 5) rfl, List.forall_mem_cons.mpr ⟨List.mem_of_getElem? (i := 6) rfl, List.forall_mem_cons.mpr ⟨List.mem_of_getElem? (i := 8) rfl, List.forall_mem_cons.mpr ⟨List.mem_of_getElem? (i := 1) rfl, fun _ h => absurd h List.not_mem_nil⟩⟩⟩⟩⟩⟩⟩⟩⟩⟩), (fun _ h => List.mem_cons_of_mem _ (List.mem_append_right _ h))⟩)⟩) (by decide +kernel)
set_option maxRecDepth 20000 in
theorem gX6_breaksOf_X6_isWatchedFor : GoodIn wsX6_breaksOf (wsV RX6 69 RX6 yX6_isWatchedFor wsX6_isWatchedFor) := goodIn_app (goodIn_sub (List.forall_mem_cons.mpr ⟨List.mem_of_getElem? (i := 20) rfl, List.forall_mem_cons.mpr ⟨List.mem_of_getElem? (i := 21) rfl, List.forall_mem_cons.mpr ⟨List.mem_of_getElem? (i := 22) rfl, List.forall_mem_cons.mpr ⟨List.mem_of_getElem? (i := 7) rfl, fun _ h => absurd h List.not_mem_nil⟩⟩⟩⟩) (by decide +kernel)) ggX6_breaksOf_X6_isWatchedFor
theorem dX6_breaksOf_0 : decode cX6_breaksOf 0 = .ok (.aload_n 0, 1) := by decide +kernel
theorem dX6_breaksOf_1 : decode cX6_breaksOf 1 = .ok (.getfield 9, 3) := by decide +kernel
theorem dX6_breaksOf_4 : decode cX6_breaksOf 4 = .ok (.iconst 1, 1) := by decide +kernel
theorem dX6_breaksOf_5 : decode cX6_breaksOf 5 = .ok (.dup2, 1) := by decide +kernel
theorem dX6_breaksOf_6 : decode cX6_breaksOf 6 = .ok (.iaload, 1) := by decide +kernel
theorem dX6_breaksOf_7 : decode cX6_breaksOf 7 = .ok (.iload_n 2, 1) := by decide +kernel
theorem dX6_breaksOf_8 : decode cX6_breaksOf 8 = .ok (.isub, 1) := by decide +kernel
theorem dX6_breaksOf_9 : decode cX6_breaksOf 9 = .ok (.iastore, 1) := by decide +kernel
theorem dX6_breaksOf_10 : decode cX6_breaksOf 10 = .ok (.aload_n 0, 1) := by decide +kernel
theorem dX6_breaksOf_11 : decode cX6_breaksOf 11 = .ok (.iload_n 1, 1) := by decide +kernel
theorem dX6_breaksOf_12 : decode cX6_breaksOf 12 = .ok (.iconst 4, 1) := by decide +kernel
theorem dX6_breaksOf_13 : decode cX6_breaksOf 13 = .ok (.ldc 60, 2) := by decide +kernel
theorem dX6_breaksOf_15 : decode cX6_breaksOf 15 = .ok (.aload_n 0, 1) := by decide +kernel
theorem dX6_breaksOf_16 : decode cX6_breaksOf 16 = .ok (.iload_n 1, 1) := by decide +kernel
theorem dX6_breaksOf_17 : decode cX6_breaksOf 17 = .ok (.iconst 4, 1) := by decide +kernel
theorem dX6_breaksOf_18 : decode cX6_breaksOf 18 = .ok (.invokevirtual 53, 3) := by decide +kernel
theorem dX6_breaksOf_21 : decode cX6_breaksOf 21 = .ok (.iload_n 2, 1) := by decide +kernel
theorem dX6_breaksOf_22 : decode cX6_breaksOf 22 = .ok (.iadd, 1) := by decide +kernel
theorem dX6_breaksOf_23 : decode cX6_breaksOf 23 = .ok (.invokestatic 61, 3) := by decide +kernel
theorem dX6_breaksOf_26 : decode cX6_breaksOf 26 = .ok (.invokevirtual 64, 3) := by decide +kernel
theorem dX6_breaksOf_29 : decode cX6_breaksOf 29 = .ok (.aload_n 0, 1) := by decide +kernel
theorem dX6_breaksOf_30 : decode cX6_breaksOf 30 = .ok (.getfield 9, 3) := by decide +kernel
theorem dX6_breaksOf_33 : decode cX6_breaksOf 33 = .ok (.iconst 3, 1) := by decide +kernel
theorem dX6_breaksOf_34 : decode cX6_breaksOf 34 = .ok (.ldc 68, 2) := by decide +kernel
theorem dX6_breaksOf_36 : decode cX6_breaksOf 36 = .ok (.aload_n 0, 1) := by decide +kernel
theorem dX6_breaksOf_37 : decode cX6_breaksOf 37 = .ok (.getfield 9, 3) := by decide +kernel
theorem dX6_breaksOf_40 : decode cX6_breaksOf 40 = .ok (.iconst 3, 1) := by decide +kernel
theorem dX6_breaksOf_41 : decode cX6_breaksOf 41 = .ok (.iaload, 1) := by decide +kernel
theorem dX6_breaksOf_42 : decode cX6_breaksOf 42 = .ok (.aload_n 0, 1) := by decide +kernel
theorem dX6_breaksOf_43 : decode cX6_breaksOf 43 = .ok (.iload_n 1, 1) := by decide +kernel
theorem dX6_breaksOf_44 : decode cX6_breaksOf 44 = .ok (.iload_n 2, 1) := by decide +kernel
theorem dX6_breaksOf_45 : decode cX6_breaksOf 45 = .ok (.invokevirtual 57, 3) := by decide +kernel
theorem dX6_breaksOf_48 : decode cX6_breaksOf 48 = .ok (.iadd, 1) := by decide +kernel
theorem dX6_breaksOf_49 : decode cX6_breaksOf 49 = .ok (.invokestatic 61, 3) := by decide +kernel
theorem dX6_breaksOf_52 : decode cX6_breaksOf 52 = .ok (.iastore, 1) := by decide +kernel
theorem dX6_breaksOf_53 : decode cX6_breaksOf 53 = .ok (.aload_n 0, 1) := by decide +kernel
theorem dX6_breaksOf_54 : decode cX6_breaksOf 54 = .ok (.iload_n 1, 1) := by decide +kernel
theorem dX6_breaksOf_55 : decode cX6_breaksOf 55 = .ok (.iconst 3, 1) := by decide +kernel
theorem dX6_breaksOf_56 : decode cX6_breaksOf 56 = .ok (.aload_n 0, 1) := by decide +kernel
theorem dX6_breaksOf_57 : decode cX6_breaksOf 57 = .ok (.iload_n 1, 1) := by decide +kernel
theorem dX6_breaksOf_58 : decode cX6_breaksOf 58 = .ok (.iload_n 2, 1) := by decide +kernel
theorem dX6_breaksOf_59 : decode cX6_breaksOf 59 = .ok (.invokevirtual 69, 3) := by decide +kernel
theorem dX6_breaksOf_62 : decode cX6_breaksOf 62 = .ok (.invokevirtual 64, 3) := by decide +kernel
theorem dX6_breaksOf_65 : decode cX6_breaksOf 65 = .ok (.return_, 1) := by decide +kernel
set_option maxRecDepth 20000 in
theorem ggX6_comesIn_X6_get : GoodIn wsX6_comesIn wsX6_get := goodIn_sub (List.forall_mem_cons.mpr ⟨List.mem_of_getElem? (i := 6) rfl, (List.forall_mem_append.mpr ⟨(List.forall_mem_cons.mpr ⟨List.mem_of_getElem? (i := 1) rfl, fun _ h => absurd h List.not_mem_nil⟩), (fun _ h => List.mem_cons_of_mem _ (List.mem_append_right _ h))⟩)⟩) (by decide +kernel)
set_option maxRecDepth 20000 in
theorem gX6_comesIn_X6_get : GoodIn wsX6_comesIn (wsV RX6 53 RX6 yX6_get wsX6_get) := goodIn_app (goodIn_sub (List.forall_mem_cons.mpr ⟨List.mem_of_getElem? (i := 2) rfl, List.forall_mem_cons.mpr ⟨List.mem_of_getElem? (i := 3) rfl, List.forall_mem_cons.mpr ⟨List.mem_of_getElem? (i := 4) rfl, List.forall_mem_cons.mpr ⟨List.mem_of_getElem? (i := 5) rfl, fun _ h => absurd h List.not_mem_nil⟩⟩⟩⟩) (by decide +kernel)) ggX6_comesIn_X6_get
set_option maxRecDepth 20000 in
theorem ggX6_comesIn_X6_puts : GoodIn wsX6_comesIn wsX6_puts := goodIn_sub (List.forall_mem_cons.mpr ⟨List.mem_of_getElem? (i := 10) rfl, (List.forall_mem_append.mpr ⟨(List.forall_mem_cons.mpr ⟨List.mem_of_getElem? (i := 1) rfl, fun _ h => absurd h List.not_mem_nil⟩), (fun _ h => List.mem_cons_of_mem _ (List.mem_append_right _ h))⟩)⟩) (by decide +kernel)
set_option maxRecDepth 20000 in
theorem gX6_comesIn_X6_puts : GoodIn wsX6_comesIn (wsV RX6 64 RX6 yX6_puts wsX6_puts) := goodIn_app (goodIn_sub (List.forall_mem_cons.mpr ⟨List.mem_of_getElem? (i := 7) rfl, List.forall_mem_cons.mpr ⟨List.mem_of_getElem? (i := 8) rfl, List.forall_mem_cons.mpr ⟨List.mem_of_getElem? (i := 9) rfl, List.forall_mem_cons.mpr ⟨List.mem_of_getElem? (i := 5) rfl, fun _ h => absurd h List.not_mem_nil⟩⟩⟩⟩) (by decide +kernel)) ggX6_comesIn_X6_puts
set_option maxRecDepth 20000 in
theorem ggX6_comesIn_X6_wantsOf : GoodIn wsX6_comesIn wsX6_wantsOf := goodIn_sub (List.forall_mem_cons.mpr ⟨List.mem_of_getElem? (i := 14) rfl, (List.forall_mem_append.mpr ⟨(List.forall_mem_cons.mpr ⟨List.mem_of_getElem? (i := 1) rfl, List.forall_mem_cons.mpr ⟨List.mem_of_getElem? (i := 2) rfl, List.forall_mem_cons.mpr ⟨List.mem_of_getElem? (i := 3) rfl, List.forall_mem_cons.mpr ⟨List.mem_of_getElem? (i := 4) rfl, List.forall_mem_cons.mpr ⟨List.mem_of_getElem? (i := 5) rfl, List.forall_mem_cons.mpr ⟨List.mem_of_getElem? (i := 6) rfl, fun _ h => absurd h List.not_mem_nil⟩⟩⟩⟩⟩⟩), (fun _ h => List.mem_cons_of_mem _ (List.mem_append_right _ h))⟩)⟩) (by decide +kernel)
set_option maxRecDepth 20000 in
theorem gX6_comesIn_X6_wantsOf : GoodIn wsX6_comesIn (wsV RX6 72 RX6 yX6_wantsOf wsX6_wantsOf) := goodIn_app (goodIn_sub (List.forall_mem_cons.mpr ⟨List.mem_of_getElem? (i := 11) rfl, List.forall_mem_cons.mpr ⟨List.mem_of_getElem? (i := 12) rfl, List.forall_mem_cons.mpr ⟨List.mem_of_getElem? (i := 13) rfl, List.forall_mem_cons.mpr ⟨List.mem_of_getElem? (i := 5) rfl, fun _ h => absurd h List.not_mem_nil⟩⟩⟩⟩) (by decide +kernel)) ggX6_comesIn_X6_wantsOf
set_option maxRecDepth 20000 in
theorem ggX6_comesIn_X6_less : GoodIn wsX6_comesIn wsX6_less := goodIn_sub (List.forall_mem_cons.mpr ⟨List.mem_of_getElem? (i := 17) rfl, (fun _ h => absurd h List.not_mem_nil)⟩) (by decide +kernel)
set_option maxRecDepth 20000 in
theorem gX6_comesIn_X6_less : GoodIn wsX6_comesIn (va_wsS RX6 61 yX6_less wsX6_less) := goodIn_app (goodIn_sub (List.forall_mem_cons.mpr ⟨List.mem_of_getElem? (i := 15) rfl, List.forall_mem_cons.mpr ⟨List.mem_of_getElem? (i := 16) rfl, List.forall_mem_cons.mpr ⟨List.mem_of_getElem? (i := 5) rfl, fun _ h => absurd h List.not_mem_nil⟩⟩⟩) (by decide +kernel)) ggX6_comesIn_X6_less
set_option maxRecDepth 20000 in
theorem ggX6_comesIn_X6_breaksOf : GoodIn wsX6_comesIn wsX6_breaksOf := goodIn_sub (List.forall_mem_cons.mpr ⟨List.mem_of_getElem? (i := 21) rfl, (List.forall_mem_append.mpr ⟨(List.forall_mem_cons.mpr ⟨List.mem_of_getElem? (i := 1) rfl, List.forall_mem_cons.mpr ⟨List.mem_of_getElem? (i := 22) rfl, List.forall_mem_cons.mpr ⟨List.mem_of_getElem? (i := 23) rfl, List.forall_mem_cons.mpr ⟨List.mem_of_getElem? (i := 2) rfl, List.forall_mem_cons.mpr ⟨List.mem_of_getElem? (i := 3) rfl, List.forall_mem_cons.mpr ⟨List.mem_of_getElem? (i := 4) rfl, List.forall_mem_cons.mpr ⟨List.mem_of_getElem? (i := 5) rfl, List.forall_mem_cons.mpr ⟨List.mem_of_getElem? (i := 6) rfl, List.forall_mem_cons.mpr ⟨List.mem_of_getElem? (i := 15) rfl, List.forall_mem_cons.mpr ⟨List.mem_of_getElem? (i := 16) rfl, List.forall_mem_cons.mpr ⟨List.mem_of_getElem? (i := 17) rfl, List.forall_mem_cons.mpr ⟨List.mem_of_getElem? (i := 7) rfl, List.forall_mem_cons.mpr ⟨List.mem_of_getElem? (i := 8) rfl, List.forall_mem_cons.mpr ⟨List.mem_of_getElem? (i := 9) rfl, List.forall_mem_cons.mpr ⟨List.mem_of_getElem? (i := 10) rfl, List.forall_mem_cons.mpr ⟨List.mem_of_getElem? (i := 24) rfl, List.forall_mem_cons.mpr ⟨List.mem_of_getElem? (i := 25) rfl, List.forall_mem_cons.mpr ⟨List.mem_of_getElem? (i := 26) rfl, List.forall_mem_cons.mpr ⟨List.mem_of_getElem? (i := 27) rfl, List.forall_mem_cons.mpr ⟨List.mem_of_getElem? (i := 28) rfl, List.forall_mem_cons.mpr ⟨List.mem_of_getElem? (i := 29) rfl, List.forall_mem_cons.mpr ⟨List.mem_of_getElem? (i := 30) rfl, List.forall_mem_cons.mpr ⟨List.mem_of_getElem? (i := 31) rfl, fun _ h => absurd h List.not_mem_nil⟩⟩⟩⟩⟩⟩⟩⟩⟩⟩⟩⟩⟩⟩⟩⟩⟩⟩⟩⟩⟩⟩⟩), (fun _ h => List.mem_cons_of_mem _ (List.mem_append_right _ h))⟩)⟩) (by decide +kernel)
set_option maxRecDepth 20000 in
theorem gX6_comesIn_X6_breaksOf : GoodIn wsX6_comesIn (wsV RX6 76 RX6 yX6_breaksOf wsX6_breaksOf) := goodIn_app (goodIn_sub (List.forall_mem_cons.mpr ⟨List.mem_of_getElem? (i := 18) rfl, List.forall_mem_cons.mpr ⟨List.mem_of_getElem? (i := 19) rfl, List.forall_mem_cons.mpr ⟨List.mem_of_getElem? (i := 20) rfl, List.forall_mem_cons.mpr ⟨List.mem_of_getElem? (i := 5) rfl, fun _ h => absurd h List.not_mem_nil⟩⟩⟩⟩) (by decide +kernel)) ggX6_comesIn_X6_breaksOf
theorem dX6_comesIn_0 : decode cX6_comesIn 0 = .ok (.aload_n 0, 1) := by decide +kernel
theorem dX6_comesIn_1 : decode cX6_comesIn 1 = .ok (.iload_n 1, 1) := by decide +kernel
theorem dX6_comesIn_2 : decode cX6_comesIn 2 = .ok (.iconst 3, 1) := by decide +kernel
theorem dX6_comesIn_3 : decode cX6_comesIn 3 = .ok (.invokevirtual 53, 3) := by decide +kernel
theorem dX6_comesIn_6 : decode cX6_comesIn 6 = .ok (.ifCond .le 19, 3) := by decide +kernel
theorem dX6_comesIn_9 : decode cX6_comesIn 9 = .ok (.aload_n 0, 1) := by decide +kernel
theorem dX6_comesIn_10 : decode cX6_comesIn 10 = .ok (.iload_n 1, 1) := by decide +kernel
theorem dX6_comesIn_11 : decode cX6_comesIn 11 = .ok (.iconst 3, 1) := by decide +kernel
theorem dX6_comesIn_12 : decode cX6_comesIn 12 = .ok (.aload_n 0, 1) := by decide +kernel
theorem dX6_comesIn_13 : decode cX6_comesIn 13 = .ok (.iload_n 1, 1) := by decide +kernel
theorem dX6_comesIn_14 : decode cX6_comesIn 14 = .ok (.iconst 3, 1) := by decide +kernel
theorem dX6_comesIn_15 : decode cX6_comesIn 15 = .ok (.invokevirtual 53, 3) := by decide +kernel
theorem dX6_comesIn_18 : decode cX6_comesIn 18 = .ok (.iconst 1, 1) := by decide +kernel
theorem dX6_comesIn_19 : decode cX6_comesIn 19 = .ok (.isub, 1) := by decide +kernel
theorem dX6_comesIn_20 : decode cX6_comesIn 20 = .ok (.invokevirtual 64, 3) := by decide +kernel
theorem dX6_comesIn_23 : decode cX6_comesIn 23 = .ok (.iconst 0, 1) := by decide +kernel
theorem dX6_comesIn_24 : decode cX6_comesIn 24 = .ok (.ireturn, 1) := by decide +kernel
theorem dX6_comesIn_25 : decode cX6_comesIn 25 = .ok (.aload_n 0, 1) := by decide +kernel
theorem dX6_comesIn_26 : decode cX6_comesIn 26 = .ok (.iload_n 1, 1) := by decide +kernel
theorem dX6_comesIn_27 : decode cX6_comesIn 27 = .ok (.invokevirtual 72, 3) := by decide +kernel
theorem dX6_comesIn_30 : decode cX6_comesIn 30 = .ok (.istore_n 2, 1) := by decide +kernel
theorem dX6_comesIn_31 : decode cX6_comesIn 31 = .ok (.iload_n 2, 1) := by decide +kernel
theorem dX6_comesIn_32 : decode cX6_comesIn 32 = .ok (.ifCond .le 16, 3) := by decide +kernel
theorem dX6_comesIn_35 : decode cX6_comesIn 35 = .ok (.aload_n 0, 1) := by decide +kernel
theorem dX6_comesIn_36 : decode cX6_comesIn 36 = .ok (.getfield 9, 3) := by decide +kernel
theorem dX6_comesIn_39 : decode cX6_comesIn 39 = .ok (.iconst 1, 1) := by decide +kernel
theorem dX6_comesIn_40 : decode cX6_comesIn 40 = .ok (.iaload, 1) := by decide +kernel
theorem dX6_comesIn_41 : decode cX6_comesIn 41 = .ok (.ifCond .ne 7, 3) := by decide +kernel
theorem dX6_comesIn_44 : decode cX6_comesIn 44 = .ok (.iconst 1, 1) := by decide +kernel
theorem dX6_comesIn_45 : decode cX6_comesIn 45 = .ok (.goto 4, 3) := by decide +kernel
theorem dX6_comesIn_48 : decode cX6_comesIn 48 = .ok (.iconst 0, 1) := by decide +kernel
theorem dX6_comesIn_49 : decode cX6_comesIn 49 = .ok (.istore_n 3, 1) := by decide +kernel
theorem dX6_comesIn_50 : decode cX6_comesIn 50 = .ok (.aload_n 0, 1) := by decide +kernel
theorem dX6_comesIn_51 : decode cX6_comesIn 51 = .ok (.iload_n 1, 1) := by decide +kernel
theorem dX6_comesIn_52 : decode cX6_comesIn 52 = .ok (.iload_n 2, 1) := by decide +kernel
theorem dX6_comesIn_53 : decode cX6_comesIn 53 = .ok (.aload_n 0, 1) := by decide +kernel
theorem dX6_comesIn_54 : decode cX6_comesIn 54 = .ok (.getfield 9, 3) := by decide +kernel
theorem dX6_comesIn_57 : decode cX6_comesIn 57 = .ok (.iconst 1, 1) := by decide +kernel
theorem dX6_comesIn_58 : decode cX6_comesIn 58 = .ok (.iaload, 1) := by decide +kernel
theorem dX6_comesIn_59 : decode cX6_comesIn 59 = .ok (.invokestatic 61, 3) := by decide +kernel
theorem dX6_comesIn_62 : decode cX6_comesIn 62 = .ok (.invokevirtual 76, 3) := by decide +kernel
theorem dX6_comesIn_65 : decode cX6_comesIn 65 = .ok (.iload_n 3, 1) := by decide +kernel
theorem dX6_comesIn_66 : decode cX6_comesIn 66 = .ok (.ireturn, 1) := by decide +kernel
set_option maxRecDepth 20000 in
theorem ggX6_day_X6_less : GoodIn wsX6_day wsX6_less := goodIn_sub (List.forall_mem_cons.mpr ⟨List.mem_of_getElem? (i := 5) rfl, (fun _ h => absurd h List.not_mem_nil)⟩) (by decide +kernel)
set_option maxRecDepth 20000 in
theorem gX6_day_X6_less : GoodIn wsX6_day (va_wsS RX6 61 yX6_less wsX6_less) := goodIn_app (goodIn_sub (List.forall_mem_cons.mpr ⟨List.mem_of_getElem? (i := 2) rfl, List.forall_mem_cons.mpr ⟨List.mem_of_getElem? (i := 3) rfl, List.forall_mem_cons.mpr ⟨List.mem_of_getElem? (i := 4) rfl, fun _ h => absurd h List.not_mem_nil⟩⟩⟩) (by decide +kernel)) ggX6_day_X6_less
set_option maxRecDepth 20000 in
theorem ggX6_day_X6_comesIn : GoodIn wsX6_day wsX6_comesIn := goodIn_sub (List.forall_mem_cons.mpr ⟨List.mem_of_getElem? (i := 9) rfl, (List.forall_mem_append.mpr ⟨(List.forall_mem_append.mpr ⟨(List.forall_mem_cons.mpr ⟨List.mem_of_getElem? (i := 1) rfl, List.forall_mem_cons.mpr ⟨List.mem_of_getElem? (i := 10) rfl, List.forall_mem_cons.mpr ⟨List.mem_of_getElem? (i := 11) rfl, List.forall_mem_cons.mpr ⟨List.mem_of_getElem? (i := 12) rfl, List.forall_mem_cons.mpr ⟨List.mem_of_getElem? (i := 4) rfl, List.forall_mem_cons.mpr ⟨List.mem_of_getElem? (i := 13) rfl, List.forall_mem_cons.mpr ⟨List.mem_of_getElem? (i := 14) rfl, List.forall_mem_cons.mpr ⟨List.mem_of_getElem? (i := 15) rfl, List.forall_mem_cons.mpr ⟨List.mem_of_getElem? (i := 16) rfl, List.forall_mem_cons.mpr ⟨List.mem_of_getElem? (i := 17) rfl, List.forall_mem_cons.mpr ⟨List.mem_of_getElem? (i := 18) rfl, List.forall_mem_cons.mpr ⟨List.mem_of_getElem? (i := 19) rfl, List.forall_mem_cons.mpr ⟨List.mem_of_getElem? (i := 20) rfl, List.forall_mem_cons.mpr ⟨List.mem_of_getElem? (i := 21) rfl, List.forall_mem_cons.mpr ⟨List.mem_of_getElem? (i := 2) rfl, List.forall_mem_cons.mpr ⟨List.mem_of_getElem? (i := 3) rfl, List.forall_mem_cons.mpr ⟨List.mem_of_getElem? (i := 5) rfl, List.forall_mem_cons.mpr ⟨List.mem_of_getElem? (i := 22) rfl, List.forall_mem_cons.mpr ⟨List.mem_of_getElem? (i := 23) rfl, List.forall_mem_cons.mpr ⟨List.mem_of_getElem? (i := 24) rfl, List.forall_mem_cons.mpr ⟨List.mem_of_getElem? (i := 25) rfl, List.forall_mem_cons.mpr ⟨List.mem_of_getElem? (i := 26) rfl, List.forall_mem_cons.mpr ⟨List.mem_of_getElem? (i := 27) rfl, List.forall_mem_cons.mpr ⟨List.mem_of_getElem? (i := 28) rfl, fun _ h => absurd h List.not_mem_nil⟩⟩⟩⟩⟩⟩⟩⟩⟩⟩⟩⟩⟩⟩⟩⟩⟩⟩⟩⟩⟩⟩⟩⟩), (List.forall_mem_cons.mpr ⟨List.mem_of_getElem? (i := 29) rfl, List.forall_mem_cons.mpr ⟨List.mem_of_getElem? (i := 30) rfl, List.forall_mem_cons.mpr ⟨List.mem_of_getElem? (i := 31) rfl, List.forall_mem_cons.mpr ⟨List.mem_of_getElem? (i := 32) rfl, List.forall_mem_cons.mpr ⟨List.mem_of_getElem? (i := 33) rfl, List.forall_mem_cons.mpr ⟨List.mem_of_getElem? (i := 34) rfl, List.forall_mem_cons.mpr ⟨List.mem_of_getElem? (i := 35) rfl, fun _ h => absurd h List.not_mem_nil⟩⟩⟩⟩⟩⟩⟩)⟩), (fun _ h => List.mem_cons_of_mem _ (List.mem_append_right _ h))⟩)⟩) (by decide +kernel)
set_option maxRecDepth 20000 in
theorem gX6_day_X6_comesIn : GoodIn wsX6_day (wsV RX6 80 RX6 yX6_comesIn wsX6_comesIn) := goodIn_app (goodIn_sub (List.forall_mem_cons.mpr ⟨List.mem_of_getElem? (i := 6) rfl, List.forall_mem_cons.mpr ⟨List.mem_of_getElem? (i := 7) rfl, List.forall_mem_cons.mpr ⟨List.mem_of_getElem? (i := 8) rfl, List.forall_mem_cons.mpr ⟨List.mem_of_getElem? (i := 4) rfl, fun _ h => absurd h List.not_mem_nil⟩⟩⟩⟩) (by decide +kernel)) ggX6_day_X6_comesIn
theorem dX6_day_0 : decode cX6_day 0 = .ok (.aload_n 0, 1) := by decide +kernel
theorem dX6_day_1 : decode cX6_day 1 = .ok (.getfield 9, 3) := by decide +kernel
theorem dX6_day_4 : decode cX6_day 4 = .ok (.iconst 1, 1) := by decide +kernel
theorem dX6_day_5 : decode cX6_day 5 = .ok (.sipush 999, 3) := by decide +kernel
theorem dX6_day_8 : decode cX6_day 8 = .ok (.aload_n 0, 1) := by decide +kernel
theorem dX6_day_9 : decode cX6_day 9 = .ok (.getfield 9, 3) := by decide +kernel
theorem dX6_day_12 : decode cX6_day 12 = .ok (.iconst 1, 1) := by decide +kernel
theorem dX6_day_13 : decode cX6_day 13 = .ok (.iaload, 1) := by decide +kernel
theorem dX6_day_14 : decode cX6_day 14 = .ok (.aload_n 0, 1) := by decide +kernel
theorem dX6_day_15 : decode cX6_day 15 = .ok (.getfield 9, 3) := by decide +kernel
theorem dX6_day_18 : decode cX6_day 18 = .ok (.iconst 2, 1) := by decide +kernel
theorem dX6_day_19 : decode cX6_day 19 = .ok (.iaload, 1) := by decide +kernel
theorem dX6_day_20 : decode cX6_day 20 = .ok (.iadd, 1) := by decide +kernel
theorem dX6_day_21 : decode cX6_day 21 = .ok (.invokestatic 61, 3) := by decide +kernel
theorem dX6_day_24 : decode cX6_day 24 = .ok (.iastore, 1) := by decide +kernel
theorem dX6_day_25 : decode cX6_day 25 = .ok (.aload_n 0, 1) := by decide +kernel
theorem dX6_day_26 : decode cX6_day 26 = .ok (.getfield 9, 3) := by decide +kernel
theorem dX6_day_29 : decode cX6_day 29 = .ok (.iconst 1, 1) := by decide +kernel
theorem dX6_day_30 : decode cX6_day 30 = .ok (.iaload, 1) := by decide +kernel
theorem dX6_day_31 : decode cX6_day 31 = .ok (.istore_n 1, 1) := by decide +kernel
theorem dX6_day_32 : decode cX6_day 32 = .ok (.iconst 0, 1) := by decide +kernel
theorem dX6_day_33 : decode cX6_day 33 = .ok (.istore_n 2, 1) := by decide +kernel
theorem dX6_day_34 : decode cX6_day 34 = .ok (.iconst 0, 1) := by decide +kernel
theorem dX6_day_35 : decode cX6_day 35 = .ok (.istore_n 3, 1) := by decide +kernel
theorem dX6_day_36 : decode cX6_day 36 = .ok (.iload_n 3, 1) := by decide +kernel
theorem dX6_day_37 : decode cX6_day 37 = .ok (.aload_n 0, 1) := by decide +kernel
theorem dX6_day_38 : decode cX6_day 38 = .ok (.getfield 9, 3) := by decide +kernel
theorem dX6_day_41 : decode cX6_day 41 = .ok (.iconst 5, 1) := by decide +kernel
theorem dX6_day_42 : decode cX6_day 42 = .ok (.iaload, 1) := by decide +kernel
theorem dX6_day_43 : decode cX6_day 43 = .ok (.if_icmp .ge 17, 3) := by decide +kernel
theorem dX6_day_46 : decode cX6_day 46 = .ok (.iload_n 2, 1) := by decide +kernel
theorem dX6_day_47 : decode cX6_day 47 = .ok (.aload_n 0, 1) := by decide +kernel
theorem dX6_day_48 : decode cX6_day 48 = .ok (.iload_n 3, 1) := by decide +kernel
theorem dX6_day_49 : decode cX6_day 49 = .ok (.invokevirtual 80, 3) := by decide +kernel
theorem dX6_day_52 : decode cX6_day 52 = .ok (.ior, 1) := by decide +kernel
theorem dX6_day_53 : decode cX6_day 53 = .ok (.istore_n 2, 1) := by decide +kernel
theorem dX6_day_54 : decode cX6_day 54 = .ok (.iinc 3 1, 3) := by decide +kernel
theorem dX6_day_57 : decode cX6_day 57 = .ok (.goto (-21), 3) := by decide +kernel
theorem dX6_day_60 : decode cX6_day 60 = .ok (.iload_n 1, 1) := by decide +kernel
theorem dX6_day_61 : decode cX6_day 61 = .ok (.aload_n 0, 1) := by decide +kernel
theorem dX6_day_62 : decode cX6_day 62 = .ok (.getfield 9, 3) := by decide +kernel
theorem dX6_day_65 : decode cX6_day 65 = .ok (.iconst 1, 1) := by decide +kernel
theorem dX6_day_66 : decode cX6_day 66 = .ok (.iaload, 1) := by decide +kernel
theorem dX6_day_67 : decode cX6_day 67 = .ok (.isub, 1) := by decide +kernel
theorem dX6_day_68 : decode cX6_day 68 = .ok (.istore_n 3, 1) := by decide +kernel
theorem dX6_day_69 : decode cX6_day 69 = .ok (.iconst 2, 1) := by decide +kernel
theorem dX6_day_70 : decode cX6_day 70 = .ok (.iload_n 3, 1) := by decide +kernel
theorem dX6_day_71 : decode cX6_day 71 = .ok (.imul, 1) := by decide +kernel
theorem dX6_day_72 : decode cX6_day 72 = .ok (.iload_n 1, 1) := by decide +kernel
theorem dX6_day_73 : decode cX6_day 73 = .ok (.if_icmp .le 29, 3) := by decide +kernel
theorem dX6_day_76 : decode cX6_day 76 = .ok (.aload_n 0, 1) := by decide +kernel
theorem dX6_day_77 : decode cX6_day 77 = .ok (.getfield 9, 3) := by decide +kernel
theorem dX6_day_80 : decode cX6_day 80 = .ok (.iconst 2, 1) := by decide +kernel
theorem dX6_day_81 : decode cX6_day 81 = .ok (.dup2, 1) := by decide +kernel
theorem dX6_day_82 : decode cX6_day 82 = .ok (.iaload, 1) := by decide +kernel
theorem dX6_day_83 : decode cX6_day 83 = .ok (.aload_n 0, 1) := by decide +kernel
theorem dX6_day_84 : decode cX6_day 84 = .ok (.getfield 9, 3) := by decide +kernel
theorem dX6_day_87 : decode cX6_day 87 = .ok (.iconst 2, 1) := by decide +kernel
theorem dX6_day_88 : decode cX6_day 88 = .ok (.iaload, 1) := by decide +kernel
theorem dX6_day_89 : decode cX6_day 89 = .ok (.ifCond .le 7, 3) := by decide +kernel
theorem dX6_day_92 : decode cX6_day 92 = .ok (.iconst 1, 1) := by decide +kernel
theorem dX6_day_93 : decode cX6_day 93 = .ok (.goto 4, 3) := by decide +kernel
theorem dX6_day_96 : decode cX6_day 96 = .ok (.iconst 0, 1) := by decide +kernel
theorem dX6_day_97 : decode cX6_day 97 = .ok (.isub, 1) := by decide +kernel
theorem dX6_day_98 : decode cX6_day 98 = .ok (.iastore, 1) := by decide +kernel
theorem dX6_day_99 : decode cX6_day 99 = .ok (.goto 29, 3) := by decide +kernel
theorem dX6_day_102 : decode cX6_day 102 = .ok (.iconst 4, 1) := by decide +kernel
theorem dX6_day_103 : decode cX6_day 103 = .ok (.iload_n 3, 1) := by decide +kernel
theorem dX6_day_104 : decode cX6_day 104 = .ok (.imul, 1) := by decide +kernel
theorem dX6_day_105 : decode cX6_day 105 = .ok (.iload_n 1, 1) := by decide +kernel
theorem dX6_day_106 : decode cX6_day 106 = .ok (.if_icmp .ge 22, 3) := by decide +kernel
theorem dX6_day_109 : decode cX6_day 109 = .ok (.aload_n 0, 1) := by decide +kernel
theorem dX6_day_110 : decode cX6_day 110 = .ok (.getfield 9, 3) := by decide +kernel
theorem dX6_day_113 : decode cX6_day 113 = .ok (.iconst 2, 1) := by decide +kernel
theorem dX6_day_114 : decode cX6_day 114 = .ok (.bipush 99, 2) := by decide +kernel
theorem dX6_day_116 : decode cX6_day 116 = .ok (.aload_n 0, 1) := by decide +kernel
theorem dX6_day_117 : decode cX6_day 117 = .ok (.getfield 9, 3) := by decide +kernel
theorem dX6_day_120 : decode cX6_day 120 = .ok (.iconst 2, 1) := by decide +kernel
theorem dX6_day_121 : decode cX6_day 121 = .ok (.iaload, 1) := by decide +kernel
theorem dX6_day_122 : decode cX6_day 122 = .ok (.iconst 1, 1) := by decide +kernel
theorem dX6_day_123 : decode cX6_day 123 = .ok (.iadd, 1) := by decide +kernel
theorem dX6_day_124 : decode cX6_day 124 = .ok (.invokestatic 61, 3) := by decide +kernel
theorem dX6_day_127 : decode cX6_day 127 = .ok (.iastore, 1) := by decide +kernel
theorem dX6_day_128 : decode cX6_day 128 = .ok (.aload_n 0, 1) := by decide +kernel
theorem dX6_day_129 : decode cX6_day 129 = .ok (.getfield 9, 3) := by decide +kernel
theorem dX6_day_132 : decode cX6_day 132 = .ok (.iconst 4, 1) := by decide +kernel
theorem dX6_day_133 : decode cX6_day 133 = .ok (.sipush 9999, 3) := by decide +kernel
theorem dX6_day_136 : decode cX6_day 136 = .ok (.aload_n 0, 1) := by decide +kernel
theorem dX6_day_137 : decode cX6_day 137 = .ok (.getfield 9, 3) := by decide +kernel
theorem dX6_day_140 : decode cX6_day 140 = .ok (.iconst 4, 1) := by decide +kernel
theorem dX6_day_141 : decode cX6_day 141 = .ok (.iaload, 1) := by decide +kernel
theorem dX6_day_142 : decode cX6_day 142 = .ok (.iload_n 2, 1) := by decide +kernel
theorem dX6_day_143 : decode cX6_day 143 = .ok (.ifCond .eq 7, 3) := by decide +kernel
theorem dX6_day_146 : decode cX6_day 146 = .ok (.iconst 1, 1) := by decide +kernel
theorem dX6_day_147 : decode cX6_day 147 = .ok (.goto 4, 3) := by decide +kernel
theorem dX6_day_150 : decode cX6_day 150 = .ok (.iconst 0, 1) := by decide +kernel
theorem dX6_day_151 : decode cX6_day 151 = .ok (.iadd, 1) := by decide +kernel
theorem dX6_day_152 : decode cX6_day 152 = .ok (.invokestatic 61, 3) := by decide +kernel
theorem dX6_day_155 : decode cX6_day 155 = .ok (.iastore, 1) := by decide +kernel
theorem dX6_day_156 : decode cX6_day 156 = .ok (.aload_n 0, 1) := by decide +kernel
theorem dX6_day_157 : decode cX6_day 157 = .ok (.getfield 9, 3) := by decide +kernel
theorem dX6_day_160 : decode cX6_day 160 = .ok (.iconst 0, 1) := by decide +kernel
theorem dX6_day_161 : decode cX6_day 161 = .ok (.dup2, 1) := by decide +kernel
theorem dX6_day_162 : decode cX6_day 162 = .ok (.iaload, 1) := by decide +kernel
theorem dX6_day_163 : decode cX6_day 163 = .ok (.iconst 1, 1) := by decide +kernel
theorem dX6_day_164 : decode cX6_day 164 = .ok (.iadd, 1) := by decide +kernel
theorem dX6_day_165 : decode cX6_day 165 = .ok (.iastore, 1) := by decide +kernel
theorem dX6_day_166 : decode cX6_day 166 = .ok (.return_, 1) := by decide +kernel
set_option maxRecDepth 20000 in
theorem ggX6_goes_X6_day : GoodIn wsX6_goes wsX6_day := goodIn_sub (List.forall_mem_cons.mpr ⟨List.mem_of_getElem? (i := 5) rfl, (List.forall_mem_append.mpr ⟨(List.forall_mem_append.mpr ⟨(List.forall_mem_cons.mpr ⟨List.mem_of_getElem? (i := 6) rfl, List.forall_mem_cons.mpr ⟨List.mem_of_getElem? (i := 7) rfl, List.forall_mem_cons.mpr ⟨List.mem_of_getElem? (i := 8) rfl, List.forall_mem_cons.mpr ⟨List.mem_of_getElem? (i := 4) rfl, List.forall_mem_cons.mpr ⟨List.mem_of_getElem? (i := 9) rfl, List.forall_mem_cons.mpr ⟨List.mem_of_getElem? (i := 10) rfl, List.forall_mem_cons.mpr ⟨List.mem_of_getElem? (i := 11) rfl, List.forall_mem_cons.mpr ⟨List.mem_of_getElem? (i := 12) rfl, List.forall_mem_cons.mpr ⟨List.mem_of_getElem? (i := 13) rfl, List.forall_mem_cons.mpr ⟨List.mem_of_getElem? (i := 14) rfl, List.forall_mem_cons.mpr ⟨List.mem_of_getElem? (i := 15) rfl, List.forall_mem_cons.mpr ⟨List.mem_of_getElem? (i := 16) rfl, List.forall_mem_cons.mpr ⟨List.mem_of_getElem? (i := 17) rfl, List.forall_mem_cons.mpr ⟨List.mem_of_getElem? (i := 18) rfl, List.forall_mem_cons.mpr ⟨List.mem_of_getElem? (i := 19) rfl, List.forall_mem_cons.mpr ⟨List.mem_of_getElem? (i := 20) rfl, List.forall_mem_cons.mpr ⟨List.mem_of_getElem? (i := 21) rfl, List.forall_mem_cons.mpr ⟨List.mem_of_getElem? (i := 22) rfl, List.forall_mem_cons.mpr ⟨List.mem_of_getElem? (i := 23) rfl, List.forall_mem_cons.mpr ⟨List.mem_of_getElem? (i := 24) rfl, List.forall_mem_cons.mpr ⟨List.mem_of_getElem? (i := 25) rfl, List.forall_mem_cons.mpr ⟨List.mem_of_getElem? (i := 26) rfl, List.forall_mem_cons.mpr ⟨List.mem_of_getElem? (i := 27) rfl, List.forall_mem_cons.mpr ⟨List.mem_of_getElem? (i := 28) rfl, fun _ h => absurd h List.not_mem_nil⟩⟩⟩⟩⟩⟩⟩⟩⟩⟩⟩⟩⟩⟩⟩⟩⟩⟩⟩⟩⟩⟩⟩⟩), (List.forall_mem_cons.mpr ⟨List.mem_of_getElem? (i := 29) rfl, List.forall_mem_cons.mpr ⟨List.mem_of_getElem? (i := 30) rfl, List.forall_mem_cons.mpr ⟨List.mem_of_getElem? (i := 31) rfl, List.forall_mem_cons.mpr ⟨List.mem_of_getElem? (i := 32) rfl, List.forall_mem_cons.mpr ⟨List.mem_of_getElem? (i := 33) rfl, List.forall_mem_cons.mpr ⟨List.mem_of_getElem? (i := 34) rfl, List.forall_mem_cons.mpr ⟨List.mem_of_getElem? (i := 35) rfl, List.forall_mem_cons.mpr ⟨List.mem_of_getElem? (i := 36) rfl, List.forall_mem_cons.mpr ⟨List.mem_of_getElem? (i := 37) rfl, List.forall_mem_cons.mpr ⟨List.mem_of_getElem? (i := 38) rfl, List.forall_mem_cons.mpr ⟨List.mem_of_getElem? (i := 39) rfl, fun _ h => absurd h List.not_mem_nil⟩⟩⟩⟩⟩⟩⟩⟩⟩⟩⟩)⟩), (fun _ h => List.mem_cons_of_mem _ (List.mem_append_right _ h))⟩)⟩) (by decide +kernel)
set_option maxRecDepth 20000 in
theorem gX6_goes_X6_day : GoodIn wsX6_goes (wsV RX6 84 RX6 yX6_day wsX6_day) := goodIn_app (goodIn_sub (List.forall_mem_cons.mpr ⟨List.mem_of_getElem? (i := 1) rfl, List.forall_mem_cons.mpr ⟨List.mem_of_getElem? (i := 2) rfl, List.forall_mem_cons.mpr ⟨List.mem_of_getElem? (i := 3) rfl, List.forall_mem_cons.mpr ⟨List.mem_of_getElem? (i := 4) rfl, fun _ h => absurd h List.not_mem_nil⟩⟩⟩⟩) (by decide +kernel)) ggX6_goes_X6_day
theorem dX6_goes_0 : decode cX6_goes 0 = .ok (.iconst 0, 1) := by decide +kernel
theorem dX6_goes_1 : decode cX6_goes 1 = .ok (.istore_n 2, 1) := by decide +kernel
theorem dX6_goes_2 : decode cX6_goes 2 = .ok (.iload_n 2, 1) := by decide +kernel
theorem dX6_goes_3 : decode cX6_goes 3 = .ok (.iload_n 1, 1) := by decide +kernel
theorem dX6_goes_4 : decode cX6_goes 4 = .ok (.if_icmp .ge 13, 3) := by decide +kernel
theorem dX6_goes_7 : decode cX6_goes 7 = .ok (.aload_n 0, 1) := by decide +kernel
theorem dX6_goes_8 : decode cX6_goes 8 = .ok (.invokevirtual 84, 3) := by decide +kernel
theorem dX6_goes_11 : decode cX6_goes 11 = .ok (.iinc 2 1, 3) := by decide +kernel
theorem dX6_goes_14 : decode cX6_goes 14 = .ok (.goto (-12), 3) := by decide +kernel
theorem dX6_goes_17 : decode cX6_goes 17 = .ok (.return_, 1) := by decide +kernel
set_option maxRecDepth 20000 in
theorem ggX6_house_X6_in1 : GoodIn wsX6_house wsX6_in1 := goodIn_sub (List.forall_mem_cons.mpr ⟨List.mem_of_getElem? (i := 6) rfl, (fun _ h => absurd h List.not_mem_nil)⟩) (by decide +kernel)
set_option maxRecDepth 20000 in
theorem gX6_house_X6_in1 : GoodIn wsX6_house (va_wsS RX6 49 yX6_in1 wsX6_in1) := goodIn_app (goodIn_sub (List.forall_mem_cons.mpr ⟨List.mem_of_getElem? (i := 3) rfl, List.forall_mem_cons.mpr ⟨List.mem_of_getElem? (i := 4) rfl, List.forall_mem_cons.mpr ⟨List.mem_of_getElem? (i := 5) rfl, fun _ h => absurd h List.not_mem_nil⟩⟩⟩) (by decide +kernel)) ggX6_house_X6_in1
set_option maxRecDepth 20000 in
theorem ggX6_house_X6_no : GoodIn wsX6_house wsX6_no := goodIn_sub (List.forall_mem_cons.mpr ⟨List.mem_of_getElem? (i := 10) rfl, (List.forall_mem_append.mpr ⟨(List.forall_mem_cons.mpr ⟨List.mem_of_getElem? (i := 11) rfl, List.forall_mem_cons.mpr ⟨List.mem_of_getElem? (i := 12) rfl, fun _ h => absurd h List.not_mem_nil⟩⟩), (fun _ h => List.mem_cons_of_mem _ (List.mem_append_right _ h))⟩)⟩) (by decide +kernel)
set_option maxRecDepth 20000 in
theorem gX6_house_X6_no : GoodIn wsX6_house (wsV RX6 87 RX6 yX6_no wsX6_no) := goodIn_app (goodIn_sub (List.forall_mem_cons.mpr ⟨List.mem_of_getElem? (i := 7) rfl, List.forall_mem_cons.mpr ⟨List.mem_of_getElem? (i := 8) rfl, List.forall_mem_cons.mpr ⟨List.mem_of_getElem? (i := 9) rfl, List.forall_mem_cons.mpr ⟨List.mem_of_getElem? (i := 5) rfl, fun _ h => absurd h List.not_mem_nil⟩⟩⟩⟩) (by decide +kernel)) ggX6_house_X6_no
theorem dX6_house_0 : decode cX6_house 0 = .ok (.iload_n 1, 1) := by decide +kernel
theorem dX6_house_1 : decode cX6_house 1 = .ok (.iconst 0, 1) := by decide +kernel
theorem dX6_house_2 : decode cX6_house 2 = .ok (.iconst 2, 1) := by decide +kernel
theorem dX6_house_3 : decode cX6_house 3 = .ok (.invokestatic 49, 3) := by decide +kernel
theorem dX6_house_6 : decode cX6_house 6 = .ok (.ifCond .eq 33, 3) := by decide +kernel
theorem dX6_house_9 : decode cX6_house 9 = .ok (.iload_n 2, 1) := by decide +kernel
theorem dX6_house_10 : decode cX6_house 10 = .ok (.iconst 0, 1) := by decide +kernel
theorem dX6_house_11 : decode cX6_house 11 = .ok (.iload_n 1, 1) := by decide +kernel
theorem dX6_house_12 : decode cX6_house 12 = .ok (.ifCond .ne 9, 3) := by decide +kernel
theorem dX6_house_15 : decode cX6_house 15 = .ok (.sipush 999, 3) := by decide +kernel
theorem dX6_house_18 : decode cX6_house 18 = .ok (.goto 15, 3) := by decide +kernel
theorem dX6_house_21 : decode cX6_house 21 = .ok (.iload_n 1, 1) := by decide +kernel
theorem dX6_house_22 : decode cX6_house 22 = .ok (.iconst 1, 1) := by decide +kernel
theorem dX6_house_23 : decode cX6_house 23 = .ok (.if_icmp .ne 8, 3) := by decide +kernel
theorem dX6_house_26 : decode cX6_house 26 = .ok (.bipush 99, 2) := by decide +kernel
theorem dX6_house_28 : decode cX6_house 28 = .ok (.goto 5, 3) := by decide +kernel
theorem dX6_house_31 : decode cX6_house 31 = .ok (.ldc 68, 2) := by decide +kernel
theorem dX6_house_33 : decode cX6_house 33 = .ok (.invokestatic 49, 3) := by decide +kernel
theorem dX6_house_36 : decode cX6_house 36 = .ok (.ifCond .ne 9, 3) := by decide +kernel
theorem dX6_house_39 : decode cX6_house 39 = .ok (.aload_n 0, 1) := by decide +kernel
theorem dX6_house_40 : decode cX6_house 40 = .ok (.iconst 0, 1) := by decide +kernel
theorem dX6_house_41 : decode cX6_house 41 = .ok (.invokevirtual 87, 3) := by decide +kernel
theorem dX6_house_44 : decode cX6_house 44 = .ok (.ireturn, 1) := by decide +kernel
theorem dX6_house_45 : decode cX6_house 45 = .ok (.aload_n 0, 1) := by decide +kernel
theorem dX6_house_46 : decode cX6_house 46 = .ok (.getfield 9, 3) := by decide +kernel
theorem dX6_house_49 : decode cX6_house 49 = .ok (.iconst 1, 1) := by decide +kernel
theorem dX6_house_50 : decode cX6_house 50 = .ok (.iload_n 1, 1) := by decide +kernel
theorem dX6_house_51 : decode cX6_house 51 = .ok (.iadd, 1) := by decide +kernel
theorem dX6_house_52 : decode cX6_house 52 = .ok (.iaload, 1) := by decide +kernel
theorem dX6_house_53 : decode cX6_house 53 = .ok (.istore_n 3, 1) := by decide +kernel
theorem dX6_house_54 : decode cX6_house 54 = .ok (.aload_n 0, 1) := by decide +kernel
theorem dX6_house_55 : decode cX6_house 55 = .ok (.getfield 9, 3) := by decide +kernel
theorem dX6_house_58 : decode cX6_house 58 = .ok (.iconst 1, 1) := by decide +kernel
theorem dX6_house_59 : decode cX6_house 59 = .ok (.iload_n 1, 1) := by decide +kernel
theorem dX6_house_60 : decode cX6_house 60 = .ok (.iadd, 1) := by decide +kernel
theorem dX6_house_61 : decode cX6_house 61 = .ok (.iload_n 2, 1) := by decide +kernel
theorem dX6_house_62 : decode cX6_house 62 = .ok (.iastore, 1) := by decide +kernel
theorem dX6_house_63 : decode cX6_house 63 = .ok (.iload_n 3, 1) := by decide +kernel
theorem dX6_house_64 : decode cX6_house 64 = .ok (.ireturn, 1) := by decide +kernel
set_option maxRecDepth 20000 in
theorem ggX6_watchedOnes_X6_get : GoodIn wsX6_watchedOnes wsX6_get := goodIn_sub (List.forall_mem_cons.mpr ⟨List.mem_of_getElem? (i := 6) rfl, (List.forall_mem_append.mpr ⟨(List.forall_mem_cons.mpr ⟨List.mem_of_getElem? (i := 1) rfl, fun _ h => absurd h List.not_mem_nil⟩), (fun _ h => List.mem_cons_of_mem _ (List.mem_append_right _ h))⟩)⟩) (by decide +kernel)
set_option maxRecDepth 20000 in
theorem gX6_watchedOnes_X6_get : GoodIn wsX6_watchedOnes (wsV RX6 53 RX6 yX6_get wsX6_get) := goodIn_app (goodIn_sub (List.forall_mem_cons.mpr ⟨List.mem_of_getElem? (i := 2) rfl, List.forall_mem_cons.mpr ⟨List.mem_of_getElem? (i := 3) rfl, List.forall_mem_cons.mpr ⟨List.mem_of_getElem? (i := 4) rfl, List.forall_mem_cons.mpr ⟨List.mem_of_getElem? (i := 5) rfl, fun _ h => absurd h List.not_mem_nil⟩⟩⟩⟩) (by decide +kernel)) ggX6_watchedOnes_X6_get
theorem dX6_watchedOnes_0 : decode cX6_watchedOnes 0 = .ok (.iconst 0, 1) := by decide +kernel
theorem dX6_watchedOnes_1 : decode cX6_watchedOnes 1 = .ok (.istore_n 1, 1) := by decide +kernel
theorem dX6_watchedOnes_2 : decode cX6_watchedOnes 2 = .ok (.iconst 0, 1) := by decide +kernel
theorem dX6_watchedOnes_3 : decode cX6_watchedOnes 3 = .ok (.istore_n 2, 1) := by decide +kernel
theorem dX6_watchedOnes_4 : decode cX6_watchedOnes 4 = .ok (.iload_n 2, 1) := by decide +kernel
theorem dX6_watchedOnes_5 : decode cX6_watchedOnes 5 = .ok (.aload_n 0, 1) := by decide +kernel
theorem dX6_watchedOnes_6 : decode cX6_watchedOnes 6 = .ok (.getfield 9, 3) := by decide +kernel
theorem dX6_watchedOnes_9 : decode cX6_watchedOnes 9 = .ok (.iconst 5, 1) := by decide +kernel
theorem dX6_watchedOnes_10 : decode cX6_watchedOnes 10 = .ok (.iaload, 1) := by decide +kernel
theorem dX6_watchedOnes_11 : decode cX6_watchedOnes 11 = .ok (.if_icmp .ge 28, 3) := by decide +kernel
theorem dX6_watchedOnes_14 : decode cX6_watchedOnes 14 = .ok (.iload_n 1, 1) := by decide +kernel
theorem dX6_watchedOnes_15 : decode cX6_watchedOnes 15 = .ok (.aload_n 0, 1) := by decide +kernel
theorem dX6_watchedOnes_16 : decode cX6_watchedOnes 16 = .ok (.iload_n 2, 1) := by decide +kernel
theorem dX6_watchedOnes_17 : decode cX6_watchedOnes 17 = .ok (.iconst 3, 1) := by decide +kernel
theorem dX6_watchedOnes_18 : decode cX6_watchedOnes 18 = .ok (.invokevirtual 53, 3) := by decide +kernel
theorem dX6_watchedOnes_21 : decode cX6_watchedOnes 21 = .ok (.ifCond .le 9, 3) := by decide +kernel
theorem dX6_watchedOnes_24 : decode cX6_watchedOnes 24 = .ok (.iconst 1, 1) := by decide +kernel
theorem dX6_watchedOnes_25 : decode cX6_watchedOnes 25 = .ok (.iload_n 2, 1) := by decide +kernel
theorem dX6_watchedOnes_26 : decode cX6_watchedOnes 26 = .ok (.ishl, 1) := by decide +kernel
theorem dX6_watchedOnes_27 : decode cX6_watchedOnes 27 = .ok (.goto 4, 3) := by decide +kernel
theorem dX6_watchedOnes_30 : decode cX6_watchedOnes 30 = .ok (.iconst 0, 1) := by decide +kernel
theorem dX6_watchedOnes_31 : decode cX6_watchedOnes 31 = .ok (.ior, 1) := by decide +kernel
theorem dX6_watchedOnes_32 : decode cX6_watchedOnes 32 = .ok (.istore_n 1, 1) := by decide +kernel
theorem dX6_watchedOnes_33 : decode cX6_watchedOnes 33 = .ok (.iinc 2 1, 3) := by decide +kernel
theorem dX6_watchedOnes_36 : decode cX6_watchedOnes 36 = .ok (.goto (-32), 3) := by decide +kernel
theorem dX6_watchedOnes_39 : decode cX6_watchedOnes 39 = .ok (.iload_n 1, 1) := by decide +kernel
theorem dX6_watchedOnes_40 : decode cX6_watchedOnes 40 = .ok (.ireturn, 1) := by decide +kernel
set_option maxRecDepth 20000 in
theorem ggX6_sumOf_X6_get : GoodIn wsX6_sumOf wsX6_get := goodIn_sub (List.forall_mem_cons.mpr ⟨List.mem_of_getElem? (i := 6) rfl, (List.forall_mem_append.mpr ⟨(List.forall_mem_cons.mpr ⟨List.mem_of_getElem? (i := 1) rfl, fun _ h => absurd h List.not_mem_nil⟩), (fun _ h => List.mem_cons_of_mem _ (List.mem_append_right _ h))⟩)⟩) (by decide +kernel)
set_option maxRecDepth 20000 in
theorem gX6_sumOf_X6_get : GoodIn wsX6_sumOf (wsV RX6 53 RX6 yX6_get wsX6_get) := goodIn_app (goodIn_sub (List.forall_mem_cons.mpr ⟨List.mem_of_getElem? (i := 2) rfl, List.forall_mem_cons.mpr ⟨List.mem_of_getElem? (i := 3) rfl, List.forall_mem_cons.mpr ⟨List.mem_of_getElem? (i := 4) rfl, List.forall_mem_cons.mpr ⟨List.mem_of_getElem? (i := 5) rfl, fun _ h => absurd h List.not_mem_nil⟩⟩⟩⟩) (by decide +kernel)) ggX6_sumOf_X6_get
theorem dX6_sumOf_0 : decode cX6_sumOf 0 = .ok (.iconst 0, 1) := by decide +kernel
theorem dX6_sumOf_1 : decode cX6_sumOf 1 = .ok (.istore_n 2, 1) := by decide +kernel
theorem dX6_sumOf_2 : decode cX6_sumOf 2 = .ok (.iconst 0, 1) := by decide +kernel
theorem dX6_sumOf_3 : decode cX6_sumOf 3 = .ok (.istore_n 3, 1) := by decide +kernel
theorem dX6_sumOf_4 : decode cX6_sumOf 4 = .ok (.iload_n 3, 1) := by decide +kernel
theorem dX6_sumOf_5 : decode cX6_sumOf 5 = .ok (.aload_n 0, 1) := by decide +kernel
theorem dX6_sumOf_6 : decode cX6_sumOf 6 = .ok (.getfield 9, 3) := by decide +kernel
theorem dX6_sumOf_9 : decode cX6_sumOf 9 = .ok (.iconst 5, 1) := by decide +kernel
theorem dX6_sumOf_10 : decode cX6_sumOf 10 = .ok (.iaload, 1) := by decide +kernel
theorem dX6_sumOf_11 : decode cX6_sumOf 11 = .ok (.if_icmp .ge 18, 3) := by decide +kernel
theorem dX6_sumOf_14 : decode cX6_sumOf 14 = .ok (.iload_n 2, 1) := by decide +kernel
theorem dX6_sumOf_15 : decode cX6_sumOf 15 = .ok (.aload_n 0, 1) := by decide +kernel
theorem dX6_sumOf_16 : decode cX6_sumOf 16 = .ok (.iload_n 3, 1) := by decide +kernel
theorem dX6_sumOf_17 : decode cX6_sumOf 17 = .ok (.iload_n 1, 1) := by decide +kernel
theorem dX6_sumOf_18 : decode cX6_sumOf 18 = .ok (.invokevirtual 53, 3) := by decide +kernel
theorem dX6_sumOf_21 : decode cX6_sumOf 21 = .ok (.iadd, 1) := by decide +kernel
theorem dX6_sumOf_22 : decode cX6_sumOf 22 = .ok (.istore_n 2, 1) := by decide +kernel
theorem dX6_sumOf_23 : decode cX6_sumOf 23 = .ok (.iinc 3 1, 3) := by decide +kernel
theorem dX6_sumOf_26 : decode cX6_sumOf 26 = .ok (.goto (-22), 3) := by decide +kernel
theorem dX6_sumOf_29 : decode cX6_sumOf 29 = .ok (.iload_n 2, 1) := by decide +kernel
theorem dX6_sumOf_30 : decode cX6_sumOf 30 = .ok (.ireturn, 1) := by decide +kernel
set_option maxRecDepth 20000 in
theorem ggX6_now_X6_in1 : GoodIn wsX6_now wsX6_in1 := goodIn_sub (List.forall_mem_cons.mpr ⟨List.mem_of_getElem? (i := 5) rfl, (fun _ h => absurd h List.not_mem_nil)⟩) (by decide +kernel)
set_option maxRecDepth 20000 in
theorem gX6_now_X6_in1 : GoodIn wsX6_now (va_wsS RX6 49 yX6_in1 wsX6_in1) := goodIn_app (goodIn_sub (List.forall_mem_cons.mpr ⟨List.mem_of_getElem? (i := 2) rfl, List.forall_mem_cons.mpr ⟨List.mem_of_getElem? (i := 3) rfl, List.forall_mem_cons.mpr ⟨List.mem_of_getElem? (i := 4) rfl, fun _ h => absurd h List.not_mem_nil⟩⟩⟩) (by decide +kernel)) ggX6_now_X6_in1
set_option maxRecDepth 20000 in
theorem ggX6_now_X6_no : GoodIn wsX6_now wsX6_no := goodIn_sub (List.forall_mem_cons.mpr ⟨List.mem_of_getElem? (i := 9) rfl, (List.forall_mem_append.mpr ⟨(List.forall_mem_cons.mpr ⟨List.mem_of_getElem? (i := 10) rfl, List.forall_mem_cons.mpr ⟨List.mem_of_getElem? (i := 11) rfl, fun _ h => absurd h List.not_mem_nil⟩⟩), (fun _ h => List.mem_cons_of_mem _ (List.mem_append_right _ h))⟩)⟩) (by decide +kernel)
set_option maxRecDepth 20000 in
theorem gX6_now_X6_no : GoodIn wsX6_now (wsV RX6 87 RX6 yX6_no wsX6_no) := goodIn_app (goodIn_sub (List.forall_mem_cons.mpr ⟨List.mem_of_getElem? (i := 6) rfl, List.forall_mem_cons.mpr ⟨List.mem_of_getElem? (i := 7) rfl, List.forall_mem_cons.mpr ⟨List.mem_of_getElem? (i := 8) rfl, List.forall_mem_cons.mpr ⟨List.mem_of_getElem? (i := 4) rfl, fun _ h => absurd h List.not_mem_nil⟩⟩⟩⟩) (by decide +kernel)) ggX6_now_X6_no
set_option maxRecDepth 20000 in
theorem ggX6_now_X6_watchedOnes : GoodIn wsX6_now wsX6_watchedOnes := goodIn_sub (List.forall_mem_cons.mpr ⟨List.mem_of_getElem? (i := 15) rfl, (List.forall_mem_append.mpr ⟨(List.forall_mem_cons.mpr ⟨List.mem_of_getElem? (i := 1) rfl, List.forall_mem_cons.mpr ⟨List.mem_of_getElem? (i := 16) rfl, List.forall_mem_cons.mpr ⟨List.mem_of_getElem? (i := 17) rfl, List.forall_mem_cons.mpr ⟨List.mem_of_getElem? (i := 18) rfl, List.forall_mem_cons.mpr ⟨List.mem_of_getElem? (i := 4) rfl, List.forall_mem_cons.mpr ⟨List.mem_of_getElem? (i := 19) rfl, fun _ h => absurd h List.not_mem_nil⟩⟩⟩⟩⟩⟩), (fun _ h => List.mem_cons_of_mem _ (List.mem_append_right _ h))⟩)⟩) (by decide +kernel)
set_option maxRecDepth 20000 in
theorem gX6_now_X6_watchedOnes : GoodIn wsX6_now (wsV RX6 90 RX6 yX6_watchedOnes wsX6_watchedOnes) := goodIn_app (goodIn_sub (List.forall_mem_cons.mpr ⟨List.mem_of_getElem? (i := 12) rfl, List.forall_mem_cons.mpr ⟨List.mem_of_getElem? (i := 13) rfl, List.forall_mem_cons.mpr ⟨List.mem_of_getElem? (i := 14) rfl, List.forall_mem_cons.mpr ⟨List.mem_of_getElem? (i := 4) rfl, fun _ h => absurd h List.not_mem_nil⟩⟩⟩⟩) (by decide +kernel)) ggX6_now_X6_watchedOnes
set_option maxRecDepth 20000 in
theorem ggX6_now_X6_sumOf : GoodIn wsX6_now wsX6_sumOf := goodIn_sub (List.forall_mem_cons.mpr ⟨List.mem_of_getElem? (i := 23) rfl, (List.forall_mem_append.mpr ⟨(List.forall_mem_cons.mpr ⟨List.mem_of_getElem? (i := 1) rfl, List.forall_mem_cons.mpr ⟨List.mem_of_getElem? (i := 16) rfl, List.forall_mem_cons.mpr ⟨List.mem_of_getElem? (i := 17) rfl, List.forall_mem_cons.mpr ⟨List.mem_of_getElem? (i := 18) rfl, List.forall_mem_cons.mpr ⟨List.mem_of_getElem? (i := 4) rfl, List.forall_mem_cons.mpr ⟨List.mem_of_getElem? (i := 19) rfl, fun _ h => absurd h List.not_mem_nil⟩⟩⟩⟩⟩⟩), (fun _ h => List.mem_cons_of_mem _ (List.mem_append_right _ h))⟩)⟩) (by decide +kernel)
set_option maxRecDepth 20000 in
theorem gX6_now_X6_sumOf : GoodIn wsX6_now (wsV RX6 94 RX6 yX6_sumOf wsX6_sumOf) := goodIn_app (goodIn_sub (List.forall_mem_cons.mpr ⟨List.mem_of_getElem? (i := 20) rfl, List.forall_mem_cons.mpr ⟨List.mem_of_getElem? (i := 21) rfl, List.forall_mem_cons.mpr ⟨List.mem_of_getElem? (i := 22) rfl, List.forall_mem_cons.mpr ⟨List.mem_of_getElem? (i := 4) rfl, fun _ h => absurd h List.not_mem_nil⟩⟩⟩⟩) (by decide +kernel)) ggX6_now_X6_sumOf
theorem dX6_now_0 : decode cX6_now 0 = .ok (.iload_n 1, 1) := by decide +kernel
theorem dX6_now_1 : decode cX6_now 1 = .ok (.iconst 0, 1) := by decide +kernel
theorem dX6_now_2 : decode cX6_now 2 = .ok (.bipush 6, 2) := by decide +kernel
theorem dX6_now_4 : decode cX6_now 4 = .ok (.invokestatic 49, 3) := by decide +kernel
theorem dX6_now_7 : decode cX6_now 7 = .ok (.ifCond .ne 9, 3) := by decide +kernel
theorem dX6_now_10 : decode cX6_now 10 = .ok (.aload_n 0, 1) := by decide +kernel
theorem dX6_now_11 : decode cX6_now 11 = .ok (.iconst 0, 1) := by decide +kernel
theorem dX6_now_12 : decode cX6_now 12 = .ok (.invokevirtual 87, 3) := by decide +kernel
theorem dX6_now_15 : decode cX6_now 15 = .ok (.ireturn, 1) := by decide +kernel
theorem dX6_now_16 : decode cX6_now 16 = .ok (.iload_n 1, 1) := by decide +kernel
theorem dX6_now_17 : decode cX6_now 17 = .ok (.iconst 5, 1) := by decide +kernel
theorem dX6_now_18 : decode cX6_now 18 = .ok (.if_icmp .ge 12, 3) := by decide +kernel
theorem dX6_now_21 : decode cX6_now 21 = .ok (.aload_n 0, 1) := by decide +kernel
theorem dX6_now_22 : decode cX6_now 22 = .ok (.getfield 9, 3) := by decide +kernel
theorem dX6_now_25 : decode cX6_now 25 = .ok (.iload_n 1, 1) := by decide +kernel
theorem dX6_now_26 : decode cX6_now 26 = .ok (.iaload, 1) := by decide +kernel
theorem dX6_now_27 : decode cX6_now 27 = .ok (.goto 20, 3) := by decide +kernel
theorem dX6_now_30 : decode cX6_now 30 = .ok (.iload_n 1, 1) := by decide +kernel
theorem dX6_now_31 : decode cX6_now 31 = .ok (.iconst 5, 1) := by decide +kernel
theorem dX6_now_32 : decode cX6_now 32 = .ok (.if_icmp .ne 10, 3) := by decide +kernel
theorem dX6_now_35 : decode cX6_now 35 = .ok (.aload_n 0, 1) := by decide +kernel
theorem dX6_now_36 : decode cX6_now 36 = .ok (.invokevirtual 90, 3) := by decide +kernel
theorem dX6_now_39 : decode cX6_now 39 = .ok (.goto 8, 3) := by decide +kernel
theorem dX6_now_42 : decode cX6_now 42 = .ok (.aload_n 0, 1) := by decide +kernel
theorem dX6_now_43 : decode cX6_now 43 = .ok (.iconst 4, 1) := by decide +kernel
theorem dX6_now_44 : decode cX6_now 44 = .ok (.invokevirtual 94, 3) := by decide +kernel
theorem dX6_now_47 : decode cX6_now 47 = .ok (.ireturn, 1) := by decide +kernel
set_option maxRecDepth 20000 in
theorem ggX6_addsPerson_X6_puts : GoodIn wsX6_addsPerson wsX6_puts := goodIn_sub (List.forall_mem_cons.mpr ⟨List.mem_of_getElem? (i := 6) rfl, (List.forall_mem_append.mpr ⟨(List.forall_mem_cons.mpr ⟨List.mem_of_getElem? (i := 1) rfl, fun _ h => absurd h List.not_mem_nil⟩), (fun _ h => List.mem_cons_of_mem _ (List.mem_append_right _ h))⟩)⟩) (by decide +kernel)
set_option maxRecDepth 20000 in
theorem gX6_addsPerson_X6_puts : GoodIn wsX6_addsPerson (wsV RX6 64 RX6 yX6_puts wsX6_puts) := goodIn_app (goodIn_sub (List.forall_mem_cons.mpr ⟨List.mem_of_getElem? (i := 2) rfl, List.forall_mem_cons.mpr ⟨List.mem_of_getElem? (i := 3) rfl, List.forall_mem_cons.mpr ⟨List.mem_of_getElem? (i := 4) rfl, List.forall_mem_cons.mpr ⟨List.mem_of_getElem? (i := 5) rfl, fun _ h => absurd h List.not_mem_nil⟩⟩⟩⟩) (by decide +kernel)) ggX6_addsPerson_X6_puts
theorem dX6_addsPerson_0 : decode cX6_addsPerson 0 = .ok (.aload_n 0, 1) := by decide +kernel
theorem dX6_addsPerson_1 : decode cX6_addsPerson 1 = .ok (.getfield 9, 3) := by decide +kernel
theorem dX6_addsPerson_4 : decode cX6_addsPerson 4 = .ok (.iconst 5, 1) := by decide +kernel
theorem dX6_addsPerson_5 : decode cX6_addsPerson 5 = .ok (.iaload, 1) := by decide +kernel
theorem dX6_addsPerson_6 : decode cX6_addsPerson 6 = .ok (.istore_n 2, 1) := by decide +kernel
theorem dX6_addsPerson_7 : decode cX6_addsPerson 7 = .ok (.aload_n 0, 1) := by decide +kernel
theorem dX6_addsPerson_8 : decode cX6_addsPerson 8 = .ok (.iload_n 2, 1) := by decide +kernel
theorem dX6_addsPerson_9 : decode cX6_addsPerson 9 = .ok (.iconst 0, 1) := by decide +kernel
theorem dX6_addsPerson_10 : decode cX6_addsPerson 10 = .ok (.iload_n 1, 1) := by decide +kernel
theorem dX6_addsPerson_11 : decode cX6_addsPerson 11 = .ok (.invokevirtual 64, 3) := by decide +kernel
theorem dX6_addsPerson_14 : decode cX6_addsPerson 14 = .ok (.aload_n 0, 1) := by decide +kernel
theorem dX6_addsPerson_15 : decode cX6_addsPerson 15 = .ok (.iload_n 2, 1) := by decide +kernel
theorem dX6_addsPerson_16 : decode cX6_addsPerson 16 = .ok (.iconst 1, 1) := by decide +kernel
theorem dX6_addsPerson_17 : decode cX6_addsPerson 17 = .ok (.iconst 3, 1) := by decide +kernel
theorem dX6_addsPerson_18 : decode cX6_addsPerson 18 = .ok (.invokevirtual 64, 3) := by decide +kernel
theorem dX6_addsPerson_21 : decode cX6_addsPerson 21 = .ok (.aload_n 0, 1) := by decide +kernel
theorem dX6_addsPerson_22 : decode cX6_addsPerson 22 = .ok (.iload_n 2, 1) := by decide +kernel
theorem dX6_addsPerson_23 : decode cX6_addsPerson 23 = .ok (.iconst 2, 1) := by decide +kernel
theorem dX6_addsPerson_24 : decode cX6_addsPerson 24 = .ok (.iconst 5, 1) := by decide +kernel
theorem dX6_addsPerson_25 : decode cX6_addsPerson 25 = .ok (.invokevirtual 64, 3) := by decide +kernel
theorem dX6_addsPerson_28 : decode cX6_addsPerson 28 = .ok (.aload_n 0, 1) := by decide +kernel
theorem dX6_addsPerson_29 : decode cX6_addsPerson 29 = .ok (.iload_n 2, 1) := by decide +kernel
theorem dX6_addsPerson_30 : decode cX6_addsPerson 30 = .ok (.iconst 3, 1) := by decide +kernel
theorem dX6_addsPerson_31 : decode cX6_addsPerson 31 = .ok (.iconst 0, 1) := by decide +kernel
theorem dX6_addsPerson_32 : decode cX6_addsPerson 32 = .ok (.invokevirtual 64, 3) := by decide +kernel
theorem dX6_addsPerson_35 : decode cX6_addsPerson 35 = .ok (.aload_n 0, 1) := by decide +kernel
theorem dX6_addsPerson_36 : decode cX6_addsPerson 36 = .ok (.iload_n 2, 1) := by decide +kernel
theorem dX6_addsPerson_37 : decode cX6_addsPerson 37 = .ok (.iconst 4, 1) := by decide +kernel
theorem dX6_addsPerson_38 : decode cX6_addsPerson 38 = .ok (.iconst 0, 1) := by decide +kernel
theorem dX6_addsPerson_39 : decode cX6_addsPerson 39 = .ok (.invokevirtual 64, 3) := by decide +kernel
theorem dX6_addsPerson_42 : decode cX6_addsPerson 42 = .ok (.aload_n 0, 1) := by decide +kernel
theorem dX6_addsPerson_43 : decode cX6_addsPerson 43 = .ok (.getfield 9, 3) := by decide +kernel
theorem dX6_addsPerson_46 : decode cX6_addsPerson 46 = .ok (.iconst 5, 1) := by decide +kernel
theorem dX6_addsPerson_47 : decode cX6_addsPerson 47 = .ok (.dup2, 1) := by decide +kernel
theorem dX6_addsPerson_48 : decode cX6_addsPerson 48 = .ok (.iaload, 1) := by decide +kernel
theorem dX6_addsPerson_49 : decode cX6_addsPerson 49 = .ok (.iconst 1, 1) := by decide +kernel
theorem dX6_addsPerson_50 : decode cX6_addsPerson 50 = .ok (.iadd, 1) := by decide +kernel
theorem dX6_addsPerson_51 : decode cX6_addsPerson 51 = .ok (.iastore, 1) := by decide +kernel
theorem dX6_addsPerson_52 : decode cX6_addsPerson 52 = .ok (.return_, 1) := by decide +kernel
set_option maxRecDepth 20000 in
theorem ggX6_person_X6_in1 : GoodIn wsX6_person wsX6_in1 := goodIn_sub (List.forall_mem_cons.mpr ⟨List.mem_of_getElem? (i := 5) rfl, (fun _ h => absurd h List.not_mem_nil)⟩) (by decide +kernel)
set_option maxRecDepth 20000 in
theorem gX6_person_X6_in1 : GoodIn wsX6_person (va_wsS RX6 49 yX6_in1 wsX6_in1) := goodIn_app (goodIn_sub (List.forall_mem_cons.mpr ⟨List.mem_of_getElem? (i := 2) rfl, List.forall_mem_cons.mpr ⟨List.mem_of_getElem? (i := 3) rfl, List.forall_mem_cons.mpr ⟨List.mem_of_getElem? (i := 4) rfl, fun _ h => absurd h List.not_mem_nil⟩⟩⟩) (by decide +kernel)) ggX6_person_X6_in1
set_option maxRecDepth 20000 in
theorem ggX6_person_X6_no : GoodIn wsX6_person wsX6_no := goodIn_sub (List.forall_mem_cons.mpr ⟨List.mem_of_getElem? (i := 9) rfl, (List.forall_mem_append.mpr ⟨(List.forall_mem_cons.mpr ⟨List.mem_of_getElem? (i := 10) rfl, List.forall_mem_cons.mpr ⟨List.mem_of_getElem? (i := 11) rfl, fun _ h => absurd h List.not_mem_nil⟩⟩), (fun _ h => List.mem_cons_of_mem _ (List.mem_append_right _ h))⟩)⟩) (by decide +kernel)
set_option maxRecDepth 20000 in
theorem gX6_person_X6_no : GoodIn wsX6_person (wsV RX6 87 RX6 yX6_no wsX6_no) := goodIn_app (goodIn_sub (List.forall_mem_cons.mpr ⟨List.mem_of_getElem? (i := 6) rfl, List.forall_mem_cons.mpr ⟨List.mem_of_getElem? (i := 7) rfl, List.forall_mem_cons.mpr ⟨List.mem_of_getElem? (i := 8) rfl, List.forall_mem_cons.mpr ⟨List.mem_of_getElem? (i := 4) rfl, fun _ h => absurd h List.not_mem_nil⟩⟩⟩⟩) (by decide +kernel)) ggX6_person_X6_no
set_option maxRecDepth 20000 in
theorem ggX6_person_X6_addsPerson : GoodIn wsX6_person wsX6_addsPerson := goodIn_sub (List.forall_mem_cons.mpr ⟨List.mem_of_getElem? (i := 15) rfl, (List.forall_mem_append.mpr ⟨(List.forall_mem_cons.mpr ⟨List.mem_of_getElem? (i := 1) rfl, List.forall_mem_cons.mpr ⟨List.mem_of_getElem? (i := 16) rfl, List.forall_mem_cons.mpr ⟨List.mem_of_getElem? (i := 17) rfl, List.forall_mem_cons.mpr ⟨List.mem_of_getElem? (i := 18) rfl, List.forall_mem_cons.mpr ⟨List.mem_of_getElem? (i := 4) rfl, List.forall_mem_cons.mpr ⟨List.mem_of_getElem? (i := 19) rfl, fun _ h => absurd h List.not_mem_nil⟩⟩⟩⟩⟩⟩), (fun _ h => List.mem_cons_of_mem _ (List.mem_append_right _ h))⟩)⟩) (by decide +kernel)
set_option maxRecDepth 20000 in
theorem gX6_person_X6_addsPerson : GoodIn wsX6_person (wsV RX6 97 RX6 yX6_addsPerson wsX6_addsPerson) := goodIn_app (goodIn_sub (List.forall_mem_cons.mpr ⟨List.mem_of_getElem? (i := 12) rfl, List.forall_mem_cons.mpr ⟨List.mem_of_getElem? (i := 13) rfl, List.forall_mem_cons.mpr ⟨List.mem_of_getElem? (i := 14) rfl, List.forall_mem_cons.mpr ⟨List.mem_of_getElem? (i := 4) rfl, fun _ h => absurd h List.not_mem_nil⟩⟩⟩⟩) (by decide +kernel)) ggX6_person_X6_addsPerson
theorem dX6_person_0 : decode cX6_person 0 = .ok (.iload_n 1, 1) := by decide +kernel
theorem dX6_person_1 : decode cX6_person 1 = .ok (.iconst 0, 1) := by decide +kernel
theorem dX6_person_2 : decode cX6_person 2 = .ok (.iconst 5, 1) := by decide +kernel
theorem dX6_person_3 : decode cX6_person 3 = .ok (.invokestatic 49, 3) := by decide +kernel
theorem dX6_person_6 : decode cX6_person 6 = .ok (.ifCond .ne 9, 3) := by decide +kernel
theorem dX6_person_9 : decode cX6_person 9 = .ok (.aload_n 0, 1) := by decide +kernel
theorem dX6_person_10 : decode cX6_person 10 = .ok (.iconst 0, 1) := by decide +kernel
theorem dX6_person_11 : decode cX6_person 11 = .ok (.invokevirtual 87, 3) := by decide +kernel
theorem dX6_person_14 : decode cX6_person 14 = .ok (.ireturn, 1) := by decide +kernel
theorem dX6_person_15 : decode cX6_person 15 = .ok (.aload_n 0, 1) := by decide +kernel
theorem dX6_person_16 : decode cX6_person 16 = .ok (.getfield 9, 3) := by decide +kernel
theorem dX6_person_19 : decode cX6_person 19 = .ok (.iconst 5, 1) := by decide +kernel
theorem dX6_person_20 : decode cX6_person 20 = .ok (.iaload, 1) := by decide +kernel
theorem dX6_person_21 : decode cX6_person 21 = .ok (.bipush 8, 2) := by decide +kernel
theorem dX6_person_23 : decode cX6_person 23 = .ok (.if_icmp .ne 9, 3) := by decide +kernel
theorem dX6_person_26 : decode cX6_person 26 = .ok (.aload_n 0, 1) := by decide +kernel
theorem dX6_person_27 : decode cX6_person 27 = .ok (.iconst 1, 1) := by decide +kernel
theorem dX6_person_28 : decode cX6_person 28 = .ok (.invokevirtual 87, 3) := by decide +kernel
theorem dX6_person_31 : decode cX6_person 31 = .ok (.ireturn, 1) := by decide +kernel
theorem dX6_person_32 : decode cX6_person 32 = .ok (.aload_n 0, 1) := by decide +kernel
theorem dX6_person_33 : decode cX6_person 33 = .ok (.iload_n 1, 1) := by decide +kernel
theorem dX6_person_34 : decode cX6_person 34 = .ok (.invokevirtual 97, 3) := by decide +kernel
theorem dX6_person_37 : decode cX6_person 37 = .ok (.aload_n 0, 1) := by decide +kernel
theorem dX6_person_38 : decode cX6_person 38 = .ok (.getfield 9, 3) := by decide +kernel
theorem dX6_person_41 : decode cX6_person 41 = .ok (.iconst 5, 1) := by decide +kernel
theorem dX6_person_42 : decode cX6_person 42 = .ok (.iaload, 1) := by decide +kernel
theorem dX6_person_43 : decode cX6_person 43 = .ok (.iconst 1, 1) := by decide +kernel
theorem dX6_person_44 : decode cX6_person 44 = .ok (.isub, 1) := by decide +kernel
theorem dX6_person_45 : decode cX6_person 45 = .ok (.ireturn, 1) := by decide +kernel
set_option maxRecDepth 20000 in
theorem ggX6_of_X6_isPerson : GoodIn wsX6_of wsX6_isPerson := goodIn_sub (List.forall_mem_cons.mpr ⟨List.mem_of_getElem? (i := 5) rfl, (List.forall_mem_append.mpr ⟨(List.forall_mem_cons.mpr ⟨List.mem_of_getElem? (i := 6) rfl, List.forall_mem_cons.mpr ⟨List.mem_of_getElem? (i := 7) rfl, List.forall_mem_cons.mpr ⟨List.mem_of_getElem? (i := 8) rfl, List.forall_mem_cons.mpr ⟨List.mem_of_getElem? (i := 4) rfl, List.forall_mem_cons.mpr ⟨List.mem_of_getElem? (i := 9) rfl, fun _ h => absurd h List.not_mem_nil⟩⟩⟩⟩⟩), (fun _ h => List.mem_cons_of_mem _ (List.mem_append_right _ h))⟩)⟩) (by decide +kernel)
set_option maxRecDepth 20000 in
theorem gX6_of_X6_isPerson : GoodIn wsX6_of (wsV RX6 101 RX6 yX6_isPerson wsX6_isPerson) := goodIn_app (goodIn_sub (List.forall_mem_cons.mpr ⟨List.mem_of_getElem? (i := 1) rfl, List.forall_mem_cons.mpr ⟨List.mem_of_getElem? (i := 2) rfl, List.forall_mem_cons.mpr ⟨List.mem_of_getElem? (i := 3) rfl, List.forall_mem_cons.mpr ⟨List.mem_of_getElem? (i := 4) rfl, fun _ h => absurd h List.not_mem_nil⟩⟩⟩⟩) (by decide +kernel)) ggX6_of_X6_isPerson
set_option maxRecDepth 20000 in
theorem ggX6_of_X6_in1 : GoodIn wsX6_of wsX6_in1 := goodIn_sub (List.forall_mem_cons.mpr ⟨List.mem_of_getElem? (i := 9) rfl, (fun _ h => absurd h List.not_mem_nil)⟩) (by decide +kernel)
set_option maxRecDepth 20000 in
theorem gX6_of_X6_in1 : GoodIn wsX6_of (va_wsS RX6 49 yX6_in1 wsX6_in1) := goodIn_app (goodIn_sub (List.forall_mem_cons.mpr ⟨List.mem_of_getElem? (i := 7) rfl, List.forall_mem_cons.mpr ⟨List.mem_of_getElem? (i := 8) rfl, List.forall_mem_cons.mpr ⟨List.mem_of_getElem? (i := 4) rfl, fun _ h => absurd h List.not_mem_nil⟩⟩⟩) (by decide +kernel)) ggX6_of_X6_in1
set_option maxRecDepth 20000 in
theorem ggX6_of_X6_no : GoodIn wsX6_of wsX6_no := goodIn_sub (List.forall_mem_cons.mpr ⟨List.mem_of_getElem? (i := 13) rfl, (List.forall_mem_append.mpr ⟨(List.forall_mem_cons.mpr ⟨List.mem_of_getElem? (i := 14) rfl, List.forall_mem_cons.mpr ⟨List.mem_of_getElem? (i := 15) rfl, fun _ h => absurd h List.not_mem_nil⟩⟩), (fun _ h => List.mem_cons_of_mem _ (List.mem_append_right _ h))⟩)⟩) (by decide +kernel)
set_option maxRecDepth 20000 in
theorem gX6_of_X6_no : GoodIn wsX6_of (wsV RX6 87 RX6 yX6_no wsX6_no) := goodIn_app (goodIn_sub (List.forall_mem_cons.mpr ⟨List.mem_of_getElem? (i := 10) rfl, List.forall_mem_cons.mpr ⟨List.mem_of_getElem? (i := 11) rfl, List.forall_mem_cons.mpr ⟨List.mem_of_getElem? (i := 12) rfl, List.forall_mem_cons.mpr ⟨List.mem_of_getElem? (i := 4) rfl, fun _ h => absurd h List.not_mem_nil⟩⟩⟩⟩) (by decide +kernel)) ggX6_of_X6_no
set_option maxRecDepth 20000 in
theorem ggX6_of_X6_get : GoodIn wsX6_of wsX6_get := goodIn_sub (List.forall_mem_cons.mpr ⟨List.mem_of_getElem? (i := 19) rfl, (List.forall_mem_append.mpr ⟨(List.forall_mem_cons.mpr ⟨List.mem_of_getElem? (i := 6) rfl, fun _ h => absurd h List.not_mem_nil⟩), (fun _ h => List.mem_cons_of_mem _ (List.mem_append_right _ h))⟩)⟩) (by decide +kernel)
set_option maxRecDepth 20000 in
theorem gX6_of_X6_get : GoodIn wsX6_of (wsV RX6 53 RX6 yX6_get wsX6_get) := goodIn_app (goodIn_sub (List.forall_mem_cons.mpr ⟨List.mem_of_getElem? (i := 16) rfl, List.forall_mem_cons.mpr ⟨List.mem_of_getElem? (i := 17) rfl, List.forall_mem_cons.mpr ⟨List.mem_of_getElem? (i := 18) rfl, List.forall_mem_cons.mpr ⟨List.mem_of_getElem? (i := 4) rfl, fun _ h => absurd h List.not_mem_nil⟩⟩⟩⟩) (by decide +kernel)) ggX6_of_X6_get
set_option maxRecDepth 20000 in
theorem ggX6_of_X6_wantsOf : GoodIn wsX6_of wsX6_wantsOf := goodIn_sub (List.forall_mem_cons.mpr ⟨List.mem_of_getElem? (i := 23) rfl, (List.forall_mem_append.mpr ⟨(List.forall_mem_cons.mpr ⟨List.mem_of_getElem? (i := 6) rfl, List.forall_mem_cons.mpr ⟨List.mem_of_getElem? (i := 16) rfl, List.forall_mem_cons.mpr ⟨List.mem_of_getElem? (i := 17) rfl, List.forall_mem_cons.mpr ⟨List.mem_of_getElem? (i := 18) rfl, List.forall_mem_cons.mpr ⟨List.mem_of_getElem? (i := 4) rfl, List.forall_mem_cons.mpr ⟨List.mem_of_getElem? (i := 19) rfl, fun _ h => absurd h List.not_mem_nil⟩⟩⟩⟩⟩⟩), (fun _ h => List.mem_cons_of_mem _ (List.mem_append_right _ h))⟩)⟩) (by decide +kernel)
set_option maxRecDepth 20000 in
theorem gX6_of_X6_wantsOf : GoodIn wsX6_of (wsV RX6 72 RX6 yX6_wantsOf wsX6_wantsOf) := goodIn_app (goodIn_sub (List.forall_mem_cons.mpr ⟨List.mem_of_getElem? (i := 20) rfl, List.forall_mem_cons.mpr ⟨List.mem_of_getElem? (i := 21) rfl, List.forall_mem_cons.mpr ⟨List.mem_of_getElem? (i := 22) rfl, List.forall_mem_cons.mpr ⟨List.mem_of_getElem? (i := 4) rfl, fun _ h => absurd h List.not_mem_nil⟩⟩⟩⟩) (by decide +kernel)) ggX6_of_X6_wantsOf
theorem dX6_of_0 : decode cX6_of 0 = .ok (.aload_n 0, 1) := by decide +kernel
theorem dX6_of_1 : decode cX6_of 1 = .ok (.iload_n 1, 1) := by decide +kernel
theorem dX6_of_2 : decode cX6_of 2 = .ok (.invokevirtual 101, 3) := by decide +kernel
theorem dX6_of_5 : decode cX6_of 5 = .ok (.ifCond .eq 12, 3) := by decide +kernel
theorem dX6_of_8 : decode cX6_of 8 = .ok (.iload_n 2, 1) := by decide +kernel
theorem dX6_of_9 : decode cX6_of 9 = .ok (.iconst 0, 1) := by decide +kernel
theorem dX6_of_10 : decode cX6_of 10 = .ok (.iconst 5, 1) := by decide +kernel
theorem dX6_of_11 : decode cX6_of 11 = .ok (.invokestatic 49, 3) := by decide +kernel
theorem dX6_of_14 : decode cX6_of 14 = .ok (.ifCond .ne 9, 3) := by decide +kernel
theorem dX6_of_17 : decode cX6_of 17 = .ok (.aload_n 0, 1) := by decide +kernel
theorem dX6_of_18 : decode cX6_of 18 = .ok (.iconst 0, 1) := by decide +kernel
theorem dX6_of_19 : decode cX6_of 19 = .ok (.invokevirtual 87, 3) := by decide +kernel
theorem dX6_of_22 : decode cX6_of 22 = .ok (.ireturn, 1) := by decide +kernel
theorem dX6_of_23 : decode cX6_of 23 = .ok (.iload_n 2, 1) := by decide +kernel
theorem dX6_of_24 : decode cX6_of 24 = .ok (.iconst 5, 1) := by decide +kernel
theorem dX6_of_25 : decode cX6_of 25 = .ok (.if_icmp .ge 12, 3) := by decide +kernel
theorem dX6_of_28 : decode cX6_of 28 = .ok (.aload_n 0, 1) := by decide +kernel
theorem dX6_of_29 : decode cX6_of 29 = .ok (.iload_n 1, 1) := by decide +kernel
theorem dX6_of_30 : decode cX6_of 30 = .ok (.iload_n 2, 1) := by decide +kernel
theorem dX6_of_31 : decode cX6_of 31 = .ok (.invokevirtual 53, 3) := by decide +kernel
theorem dX6_of_34 : decode cX6_of 34 = .ok (.goto 8, 3) := by decide +kernel
theorem dX6_of_37 : decode cX6_of 37 = .ok (.aload_n 0, 1) := by decide +kernel
theorem dX6_of_38 : decode cX6_of 38 = .ok (.iload_n 1, 1) := by decide +kernel
theorem dX6_of_39 : decode cX6_of 39 = .ok (.invokevirtual 72, 3) := by decide +kernel
theorem dX6_of_42 : decode cX6_of 42 = .ok (.ireturn, 1) := by decide +kernel
set_option maxRecDepth 20000 in
theorem ggX6_says_X6_isPerson : GoodIn wsX6_says wsX6_isPerson := goodIn_sub (List.forall_mem_cons.mpr ⟨List.mem_of_getElem? (i := 5) rfl, (List.forall_mem_append.mpr ⟨(List.forall_mem_cons.mpr ⟨List.mem_of_getElem? (i := 6) rfl, List.forall_mem_cons.mpr ⟨List.mem_of_getElem? (i := 7) rfl, List.forall_mem_cons.mpr ⟨List.mem_of_getElem? (i := 8) rfl, List.forall_mem_cons.mpr ⟨List.mem_of_getElem? (i := 4) rfl, List.forall_mem_cons.mpr ⟨List.mem_of_getElem? (i := 9) rfl, fun _ h => absurd h List.not_mem_nil⟩⟩⟩⟩⟩), (fun _ h => List.mem_cons_of_mem _ (List.mem_append_right _ h))⟩)⟩) (by decide +kernel)
set_option maxRecDepth 20000 in
theorem gX6_says_X6_isPerson : GoodIn wsX6_says (wsV RX6 101 RX6 yX6_isPerson wsX6_isPerson) := goodIn_app (goodIn_sub (List.forall_mem_cons.mpr ⟨List.mem_of_getElem? (i := 1) rfl, List.forall_mem_cons.mpr ⟨List.mem_of_getElem? (i := 2) rfl, List.forall_mem_cons.mpr ⟨List.mem_of_getElem? (i := 3) rfl, List.forall_mem_cons.mpr ⟨List.mem_of_getElem? (i := 4) rfl, fun _ h => absurd h List.not_mem_nil⟩⟩⟩⟩) (by decide +kernel)) ggX6_says_X6_isPerson
set_option maxRecDepth 20000 in
theorem ggX6_says_X6_in1 : GoodIn wsX6_says wsX6_in1 := goodIn_sub (List.forall_mem_cons.mpr ⟨List.mem_of_getElem? (i := 9) rfl, (fun _ h => absurd h List.not_mem_nil)⟩) (by decide +kernel)
set_option maxRecDepth 20000 in
theorem gX6_says_X6_in1 : GoodIn wsX6_says (va_wsS RX6 49 yX6_in1 wsX6_in1) := goodIn_app (goodIn_sub (List.forall_mem_cons.mpr ⟨List.mem_of_getElem? (i := 7) rfl, List.forall_mem_cons.mpr ⟨List.mem_of_getElem? (i := 8) rfl, List.forall_mem_cons.mpr ⟨List.mem_of_getElem? (i := 4) rfl, fun _ h => absurd h List.not_mem_nil⟩⟩⟩) (by decide +kernel)) ggX6_says_X6_in1
set_option maxRecDepth 20000 in
theorem ggX6_says_X6_no : GoodIn wsX6_says wsX6_no := goodIn_sub (List.forall_mem_cons.mpr ⟨List.mem_of_getElem? (i := 13) rfl, (List.forall_mem_append.mpr ⟨(List.forall_mem_cons.mpr ⟨List.mem_of_getElem? (i := 14) rfl, List.forall_mem_cons.mpr ⟨List.mem_of_getElem? (i := 15) rfl, fun _ h => absurd h List.not_mem_nil⟩⟩), (fun _ h => List.mem_cons_of_mem _ (List.mem_append_right _ h))⟩)⟩) (by decide +kernel)
set_option maxRecDepth 20000 in
theorem gX6_says_X6_no : GoodIn wsX6_says (wsV RX6 87 RX6 yX6_no wsX6_no) := goodIn_app (goodIn_sub (List.forall_mem_cons.mpr ⟨List.mem_of_getElem? (i := 10) rfl, List.forall_mem_cons.mpr ⟨List.mem_of_getElem? (i := 11) rfl, List.forall_mem_cons.mpr ⟨List.mem_of_getElem? (i := 12) rfl, List.forall_mem_cons.mpr ⟨List.mem_of_getElem? (i := 4) rfl, fun _ h => absurd h List.not_mem_nil⟩⟩⟩⟩) (by decide +kernel)) ggX6_says_X6_no
set_option maxRecDepth 20000 in
theorem ggX6_says_X6_entersOf : GoodIn wsX6_says wsX6_entersOf := goodIn_sub (List.forall_mem_cons.mpr ⟨List.mem_of_getElem? (i := 19) rfl, (List.forall_mem_append.mpr ⟨(List.forall_mem_cons.mpr ⟨List.mem_of_getElem? (i := 20) rfl, List.forall_mem_cons.mpr ⟨List.mem_of_getElem? (i := 21) rfl, List.forall_mem_cons.mpr ⟨List.mem_of_getElem? (i := 22) rfl, List.forall_mem_cons.mpr ⟨List.mem_of_getElem? (i := 4) rfl, List.forall_mem_cons.mpr ⟨List.mem_of_getElem? (i := 23) rfl, List.forall_mem_cons.mpr ⟨List.mem_of_getElem? (i := 6) rfl, fun _ h => absurd h List.not_mem_nil⟩⟩⟩⟩⟩⟩), (fun _ h => List.mem_cons_of_mem _ (List.mem_append_right _ h))⟩)⟩) (by decide +kernel)
set_option maxRecDepth 20000 in
theorem gX6_says_X6_entersOf : GoodIn wsX6_says (wsV RX6 57 RX6 yX6_entersOf wsX6_entersOf) := goodIn_app (goodIn_sub (List.forall_mem_cons.mpr ⟨List.mem_of_getElem? (i := 16) rfl, List.forall_mem_cons.mpr ⟨List.mem_of_getElem? (i := 17) rfl, List.forall_mem_cons.mpr ⟨List.mem_of_getElem? (i := 18) rfl, List.forall_mem_cons.mpr ⟨List.mem_of_getElem? (i := 4) rfl, fun _ h => absurd h List.not_mem_nil⟩⟩⟩⟩) (by decide +kernel)) ggX6_says_X6_entersOf
set_option maxRecDepth 20000 in
theorem ggX6_says_X6_isWatchedFor : GoodIn wsX6_says wsX6_isWatchedFor := goodIn_sub (List.forall_mem_cons.mpr ⟨List.mem_of_getElem? (i := 27) rfl, (List.forall_mem_append.mpr ⟨(List.forall_mem_cons.mpr ⟨List.mem_of_getElem? (i := 16) rfl, List.forall_mem_cons.mpr ⟨List.mem_of_getElem? (i := 17) rfl, List.forall_mem_cons.mpr ⟨List.mem_of_getElem? (i := 18) rfl, List.forall_mem_cons.mpr ⟨List.mem_of_getElem? (i := 4) rfl, List.forall_mem_cons.mpr ⟨List.mem_of_getElem? (i := 19) rfl, List.forall_mem_cons.mpr ⟨List.mem_of_getElem? (i := 20) rfl, List.forall_mem_cons.mpr ⟨List.mem_of_getElem? (i := 21) rfl, List.forall_mem_cons.mpr ⟨List.mem_of_getElem? (i := 22) rfl, List.forall_mem_cons.mpr ⟨List.mem_of_getElem? (i := 23) rfl, List.forall_mem_cons.mpr ⟨List.mem_of_getElem? (i := 6) rfl, fun _ h => absurd h List.not_mem_nil⟩⟩⟩⟩⟩⟩⟩⟩⟩⟩), (fun _ h => List.mem_cons_of_mem _ (List.mem_append_right _ h))⟩)⟩) (by decide +kernel)
set_option maxRecDepth 20000 in
theorem gX6_says_X6_isWatchedFor : GoodIn wsX6_says (wsV RX6 69 RX6 yX6_isWatchedFor wsX6_isWatchedFor) := goodIn_app (goodIn_sub (List.forall_mem_cons.mpr ⟨List.mem_of_getElem? (i := 24) rfl, List.forall_mem_cons.mpr ⟨List.mem_of_getElem? (i := 25) rfl, List.forall_mem_cons.mpr ⟨List.mem_of_getElem? (i := 26) rfl, List.forall_mem_cons.mpr ⟨List.mem_of_getElem? (i := 4) rfl, fun _ h => absurd h List.not_mem_nil⟩⟩⟩⟩) (by decide +kernel)) ggX6_says_X6_isWatchedFor
theorem dX6_says_0 : decode cX6_says 0 = .ok (.aload_n 0, 1) := by decide +kernel
theorem dX6_says_1 : decode cX6_says 1 = .ok (.iload_n 1, 1) := by decide +kernel
theorem dX6_says_2 : decode cX6_says 2 = .ok (.invokevirtual 101, 3) := by decide +kernel
theorem dX6_says_5 : decode cX6_says 5 = .ok (.ifCond .eq 23, 3) := by decide +kernel
theorem dX6_says_8 : decode cX6_says 8 = .ok (.iload_n 2, 1) := by decide +kernel
theorem dX6_says_9 : decode cX6_says 9 = .ok (.iconst 0, 1) := by decide +kernel
theorem dX6_says_10 : decode cX6_says 10 = .ok (.iconst 1, 1) := by decide +kernel
theorem dX6_says_11 : decode cX6_says 11 = .ok (.invokestatic 49, 3) := by decide +kernel
theorem dX6_says_14 : decode cX6_says 14 = .ok (.ifCond .eq 14, 3) := by decide +kernel
theorem dX6_says_17 : decode cX6_says 17 = .ok (.iload_n 3, 1) := by decide +kernel
theorem dX6_says_18 : decode cX6_says 18 = .ok (.iconst 0, 1) := by decide +kernel
theorem dX6_says_19 : decode cX6_says 19 = .ok (.sipush 999, 3) := by decide +kernel
theorem dX6_says_22 : decode cX6_says 22 = .ok (.invokestatic 49, 3) := by decide +kernel
theorem dX6_says_25 : decode cX6_says 25 = .ok (.ifCond .ne 9, 3) := by decide +kernel
theorem dX6_says_28 : decode cX6_says 28 = .ok (.aload_n 0, 1) := by decide +kernel
theorem dX6_says_29 : decode cX6_says 29 = .ok (.iconst 0, 1) := by decide +kernel
theorem dX6_says_30 : decode cX6_says 30 = .ok (.invokevirtual 87, 3) := by decide +kernel
theorem dX6_says_33 : decode cX6_says 33 = .ok (.ireturn, 1) := by decide +kernel
theorem dX6_says_34 : decode cX6_says 34 = .ok (.iload_n 2, 1) := by decide +kernel
theorem dX6_says_35 : decode cX6_says 35 = .ok (.ifCond .ne 12, 3) := by decide +kernel
theorem dX6_says_38 : decode cX6_says 38 = .ok (.aload_n 0, 1) := by decide +kernel
theorem dX6_says_39 : decode cX6_says 39 = .ok (.iload_n 1, 1) := by decide +kernel
theorem dX6_says_40 : decode cX6_says 40 = .ok (.iload_n 3, 1) := by decide +kernel
theorem dX6_says_41 : decode cX6_says 41 = .ok (.invokevirtual 57, 3) := by decide +kernel
theorem dX6_says_44 : decode cX6_says 44 = .ok (.goto 9, 3) := by decide +kernel
theorem dX6_says_47 : decode cX6_says 47 = .ok (.aload_n 0, 1) := by decide +kernel
theorem dX6_says_48 : decode cX6_says 48 = .ok (.iload_n 1, 1) := by decide +kernel
theorem dX6_says_49 : decode cX6_says 49 = .ok (.iload_n 3, 1) := by decide +kernel
theorem dX6_says_50 : decode cX6_says 50 = .ok (.invokevirtual 69, 3) := by decide +kernel
theorem dX6_says_53 : decode cX6_says 53 = .ok (.ireturn, 1) := by decide +kernel
set_option maxRecDepth 20000 in
theorem ggX6_set_X6_isPerson : GoodIn wsX6_set wsX6_isPerson := goodIn_sub (List.forall_mem_cons.mpr ⟨List.mem_of_getElem? (i := 6) rfl, (List.forall_mem_append.mpr ⟨(List.forall_mem_cons.mpr ⟨List.mem_of_getElem? (i := 7) rfl, List.forall_mem_cons.mpr ⟨List.mem_of_getElem? (i := 8) rfl, List.forall_mem_cons.mpr ⟨List.mem_of_getElem? (i := 9) rfl, List.forall_mem_cons.mpr ⟨List.mem_of_getElem? (i := 5) rfl, List.forall_mem_cons.mpr ⟨List.mem_of_getElem? (i := 10) rfl, fun _ h => absurd h List.not_mem_nil⟩⟩⟩⟩⟩), (fun _ h => List.mem_cons_of_mem _ (List.mem_append_right _ h))⟩)⟩) (by decide +kernel)
set_option maxRecDepth 20000 in
theorem gX6_set_X6_isPerson : GoodIn wsX6_set (wsV RX6 101 RX6 yX6_isPerson wsX6_isPerson) := goodIn_app (goodIn_sub (List.forall_mem_cons.mpr ⟨List.mem_of_getElem? (i := 2) rfl, List.forall_mem_cons.mpr ⟨List.mem_of_getElem? (i := 3) rfl, List.forall_mem_cons.mpr ⟨List.mem_of_getElem? (i := 4) rfl, List.forall_mem_cons.mpr ⟨List.mem_of_getElem? (i := 5) rfl, fun _ h => absurd h List.not_mem_nil⟩⟩⟩⟩) (by decide +kernel)) ggX6_set_X6_isPerson
set_option maxRecDepth 20000 in
theorem ggX6_set_X6_in1 : GoodIn wsX6_set wsX6_in1 := goodIn_sub (List.forall_mem_cons.mpr ⟨List.mem_of_getElem? (i := 10) rfl, (fun _ h => absurd h List.not_mem_nil)⟩) (by decide +kernel)
set_option maxRecDepth 20000 in
theorem gX6_set_X6_in1 : GoodIn wsX6_set (va_wsS RX6 49 yX6_in1 wsX6_in1) := goodIn_app (goodIn_sub (List.forall_mem_cons.mpr ⟨List.mem_of_getElem? (i := 8) rfl, List.forall_mem_cons.mpr ⟨List.mem_of_getElem? (i := 9) rfl, List.forall_mem_cons.mpr ⟨List.mem_of_getElem? (i := 5) rfl, fun _ h => absurd h List.not_mem_nil⟩⟩⟩) (by decide +kernel)) ggX6_set_X6_in1
set_option maxRecDepth 20000 in
theorem ggX6_set_X6_no : GoodIn wsX6_set wsX6_no := goodIn_sub (List.forall_mem_cons.mpr ⟨List.mem_of_getElem? (i := 14) rfl, (List.forall_mem_append.mpr ⟨(List.forall_mem_cons.mpr ⟨List.mem_of_getElem? (i := 15) rfl, List.forall_mem_cons.mpr ⟨List.mem_of_getElem? (i := 16) rfl, fun _ h => absurd h List.not_mem_nil⟩⟩), (fun _ h => List.mem_cons_of_mem _ (List.mem_append_right _ h))⟩)⟩) (by decide +kernel)
set_option maxRecDepth 20000 in
theorem gX6_set_X6_no : GoodIn wsX6_set (wsV RX6 87 RX6 yX6_no wsX6_no) := goodIn_app (goodIn_sub (List.forall_mem_cons.mpr ⟨List.mem_of_getElem? (i := 11) rfl, List.forall_mem_cons.mpr ⟨List.mem_of_getElem? (i := 12) rfl, List.forall_mem_cons.mpr ⟨List.mem_of_getElem? (i := 13) rfl, List.forall_mem_cons.mpr ⟨List.mem_of_getElem? (i := 5) rfl, fun _ h => absurd h List.not_mem_nil⟩⟩⟩⟩) (by decide +kernel)) ggX6_set_X6_no
set_option maxRecDepth 20000 in
theorem ggX6_set_X6_get : GoodIn wsX6_set wsX6_get := goodIn_sub (List.forall_mem_cons.mpr ⟨List.mem_of_getElem? (i := 20) rfl, (List.forall_mem_append.mpr ⟨(List.forall_mem_cons.mpr ⟨List.mem_of_getElem? (i := 7) rfl, fun _ h => absurd h List.not_mem_nil⟩), (fun _ h => List.mem_cons_of_mem _ (List.mem_append_right _ h))⟩)⟩) (by decide +kernel)
set_option maxRecDepth 20000 in
theorem gX6_set_X6_get : GoodIn wsX6_set (wsV RX6 53 RX6 yX6_get wsX6_get) := goodIn_app (goodIn_sub (List.forall_mem_cons.mpr ⟨List.mem_of_getElem? (i := 17) rfl, List.forall_mem_cons.mpr ⟨List.mem_of_getElem? (i := 18) rfl, List.forall_mem_cons.mpr ⟨List.mem_of_getElem? (i := 19) rfl, List.forall_mem_cons.mpr ⟨List.mem_of_getElem? (i := 5) rfl, fun _ h => absurd h List.not_mem_nil⟩⟩⟩⟩) (by decide +kernel)) ggX6_set_X6_get
set_option maxRecDepth 20000 in
theorem ggX6_set_X6_puts : GoodIn wsX6_set wsX6_puts := goodIn_sub (List.forall_mem_cons.mpr ⟨List.mem_of_getElem? (i := 24) rfl, (List.forall_mem_append.mpr ⟨(List.forall_mem_cons.mpr ⟨List.mem_of_getElem? (i := 7) rfl, fun _ h => absurd h List.not_mem_nil⟩), (fun _ h => List.mem_cons_of_mem _ (List.mem_append_right _ h))⟩)⟩) (by decide +kernel)
set_option maxRecDepth 20000 in
theorem gX6_set_X6_puts : GoodIn wsX6_set (wsV RX6 64 RX6 yX6_puts wsX6_puts) := goodIn_app (goodIn_sub (List.forall_mem_cons.mpr ⟨List.mem_of_getElem? (i := 21) rfl, List.forall_mem_cons.mpr ⟨List.mem_of_getElem? (i := 22) rfl, List.forall_mem_cons.mpr ⟨List.mem_of_getElem? (i := 23) rfl, List.forall_mem_cons.mpr ⟨List.mem_of_getElem? (i := 5) rfl, fun _ h => absurd h List.not_mem_nil⟩⟩⟩⟩) (by decide +kernel)) ggX6_set_X6_puts
theorem dX6_set_0 : decode cX6_set 0 = .ok (.iload_n 2, 1) := by decide +kernel
theorem dX6_set_1 : decode cX6_set 1 = .ok (.iconst 1, 1) := by decide +kernel
theorem dX6_set_2 : decode cX6_set 2 = .ok (.if_icmp .ne 8, 3) := by decide +kernel
theorem dX6_set_5 : decode cX6_set 5 = .ok (.bipush 20, 2) := by decide +kernel
theorem dX6_set_7 : decode cX6_set 7 = .ok (.goto 15, 3) := by decide +kernel
theorem dX6_set_10 : decode cX6_set 10 = .ok (.iload_n 2, 1) := by decide +kernel
theorem dX6_set_11 : decode cX6_set 11 = .ok (.iconst 4, 1) := by decide +kernel
theorem dX6_set_12 : decode cX6_set 12 = .ok (.if_icmp .ne 8, 3) := by decide +kernel
theorem dX6_set_15 : decode cX6_set 15 = .ok (.ldc 60, 2) := by decide +kernel
theorem dX6_set_17 : decode cX6_set 17 = .ok (.goto 5, 3) := by decide +kernel
theorem dX6_set_20 : decode cX6_set 20 = .ok (.bipush 99, 2) := by decide +kernel
theorem dX6_set_22 : decode cX6_set 22 = .ok (.istore 4, 2) := by decide +kernel
theorem dX6_set_24 : decode cX6_set 24 = .ok (.aload_n 0, 1) := by decide +kernel
theorem dX6_set_25 : decode cX6_set 25 = .ok (.iload_n 1, 1) := by decide +kernel
theorem dX6_set_26 : decode cX6_set 26 = .ok (.invokevirtual 101, 3) := by decide +kernel
theorem dX6_set_29 : decode cX6_set 29 = .ok (.ifCond .eq 22, 3) := by decide +kernel
theorem dX6_set_32 : decode cX6_set 32 = .ok (.iload_n 2, 1) := by decide +kernel
theorem dX6_set_33 : decode cX6_set 33 = .ok (.iconst 1, 1) := by decide +kernel
theorem dX6_set_34 : decode cX6_set 34 = .ok (.iconst 4, 1) := by decide +kernel
theorem dX6_set_35 : decode cX6_set 35 = .ok (.invokestatic 49, 3) := by decide +kernel
theorem dX6_set_38 : decode cX6_set 38 = .ok (.ifCond .eq 13, 3) := by decide +kernel
theorem dX6_set_41 : decode cX6_set 41 = .ok (.iload_n 3, 1) := by decide +kernel
theorem dX6_set_42 : decode cX6_set 42 = .ok (.iconst 0, 1) := by decide +kernel
theorem dX6_set_43 : decode cX6_set 43 = .ok (.iload 4, 2) := by decide +kernel
theorem dX6_set_45 : decode cX6_set 45 = .ok (.invokestatic 49, 3) := by decide +kernel
theorem dX6_set_48 : decode cX6_set 48 = .ok (.ifCond .ne 9, 3) := by decide +kernel
theorem dX6_set_51 : decode cX6_set 51 = .ok (.aload_n 0, 1) := by decide +kernel
theorem dX6_set_52 : decode cX6_set 52 = .ok (.iconst 0, 1) := by decide +kernel
theorem dX6_set_53 : decode cX6_set 53 = .ok (.invokevirtual 87, 3) := by decide +kernel
theorem dX6_set_56 : decode cX6_set 56 = .ok (.ireturn, 1) := by decide +kernel
theorem dX6_set_57 : decode cX6_set 57 = .ok (.aload_n 0, 1) := by decide +kernel
theorem dX6_set_58 : decode cX6_set 58 = .ok (.iload_n 1, 1) := by decide +kernel
theorem dX6_set_59 : decode cX6_set 59 = .ok (.iload_n 2, 1) := by decide +kernel
theorem dX6_set_60 : decode cX6_set 60 = .ok (.invokevirtual 53, 3) := by decide +kernel
theorem dX6_set_63 : decode cX6_set 63 = .ok (.istore 5, 2) := by decide +kernel
theorem dX6_set_65 : decode cX6_set 65 = .ok (.aload_n 0, 1) := by decide +kernel
theorem dX6_set_66 : decode cX6_set 66 = .ok (.iload_n 1, 1) := by decide +kernel
theorem dX6_set_67 : decode cX6_set 67 = .ok (.iload_n 2, 1) := by decide +kernel
theorem dX6_set_68 : decode cX6_set 68 = .ok (.iload_n 3, 1) := by decide +kernel
theorem dX6_set_69 : decode cX6_set 69 = .ok (.invokevirtual 64, 3) := by decide +kernel
theorem dX6_set_72 : decode cX6_set 72 = .ok (.iload 5, 2) := by decide +kernel
theorem dX6_set_74 : decode cX6_set 74 = .ok (.ireturn, 1) := by decide +kernel
set_option maxRecDepth 20000 in
theorem ggX6_turn_X6_isPerson : GoodIn wsX6_turn wsX6_isPerson := goodIn_sub (List.forall_mem_cons.mpr ⟨List.mem_of_getElem? (i := 5) rfl, (List.forall_mem_append.mpr ⟨(List.forall_mem_cons.mpr ⟨List.mem_of_getElem? (i := 6) rfl, List.forall_mem_cons.mpr ⟨List.mem_of_getElem? (i := 7) rfl, List.forall_mem_cons.mpr ⟨List.mem_of_getElem? (i := 8) rfl, List.forall_mem_cons.mpr ⟨List.mem_of_getElem? (i := 4) rfl, List.forall_mem_cons.mpr ⟨List.mem_of_getElem? (i := 9) rfl, fun _ h => absurd h List.not_mem_nil⟩⟩⟩⟩⟩), (fun _ h => List.mem_cons_of_mem _ (List.mem_append_right _ h))⟩)⟩) (by decide +kernel)
set_option maxRecDepth 20000 in
theorem gX6_turn_X6_isPerson : GoodIn wsX6_turn (wsV RX6 101 RX6 yX6_isPerson wsX6_isPerson) := goodIn_app (goodIn_sub (List.forall_mem_cons.mpr ⟨List.mem_of_getElem? (i := 1) rfl, List.forall_mem_cons.mpr ⟨List.mem_of_getElem? (i := 2) rfl, List.forall_mem_cons.mpr ⟨List.mem_of_getElem? (i := 3) rfl, List.forall_mem_cons.mpr ⟨List.mem_of_getElem? (i := 4) rfl, fun _ h => absurd h List.not_mem_nil⟩⟩⟩⟩) (by decide +kernel)) ggX6_turn_X6_isPerson
set_option maxRecDepth 20000 in
theorem ggX6_turn_X6_in1 : GoodIn wsX6_turn wsX6_in1 := goodIn_sub (List.forall_mem_cons.mpr ⟨List.mem_of_getElem? (i := 9) rfl, (fun _ h => absurd h List.not_mem_nil)⟩) (by decide +kernel)
set_option maxRecDepth 20000 in
theorem gX6_turn_X6_in1 : GoodIn wsX6_turn (va_wsS RX6 49 yX6_in1 wsX6_in1) := goodIn_app (goodIn_sub (List.forall_mem_cons.mpr ⟨List.mem_of_getElem? (i := 7) rfl, List.forall_mem_cons.mpr ⟨List.mem_of_getElem? (i := 8) rfl, List.forall_mem_cons.mpr ⟨List.mem_of_getElem? (i := 4) rfl, fun _ h => absurd h List.not_mem_nil⟩⟩⟩) (by decide +kernel)) ggX6_turn_X6_in1
set_option maxRecDepth 20000 in
theorem ggX6_turn_X6_no : GoodIn wsX6_turn wsX6_no := goodIn_sub (List.forall_mem_cons.mpr ⟨List.mem_of_getElem? (i := 13) rfl, (List.forall_mem_append.mpr ⟨(List.forall_mem_cons.mpr ⟨List.mem_of_getElem? (i := 14) rfl, List.forall_mem_cons.mpr ⟨List.mem_of_getElem? (i := 15) rfl, fun _ h => absurd h List.not_mem_nil⟩⟩), (fun _ h => List.mem_cons_of_mem _ (List.mem_append_right _ h))⟩)⟩) (by decide +kernel)
set_option maxRecDepth 20000 in
theorem gX6_turn_X6_no : GoodIn wsX6_turn (wsV RX6 87 RX6 yX6_no wsX6_no) := goodIn_app (goodIn_sub (List.forall_mem_cons.mpr ⟨List.mem_of_getElem? (i := 10) rfl, List.forall_mem_cons.mpr ⟨List.mem_of_getElem? (i := 11) rfl, List.forall_mem_cons.mpr ⟨List.mem_of_getElem? (i := 12) rfl, List.forall_mem_cons.mpr ⟨List.mem_of_getElem? (i := 4) rfl, fun _ h => absurd h List.not_mem_nil⟩⟩⟩⟩) (by decide +kernel)) ggX6_turn_X6_no
set_option maxRecDepth 20000 in
theorem ggX6_turn_X6_get : GoodIn wsX6_turn wsX6_get := goodIn_sub (List.forall_mem_cons.mpr ⟨List.mem_of_getElem? (i := 19) rfl, (List.forall_mem_append.mpr ⟨(List.forall_mem_cons.mpr ⟨List.mem_of_getElem? (i := 6) rfl, fun _ h => absurd h List.not_mem_nil⟩), (fun _ h => List.mem_cons_of_mem _ (List.mem_append_right _ h))⟩)⟩) (by decide +kernel)
set_option maxRecDepth 20000 in
theorem gX6_turn_X6_get : GoodIn wsX6_turn (wsV RX6 53 RX6 yX6_get wsX6_get) := goodIn_app (goodIn_sub (List.forall_mem_cons.mpr ⟨List.mem_of_getElem? (i := 16) rfl, List.forall_mem_cons.mpr ⟨List.mem_of_getElem? (i := 17) rfl, List.forall_mem_cons.mpr ⟨List.mem_of_getElem? (i := 18) rfl, List.forall_mem_cons.mpr ⟨List.mem_of_getElem? (i := 4) rfl, fun _ h => absurd h List.not_mem_nil⟩⟩⟩⟩) (by decide +kernel)) ggX6_turn_X6_get
set_option maxRecDepth 20000 in
theorem ggX6_turn_X6_puts : GoodIn wsX6_turn wsX6_puts := goodIn_sub (List.forall_mem_cons.mpr ⟨List.mem_of_getElem? (i := 23) rfl, (List.forall_mem_append.mpr ⟨(List.forall_mem_cons.mpr ⟨List.mem_of_getElem? (i := 6) rfl, fun _ h => absurd h List.not_mem_nil⟩), (fun _ h => List.mem_cons_of_mem _ (List.mem_append_right _ h))⟩)⟩) (by decide +kernel)
set_option maxRecDepth 20000 in
theorem gX6_turn_X6_puts : GoodIn wsX6_turn (wsV RX6 64 RX6 yX6_puts wsX6_puts) := goodIn_app (goodIn_sub (List.forall_mem_cons.mpr ⟨List.mem_of_getElem? (i := 20) rfl, List.forall_mem_cons.mpr ⟨List.mem_of_getElem? (i := 21) rfl, List.forall_mem_cons.mpr ⟨List.mem_of_getElem? (i := 22) rfl, List.forall_mem_cons.mpr ⟨List.mem_of_getElem? (i := 4) rfl, fun _ h => absurd h List.not_mem_nil⟩⟩⟩⟩) (by decide +kernel)) ggX6_turn_X6_puts
theorem dX6_turn_0 : decode cX6_turn 0 = .ok (.aload_n 0, 1) := by decide +kernel
theorem dX6_turn_1 : decode cX6_turn 1 = .ok (.iload_n 1, 1) := by decide +kernel
theorem dX6_turn_2 : decode cX6_turn 2 = .ok (.invokevirtual 101, 3) := by decide +kernel
theorem dX6_turn_5 : decode cX6_turn 5 = .ok (.ifCond .eq 12, 3) := by decide +kernel
theorem dX6_turn_8 : decode cX6_turn 8 = .ok (.iload_n 2, 1) := by decide +kernel
theorem dX6_turn_9 : decode cX6_turn 9 = .ok (.iconst 0, 1) := by decide +kernel
theorem dX6_turn_10 : decode cX6_turn 10 = .ok (.iconst 5, 1) := by decide +kernel
theorem dX6_turn_11 : decode cX6_turn 11 = .ok (.invokestatic 49, 3) := by decide +kernel
theorem dX6_turn_14 : decode cX6_turn 14 = .ok (.ifCond .ne 9, 3) := by decide +kernel
theorem dX6_turn_17 : decode cX6_turn 17 = .ok (.aload_n 0, 1) := by decide +kernel
theorem dX6_turn_18 : decode cX6_turn 18 = .ok (.iconst 0, 1) := by decide +kernel
theorem dX6_turn_19 : decode cX6_turn 19 = .ok (.invokevirtual 87, 3) := by decide +kernel
theorem dX6_turn_22 : decode cX6_turn 22 = .ok (.ireturn, 1) := by decide +kernel
theorem dX6_turn_23 : decode cX6_turn 23 = .ok (.aload_n 0, 1) := by decide +kernel
theorem dX6_turn_24 : decode cX6_turn 24 = .ok (.iload_n 1, 1) := by decide +kernel
theorem dX6_turn_25 : decode cX6_turn 25 = .ok (.iconst 0, 1) := by decide +kernel
theorem dX6_turn_26 : decode cX6_turn 26 = .ok (.invokevirtual 53, 3) := by decide +kernel
theorem dX6_turn_29 : decode cX6_turn 29 = .ok (.istore_n 3, 1) := by decide +kernel
theorem dX6_turn_30 : decode cX6_turn 30 = .ok (.aload_n 0, 1) := by decide +kernel
theorem dX6_turn_31 : decode cX6_turn 31 = .ok (.iload_n 1, 1) := by decide +kernel
theorem dX6_turn_32 : decode cX6_turn 32 = .ok (.iconst 0, 1) := by decide +kernel
theorem dX6_turn_33 : decode cX6_turn 33 = .ok (.iload_n 2, 1) := by decide +kernel
theorem dX6_turn_34 : decode cX6_turn 34 = .ok (.invokevirtual 64, 3) := by decide +kernel
theorem dX6_turn_37 : decode cX6_turn 37 = .ok (.iload_n 3, 1) := by decide +kernel
theorem dX6_turn_38 : decode cX6_turn 38 = .ok (.ireturn, 1) := by decide +kernel
set_option maxRecDepth 20000 in
theorem ggX6_as_X6_isPerson : GoodIn wsX6_as wsX6_isPerson := goodIn_sub (List.forall_mem_cons.mpr ⟨List.mem_of_getElem? (i := 5) rfl, (List.forall_mem_append.mpr ⟨(List.forall_mem_cons.mpr ⟨List.mem_of_getElem? (i := 6) rfl, List.forall_mem_cons.mpr ⟨List.mem_of_getElem? (i := 7) rfl, List.forall_mem_cons.mpr ⟨List.mem_of_getElem? (i := 8) rfl, List.forall_mem_cons.mpr ⟨List.mem_of_getElem? (i := 4) rfl, List.forall_mem_cons.mpr ⟨List.mem_of_getElem? (i := 9) rfl, fun _ h => absurd h List.not_mem_nil⟩⟩⟩⟩⟩), (fun _ h => List.mem_cons_of_mem _ (List.mem_append_right _ h))⟩)⟩) (by decide +kernel)
set_option maxRecDepth 20000 in
theorem gX6_as_X6_isPerson : GoodIn wsX6_as (wsV RX6 101 RX6 yX6_isPerson wsX6_isPerson) := goodIn_app (goodIn_sub (List.forall_mem_cons.mpr ⟨List.mem_of_getElem? (i := 1) rfl, List.forall_mem_cons.mpr ⟨List.mem_of_getElem? (i := 2) rfl, List.forall_mem_cons.mpr ⟨List.mem_of_getElem? (i := 3) rfl, List.forall_mem_cons.mpr ⟨List.mem_of_getElem? (i := 4) rfl, fun _ h => absurd h List.not_mem_nil⟩⟩⟩⟩) (by decide +kernel)) ggX6_as_X6_isPerson
set_option maxRecDepth 20000 in
theorem ggX6_as_X6_in1 : GoodIn wsX6_as wsX6_in1 := goodIn_sub (List.forall_mem_cons.mpr ⟨List.mem_of_getElem? (i := 9) rfl, (fun _ h => absurd h List.not_mem_nil)⟩) (by decide +kernel)
set_option maxRecDepth 20000 in
theorem gX6_as_X6_in1 : GoodIn wsX6_as (va_wsS RX6 49 yX6_in1 wsX6_in1) := goodIn_app (goodIn_sub (List.forall_mem_cons.mpr ⟨List.mem_of_getElem? (i := 7) rfl, List.forall_mem_cons.mpr ⟨List.mem_of_getElem? (i := 8) rfl, List.forall_mem_cons.mpr ⟨List.mem_of_getElem? (i := 4) rfl, fun _ h => absurd h List.not_mem_nil⟩⟩⟩) (by decide +kernel)) ggX6_as_X6_in1
set_option maxRecDepth 20000 in
theorem ggX6_as_X6_no : GoodIn wsX6_as wsX6_no := goodIn_sub (List.forall_mem_cons.mpr ⟨List.mem_of_getElem? (i := 13) rfl, (List.forall_mem_append.mpr ⟨(List.forall_mem_cons.mpr ⟨List.mem_of_getElem? (i := 14) rfl, List.forall_mem_cons.mpr ⟨List.mem_of_getElem? (i := 15) rfl, fun _ h => absurd h List.not_mem_nil⟩⟩), (fun _ h => List.mem_cons_of_mem _ (List.mem_append_right _ h))⟩)⟩) (by decide +kernel)
set_option maxRecDepth 20000 in
theorem gX6_as_X6_no : GoodIn wsX6_as (wsV RX6 87 RX6 yX6_no wsX6_no) := goodIn_app (goodIn_sub (List.forall_mem_cons.mpr ⟨List.mem_of_getElem? (i := 10) rfl, List.forall_mem_cons.mpr ⟨List.mem_of_getElem? (i := 11) rfl, List.forall_mem_cons.mpr ⟨List.mem_of_getElem? (i := 12) rfl, List.forall_mem_cons.mpr ⟨List.mem_of_getElem? (i := 4) rfl, fun _ h => absurd h List.not_mem_nil⟩⟩⟩⟩) (by decide +kernel)) ggX6_as_X6_no
set_option maxRecDepth 20000 in
theorem ggX6_as_X6_get : GoodIn wsX6_as wsX6_get := goodIn_sub (List.forall_mem_cons.mpr ⟨List.mem_of_getElem? (i := 19) rfl, (List.forall_mem_append.mpr ⟨(List.forall_mem_cons.mpr ⟨List.mem_of_getElem? (i := 6) rfl, fun _ h => absurd h List.not_mem_nil⟩), (fun _ h => List.mem_cons_of_mem _ (List.mem_append_right _ h))⟩)⟩) (by decide +kernel)
set_option maxRecDepth 20000 in
theorem gX6_as_X6_get : GoodIn wsX6_as (wsV RX6 53 RX6 yX6_get wsX6_get) := goodIn_app (goodIn_sub (List.forall_mem_cons.mpr ⟨List.mem_of_getElem? (i := 16) rfl, List.forall_mem_cons.mpr ⟨List.mem_of_getElem? (i := 17) rfl, List.forall_mem_cons.mpr ⟨List.mem_of_getElem? (i := 18) rfl, List.forall_mem_cons.mpr ⟨List.mem_of_getElem? (i := 4) rfl, fun _ h => absurd h List.not_mem_nil⟩⟩⟩⟩) (by decide +kernel)) ggX6_as_X6_get
theorem dX6_as_0 : decode cX6_as 0 = .ok (.aload_n 0, 1) := by decide +kernel
theorem dX6_as_1 : decode cX6_as 1 = .ok (.iload_n 1, 1) := by decide +kernel
theorem dX6_as_2 : decode cX6_as 2 = .ok (.invokevirtual 101, 3) := by decide +kernel
theorem dX6_as_5 : decode cX6_as 5 = .ok (.ifCond .eq 12, 3) := by decide +kernel
theorem dX6_as_8 : decode cX6_as 8 = .ok (.iload_n 2, 1) := by decide +kernel
theorem dX6_as_9 : decode cX6_as 9 = .ok (.iconst 0, 1) := by decide +kernel
theorem dX6_as_10 : decode cX6_as 10 = .ok (.iconst 5, 1) := by decide +kernel
theorem dX6_as_11 : decode cX6_as 11 = .ok (.invokestatic 49, 3) := by decide +kernel
theorem dX6_as_14 : decode cX6_as 14 = .ok (.ifCond .ne 9, 3) := by decide +kernel
theorem dX6_as_17 : decode cX6_as 17 = .ok (.aload_n 0, 1) := by decide +kernel
theorem dX6_as_18 : decode cX6_as 18 = .ok (.iconst 0, 1) := by decide +kernel
theorem dX6_as_19 : decode cX6_as 19 = .ok (.invokevirtual 87, 3) := by decide +kernel
theorem dX6_as_22 : decode cX6_as 22 = .ok (.ireturn, 1) := by decide +kernel
theorem dX6_as_23 : decode cX6_as 23 = .ok (.aload_n 0, 1) := by decide +kernel
theorem dX6_as_24 : decode cX6_as 24 = .ok (.iload_n 1, 1) := by decide +kernel
theorem dX6_as_25 : decode cX6_as 25 = .ok (.iconst 0, 1) := by decide +kernel
theorem dX6_as_26 : decode cX6_as 26 = .ok (.invokevirtual 53, 3) := by decide +kernel
theorem dX6_as_29 : decode cX6_as 29 = .ok (.istore_n 3, 1) := by decide +kernel
theorem dX6_as_30 : decode cX6_as 30 = .ok (.iload_n 3, 1) := by decide +kernel
theorem dX6_as_31 : decode cX6_as 31 = .ok (.iload_n 2, 1) := by decide +kernel
theorem dX6_as_32 : decode cX6_as 32 = .ok (.if_icmp .eq 30, 3) := by decide +kernel
theorem dX6_as_35 : decode cX6_as 35 = .ok (.iload_n 3, 1) := by decide +kernel
theorem dX6_as_36 : decode cX6_as 36 = .ok (.ifCond .eq 26, 3) := by decide +kernel
theorem dX6_as_39 : decode cX6_as 39 = .ok (.iload_n 3, 1) := by decide +kernel
theorem dX6_as_40 : decode cX6_as 40 = .ok (.iconst 4, 1) := by decide +kernel
theorem dX6_as_41 : decode cX6_as 41 = .ok (.if_icmp .ne 7, 3) := by decide +kernel
theorem dX6_as_44 : decode cX6_as 44 = .ok (.iconst 1, 1) := by decide +kernel
theorem dX6_as_45 : decode cX6_as 45 = .ok (.goto 13, 3) := by decide +kernel
theorem dX6_as_48 : decode cX6_as 48 = .ok (.iload_n 3, 1) := by decide +kernel
theorem dX6_as_49 : decode cX6_as 49 = .ok (.iconst 5, 1) := by decide +kernel
theorem dX6_as_50 : decode cX6_as 50 = .ok (.if_icmp .ne 7, 3) := by decide +kernel
theorem dX6_as_53 : decode cX6_as 53 = .ok (.iconst 2, 1) := by decide +kernel
theorem dX6_as_54 : decode cX6_as 54 = .ok (.goto 4, 3) := by decide +kernel
theorem dX6_as_57 : decode cX6_as 57 = .ok (.iconst 0, 1) := by decide +kernel
theorem dX6_as_58 : decode cX6_as 58 = .ok (.istore_n 3, 1) := by decide +kernel
theorem dX6_as_59 : decode cX6_as 59 = .ok (.goto (-29), 3) := by decide +kernel
theorem dX6_as_62 : decode cX6_as 62 = .ok (.iload_n 3, 1) := by decide +kernel
theorem dX6_as_63 : decode cX6_as 63 = .ok (.iload_n 2, 1) := by decide +kernel
theorem dX6_as_64 : decode cX6_as 64 = .ok (.if_icmp .ne 12, 3) := by decide +kernel
theorem dX6_as_67 : decode cX6_as 67 = .ok (.aload_n 0, 1) := by decide +kernel
theorem dX6_as_68 : decode cX6_as 68 = .ok (.iload_n 1, 1) := by decide +kernel
theorem dX6_as_69 : decode cX6_as 69 = .ok (.iconst 2, 1) := by decide +kernel
theorem dX6_as_70 : decode cX6_as 70 = .ok (.invokevirtual 53, 3) := by decide +kernel
theorem dX6_as_73 : decode cX6_as 73 = .ok (.goto 8, 3) := by decide +kernel
theorem dX6_as_76 : decode cX6_as 76 = .ok (.aload_n 0, 1) := by decide +kernel
theorem dX6_as_77 : decode cX6_as 77 = .ok (.iconst 2, 1) := by decide +kernel
theorem dX6_as_78 : decode cX6_as 78 = .ok (.invokevirtual 87, 3) := by decide +kernel
theorem dX6_as_81 : decode cX6_as 81 = .ok (.ireturn, 1) := by decide +kernel
set_option maxRecDepth 20000 in
theorem ggX6_changes_X6_get : GoodIn wsX6_changes wsX6_get := goodIn_sub (List.forall_mem_cons.mpr ⟨List.mem_of_getElem? (i := 5) rfl, (List.forall_mem_append.mpr ⟨(List.forall_mem_cons.mpr ⟨List.mem_of_getElem? (i := 6) rfl, fun _ h => absurd h List.not_mem_nil⟩), (fun _ h => List.mem_cons_of_mem _ (List.mem_append_right _ h))⟩)⟩) (by decide +kernel)
set_option maxRecDepth 20000 in
theorem gX6_changes_X6_get : GoodIn wsX6_changes (wsV RX6 53 RX6 yX6_get wsX6_get) := goodIn_app (goodIn_sub (List.forall_mem_cons.mpr ⟨List.mem_of_getElem? (i := 1) rfl, List.forall_mem_cons.mpr ⟨List.mem_of_getElem? (i := 2) rfl, List.forall_mem_cons.mpr ⟨List.mem_of_getElem? (i := 3) rfl, List.forall_mem_cons.mpr ⟨List.mem_of_getElem? (i := 4) rfl, fun _ h => absurd h List.not_mem_nil⟩⟩⟩⟩) (by decide +kernel)) ggX6_changes_X6_get
set_option maxRecDepth 20000 in
theorem ggX6_changes_X6_puts : GoodIn wsX6_changes wsX6_puts := goodIn_sub (List.forall_mem_cons.mpr ⟨List.mem_of_getElem? (i := 10) rfl, (List.forall_mem_append.mpr ⟨(List.forall_mem_cons.mpr ⟨List.mem_of_getElem? (i := 6) rfl, fun _ h => absurd h List.not_mem_nil⟩), (fun _ h => List.mem_cons_of_mem _ (List.mem_append_right _ h))⟩)⟩) (by decide +kernel)
set_option maxRecDepth 20000 in
theorem gX6_changes_X6_puts : GoodIn wsX6_changes (wsV RX6 64 RX6 yX6_puts wsX6_puts) := goodIn_app (goodIn_sub (List.forall_mem_cons.mpr ⟨List.mem_of_getElem? (i := 7) rfl, List.forall_mem_cons.mpr ⟨List.mem_of_getElem? (i := 8) rfl, List.forall_mem_cons.mpr ⟨List.mem_of_getElem? (i := 9) rfl, List.forall_mem_cons.mpr ⟨List.mem_of_getElem? (i := 4) rfl, fun _ h => absurd h List.not_mem_nil⟩⟩⟩⟩) (by decide +kernel)) ggX6_changes_X6_puts
theorem dX6_changes_0 : decode cX6_changes 0 = .ok (.iconst 0, 1) := by decide +kernel
theorem dX6_changes_1 : decode cX6_changes 1 = .ok (.istore_n 3, 1) := by decide +kernel
theorem dX6_changes_2 : decode cX6_changes 2 = .ok (.iload_n 3, 1) := by decide +kernel
theorem dX6_changes_3 : decode cX6_changes 3 = .ok (.iconst 5, 1) := by decide +kernel
theorem dX6_changes_4 : decode cX6_changes 4 = .ok (.if_icmp .ge 37, 3) := by decide +kernel
theorem dX6_changes_7 : decode cX6_changes 7 = .ok (.aload_n 0, 1) := by decide +kernel
theorem dX6_changes_8 : decode cX6_changes 8 = .ok (.iload_n 1, 1) := by decide +kernel
theorem dX6_changes_9 : decode cX6_changes 9 = .ok (.iload_n 3, 1) := by decide +kernel
theorem dX6_changes_10 : decode cX6_changes 10 = .ok (.invokevirtual 53, 3) := by decide +kernel
theorem dX6_changes_13 : decode cX6_changes 13 = .ok (.istore 4, 2) := by decide +kernel
theorem dX6_changes_15 : decode cX6_changes 15 = .ok (.aload_n 0, 1) := by decide +kernel
theorem dX6_changes_16 : decode cX6_changes 16 = .ok (.iload_n 1, 1) := by decide +kernel
theorem dX6_changes_17 : decode cX6_changes 17 = .ok (.iload_n 3, 1) := by decide +kernel
theorem dX6_changes_18 : decode cX6_changes 18 = .ok (.aload_n 0, 1) := by decide +kernel
theorem dX6_changes_19 : decode cX6_changes 19 = .ok (.iload_n 2, 1) := by decide +kernel
theorem dX6_changes_20 : decode cX6_changes 20 = .ok (.iload_n 3, 1) := by decide +kernel
theorem dX6_changes_21 : decode cX6_changes 21 = .ok (.invokevirtual 53, 3) := by decide +kernel
theorem dX6_changes_24 : decode cX6_changes 24 = .ok (.invokevirtual 64, 3) := by decide +kernel
theorem dX6_changes_27 : decode cX6_changes 27 = .ok (.aload_n 0, 1) := by decide +kernel
theorem dX6_changes_28 : decode cX6_changes 28 = .ok (.iload_n 2, 1) := by decide +kernel
theorem dX6_changes_29 : decode cX6_changes 29 = .ok (.iload_n 3, 1) := by decide +kernel
theorem dX6_changes_30 : decode cX6_changes 30 = .ok (.iload 4, 2) := by decide +kernel
theorem dX6_changes_32 : decode cX6_changes 32 = .ok (.invokevirtual 64, 3) := by decide +kernel
theorem dX6_changes_35 : decode cX6_changes 35 = .ok (.iinc 3 1, 3) := by decide +kernel
theorem dX6_changes_38 : decode cX6_changes 38 = .ok (.goto (-36), 3) := by decide +kernel
theorem dX6_changes_41 : decode cX6_changes 41 = .ok (.return_, 1) := by decide +kernel
set_option maxRecDepth 20000 in
theorem ggX6_swap_X6_isPerson : GoodIn wsX6_swap wsX6_isPerson := goodIn_sub (List.forall_mem_cons.mpr ⟨List.mem_of_getElem? (i := 5) rfl, (List.forall_mem_append.mpr ⟨(List.forall_mem_cons.mpr ⟨List.mem_of_getElem? (i := 6) rfl, List.forall_mem_cons.mpr ⟨List.mem_of_getElem? (i := 7) rfl, List.forall_mem_cons.mpr ⟨List.mem_of_getElem? (i := 8) rfl, List.forall_mem_cons.mpr ⟨List.mem_of_getElem? (i := 4) rfl, List.forall_mem_cons.mpr ⟨List.mem_of_getElem? (i := 9) rfl, fun _ h => absurd h List.not_mem_nil⟩⟩⟩⟩⟩), (fun _ h => List.mem_cons_of_mem _ (List.mem_append_right _ h))⟩)⟩) (by decide +kernel)
set_option maxRecDepth 20000 in
theorem gX6_swap_X6_isPerson : GoodIn wsX6_swap (wsV RX6 101 RX6 yX6_isPerson wsX6_isPerson) := goodIn_app (goodIn_sub (List.forall_mem_cons.mpr ⟨List.mem_of_getElem? (i := 1) rfl, List.forall_mem_cons.mpr ⟨List.mem_of_getElem? (i := 2) rfl, List.forall_mem_cons.mpr ⟨List.mem_of_getElem? (i := 3) rfl, List.forall_mem_cons.mpr ⟨List.mem_of_getElem? (i := 4) rfl, fun _ h => absurd h List.not_mem_nil⟩⟩⟩⟩) (by decide +kernel)) ggX6_swap_X6_isPerson
set_option maxRecDepth 20000 in
theorem ggX6_swap_X6_no : GoodIn wsX6_swap wsX6_no := goodIn_sub (List.forall_mem_cons.mpr ⟨List.mem_of_getElem? (i := 13) rfl, (List.forall_mem_append.mpr ⟨(List.forall_mem_cons.mpr ⟨List.mem_of_getElem? (i := 14) rfl, List.forall_mem_cons.mpr ⟨List.mem_of_getElem? (i := 15) rfl, fun _ h => absurd h List.not_mem_nil⟩⟩), (fun _ h => List.mem_cons_of_mem _ (List.mem_append_right _ h))⟩)⟩) (by decide +kernel)
set_option maxRecDepth 20000 in
theorem gX6_swap_X6_no : GoodIn wsX6_swap (wsV RX6 87 RX6 yX6_no wsX6_no) := goodIn_app (goodIn_sub (List.forall_mem_cons.mpr ⟨List.mem_of_getElem? (i := 10) rfl, List.forall_mem_cons.mpr ⟨List.mem_of_getElem? (i := 11) rfl, List.forall_mem_cons.mpr ⟨List.mem_of_getElem? (i := 12) rfl, List.forall_mem_cons.mpr ⟨List.mem_of_getElem? (i := 4) rfl, fun _ h => absurd h List.not_mem_nil⟩⟩⟩⟩) (by decide +kernel)) ggX6_swap_X6_no
set_option maxRecDepth 20000 in
theorem ggX6_swap_X6_changes : GoodIn wsX6_swap wsX6_changes := goodIn_sub (List.forall_mem_cons.mpr ⟨List.mem_of_getElem? (i := 19) rfl, (List.forall_mem_append.mpr ⟨(List.forall_mem_cons.mpr ⟨List.mem_of_getElem? (i := 20) rfl, List.forall_mem_cons.mpr ⟨List.mem_of_getElem? (i := 21) rfl, List.forall_mem_cons.mpr ⟨List.mem_of_getElem? (i := 22) rfl, List.forall_mem_cons.mpr ⟨List.mem_of_getElem? (i := 4) rfl, List.forall_mem_cons.mpr ⟨List.mem_of_getElem? (i := 23) rfl, List.forall_mem_cons.mpr ⟨List.mem_of_getElem? (i := 6) rfl, List.forall_mem_cons.mpr ⟨List.mem_of_getElem? (i := 24) rfl, List.forall_mem_cons.mpr ⟨List.mem_of_getElem? (i := 25) rfl, List.forall_mem_cons.mpr ⟨List.mem_of_getElem? (i := 26) rfl, List.forall_mem_cons.mpr ⟨List.mem_of_getElem? (i := 27) rfl, fun _ h => absurd h List.not_mem_nil⟩⟩⟩⟩⟩⟩⟩⟩⟩⟩), (fun _ h => List.mem_cons_of_mem _ (List.mem_append_right _ h))⟩)⟩) (by decide +kernel)
set_option maxRecDepth 20000 in
theorem gX6_swap_X6_changes : GoodIn wsX6_swap (wsV RX6 104 RX6 yX6_changes wsX6_changes) := goodIn_app (goodIn_sub (List.forall_mem_cons.mpr ⟨List.mem_of_getElem? (i := 16) rfl, List.forall_mem_cons.mpr ⟨List.mem_of_getElem? (i := 17) rfl, List.forall_mem_cons.mpr ⟨List.mem_of_getElem? (i := 18) rfl, List.forall_mem_cons.mpr ⟨List.mem_of_getElem? (i := 4) rfl, fun _ h => absurd h List.not_mem_nil⟩⟩⟩⟩) (by decide +kernel)) ggX6_swap_X6_changes
theorem dX6_swap_0 : decode cX6_swap 0 = .ok (.aload_n 0, 1) := by decide +kernel
theorem dX6_swap_1 : decode cX6_swap 1 = .ok (.iload_n 1, 1) := by decide +kernel
theorem dX6_swap_2 : decode cX6_swap 2 = .ok (.invokevirtual 101, 3) := by decide +kernel
theorem dX6_swap_5 : decode cX6_swap 5 = .ok (.ifCond .eq 16, 3) := by decide +kernel
theorem dX6_swap_8 : decode cX6_swap 8 = .ok (.aload_n 0, 1) := by decide +kernel
theorem dX6_swap_9 : decode cX6_swap 9 = .ok (.iload_n 2, 1) := by decide +kernel
theorem dX6_swap_10 : decode cX6_swap 10 = .ok (.invokevirtual 101, 3) := by decide +kernel
theorem dX6_swap_13 : decode cX6_swap 13 = .ok (.ifCond .eq 8, 3) := by decide +kernel
theorem dX6_swap_16 : decode cX6_swap 16 = .ok (.iload_n 1, 1) := by decide +kernel
theorem dX6_swap_17 : decode cX6_swap 17 = .ok (.iload_n 2, 1) := by decide +kernel
theorem dX6_swap_18 : decode cX6_swap 18 = .ok (.if_icmp .ne 9, 3) := by decide +kernel
theorem dX6_swap_21 : decode cX6_swap 21 = .ok (.aload_n 0, 1) := by decide +kernel
theorem dX6_swap_22 : decode cX6_swap 22 = .ok (.iconst 0, 1) := by decide +kernel
theorem dX6_swap_23 : decode cX6_swap 23 = .ok (.invokevirtual 87, 3) := by decide +kernel
theorem dX6_swap_26 : decode cX6_swap 26 = .ok (.ireturn, 1) := by decide +kernel
theorem dX6_swap_27 : decode cX6_swap 27 = .ok (.aload_n 0, 1) := by decide +kernel
theorem dX6_swap_28 : decode cX6_swap 28 = .ok (.iload_n 1, 1) := by decide +kernel
theorem dX6_swap_29 : decode cX6_swap 29 = .ok (.iload_n 2, 1) := by decide +kernel
theorem dX6_swap_30 : decode cX6_swap 30 = .ok (.invokevirtual 104, 3) := by decide +kernel
theorem dX6_swap_33 : decode cX6_swap 33 = .ok (.iconst 1, 1) := by decide +kernel
theorem dX6_swap_34 : decode cX6_swap 34 = .ok (.ireturn, 1) := by decide +kernel
set_option maxRecDepth 20000 in
theorem ggX6_breaks_X6_isPerson : GoodIn wsX6_breaks wsX6_isPerson := goodIn_sub (List.forall_mem_cons.mpr ⟨List.mem_of_getElem? (i := 6) rfl, (List.forall_mem_append.mpr ⟨(List.forall_mem_cons.mpr ⟨List.mem_of_getElem? (i := 1) rfl, List.forall_mem_cons.mpr ⟨List.mem_of_getElem? (i := 7) rfl, List.forall_mem_cons.mpr ⟨List.mem_of_getElem? (i := 8) rfl, List.forall_mem_cons.mpr ⟨List.mem_of_getElem? (i := 5) rfl, List.forall_mem_cons.mpr ⟨List.mem_of_getElem? (i := 9) rfl, fun _ h => absurd h List.not_mem_nil⟩⟩⟩⟩⟩), (fun _ h => List.mem_cons_of_mem _ (List.mem_append_right _ h))⟩)⟩) (by decide +kernel)
set_option maxRecDepth 20000 in
theorem gX6_breaks_X6_isPerson : GoodIn wsX6_breaks (wsV RX6 101 RX6 yX6_isPerson wsX6_isPerson) := goodIn_app (goodIn_sub (List.forall_mem_cons.mpr ⟨List.mem_of_getElem? (i := 2) rfl, List.forall_mem_cons.mpr ⟨List.mem_of_getElem? (i := 3) rfl, List.forall_mem_cons.mpr ⟨List.mem_of_getElem? (i := 4) rfl, List.forall_mem_cons.mpr ⟨List.mem_of_getElem? (i := 5) rfl, fun _ h => absurd h List.not_mem_nil⟩⟩⟩⟩) (by decide +kernel)) ggX6_breaks_X6_isPerson
set_option maxRecDepth 20000 in
theorem ggX6_breaks_X6_in1 : GoodIn wsX6_breaks wsX6_in1 := goodIn_sub (List.forall_mem_cons.mpr ⟨List.mem_of_getElem? (i := 9) rfl, (fun _ h => absurd h List.not_mem_nil)⟩) (by decide +kernel)
set_option maxRecDepth 20000 in
theorem gX6_breaks_X6_in1 : GoodIn wsX6_breaks (va_wsS RX6 49 yX6_in1 wsX6_in1) := goodIn_app (goodIn_sub (List.forall_mem_cons.mpr ⟨List.mem_of_getElem? (i := 7) rfl, List.forall_mem_cons.mpr ⟨List.mem_of_getElem? (i := 8) rfl, List.forall_mem_cons.mpr ⟨List.mem_of_getElem? (i := 5) rfl, fun _ h => absurd h List.not_mem_nil⟩⟩⟩) (by decide +kernel)) ggX6_breaks_X6_in1
set_option maxRecDepth 20000 in
theorem ggX6_breaks_X6_no : GoodIn wsX6_breaks wsX6_no := goodIn_sub (List.forall_mem_cons.mpr ⟨List.mem_of_getElem? (i := 13) rfl, (List.forall_mem_append.mpr ⟨(List.forall_mem_cons.mpr ⟨List.mem_of_getElem? (i := 14) rfl, List.forall_mem_cons.mpr ⟨List.mem_of_getElem? (i := 15) rfl, fun _ h => absurd h List.not_mem_nil⟩⟩), (fun _ h => List.mem_cons_of_mem _ (List.mem_append_right _ h))⟩)⟩) (by decide +kernel)
set_option maxRecDepth 20000 in
theorem gX6_breaks_X6_no : GoodIn wsX6_breaks (wsV RX6 87 RX6 yX6_no wsX6_no) := goodIn_app (goodIn_sub (List.forall_mem_cons.mpr ⟨List.mem_of_getElem? (i := 10) rfl, List.forall_mem_cons.mpr ⟨List.mem_of_getElem? (i := 11) rfl, List.forall_mem_cons.mpr ⟨List.mem_of_getElem? (i := 12) rfl, List.forall_mem_cons.mpr ⟨List.mem_of_getElem? (i := 5) rfl, fun _ h => absurd h List.not_mem_nil⟩⟩⟩⟩) (by decide +kernel)) ggX6_breaks_X6_no
set_option maxRecDepth 20000 in
theorem ggX6_breaks_X6_get : GoodIn wsX6_breaks wsX6_get := goodIn_sub (List.forall_mem_cons.mpr ⟨List.mem_of_getElem? (i := 19) rfl, (List.forall_mem_append.mpr ⟨(List.forall_mem_cons.mpr ⟨List.mem_of_getElem? (i := 1) rfl, fun _ h => absurd h List.not_mem_nil⟩), (fun _ h => List.mem_cons_of_mem _ (List.mem_append_right _ h))⟩)⟩) (by decide +kernel)
set_option maxRecDepth 20000 in
theorem gX6_breaks_X6_get : GoodIn wsX6_breaks (wsV RX6 53 RX6 yX6_get wsX6_get) := goodIn_app (goodIn_sub (List.forall_mem_cons.mpr ⟨List.mem_of_getElem? (i := 16) rfl, List.forall_mem_cons.mpr ⟨List.mem_of_getElem? (i := 17) rfl, List.forall_mem_cons.mpr ⟨List.mem_of_getElem? (i := 18) rfl, List.forall_mem_cons.mpr ⟨List.mem_of_getElem? (i := 5) rfl, fun _ h => absurd h List.not_mem_nil⟩⟩⟩⟩) (by decide +kernel)) ggX6_breaks_X6_get
set_option maxRecDepth 20000 in
theorem ggX6_breaks_X6_breaksOf : GoodIn wsX6_breaks wsX6_breaksOf := goodIn_sub (List.forall_mem_cons.mpr ⟨List.mem_of_getElem? (i := 23) rfl, (List.forall_mem_append.mpr ⟨(List.forall_mem_cons.mpr ⟨List.mem_of_getElem? (i := 1) rfl, List.forall_mem_cons.mpr ⟨List.mem_of_getElem? (i := 24) rfl, List.forall_mem_cons.mpr ⟨List.mem_of_getElem? (i := 25) rfl, List.forall_mem_cons.mpr ⟨List.mem_of_getElem? (i := 16) rfl, List.forall_mem_cons.mpr ⟨List.mem_of_getElem? (i := 17) rfl, List.forall_mem_cons.mpr ⟨List.mem_of_getElem? (i := 18) rfl, List.forall_mem_cons.mpr ⟨List.mem_of_getElem? (i := 5) rfl, List.forall_mem_cons.mpr ⟨List.mem_of_getElem? (i := 19) rfl, List.forall_mem_cons.mpr ⟨List.mem_of_getElem? (i := 26) rfl, List.forall_mem_cons.mpr ⟨List.mem_of_getElem? (i := 27) rfl, List.forall_mem_cons.mpr ⟨List.mem_of_getElem? (i := 28) rfl, List.forall_mem_cons.mpr ⟨List.mem_of_getElem? (i := 29) rfl, List.forall_mem_cons.mpr ⟨List.mem_of_getElem? (i := 30) rfl, List.forall_mem_cons.mpr ⟨List.mem_of_getElem? (i := 31) rfl, List.forall_mem_cons.mpr ⟨List.mem_of_getElem? (i := 32) rfl, List.forall_mem_cons.mpr ⟨List.mem_of_getElem? (i := 33) rfl, List.forall_mem_cons.mpr ⟨List.mem_of_getElem? (i := 34) rfl, List.forall_mem_cons.mpr ⟨List.mem_of_getElem? (i := 35) rfl, List.forall_mem_cons.mpr ⟨List.mem_of_getElem? (i := 36) rfl, List.forall_mem_cons.mpr ⟨List.mem_of_getElem? (i := 37) rfl, List.forall_mem_cons.mpr ⟨List.mem_of_getElem? (i := 38) rfl, List.forall_mem_cons.mpr ⟨List.mem_of_getElem? (i := 39) rfl, List.forall_mem_cons.mpr ⟨List.mem_of_getElem? (i := 40) rfl, fun _ h => absurd h List.not_mem_nil⟩⟩⟩⟩⟩⟩⟩⟩⟩⟩⟩⟩⟩⟩⟩⟩⟩⟩⟩⟩⟩⟩⟩), (fun _ h => List.mem_cons_of_mem _ (List.mem_append_right _ h))⟩)⟩) (by decide +kernel)
set_option maxRecDepth 20000 in
theorem gX6_breaks_X6_breaksOf : GoodIn wsX6_breaks (wsV RX6 76 RX6 yX6_breaksOf wsX6_breaksOf) := goodIn_app (goodIn_sub (List.forall_mem_cons.mpr ⟨List.mem_of_getElem? (i := 20) rfl, List.forall_mem_cons.mpr ⟨List.mem_of_getElem? (i := 21) rfl, List.forall_mem_cons.mpr ⟨List.mem_of_getElem? (i := 22) rfl, List.forall_mem_cons.mpr ⟨List.mem_of_getElem? (i := 5) rfl, fun _ h => absurd h List.not_mem_nil⟩⟩⟩⟩) (by decide +kernel)) ggX6_breaks_X6_breaksOf
theorem dX6_breaks_0 : decode cX6_breaks 0 = .ok (.aload_n 0, 1) := by decide +kernel
theorem dX6_breaks_1 : decode cX6_breaks 1 = .ok (.iload_n 1, 1) := by decide +kernel
theorem dX6_breaks_2 : decode cX6_breaks 2 = .ok (.invokevirtual 101, 3) := by decide +kernel
theorem dX6_breaks_5 : decode cX6_breaks 5 = .ok (.ifCond .eq 13, 3) := by decide +kernel
theorem dX6_breaks_8 : decode cX6_breaks 8 = .ok (.iload_n 2, 1) := by decide +kernel
theorem dX6_breaks_9 : decode cX6_breaks 9 = .ok (.iconst 1, 1) := by decide +kernel
theorem dX6_breaks_10 : decode cX6_breaks 10 = .ok (.bipush 99, 2) := by decide +kernel
theorem dX6_breaks_12 : decode cX6_breaks 12 = .ok (.invokestatic 49, 3) := by decide +kernel
theorem dX6_breaks_15 : decode cX6_breaks 15 = .ok (.ifCond .ne 9, 3) := by decide +kernel
theorem dX6_breaks_18 : decode cX6_breaks 18 = .ok (.aload_n 0, 1) := by decide +kernel
theorem dX6_breaks_19 : decode cX6_breaks 19 = .ok (.iconst 0, 1) := by decide +kernel
theorem dX6_breaks_20 : decode cX6_breaks 20 = .ok (.invokevirtual 87, 3) := by decide +kernel
theorem dX6_breaks_23 : decode cX6_breaks 23 = .ok (.ireturn, 1) := by decide +kernel
theorem dX6_breaks_24 : decode cX6_breaks 24 = .ok (.aload_n 0, 1) := by decide +kernel
theorem dX6_breaks_25 : decode cX6_breaks 25 = .ok (.iload_n 1, 1) := by decide +kernel
theorem dX6_breaks_26 : decode cX6_breaks 26 = .ok (.iconst 3, 1) := by decide +kernel
theorem dX6_breaks_27 : decode cX6_breaks 27 = .ok (.invokevirtual 53, 3) := by decide +kernel
theorem dX6_breaks_30 : decode cX6_breaks 30 = .ok (.ifCond .gt 13, 3) := by decide +kernel
theorem dX6_breaks_33 : decode cX6_breaks 33 = .ok (.aload_n 0, 1) := by decide +kernel
theorem dX6_breaks_34 : decode cX6_breaks 34 = .ok (.getfield 9, 3) := by decide +kernel
theorem dX6_breaks_37 : decode cX6_breaks 37 = .ok (.iconst 1, 1) := by decide +kernel
theorem dX6_breaks_38 : decode cX6_breaks 38 = .ok (.iaload, 1) := by decide +kernel
theorem dX6_breaks_39 : decode cX6_breaks 39 = .ok (.iload_n 2, 1) := by decide +kernel
theorem dX6_breaks_40 : decode cX6_breaks 40 = .ok (.if_icmp .ge 9, 3) := by decide +kernel
theorem dX6_breaks_43 : decode cX6_breaks 43 = .ok (.aload_n 0, 1) := by decide +kernel
theorem dX6_breaks_44 : decode cX6_breaks 44 = .ok (.iconst 4, 1) := by decide +kernel
theorem dX6_breaks_45 : decode cX6_breaks 45 = .ok (.invokevirtual 87, 3) := by decide +kernel
theorem dX6_breaks_48 : decode cX6_breaks 48 = .ok (.ireturn, 1) := by decide +kernel
theorem dX6_breaks_49 : decode cX6_breaks 49 = .ok (.aload_n 0, 1) := by decide +kernel
theorem dX6_breaks_50 : decode cX6_breaks 50 = .ok (.iload_n 1, 1) := by decide +kernel
theorem dX6_breaks_51 : decode cX6_breaks 51 = .ok (.iload_n 2, 1) := by decide +kernel
theorem dX6_breaks_52 : decode cX6_breaks 52 = .ok (.invokevirtual 76, 3) := by decide +kernel
theorem dX6_breaks_55 : decode cX6_breaks 55 = .ok (.aload_n 0, 1) := by decide +kernel
theorem dX6_breaks_56 : decode cX6_breaks 56 = .ok (.getfield 9, 3) := by decide +kernel
theorem dX6_breaks_59 : decode cX6_breaks 59 = .ok (.iconst 3, 1) := by decide +kernel
theorem dX6_breaks_60 : decode cX6_breaks 60 = .ok (.iaload, 1) := by decide +kernel
theorem dX6_breaks_61 : decode cX6_breaks 61 = .ok (.ireturn, 1) := by decide +kernel
set_option maxRecDepth 20000 in
theorem ggX6_days_X6_in1 : GoodIn wsX6_days wsX6_in1 := goodIn_sub (List.forall_mem_cons.mpr ⟨List.mem_of_getElem? (i := 5) rfl, (fun _ h => absurd h List.not_mem_nil)⟩) (by decide +kernel)
set_option maxRecDepth 20000 in
theorem gX6_days_X6_in1 : GoodIn wsX6_days (va_wsS RX6 49 yX6_in1 wsX6_in1) := goodIn_app (goodIn_sub (List.forall_mem_cons.mpr ⟨List.mem_of_getElem? (i := 2) rfl, List.forall_mem_cons.mpr ⟨List.mem_of_getElem? (i := 3) rfl, List.forall_mem_cons.mpr ⟨List.mem_of_getElem? (i := 4) rfl, fun _ h => absurd h List.not_mem_nil⟩⟩⟩) (by decide +kernel)) ggX6_days_X6_in1
set_option maxRecDepth 20000 in
theorem ggX6_days_X6_no : GoodIn wsX6_days wsX6_no := goodIn_sub (List.forall_mem_cons.mpr ⟨List.mem_of_getElem? (i := 9) rfl, (List.forall_mem_append.mpr ⟨(List.forall_mem_cons.mpr ⟨List.mem_of_getElem? (i := 10) rfl, List.forall_mem_cons.mpr ⟨List.mem_of_getElem? (i := 11) rfl, fun _ h => absurd h List.not_mem_nil⟩⟩), (fun _ h => List.mem_cons_of_mem _ (List.mem_append_right _ h))⟩)⟩) (by decide +kernel)
set_option maxRecDepth 20000 in
theorem gX6_days_X6_no : GoodIn wsX6_days (wsV RX6 87 RX6 yX6_no wsX6_no) := goodIn_app (goodIn_sub (List.forall_mem_cons.mpr ⟨List.mem_of_getElem? (i := 6) rfl, List.forall_mem_cons.mpr ⟨List.mem_of_getElem? (i := 7) rfl, List.forall_mem_cons.mpr ⟨List.mem_of_getElem? (i := 8) rfl, List.forall_mem_cons.mpr ⟨List.mem_of_getElem? (i := 4) rfl, fun _ h => absurd h List.not_mem_nil⟩⟩⟩⟩) (by decide +kernel)) ggX6_days_X6_no
set_option maxRecDepth 20000 in
theorem ggX6_days_X6_goes : GoodIn wsX6_days wsX6_goes := goodIn_sub (List.forall_mem_cons.mpr ⟨List.mem_of_getElem? (i := 15) rfl, (List.forall_mem_append.mpr ⟨(List.forall_mem_append.mpr ⟨(List.forall_mem_cons.mpr ⟨List.mem_of_getElem? (i := 16) rfl, List.forall_mem_cons.mpr ⟨List.mem_of_getElem? (i := 17) rfl, List.forall_mem_cons.mpr ⟨List.mem_of_getElem? (i := 18) rfl, List.forall_mem_cons.mpr ⟨List.mem_of_getElem? (i := 4) rfl, List.forall_mem_cons.mpr ⟨List.mem_of_getElem? (i := 19) rfl, List.forall_mem_cons.mpr ⟨List.mem_of_getElem? (i := 1) rfl, List.forall_mem_cons.mpr ⟨List.mem_of_getElem? (i := 20) rfl, List.forall_mem_cons.mpr ⟨List.mem_of_getElem? (i := 21) rfl, List.forall_mem_cons.mpr ⟨List.mem_of_getElem? (i := 22) rfl, List.forall_mem_cons.mpr ⟨List.mem_of_getElem? (i := 23) rfl, List.forall_mem_cons.mpr ⟨List.mem_of_getElem? (i := 24) rfl, List.forall_mem_cons.mpr ⟨List.mem_of_getElem? (i := 25) rfl, List.forall_mem_cons.mpr ⟨List.mem_of_getElem? (i := 26) rfl, List.forall_mem_cons.mpr ⟨List.mem_of_getElem? (i := 27) rfl, List.forall_mem_cons.mpr ⟨List.mem_of_getElem? (i := 28) rfl, List.forall_mem_cons.mpr ⟨List.mem_of_getElem? (i := 29) rfl, List.forall_mem_cons.mpr ⟨List.mem_of_getElem? (i := 30) rfl, List.forall_mem_cons.mpr ⟨List.mem_of_getElem? (i := 31) rfl, List.forall_mem_cons.mpr ⟨List.mem_of_getElem? (i := 32) rfl, List.forall_mem_cons.mpr ⟨List.mem_of_getElem? (i := 33) rfl, List.forall_mem_cons.mpr ⟨List.mem_of_getElem? (i := 34) rfl, List.forall_mem_cons.mpr ⟨List.mem_of_getElem? (i := 35) rfl, List.forall_mem_cons.mpr ⟨List.mem_of_getElem? (i := 36) rfl, List.forall_mem_cons.mpr ⟨List.mem_of_getElem? (i := 37) rfl, fun _ h => absurd h List.not_mem_nil⟩⟩⟩⟩⟩⟩⟩⟩⟩⟩⟩⟩⟩⟩⟩⟩⟩⟩⟩⟩⟩⟩⟩⟩), (List.forall_mem_cons.mpr ⟨List.mem_of_getElem? (i := 38) rfl, List.forall_mem_cons.mpr ⟨List.mem_of_getElem? (i := 39) rfl, List.forall_mem_cons.mpr ⟨List.mem_of_getElem? (i := 40) rfl, List.forall_mem_cons.mpr ⟨List.mem_of_getElem? (i := 41) rfl, List.forall_mem_cons.mpr ⟨List.mem_of_getElem? (i := 42) rfl, List.forall_mem_cons.mpr ⟨List.mem_of_getElem? (i := 43) rfl, List.forall_mem_cons.mpr ⟨List.mem_of_getElem? (i := 44) rfl, List.forall_mem_cons.mpr ⟨List.mem_of_getElem? (i := 45) rfl, List.forall_mem_cons.mpr ⟨List.mem_of_getElem? (i := 46) rfl, List.forall_mem_cons.mpr ⟨List.mem_of_getElem? (i := 47) rfl, List.forall_mem_cons.mpr ⟨List.mem_of_getElem? (i := 48) rfl, List.forall_mem_cons.mpr ⟨List.mem_of_getElem? (i := 49) rfl, List.forall_mem_cons.mpr ⟨List.mem_of_getElem? (i := 50) rfl, List.forall_mem_cons.mpr ⟨List.mem_of_getElem? (i := 51) rfl, List.forall_mem_cons.mpr ⟨List.mem_of_getElem? (i := 52) rfl, fun _ h => absurd h List.not_mem_nil⟩⟩⟩⟩⟩⟩⟩⟩⟩⟩⟩⟩⟩⟩⟩)⟩), (fun _ h => List.mem_cons_of_mem _ (List.mem_append_right _ h))⟩)⟩) (by decide +kernel)
set_option maxRecDepth 20000 in
theorem gX6_days_X6_goes : GoodIn wsX6_days (wsV RX6 107 RX6 yX6_goes wsX6_goes) := goodIn_app (goodIn_sub (List.forall_mem_cons.mpr ⟨List.mem_of_getElem? (i := 12) rfl, List.forall_mem_cons.mpr ⟨List.mem_of_getElem? (i := 13) rfl, List.forall_mem_cons.mpr ⟨List.mem_of_getElem? (i := 14) rfl, List.forall_mem_cons.mpr ⟨List.mem_of_getElem? (i := 4) rfl, fun _ h => absurd h List.not_mem_nil⟩⟩⟩⟩) (by decide +kernel)) ggX6_days_X6_goes
theorem dX6_days_0 : decode cX6_days 0 = .ok (.iload_n 1, 1) := by decide +kernel
theorem dX6_days_1 : decode cX6_days 1 = .ok (.iconst 1, 1) := by decide +kernel
