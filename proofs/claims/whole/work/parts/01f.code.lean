theorem dX6_days_2 : decode cX6_days 2 = .ok (.bipush 100, 2) := by decide +kernel
theorem dX6_days_4 : decode cX6_days 4 = .ok (.invokestatic 49, 3) := by decide +kernel
theorem dX6_days_7 : decode cX6_days 7 = .ok (.ifCond .ne 9, 3) := by decide +kernel
theorem dX6_days_10 : decode cX6_days 10 = .ok (.aload_n 0, 1) := by decide +kernel
theorem dX6_days_11 : decode cX6_days 11 = .ok (.iconst 0, 1) := by decide +kernel
theorem dX6_days_12 : decode cX6_days 12 = .ok (.invokevirtual 87, 3) := by decide +kernel
theorem dX6_days_15 : decode cX6_days 15 = .ok (.ireturn, 1) := by decide +kernel
theorem dX6_days_16 : decode cX6_days 16 = .ok (.aload_n 0, 1) := by decide +kernel
theorem dX6_days_17 : decode cX6_days 17 = .ok (.getfield 9, 3) := by decide +kernel
theorem dX6_days_20 : decode cX6_days 20 = .ok (.iconst 0, 1) := by decide +kernel
theorem dX6_days_21 : decode cX6_days 21 = .ok (.iaload, 1) := by decide +kernel
theorem dX6_days_22 : decode cX6_days 22 = .ok (.iload_n 1, 1) := by decide +kernel
theorem dX6_days_23 : decode cX6_days 23 = .ok (.iadd, 1) := by decide +kernel
theorem dX6_days_24 : decode cX6_days 24 = .ok (.sipush 9999, 3) := by decide +kernel
theorem dX6_days_27 : decode cX6_days 27 = .ok (.if_icmp .le 9, 3) := by decide +kernel
theorem dX6_days_30 : decode cX6_days 30 = .ok (.aload_n 0, 1) := by decide +kernel
theorem dX6_days_31 : decode cX6_days 31 = .ok (.iconst 4, 1) := by decide +kernel
theorem dX6_days_32 : decode cX6_days 32 = .ok (.invokevirtual 87, 3) := by decide +kernel
theorem dX6_days_35 : decode cX6_days 35 = .ok (.ireturn, 1) := by decide +kernel
theorem dX6_days_36 : decode cX6_days 36 = .ok (.aload_n 0, 1) := by decide +kernel
theorem dX6_days_37 : decode cX6_days 37 = .ok (.iload_n 1, 1) := by decide +kernel
theorem dX6_days_38 : decode cX6_days 38 = .ok (.invokevirtual 107, 3) := by decide +kernel
theorem dX6_days_41 : decode cX6_days 41 = .ok (.aload_n 0, 1) := by decide +kernel
theorem dX6_days_42 : decode cX6_days 42 = .ok (.getfield 9, 3) := by decide +kernel
theorem dX6_days_45 : decode cX6_days 45 = .ok (.iconst 1, 1) := by decide +kernel
theorem dX6_days_46 : decode cX6_days 46 = .ok (.iaload, 1) := by decide +kernel
theorem dX6_days_47 : decode cX6_days 47 = .ok (.ireturn, 1) := by decide +kernel
set_option maxRecDepth 20000 in
theorem ggX6_isAhead_X6_in1 : GoodIn wsX6_isAhead wsX6_in1 := goodIn_sub (List.forall_mem_cons.mpr ⟨List.mem_of_getElem? (i := 4) rfl, (fun _ h => absurd h List.not_mem_nil)⟩) (by decide +kernel)
set_option maxRecDepth 20000 in
theorem gX6_isAhead_X6_in1 : GoodIn wsX6_isAhead (va_wsS RX6 49 yX6_in1 wsX6_in1) := goodIn_app (goodIn_sub (List.forall_mem_cons.mpr ⟨List.mem_of_getElem? (i := 1) rfl, List.forall_mem_cons.mpr ⟨List.mem_of_getElem? (i := 2) rfl, List.forall_mem_cons.mpr ⟨List.mem_of_getElem? (i := 3) rfl, fun _ h => absurd h List.not_mem_nil⟩⟩⟩) (by decide +kernel)) ggX6_isAhead_X6_in1
theorem dX6_isAhead_0 : decode cX6_isAhead 0 = .ok (.iload_n 0, 1) := by decide +kernel
theorem dX6_isAhead_1 : decode cX6_isAhead 1 = .ok (.iconst 0, 1) := by decide +kernel
theorem dX6_isAhead_2 : decode cX6_isAhead 2 = .ok (.bipush 100, 2) := by decide +kernel
theorem dX6_isAhead_4 : decode cX6_isAhead 4 = .ok (.invokestatic 49, 3) := by decide +kernel
theorem dX6_isAhead_7 : decode cX6_isAhead 7 = .ok (.ireturn, 1) := by decide +kernel
set_option maxRecDepth 20000 in
theorem ggX6_thenAt_X6_goes : GoodIn wsX6_thenAt wsX6_goes := goodIn_sub (List.forall_mem_cons.mpr ⟨List.mem_of_getElem? (i := 6) rfl, (List.forall_mem_append.mpr ⟨(List.forall_mem_append.mpr ⟨(List.forall_mem_cons.mpr ⟨List.mem_of_getElem? (i := 7) rfl, List.forall_mem_cons.mpr ⟨List.mem_of_getElem? (i := 8) rfl, List.forall_mem_cons.mpr ⟨List.mem_of_getElem? (i := 9) rfl, List.forall_mem_cons.mpr ⟨List.mem_of_getElem? (i := 5) rfl, List.forall_mem_cons.mpr ⟨List.mem_of_getElem? (i := 10) rfl, List.forall_mem_cons.mpr ⟨List.mem_of_getElem? (i := 1) rfl, List.forall_mem_cons.mpr ⟨List.mem_of_getElem? (i := 11) rfl, List.forall_mem_cons.mpr ⟨List.mem_of_getElem? (i := 12) rfl, List.forall_mem_cons.mpr ⟨List.mem_of_getElem? (i := 13) rfl, List.forall_mem_cons.mpr ⟨List.mem_of_getElem? (i := 14) rfl, List.forall_mem_cons.mpr ⟨List.mem_of_getElem? (i := 15) rfl, List.forall_mem_cons.mpr ⟨List.mem_of_getElem? (i := 16) rfl, List.forall_mem_cons.mpr ⟨List.mem_of_getElem? (i := 17) rfl, List.forall_mem_cons.mpr ⟨List.mem_of_getElem? (i := 18) rfl, List.forall_mem_cons.mpr ⟨List.mem_of_getElem? (i := 19) rfl, List.forall_mem_cons.mpr ⟨List.mem_of_getElem? (i := 20) rfl, List.forall_mem_cons.mpr ⟨List.mem_of_getElem? (i := 21) rfl, List.forall_mem_cons.mpr ⟨List.mem_of_getElem? (i := 22) rfl, List.forall_mem_cons.mpr ⟨List.mem_of_getElem? (i := 23) rfl, List.forall_mem_cons.mpr ⟨List.mem_of_getElem? (i := 24) rfl, List.forall_mem_cons.mpr ⟨List.mem_of_getElem? (i := 25) rfl, List.forall_mem_cons.mpr ⟨List.mem_of_getElem? (i := 26) rfl, List.forall_mem_cons.mpr ⟨List.mem_of_getElem? (i := 27) rfl, List.forall_mem_cons.mpr ⟨List.mem_of_getElem? (i := 28) rfl, fun _ h => absurd h List.not_mem_nil⟩⟩⟩⟩⟩⟩⟩⟩⟩⟩⟩⟩⟩⟩⟩⟩⟩⟩⟩⟩⟩⟩⟩⟩), (List.forall_mem_cons.mpr ⟨List.mem_of_getElem? (i := 29) rfl, List.forall_mem_cons.mpr ⟨List.mem_of_getElem? (i := 30) rfl, List.forall_mem_cons.mpr ⟨List.mem_of_getElem? (i := 31) rfl, List.forall_mem_cons.mpr ⟨List.mem_of_getElem? (i := 32) rfl, List.forall_mem_cons.mpr ⟨List.mem_of_getElem? (i := 33) rfl, List.forall_mem_cons.mpr ⟨List.mem_of_getElem? (i := 34) rfl, List.forall_mem_cons.mpr ⟨List.mem_of_getElem? (i := 35) rfl, List.forall_mem_cons.mpr ⟨List.mem_of_getElem? (i := 36) rfl, List.forall_mem_cons.mpr ⟨List.mem_of_getElem? (i := 37) rfl, List.forall_mem_cons.mpr ⟨List.mem_of_getElem? (i := 38) rfl, List.forall_mem_cons.mpr ⟨List.mem_of_getElem? (i := 39) rfl, List.forall_mem_cons.mpr ⟨List.mem_of_getElem? (i := 40) rfl, List.forall_mem_cons.mpr ⟨List.mem_of_getElem? (i := 41) rfl, List.forall_mem_cons.mpr ⟨List.mem_of_getElem? (i := 42) rfl, List.forall_mem_cons.mpr ⟨List.mem_of_getElem? (i := 43) rfl, fun _ h => absurd h List.not_mem_nil⟩⟩⟩⟩⟩⟩⟩⟩⟩⟩⟩⟩⟩⟩⟩)⟩), (fun _ h => List.mem_cons_of_mem _ (List.mem_append_right _ h))⟩)⟩) (by decide +kernel)
set_option maxRecDepth 20000 in
theorem gX6_thenAt_X6_goes : GoodIn wsX6_thenAt (wsV RX6 107 RX6 yX6_goes wsX6_goes) := goodIn_app (goodIn_sub (List.forall_mem_cons.mpr ⟨List.mem_of_getElem? (i := 2) rfl, List.forall_mem_cons.mpr ⟨List.mem_of_getElem? (i := 3) rfl, List.forall_mem_cons.mpr ⟨List.mem_of_getElem? (i := 4) rfl, List.forall_mem_cons.mpr ⟨List.mem_of_getElem? (i := 5) rfl, fun _ h => absurd h List.not_mem_nil⟩⟩⟩⟩) (by decide +kernel)) ggX6_thenAt_X6_goes
set_option maxRecDepth 20000 in
theorem ggX6_thenAt_X6_laysBack : GoodIn wsX6_thenAt wsX6_laysBack := goodIn_sub (List.forall_mem_cons.mpr ⟨List.mem_of_getElem? (i := 47) rfl, (List.forall_mem_append.mpr ⟨(List.forall_mem_cons.mpr ⟨List.mem_of_getElem? (i := 1) rfl, List.forall_mem_cons.mpr ⟨List.mem_of_getElem? (i := 48) rfl, fun _ h => absurd h List.not_mem_nil⟩⟩), (fun _ h => List.mem_cons_of_mem _ (List.mem_append_right _ h))⟩)⟩) (by decide +kernel)
set_option maxRecDepth 20000 in
theorem gX6_thenAt_X6_laysBack : GoodIn wsX6_thenAt (wsV RX6 110 RX6 yX6_laysBack wsX6_laysBack) := goodIn_app (goodIn_sub (List.forall_mem_cons.mpr ⟨List.mem_of_getElem? (i := 44) rfl, List.forall_mem_cons.mpr ⟨List.mem_of_getElem? (i := 45) rfl, List.forall_mem_cons.mpr ⟨List.mem_of_getElem? (i := 46) rfl, List.forall_mem_cons.mpr ⟨List.mem_of_getElem? (i := 5) rfl, fun _ h => absurd h List.not_mem_nil⟩⟩⟩⟩) (by decide +kernel)) ggX6_thenAt_X6_laysBack
theorem dX6_thenAt_0 : decode cX6_thenAt 0 = .ok (.aload_n 0, 1) := by decide +kernel
theorem dX6_thenAt_1 : decode cX6_thenAt 1 = .ok (.iload_n 2, 1) := by decide +kernel
theorem dX6_thenAt_2 : decode cX6_thenAt 2 = .ok (.invokevirtual 107, 3) := by decide +kernel
theorem dX6_thenAt_5 : decode cX6_thenAt 5 = .ok (.aload_n 0, 1) := by decide +kernel
theorem dX6_thenAt_6 : decode cX6_thenAt 6 = .ok (.getfield 9, 3) := by decide +kernel
theorem dX6_thenAt_9 : decode cX6_thenAt 9 = .ok (.iload_n 1, 1) := by decide +kernel
theorem dX6_thenAt_10 : decode cX6_thenAt 10 = .ok (.iaload, 1) := by decide +kernel
theorem dX6_thenAt_11 : decode cX6_thenAt 11 = .ok (.istore_n 3, 1) := by decide +kernel
theorem dX6_thenAt_12 : decode cX6_thenAt 12 = .ok (.aload_n 0, 1) := by decide +kernel
theorem dX6_thenAt_13 : decode cX6_thenAt 13 = .ok (.invokevirtual 110, 3) := by decide +kernel
theorem dX6_thenAt_16 : decode cX6_thenAt 16 = .ok (.iload_n 3, 1) := by decide +kernel
theorem dX6_thenAt_17 : decode cX6_thenAt 17 = .ok (.ireturn, 1) := by decide +kernel
set_option maxRecDepth 20000 in
theorem ggX6_on_X6_isAhead : GoodIn wsX6_on wsX6_isAhead := goodIn_sub (List.forall_mem_cons.mpr ⟨List.mem_of_getElem? (i := 4) rfl, (List.forall_mem_cons.mpr ⟨List.mem_of_getElem? (i := 5) rfl, List.forall_mem_cons.mpr ⟨List.mem_of_getElem? (i := 6) rfl, List.forall_mem_cons.mpr ⟨List.mem_of_getElem? (i := 3) rfl, List.forall_mem_cons.mpr ⟨List.mem_of_getElem? (i := 7) rfl, fun _ h => absurd h List.not_mem_nil⟩⟩⟩⟩)⟩) (by decide +kernel)
set_option maxRecDepth 20000 in
theorem gX6_on_X6_isAhead : GoodIn wsX6_on (va_wsS RX6 113 yX6_isAhead wsX6_isAhead) := goodIn_app (goodIn_sub (List.forall_mem_cons.mpr ⟨List.mem_of_getElem? (i := 1) rfl, List.forall_mem_cons.mpr ⟨List.mem_of_getElem? (i := 2) rfl, List.forall_mem_cons.mpr ⟨List.mem_of_getElem? (i := 3) rfl, fun _ h => absurd h List.not_mem_nil⟩⟩⟩) (by decide +kernel)) ggX6_on_X6_isAhead
set_option maxRecDepth 20000 in
theorem ggX6_on_X6_in1 : GoodIn wsX6_on wsX6_in1 := goodIn_sub (List.forall_mem_cons.mpr ⟨List.mem_of_getElem? (i := 7) rfl, (fun _ h => absurd h List.not_mem_nil)⟩) (by decide +kernel)
set_option maxRecDepth 20000 in
theorem gX6_on_X6_in1 : GoodIn wsX6_on (va_wsS RX6 49 yX6_in1 wsX6_in1) := goodIn_app (goodIn_sub (List.forall_mem_cons.mpr ⟨List.mem_of_getElem? (i := 5) rfl, List.forall_mem_cons.mpr ⟨List.mem_of_getElem? (i := 6) rfl, List.forall_mem_cons.mpr ⟨List.mem_of_getElem? (i := 3) rfl, fun _ h => absurd h List.not_mem_nil⟩⟩⟩) (by decide +kernel)) ggX6_on_X6_in1
set_option maxRecDepth 20000 in
theorem ggX6_on_X6_no : GoodIn wsX6_on wsX6_no := goodIn_sub (List.forall_mem_cons.mpr ⟨List.mem_of_getElem? (i := 11) rfl, (List.forall_mem_append.mpr ⟨(List.forall_mem_cons.mpr ⟨List.mem_of_getElem? (i := 12) rfl, List.forall_mem_cons.mpr ⟨List.mem_of_getElem? (i := 13) rfl, fun _ h => absurd h List.not_mem_nil⟩⟩), (fun _ h => List.mem_cons_of_mem _ (List.mem_append_right _ h))⟩)⟩) (by decide +kernel)
set_option maxRecDepth 20000 in
theorem gX6_on_X6_no : GoodIn wsX6_on (wsV RX6 87 RX6 yX6_no wsX6_no) := goodIn_app (goodIn_sub (List.forall_mem_cons.mpr ⟨List.mem_of_getElem? (i := 8) rfl, List.forall_mem_cons.mpr ⟨List.mem_of_getElem? (i := 9) rfl, List.forall_mem_cons.mpr ⟨List.mem_of_getElem? (i := 10) rfl, List.forall_mem_cons.mpr ⟨List.mem_of_getElem? (i := 3) rfl, fun _ h => absurd h List.not_mem_nil⟩⟩⟩⟩) (by decide +kernel)) ggX6_on_X6_no
set_option maxRecDepth 20000 in
theorem ggX6_on_X6_setsAside : GoodIn wsX6_on wsX6_setsAside := goodIn_sub (List.forall_mem_cons.mpr ⟨List.mem_of_getElem? (i := 17) rfl, (List.forall_mem_append.mpr ⟨(List.forall_mem_cons.mpr ⟨List.mem_of_getElem? (i := 18) rfl, List.forall_mem_cons.mpr ⟨List.mem_of_getElem? (i := 19) rfl, fun _ h => absurd h List.not_mem_nil⟩⟩), (fun _ h => List.mem_cons_of_mem _ (List.mem_append_right _ h))⟩)⟩) (by decide +kernel)
set_option maxRecDepth 20000 in
theorem gX6_on_X6_setsAside : GoodIn wsX6_on (wsV RX6 116 RX6 yX6_setsAside wsX6_setsAside) := goodIn_app (goodIn_sub (List.forall_mem_cons.mpr ⟨List.mem_of_getElem? (i := 14) rfl, List.forall_mem_cons.mpr ⟨List.mem_of_getElem? (i := 15) rfl, List.forall_mem_cons.mpr ⟨List.mem_of_getElem? (i := 16) rfl, List.forall_mem_cons.mpr ⟨List.mem_of_getElem? (i := 3) rfl, fun _ h => absurd h List.not_mem_nil⟩⟩⟩⟩) (by decide +kernel)) ggX6_on_X6_setsAside
set_option maxRecDepth 20000 in
theorem ggX6_on_X6_thenAt : GoodIn wsX6_on wsX6_thenAt := goodIn_sub (List.forall_mem_cons.mpr ⟨List.mem_of_getElem? (i := 23) rfl, (List.forall_mem_append.mpr ⟨(List.forall_mem_append.mpr ⟨(List.forall_mem_cons.mpr ⟨List.mem_of_getElem? (i := 19) rfl, List.forall_mem_cons.mpr ⟨List.mem_of_getElem? (i := 24) rfl, List.forall_mem_cons.mpr ⟨List.mem_of_getElem? (i := 25) rfl, List.forall_mem_cons.mpr ⟨List.mem_of_getElem? (i := 26) rfl, List.forall_mem_cons.mpr ⟨List.mem_of_getElem? (i := 3) rfl, List.forall_mem_cons.mpr ⟨List.mem_of_getElem? (i := 27) rfl, List.forall_mem_cons.mpr ⟨List.mem_of_getElem? (i := 28) rfl, List.forall_mem_cons.mpr ⟨List.mem_of_getElem? (i := 29) rfl, List.forall_mem_cons.mpr ⟨List.mem_of_getElem? (i := 30) rfl, List.forall_mem_cons.mpr ⟨List.mem_of_getElem? (i := 31) rfl, List.forall_mem_cons.mpr ⟨List.mem_of_getElem? (i := 32) rfl, List.forall_mem_cons.mpr ⟨List.mem_of_getElem? (i := 33) rfl, List.forall_mem_cons.mpr ⟨List.mem_of_getElem? (i := 34) rfl, List.forall_mem_cons.mpr ⟨List.mem_of_getElem? (i := 35) rfl, List.forall_mem_cons.mpr ⟨List.mem_of_getElem? (i := 36) rfl, List.forall_mem_cons.mpr ⟨List.mem_of_getElem? (i := 37) rfl, List.forall_mem_cons.mpr ⟨List.mem_of_getElem? (i := 38) rfl, List.forall_mem_cons.mpr ⟨List.mem_of_getElem? (i := 39) rfl, List.forall_mem_cons.mpr ⟨List.mem_of_getElem? (i := 40) rfl, List.forall_mem_cons.mpr ⟨List.mem_of_getElem? (i := 41) rfl, List.forall_mem_cons.mpr ⟨List.mem_of_getElem? (i := 42) rfl, List.forall_mem_cons.mpr ⟨List.mem_of_getElem? (i := 43) rfl, List.forall_mem_cons.mpr ⟨List.mem_of_getElem? (i := 44) rfl, List.forall_mem_cons.mpr ⟨List.mem_of_getElem? (i := 45) rfl, fun _ h => absurd h List.not_mem_nil⟩⟩⟩⟩⟩⟩⟩⟩⟩⟩⟩⟩⟩⟩⟩⟩⟩⟩⟩⟩⟩⟩⟩⟩), (List.forall_mem_cons.mpr ⟨List.mem_of_getElem? (i := 46) rfl, List.forall_mem_cons.mpr ⟨List.mem_of_getElem? (i := 47) rfl, List.forall_mem_cons.mpr ⟨List.mem_of_getElem? (i := 48) rfl, List.forall_mem_cons.mpr ⟨List.mem_of_getElem? (i := 49) rfl, List.forall_mem_cons.mpr ⟨List.mem_of_getElem? (i := 50) rfl, List.forall_mem_cons.mpr ⟨List.mem_of_getElem? (i := 51) rfl, List.forall_mem_cons.mpr ⟨List.mem_of_getElem? (i := 52) rfl, List.forall_mem_cons.mpr ⟨List.mem_of_getElem? (i := 53) rfl, List.forall_mem_cons.mpr ⟨List.mem_of_getElem? (i := 54) rfl, List.forall_mem_cons.mpr ⟨List.mem_of_getElem? (i := 55) rfl, List.forall_mem_cons.mpr ⟨List.mem_of_getElem? (i := 56) rfl, List.forall_mem_cons.mpr ⟨List.mem_of_getElem? (i := 57) rfl, List.forall_mem_cons.mpr ⟨List.mem_of_getElem? (i := 58) rfl, List.forall_mem_cons.mpr ⟨List.mem_of_getElem? (i := 59) rfl, List.forall_mem_cons.mpr ⟨List.mem_of_getElem? (i := 60) rfl, List.forall_mem_cons.mpr ⟨List.mem_of_getElem? (i := 61) rfl, List.forall_mem_cons.mpr ⟨List.mem_of_getElem? (i := 62) rfl, List.forall_mem_cons.mpr ⟨List.mem_of_getElem? (i := 63) rfl, List.forall_mem_cons.mpr ⟨List.mem_of_getElem? (i := 64) rfl, List.forall_mem_cons.mpr ⟨List.mem_of_getElem? (i := 65) rfl, List.forall_mem_cons.mpr ⟨List.mem_of_getElem? (i := 66) rfl, List.forall_mem_cons.mpr ⟨List.mem_of_getElem? (i := 67) rfl, List.forall_mem_cons.mpr ⟨List.mem_of_getElem? (i := 68) rfl, List.forall_mem_cons.mpr ⟨List.mem_of_getElem? (i := 18) rfl, fun _ h => absurd h List.not_mem_nil⟩⟩⟩⟩⟩⟩⟩⟩⟩⟩⟩⟩⟩⟩⟩⟩⟩⟩⟩⟩⟩⟩⟩⟩)⟩), (fun _ h => List.mem_cons_of_mem _ (List.mem_append_right _ h))⟩)⟩) (by decide +kernel)
set_option maxRecDepth 20000 in
theorem gX6_on_X6_thenAt : GoodIn wsX6_on (wsV RX6 119 RX6 yX6_thenAt wsX6_thenAt) := goodIn_app (goodIn_sub (List.forall_mem_cons.mpr ⟨List.mem_of_getElem? (i := 20) rfl, List.forall_mem_cons.mpr ⟨List.mem_of_getElem? (i := 21) rfl, List.forall_mem_cons.mpr ⟨List.mem_of_getElem? (i := 22) rfl, List.forall_mem_cons.mpr ⟨List.mem_of_getElem? (i := 3) rfl, fun _ h => absurd h List.not_mem_nil⟩⟩⟩⟩) (by decide +kernel)) ggX6_on_X6_thenAt
theorem dX6_on_0 : decode cX6_on 0 = .ok (.iload_n 1, 1) := by decide +kernel
theorem dX6_on_1 : decode cX6_on 1 = .ok (.invokestatic 113, 3) := by decide +kernel
theorem dX6_on_4 : decode cX6_on 4 = .ok (.ifCond .eq 12, 3) := by decide +kernel
theorem dX6_on_7 : decode cX6_on 7 = .ok (.iload_n 2, 1) := by decide +kernel
theorem dX6_on_8 : decode cX6_on 8 = .ok (.iconst 0, 1) := by decide +kernel
theorem dX6_on_9 : decode cX6_on 9 = .ok (.iconst 3, 1) := by decide +kernel
theorem dX6_on_10 : decode cX6_on 10 = .ok (.invokestatic 49, 3) := by decide +kernel
theorem dX6_on_13 : decode cX6_on 13 = .ok (.ifCond .ne 9, 3) := by decide +kernel
theorem dX6_on_16 : decode cX6_on 16 = .ok (.aload_n 0, 1) := by decide +kernel
theorem dX6_on_17 : decode cX6_on 17 = .ok (.iconst 0, 1) := by decide +kernel
theorem dX6_on_18 : decode cX6_on 18 = .ok (.invokevirtual 87, 3) := by decide +kernel
theorem dX6_on_21 : decode cX6_on 21 = .ok (.ireturn, 1) := by decide +kernel
theorem dX6_on_22 : decode cX6_on 22 = .ok (.aload_n 0, 1) := by decide +kernel
theorem dX6_on_23 : decode cX6_on 23 = .ok (.invokevirtual 116, 3) := by decide +kernel
theorem dX6_on_26 : decode cX6_on 26 = .ok (.aload_n 0, 1) := by decide +kernel
theorem dX6_on_27 : decode cX6_on 27 = .ok (.iconst 1, 1) := by decide +kernel
theorem dX6_on_28 : decode cX6_on 28 = .ok (.iload_n 2, 1) := by decide +kernel
theorem dX6_on_29 : decode cX6_on 29 = .ok (.iadd, 1) := by decide +kernel
theorem dX6_on_30 : decode cX6_on 30 = .ok (.iload_n 1, 1) := by decide +kernel
theorem dX6_on_31 : decode cX6_on 31 = .ok (.invokevirtual 119, 3) := by decide +kernel
theorem dX6_on_34 : decode cX6_on 34 = .ok (.ireturn, 1) := by decide +kernel
set_option maxRecDepth 20000 in
theorem ggX6_then_X6_isPerson : GoodIn wsX6_then wsX6_isPerson := goodIn_sub (List.forall_mem_cons.mpr ⟨List.mem_of_getElem? (i := 5) rfl, (List.forall_mem_append.mpr ⟨(List.forall_mem_cons.mpr ⟨List.mem_of_getElem? (i := 6) rfl, List.forall_mem_cons.mpr ⟨List.mem_of_getElem? (i := 7) rfl, List.forall_mem_cons.mpr ⟨List.mem_of_getElem? (i := 8) rfl, List.forall_mem_cons.mpr ⟨List.mem_of_getElem? (i := 4) rfl, List.forall_mem_cons.mpr ⟨List.mem_of_getElem? (i := 9) rfl, fun _ h => absurd h List.not_mem_nil⟩⟩⟩⟩⟩), (fun _ h => List.mem_cons_of_mem _ (List.mem_append_right _ h))⟩)⟩) (by decide +kernel)
set_option maxRecDepth 20000 in
theorem gX6_then_X6_isPerson : GoodIn wsX6_then (wsV RX6 101 RX6 yX6_isPerson wsX6_isPerson) := goodIn_app (goodIn_sub (List.forall_mem_cons.mpr ⟨List.mem_of_getElem? (i := 1) rfl, List.forall_mem_cons.mpr ⟨List.mem_of_getElem? (i := 2) rfl, List.forall_mem_cons.mpr ⟨List.mem_of_getElem? (i := 3) rfl, List.forall_mem_cons.mpr ⟨List.mem_of_getElem? (i := 4) rfl, fun _ h => absurd h List.not_mem_nil⟩⟩⟩⟩) (by decide +kernel)) ggX6_then_X6_isPerson
set_option maxRecDepth 20000 in
theorem ggX6_then_X6_isAhead : GoodIn wsX6_then wsX6_isAhead := goodIn_sub (List.forall_mem_cons.mpr ⟨List.mem_of_getElem? (i := 12) rfl, (List.forall_mem_cons.mpr ⟨List.mem_of_getElem? (i := 7) rfl, List.forall_mem_cons.mpr ⟨List.mem_of_getElem? (i := 8) rfl, List.forall_mem_cons.mpr ⟨List.mem_of_getElem? (i := 4) rfl, List.forall_mem_cons.mpr ⟨List.mem_of_getElem? (i := 9) rfl, fun _ h => absurd h List.not_mem_nil⟩⟩⟩⟩)⟩) (by decide +kernel)
set_option maxRecDepth 20000 in
theorem gX6_then_X6_isAhead : GoodIn wsX6_then (va_wsS RX6 113 yX6_isAhead wsX6_isAhead) := goodIn_app (goodIn_sub (List.forall_mem_cons.mpr ⟨List.mem_of_getElem? (i := 10) rfl, List.forall_mem_cons.mpr ⟨List.mem_of_getElem? (i := 11) rfl, List.forall_mem_cons.mpr ⟨List.mem_of_getElem? (i := 4) rfl, fun _ h => absurd h List.not_mem_nil⟩⟩⟩) (by decide +kernel)) ggX6_then_X6_isAhead
set_option maxRecDepth 20000 in
theorem ggX6_then_X6_in1 : GoodIn wsX6_then wsX6_in1 := goodIn_sub (List.forall_mem_cons.mpr ⟨List.mem_of_getElem? (i := 9) rfl, (fun _ h => absurd h List.not_mem_nil)⟩) (by decide +kernel)
set_option maxRecDepth 20000 in
theorem gX6_then_X6_in1 : GoodIn wsX6_then (va_wsS RX6 49 yX6_in1 wsX6_in1) := goodIn_app (goodIn_sub (List.forall_mem_cons.mpr ⟨List.mem_of_getElem? (i := 7) rfl, List.forall_mem_cons.mpr ⟨List.mem_of_getElem? (i := 8) rfl, List.forall_mem_cons.mpr ⟨List.mem_of_getElem? (i := 4) rfl, fun _ h => absurd h List.not_mem_nil⟩⟩⟩) (by decide +kernel)) ggX6_then_X6_in1
set_option maxRecDepth 20000 in
theorem ggX6_then_X6_no : GoodIn wsX6_then wsX6_no := goodIn_sub (List.forall_mem_cons.mpr ⟨List.mem_of_getElem? (i := 16) rfl, (List.forall_mem_append.mpr ⟨(List.forall_mem_cons.mpr ⟨List.mem_of_getElem? (i := 17) rfl, List.forall_mem_cons.mpr ⟨List.mem_of_getElem? (i := 18) rfl, fun _ h => absurd h List.not_mem_nil⟩⟩), (fun _ h => List.mem_cons_of_mem _ (List.mem_append_right _ h))⟩)⟩) (by decide +kernel)
set_option maxRecDepth 20000 in
theorem gX6_then_X6_no : GoodIn wsX6_then (wsV RX6 87 RX6 yX6_no wsX6_no) := goodIn_app (goodIn_sub (List.forall_mem_cons.mpr ⟨List.mem_of_getElem? (i := 13) rfl, List.forall_mem_cons.mpr ⟨List.mem_of_getElem? (i := 14) rfl, List.forall_mem_cons.mpr ⟨List.mem_of_getElem? (i := 15) rfl, List.forall_mem_cons.mpr ⟨List.mem_of_getElem? (i := 4) rfl, fun _ h => absurd h List.not_mem_nil⟩⟩⟩⟩) (by decide +kernel)) ggX6_then_X6_no
set_option maxRecDepth 20000 in
theorem ggX6_then_X6_setsAside : GoodIn wsX6_then wsX6_setsAside := goodIn_sub (List.forall_mem_cons.mpr ⟨List.mem_of_getElem? (i := 22) rfl, (List.forall_mem_append.mpr ⟨(List.forall_mem_cons.mpr ⟨List.mem_of_getElem? (i := 23) rfl, List.forall_mem_cons.mpr ⟨List.mem_of_getElem? (i := 6) rfl, fun _ h => absurd h List.not_mem_nil⟩⟩), (fun _ h => List.mem_cons_of_mem _ (List.mem_append_right _ h))⟩)⟩) (by decide +kernel)
set_option maxRecDepth 20000 in
theorem gX6_then_X6_setsAside : GoodIn wsX6_then (wsV RX6 116 RX6 yX6_setsAside wsX6_setsAside) := goodIn_app (goodIn_sub (List.forall_mem_cons.mpr ⟨List.mem_of_getElem? (i := 19) rfl, List.forall_mem_cons.mpr ⟨List.mem_of_getElem? (i := 20) rfl, List.forall_mem_cons.mpr ⟨List.mem_of_getElem? (i := 21) rfl, List.forall_mem_cons.mpr ⟨List.mem_of_getElem? (i := 4) rfl, fun _ h => absurd h List.not_mem_nil⟩⟩⟩⟩) (by decide +kernel)) ggX6_then_X6_setsAside
set_option maxRecDepth 20000 in
theorem ggX6_then_X6_thenAt : GoodIn wsX6_then wsX6_thenAt := goodIn_sub (List.forall_mem_cons.mpr ⟨List.mem_of_getElem? (i := 27) rfl, (List.forall_mem_append.mpr ⟨(List.forall_mem_append.mpr ⟨(List.forall_mem_cons.mpr ⟨List.mem_of_getElem? (i := 6) rfl, List.forall_mem_cons.mpr ⟨List.mem_of_getElem? (i := 28) rfl, List.forall_mem_cons.mpr ⟨List.mem_of_getElem? (i := 29) rfl, List.forall_mem_cons.mpr ⟨List.mem_of_getElem? (i := 30) rfl, List.forall_mem_cons.mpr ⟨List.mem_of_getElem? (i := 4) rfl, List.forall_mem_cons.mpr ⟨List.mem_of_getElem? (i := 31) rfl, List.forall_mem_cons.mpr ⟨List.mem_of_getElem? (i := 32) rfl, List.forall_mem_cons.mpr ⟨List.mem_of_getElem? (i := 33) rfl, List.forall_mem_cons.mpr ⟨List.mem_of_getElem? (i := 34) rfl, List.forall_mem_cons.mpr ⟨List.mem_of_getElem? (i := 35) rfl, List.forall_mem_cons.mpr ⟨List.mem_of_getElem? (i := 36) rfl, List.forall_mem_cons.mpr ⟨List.mem_of_getElem? (i := 37) rfl, List.forall_mem_cons.mpr ⟨List.mem_of_getElem? (i := 38) rfl, List.forall_mem_cons.mpr ⟨List.mem_of_getElem? (i := 39) rfl, List.forall_mem_cons.mpr ⟨List.mem_of_getElem? (i := 40) rfl, List.forall_mem_cons.mpr ⟨List.mem_of_getElem? (i := 41) rfl, List.forall_mem_cons.mpr ⟨List.mem_of_getElem? (i := 42) rfl, List.forall_mem_cons.mpr ⟨List.mem_of_getElem? (i := 43) rfl, List.forall_mem_cons.mpr ⟨List.mem_of_getElem? (i := 44) rfl, List.forall_mem_cons.mpr ⟨List.mem_of_getElem? (i := 45) rfl, List.forall_mem_cons.mpr ⟨List.mem_of_getElem? (i := 46) rfl, List.forall_mem_cons.mpr ⟨List.mem_of_getElem? (i := 47) rfl, List.forall_mem_cons.mpr ⟨List.mem_of_getElem? (i := 48) rfl, List.forall_mem_cons.mpr ⟨List.mem_of_getElem? (i := 49) rfl, fun _ h => absurd h List.not_mem_nil⟩⟩⟩⟩⟩⟩⟩⟩⟩⟩⟩⟩⟩⟩⟩⟩⟩⟩⟩⟩⟩⟩⟩⟩), (List.forall_mem_cons.mpr ⟨List.mem_of_getElem? (i := 50) rfl, List.forall_mem_cons.mpr ⟨List.mem_of_getElem? (i := 51) rfl, List.forall_mem_cons.mpr ⟨List.mem_of_getElem? (i := 52) rfl, List.forall_mem_cons.mpr ⟨List.mem_of_getElem? (i := 53) rfl, List.forall_mem_cons.mpr ⟨List.mem_of_getElem? (i := 54) rfl, List.forall_mem_cons.mpr ⟨List.mem_of_getElem? (i := 55) rfl, List.forall_mem_cons.mpr ⟨List.mem_of_getElem? (i := 56) rfl, List.forall_mem_cons.mpr ⟨List.mem_of_getElem? (i := 57) rfl, List.forall_mem_cons.mpr ⟨List.mem_of_getElem? (i := 58) rfl, List.forall_mem_cons.mpr ⟨List.mem_of_getElem? (i := 59) rfl, List.forall_mem_cons.mpr ⟨List.mem_of_getElem? (i := 60) rfl, List.forall_mem_cons.mpr ⟨List.mem_of_getElem? (i := 61) rfl, List.forall_mem_cons.mpr ⟨List.mem_of_getElem? (i := 62) rfl, List.forall_mem_cons.mpr ⟨List.mem_of_getElem? (i := 63) rfl, List.forall_mem_cons.mpr ⟨List.mem_of_getElem? (i := 64) rfl, List.forall_mem_cons.mpr ⟨List.mem_of_getElem? (i := 65) rfl, List.forall_mem_cons.mpr ⟨List.mem_of_getElem? (i := 66) rfl, List.forall_mem_cons.mpr ⟨List.mem_of_getElem? (i := 67) rfl, List.forall_mem_cons.mpr ⟨List.mem_of_getElem? (i := 68) rfl, List.forall_mem_cons.mpr ⟨List.mem_of_getElem? (i := 69) rfl, List.forall_mem_cons.mpr ⟨List.mem_of_getElem? (i := 70) rfl, List.forall_mem_cons.mpr ⟨List.mem_of_getElem? (i := 71) rfl, List.forall_mem_cons.mpr ⟨List.mem_of_getElem? (i := 72) rfl, List.forall_mem_cons.mpr ⟨List.mem_of_getElem? (i := 23) rfl, fun _ h => absurd h List.not_mem_nil⟩⟩⟩⟩⟩⟩⟩⟩⟩⟩⟩⟩⟩⟩⟩⟩⟩⟩⟩⟩⟩⟩⟩⟩)⟩), (fun _ h => List.mem_cons_of_mem _ (List.mem_append_right _ h))⟩)⟩) (by decide +kernel)
set_option maxRecDepth 20000 in
theorem gX6_then_X6_thenAt : GoodIn wsX6_then (wsV RX6 119 RX6 yX6_thenAt wsX6_thenAt) := goodIn_app (goodIn_sub (List.forall_mem_cons.mpr ⟨List.mem_of_getElem? (i := 24) rfl, List.forall_mem_cons.mpr ⟨List.mem_of_getElem? (i := 25) rfl, List.forall_mem_cons.mpr ⟨List.mem_of_getElem? (i := 26) rfl, List.forall_mem_cons.mpr ⟨List.mem_of_getElem? (i := 4) rfl, fun _ h => absurd h List.not_mem_nil⟩⟩⟩⟩) (by decide +kernel)) ggX6_then_X6_thenAt
theorem dX6_then_0 : decode cX6_then 0 = .ok (.aload_n 0, 1) := by decide +kernel
theorem dX6_then_1 : decode cX6_then 1 = .ok (.iload_n 1, 1) := by decide +kernel
theorem dX6_then_2 : decode cX6_then 2 = .ok (.invokevirtual 101, 3) := by decide +kernel
theorem dX6_then_5 : decode cX6_then 5 = .ok (.ifCond .eq 19, 3) := by decide +kernel
theorem dX6_then_8 : decode cX6_then 8 = .ok (.iload_n 2, 1) := by decide +kernel
theorem dX6_then_9 : decode cX6_then 9 = .ok (.invokestatic 113, 3) := by decide +kernel
theorem dX6_then_12 : decode cX6_then 12 = .ok (.ifCond .eq 12, 3) := by decide +kernel
theorem dX6_then_15 : decode cX6_then 15 = .ok (.iload_n 3, 1) := by decide +kernel
theorem dX6_then_16 : decode cX6_then 16 = .ok (.iconst 0, 1) := by decide +kernel
theorem dX6_then_17 : decode cX6_then 17 = .ok (.iconst 1, 1) := by decide +kernel
theorem dX6_then_18 : decode cX6_then 18 = .ok (.invokestatic 49, 3) := by decide +kernel
theorem dX6_then_21 : decode cX6_then 21 = .ok (.ifCond .ne 9, 3) := by decide +kernel
theorem dX6_then_24 : decode cX6_then 24 = .ok (.aload_n 0, 1) := by decide +kernel
theorem dX6_then_25 : decode cX6_then 25 = .ok (.iconst 0, 1) := by decide +kernel
theorem dX6_then_26 : decode cX6_then 26 = .ok (.invokevirtual 87, 3) := by decide +kernel
theorem dX6_then_29 : decode cX6_then 29 = .ok (.ireturn, 1) := by decide +kernel
theorem dX6_then_30 : decode cX6_then 30 = .ok (.aload_n 0, 1) := by decide +kernel
theorem dX6_then_31 : decode cX6_then 31 = .ok (.invokevirtual 116, 3) := by decide +kernel
theorem dX6_then_34 : decode cX6_then 34 = .ok (.aload_n 0, 1) := by decide +kernel
theorem dX6_then_35 : decode cX6_then 35 = .ok (.bipush 6, 2) := by decide +kernel
theorem dX6_then_37 : decode cX6_then 37 = .ok (.iconst 5, 1) := by decide +kernel
theorem dX6_then_38 : decode cX6_then 38 = .ok (.iload_n 1, 1) := by decide +kernel
theorem dX6_then_39 : decode cX6_then 39 = .ok (.imul, 1) := by decide +kernel
theorem dX6_then_40 : decode cX6_then 40 = .ok (.iadd, 1) := by decide +kernel
theorem dX6_then_41 : decode cX6_then 41 = .ok (.iconst 3, 1) := by decide +kernel
theorem dX6_then_42 : decode cX6_then 42 = .ok (.iadd, 1) := by decide +kernel
theorem dX6_then_43 : decode cX6_then 43 = .ok (.iload_n 3, 1) := by decide +kernel
theorem dX6_then_44 : decode cX6_then 44 = .ok (.iadd, 1) := by decide +kernel
theorem dX6_then_45 : decode cX6_then 45 = .ok (.iload_n 2, 1) := by decide +kernel
theorem dX6_then_46 : decode cX6_then 46 = .ok (.invokevirtual 119, 3) := by decide +kernel
theorem dX6_then_49 : decode cX6_then 49 = .ok (.ireturn, 1) := by decide +kernel
set_option maxRecDepth 20000 in
theorem ggX6_firstBy_X6_setsAside : GoodIn wsX6_firstBy wsX6_setsAside := goodIn_sub (List.forall_mem_cons.mpr ⟨List.mem_of_getElem? (i := 6) rfl, (List.forall_mem_append.mpr ⟨(List.forall_mem_cons.mpr ⟨List.mem_of_getElem? (i := 7) rfl, List.forall_mem_cons.mpr ⟨List.mem_of_getElem? (i := 1) rfl, fun _ h => absurd h List.not_mem_nil⟩⟩), (fun _ h => List.mem_cons_of_mem _ (List.mem_append_right _ h))⟩)⟩) (by decide +kernel)
set_option maxRecDepth 20000 in
theorem gX6_firstBy_X6_setsAside : GoodIn wsX6_firstBy (wsV RX6 116 RX6 yX6_setsAside wsX6_setsAside) := goodIn_app (goodIn_sub (List.forall_mem_cons.mpr ⟨List.mem_of_getElem? (i := 2) rfl, List.forall_mem_cons.mpr ⟨List.mem_of_getElem? (i := 3) rfl, List.forall_mem_cons.mpr ⟨List.mem_of_getElem? (i := 4) rfl, List.forall_mem_cons.mpr ⟨List.mem_of_getElem? (i := 5) rfl, fun _ h => absurd h List.not_mem_nil⟩⟩⟩⟩) (by decide +kernel)) ggX6_firstBy_X6_setsAside
set_option maxRecDepth 20000 in
theorem ggX6_firstBy_X6_day : GoodIn wsX6_firstBy wsX6_day := goodIn_sub (List.forall_mem_cons.mpr ⟨List.mem_of_getElem? (i := 11) rfl, (List.forall_mem_append.mpr ⟨(List.forall_mem_append.mpr ⟨(List.forall_mem_cons.mpr ⟨List.mem_of_getElem? (i := 1) rfl, List.forall_mem_cons.mpr ⟨List.mem_of_getElem? (i := 12) rfl, List.forall_mem_cons.mpr ⟨List.mem_of_getElem? (i := 13) rfl, List.forall_mem_cons.mpr ⟨List.mem_of_getElem? (i := 5) rfl, List.forall_mem_cons.mpr ⟨List.mem_of_getElem? (i := 14) rfl, List.forall_mem_cons.mpr ⟨List.mem_of_getElem? (i := 15) rfl, List.forall_mem_cons.mpr ⟨List.mem_of_getElem? (i := 16) rfl, List.forall_mem_cons.mpr ⟨List.mem_of_getElem? (i := 17) rfl, List.forall_mem_cons.mpr ⟨List.mem_of_getElem? (i := 18) rfl, List.forall_mem_cons.mpr ⟨List.mem_of_getElem? (i := 19) rfl, List.forall_mem_cons.mpr ⟨List.mem_of_getElem? (i := 20) rfl, List.forall_mem_cons.mpr ⟨List.mem_of_getElem? (i := 21) rfl, List.forall_mem_cons.mpr ⟨List.mem_of_getElem? (i := 22) rfl, List.forall_mem_cons.mpr ⟨List.mem_of_getElem? (i := 23) rfl, List.forall_mem_cons.mpr ⟨List.mem_of_getElem? (i := 24) rfl, List.forall_mem_cons.mpr ⟨List.mem_of_getElem? (i := 25) rfl, List.forall_mem_cons.mpr ⟨List.mem_of_getElem? (i := 26) rfl, List.forall_mem_cons.mpr ⟨List.mem_of_getElem? (i := 27) rfl, List.forall_mem_cons.mpr ⟨List.mem_of_getElem? (i := 28) rfl, List.forall_mem_cons.mpr ⟨List.mem_of_getElem? (i := 29) rfl, List.forall_mem_cons.mpr ⟨List.mem_of_getElem? (i := 30) rfl, List.forall_mem_cons.mpr ⟨List.mem_of_getElem? (i := 31) rfl, List.forall_mem_cons.mpr ⟨List.mem_of_getElem? (i := 32) rfl, List.forall_mem_cons.mpr ⟨List.mem_of_getElem? (i := 33) rfl, fun _ h => absurd h List.not_mem_nil⟩⟩⟩⟩⟩⟩⟩⟩⟩⟩⟩⟩⟩⟩⟩⟩⟩⟩⟩⟩⟩⟩⟩⟩), (List.forall_mem_cons.mpr ⟨List.mem_of_getElem? (i := 34) rfl, List.forall_mem_cons.mpr ⟨List.mem_of_getElem? (i := 35) rfl, List.forall_mem_cons.mpr ⟨List.mem_of_getElem? (i := 36) rfl, List.forall_mem_cons.mpr ⟨List.mem_of_getElem? (i := 37) rfl, List.forall_mem_cons.mpr ⟨List.mem_of_getElem? (i := 38) rfl, List.forall_mem_cons.mpr ⟨List.mem_of_getElem? (i := 39) rfl, List.forall_mem_cons.mpr ⟨List.mem_of_getElem? (i := 40) rfl, List.forall_mem_cons.mpr ⟨List.mem_of_getElem? (i := 41) rfl, List.forall_mem_cons.mpr ⟨List.mem_of_getElem? (i := 42) rfl, List.forall_mem_cons.mpr ⟨List.mem_of_getElem? (i := 43) rfl, List.forall_mem_cons.mpr ⟨List.mem_of_getElem? (i := 44) rfl, fun _ h => absurd h List.not_mem_nil⟩⟩⟩⟩⟩⟩⟩⟩⟩⟩⟩)⟩), (fun _ h => List.mem_cons_of_mem _ (List.mem_append_right _ h))⟩)⟩) (by decide +kernel)
set_option maxRecDepth 20000 in
theorem gX6_firstBy_X6_day : GoodIn wsX6_firstBy (wsV RX6 84 RX6 yX6_day wsX6_day) := goodIn_app (goodIn_sub (List.forall_mem_cons.mpr ⟨List.mem_of_getElem? (i := 8) rfl, List.forall_mem_cons.mpr ⟨List.mem_of_getElem? (i := 9) rfl, List.forall_mem_cons.mpr ⟨List.mem_of_getElem? (i := 10) rfl, List.forall_mem_cons.mpr ⟨List.mem_of_getElem? (i := 5) rfl, fun _ h => absurd h List.not_mem_nil⟩⟩⟩⟩) (by decide +kernel)) ggX6_firstBy_X6_day
set_option maxRecDepth 20000 in
theorem ggX6_firstBy_X6_laysBack : GoodIn wsX6_firstBy wsX6_laysBack := goodIn_sub (List.forall_mem_cons.mpr ⟨List.mem_of_getElem? (i := 48) rfl, (List.forall_mem_append.mpr ⟨(List.forall_mem_cons.mpr ⟨List.mem_of_getElem? (i := 1) rfl, List.forall_mem_cons.mpr ⟨List.mem_of_getElem? (i := 7) rfl, fun _ h => absurd h List.not_mem_nil⟩⟩), (fun _ h => List.mem_cons_of_mem _ (List.mem_append_right _ h))⟩)⟩) (by decide +kernel)
set_option maxRecDepth 20000 in
theorem gX6_firstBy_X6_laysBack : GoodIn wsX6_firstBy (wsV RX6 110 RX6 yX6_laysBack wsX6_laysBack) := goodIn_app (goodIn_sub (List.forall_mem_cons.mpr ⟨List.mem_of_getElem? (i := 45) rfl, List.forall_mem_cons.mpr ⟨List.mem_of_getElem? (i := 46) rfl, List.forall_mem_cons.mpr ⟨List.mem_of_getElem? (i := 47) rfl, List.forall_mem_cons.mpr ⟨List.mem_of_getElem? (i := 5) rfl, fun _ h => absurd h List.not_mem_nil⟩⟩⟩⟩) (by decide +kernel)) ggX6_firstBy_X6_laysBack
set_option maxRecDepth 20000 in
theorem ggX6_firstBy_X6_no : GoodIn wsX6_firstBy wsX6_no := goodIn_sub (List.forall_mem_cons.mpr ⟨List.mem_of_getElem? (i := 52) rfl, (List.forall_mem_append.mpr ⟨(List.forall_mem_cons.mpr ⟨List.mem_of_getElem? (i := 53) rfl, List.forall_mem_cons.mpr ⟨List.mem_of_getElem? (i := 54) rfl, fun _ h => absurd h List.not_mem_nil⟩⟩), (fun _ h => List.mem_cons_of_mem _ (List.mem_append_right _ h))⟩)⟩) (by decide +kernel)
set_option maxRecDepth 20000 in
theorem gX6_firstBy_X6_no : GoodIn wsX6_firstBy (wsV RX6 87 RX6 yX6_no wsX6_no) := goodIn_app (goodIn_sub (List.forall_mem_cons.mpr ⟨List.mem_of_getElem? (i := 49) rfl, List.forall_mem_cons.mpr ⟨List.mem_of_getElem? (i := 50) rfl, List.forall_mem_cons.mpr ⟨List.mem_of_getElem? (i := 51) rfl, List.forall_mem_cons.mpr ⟨List.mem_of_getElem? (i := 5) rfl, fun _ h => absurd h List.not_mem_nil⟩⟩⟩⟩) (by decide +kernel)) ggX6_firstBy_X6_no
theorem dX6_firstBy_0 : decode cX6_firstBy 0 = .ok (.aload_n 0, 1) := by decide +kernel
theorem dX6_firstBy_1 : decode cX6_firstBy 1 = .ok (.invokevirtual 116, 3) := by decide +kernel
theorem dX6_firstBy_4 : decode cX6_firstBy 4 = .ok (.iconst 0, 1) := by decide +kernel
theorem dX6_firstBy_5 : decode cX6_firstBy 5 = .ok (.istore_n 3, 1) := by decide +kernel
theorem dX6_firstBy_6 : decode cX6_firstBy 6 = .ok (.iload_n 3, 1) := by decide +kernel
theorem dX6_firstBy_7 : decode cX6_firstBy 7 = .ok (.bipush 100, 2) := by decide +kernel
theorem dX6_firstBy_9 : decode cX6_firstBy 9 = .ok (.if_icmp .gt 23, 3) := by decide +kernel
theorem dX6_firstBy_12 : decode cX6_firstBy 12 = .ok (.aload_n 0, 1) := by decide +kernel
theorem dX6_firstBy_13 : decode cX6_firstBy 13 = .ok (.getfield 9, 3) := by decide +kernel
theorem dX6_firstBy_16 : decode cX6_firstBy 16 = .ok (.iload_n 1, 1) := by decide +kernel
theorem dX6_firstBy_17 : decode cX6_firstBy 17 = .ok (.iaload, 1) := by decide +kernel
theorem dX6_firstBy_18 : decode cX6_firstBy 18 = .ok (.iload_n 2, 1) := by decide +kernel
theorem dX6_firstBy_19 : decode cX6_firstBy 19 = .ok (.if_icmp .ge 13, 3) := by decide +kernel
theorem dX6_firstBy_22 : decode cX6_firstBy 22 = .ok (.aload_n 0, 1) := by decide +kernel
theorem dX6_firstBy_23 : decode cX6_firstBy 23 = .ok (.invokevirtual 84, 3) := by decide +kernel
theorem dX6_firstBy_26 : decode cX6_firstBy 26 = .ok (.iinc 3 1, 3) := by decide +kernel
theorem dX6_firstBy_29 : decode cX6_firstBy 29 = .ok (.goto (-23), 3) := by decide +kernel
theorem dX6_firstBy_32 : decode cX6_firstBy 32 = .ok (.aload_n 0, 1) := by decide +kernel
theorem dX6_firstBy_33 : decode cX6_firstBy 33 = .ok (.invokevirtual 110, 3) := by decide +kernel
theorem dX6_firstBy_36 : decode cX6_firstBy 36 = .ok (.iload_n 3, 1) := by decide +kernel
theorem dX6_firstBy_37 : decode cX6_firstBy 37 = .ok (.bipush 100, 2) := by decide +kernel
theorem dX6_firstBy_39 : decode cX6_firstBy 39 = .ok (.if_icmp .le 11, 3) := by decide +kernel
theorem dX6_firstBy_42 : decode cX6_firstBy 42 = .ok (.aload_n 0, 1) := by decide +kernel
theorem dX6_firstBy_43 : decode cX6_firstBy 43 = .ok (.iconst 3, 1) := by decide +kernel
theorem dX6_firstBy_44 : decode cX6_firstBy 44 = .ok (.invokevirtual 87, 3) := by decide +kernel
theorem dX6_firstBy_47 : decode cX6_firstBy 47 = .ok (.goto 4, 3) := by decide +kernel
theorem dX6_firstBy_50 : decode cX6_firstBy 50 = .ok (.iload_n 3, 1) := by decide +kernel
theorem dX6_firstBy_51 : decode cX6_firstBy 51 = .ok (.ireturn, 1) := by decide +kernel
set_option maxRecDepth 20000 in
theorem ggX6_hunger_X6_firstBy : GoodIn wsX6_hunger wsX6_firstBy := goodIn_sub (List.forall_mem_cons.mpr ⟨List.mem_of_getElem? (i := 6) rfl, (List.forall_mem_append.mpr ⟨(List.forall_mem_append.mpr ⟨(List.forall_mem_cons.mpr ⟨List.mem_of_getElem? (i := 1) rfl, List.forall_mem_cons.mpr ⟨List.mem_of_getElem? (i := 7) rfl, List.forall_mem_cons.mpr ⟨List.mem_of_getElem? (i := 8) rfl, List.forall_mem_cons.mpr ⟨List.mem_of_getElem? (i := 9) rfl, List.forall_mem_cons.mpr ⟨List.mem_of_getElem? (i := 5) rfl, List.forall_mem_cons.mpr ⟨List.mem_of_getElem? (i := 10) rfl, List.forall_mem_cons.mpr ⟨List.mem_of_getElem? (i := 11) rfl, List.forall_mem_cons.mpr ⟨List.mem_of_getElem? (i := 12) rfl, List.forall_mem_cons.mpr ⟨List.mem_of_getElem? (i := 13) rfl, List.forall_mem_cons.mpr ⟨List.mem_of_getElem? (i := 14) rfl, List.forall_mem_cons.mpr ⟨List.mem_of_getElem? (i := 15) rfl, List.forall_mem_cons.mpr ⟨List.mem_of_getElem? (i := 16) rfl, List.forall_mem_cons.mpr ⟨List.mem_of_getElem? (i := 17) rfl, List.forall_mem_cons.mpr ⟨List.mem_of_getElem? (i := 18) rfl, List.forall_mem_cons.mpr ⟨List.mem_of_getElem? (i := 19) rfl, List.forall_mem_cons.mpr ⟨List.mem_of_getElem? (i := 20) rfl, List.forall_mem_cons.mpr ⟨List.mem_of_getElem? (i := 21) rfl, List.forall_mem_cons.mpr ⟨List.mem_of_getElem? (i := 22) rfl, List.forall_mem_cons.mpr ⟨List.mem_of_getElem? (i := 23) rfl, List.forall_mem_cons.mpr ⟨List.mem_of_getElem? (i := 24) rfl, List.forall_mem_cons.mpr ⟨List.mem_of_getElem? (i := 25) rfl, List.forall_mem_cons.mpr ⟨List.mem_of_getElem? (i := 26) rfl, List.forall_mem_cons.mpr ⟨List.mem_of_getElem? (i := 27) rfl, List.forall_mem_cons.mpr ⟨List.mem_of_getElem? (i := 28) rfl, fun _ h => absurd h List.not_mem_nil⟩⟩⟩⟩⟩⟩⟩⟩⟩⟩⟩⟩⟩⟩⟩⟩⟩⟩⟩⟩⟩⟩⟩⟩), (List.forall_mem_append.mpr ⟨(List.forall_mem_cons.mpr ⟨List.mem_of_getElem? (i := 29) rfl, List.forall_mem_cons.mpr ⟨List.mem_of_getElem? (i := 30) rfl, List.forall_mem_cons.mpr ⟨List.mem_of_getElem? (i := 31) rfl, List.forall_mem_cons.mpr ⟨List.mem_of_getElem? (i := 32) rfl, List.forall_mem_cons.mpr ⟨List.mem_of_getElem? (i := 33) rfl, List.forall_mem_cons.mpr ⟨List.mem_of_getElem? (i := 34) rfl, List.forall_mem_cons.mpr ⟨List.mem_of_getElem? (i := 35) rfl, List.forall_mem_cons.mpr ⟨List.mem_of_getElem? (i := 36) rfl, List.forall_mem_cons.mpr ⟨List.mem_of_getElem? (i := 37) rfl, List.forall_mem_cons.mpr ⟨List.mem_of_getElem? (i := 38) rfl, List.forall_mem_cons.mpr ⟨List.mem_of_getElem? (i := 39) rfl, List.forall_mem_cons.mpr ⟨List.mem_of_getElem? (i := 40) rfl, List.forall_mem_cons.mpr ⟨List.mem_of_getElem? (i := 41) rfl, List.forall_mem_cons.mpr ⟨List.mem_of_getElem? (i := 42) rfl, List.forall_mem_cons.mpr ⟨List.mem_of_getElem? (i := 43) rfl, List.forall_mem_cons.mpr ⟨List.mem_of_getElem? (i := 44) rfl, List.forall_mem_cons.mpr ⟨List.mem_of_getElem? (i := 45) rfl, List.forall_mem_cons.mpr ⟨List.mem_of_getElem? (i := 46) rfl, List.forall_mem_cons.mpr ⟨List.mem_of_getElem? (i := 47) rfl, List.forall_mem_cons.mpr ⟨List.mem_of_getElem? (i := 48) rfl, List.forall_mem_cons.mpr ⟨List.mem_of_getElem? (i := 49) rfl, List.forall_mem_cons.mpr ⟨List.mem_of_getElem? (i := 50) rfl, List.forall_mem_cons.mpr ⟨List.mem_of_getElem? (i := 51) rfl, List.forall_mem_cons.mpr ⟨List.mem_of_getElem? (i := 52) rfl, fun _ h => absurd h List.not_mem_nil⟩⟩⟩⟩⟩⟩⟩⟩⟩⟩⟩⟩⟩⟩⟩⟩⟩⟩⟩⟩⟩⟩⟩⟩), (List.forall_mem_cons.mpr ⟨List.mem_of_getElem? (i := 53) rfl, List.forall_mem_cons.mpr ⟨List.mem_of_getElem? (i := 54) rfl, List.forall_mem_cons.mpr ⟨List.mem_of_getElem? (i := 55) rfl, List.forall_mem_cons.mpr ⟨List.mem_of_getElem? (i := 56) rfl, List.forall_mem_cons.mpr ⟨List.mem_of_getElem? (i := 57) rfl, List.forall_mem_cons.mpr ⟨List.mem_of_getElem? (i := 58) rfl, fun _ h => absurd h List.not_mem_nil⟩⟩⟩⟩⟩⟩)⟩)⟩), (fun _ h => List.mem_cons_of_mem _ (List.mem_append_right _ h))⟩)⟩) (by decide +kernel)
set_option maxRecDepth 20000 in
theorem gX6_hunger_X6_firstBy : GoodIn wsX6_hunger (wsV RX6 122 RX6 yX6_firstBy wsX6_firstBy) := goodIn_app (goodIn_sub (List.forall_mem_cons.mpr ⟨List.mem_of_getElem? (i := 2) rfl, List.forall_mem_cons.mpr ⟨List.mem_of_getElem? (i := 3) rfl, List.forall_mem_cons.mpr ⟨List.mem_of_getElem? (i := 4) rfl, List.forall_mem_cons.mpr ⟨List.mem_of_getElem? (i := 5) rfl, fun _ h => absurd h List.not_mem_nil⟩⟩⟩⟩) (by decide +kernel)) ggX6_hunger_X6_firstBy
theorem dX6_hunger_0 : decode cX6_hunger 0 = .ok (.aload_n 0, 1) := by decide +kernel
theorem dX6_hunger_1 : decode cX6_hunger 1 = .ok (.iconst 4, 1) := by decide +kernel
theorem dX6_hunger_2 : decode cX6_hunger 2 = .ok (.aload_n 0, 1) := by decide +kernel
theorem dX6_hunger_3 : decode cX6_hunger 3 = .ok (.getfield 9, 3) := by decide +kernel
theorem dX6_hunger_6 : decode cX6_hunger 6 = .ok (.iconst 4, 1) := by decide +kernel
theorem dX6_hunger_7 : decode cX6_hunger 7 = .ok (.iaload, 1) := by decide +kernel
theorem dX6_hunger_8 : decode cX6_hunger 8 = .ok (.iconst 1, 1) := by decide +kernel
theorem dX6_hunger_9 : decode cX6_hunger 9 = .ok (.iadd, 1) := by decide +kernel
theorem dX6_hunger_10 : decode cX6_hunger 10 = .ok (.invokevirtual 122, 3) := by decide +kernel
theorem dX6_hunger_13 : decode cX6_hunger 13 = .ok (.ireturn, 1) := by decide +kernel
set_option maxRecDepth 20000 in
theorem ggX6_comes_X6_in1 : GoodIn wsX6_comes wsX6_in1 := goodIn_sub (List.forall_mem_cons.mpr ⟨List.mem_of_getElem? (i := 5) rfl, (fun _ h => absurd h List.not_mem_nil)⟩) (by decide +kernel)
set_option maxRecDepth 20000 in
theorem gX6_comes_X6_in1 : GoodIn wsX6_comes (va_wsS RX6 49 yX6_in1 wsX6_in1) := goodIn_app (goodIn_sub (List.forall_mem_cons.mpr ⟨List.mem_of_getElem? (i := 2) rfl, List.forall_mem_cons.mpr ⟨List.mem_of_getElem? (i := 3) rfl, List.forall_mem_cons.mpr ⟨List.mem_of_getElem? (i := 4) rfl, fun _ h => absurd h List.not_mem_nil⟩⟩⟩) (by decide +kernel)) ggX6_comes_X6_in1
set_option maxRecDepth 20000 in
theorem ggX6_comes_X6_firstBy : GoodIn wsX6_comes wsX6_firstBy := goodIn_sub (List.forall_mem_cons.mpr ⟨List.mem_of_getElem? (i := 9) rfl, (List.forall_mem_append.mpr ⟨(List.forall_mem_append.mpr ⟨(List.forall_mem_cons.mpr ⟨List.mem_of_getElem? (i := 10) rfl, List.forall_mem_cons.mpr ⟨List.mem_of_getElem? (i := 11) rfl, List.forall_mem_cons.mpr ⟨List.mem_of_getElem? (i := 12) rfl, List.forall_mem_cons.mpr ⟨List.mem_of_getElem? (i := 13) rfl, List.forall_mem_cons.mpr ⟨List.mem_of_getElem? (i := 4) rfl, List.forall_mem_cons.mpr ⟨List.mem_of_getElem? (i := 14) rfl, List.forall_mem_cons.mpr ⟨List.mem_of_getElem? (i := 15) rfl, List.forall_mem_cons.mpr ⟨List.mem_of_getElem? (i := 16) rfl, List.forall_mem_cons.mpr ⟨List.mem_of_getElem? (i := 17) rfl, List.forall_mem_cons.mpr ⟨List.mem_of_getElem? (i := 18) rfl, List.forall_mem_cons.mpr ⟨List.mem_of_getElem? (i := 19) rfl, List.forall_mem_cons.mpr ⟨List.mem_of_getElem? (i := 20) rfl, List.forall_mem_cons.mpr ⟨List.mem_of_getElem? (i := 21) rfl, List.forall_mem_cons.mpr ⟨List.mem_of_getElem? (i := 22) rfl, List.forall_mem_cons.mpr ⟨List.mem_of_getElem? (i := 23) rfl, List.forall_mem_cons.mpr ⟨List.mem_of_getElem? (i := 24) rfl, List.forall_mem_cons.mpr ⟨List.mem_of_getElem? (i := 25) rfl, List.forall_mem_cons.mpr ⟨List.mem_of_getElem? (i := 26) rfl, List.forall_mem_cons.mpr ⟨List.mem_of_getElem? (i := 27) rfl, List.forall_mem_cons.mpr ⟨List.mem_of_getElem? (i := 28) rfl, List.forall_mem_cons.mpr ⟨List.mem_of_getElem? (i := 29) rfl, List.forall_mem_cons.mpr ⟨List.mem_of_getElem? (i := 30) rfl, List.forall_mem_cons.mpr ⟨List.mem_of_getElem? (i := 31) rfl, List.forall_mem_cons.mpr ⟨List.mem_of_getElem? (i := 32) rfl, fun _ h => absurd h List.not_mem_nil⟩⟩⟩⟩⟩⟩⟩⟩⟩⟩⟩⟩⟩⟩⟩⟩⟩⟩⟩⟩⟩⟩⟩⟩), (List.forall_mem_append.mpr ⟨(List.forall_mem_cons.mpr ⟨List.mem_of_getElem? (i := 33) rfl, List.forall_mem_cons.mpr ⟨List.mem_of_getElem? (i := 34) rfl, List.forall_mem_cons.mpr ⟨List.mem_of_getElem? (i := 35) rfl, List.forall_mem_cons.mpr ⟨List.mem_of_getElem? (i := 36) rfl, List.forall_mem_cons.mpr ⟨List.mem_of_getElem? (i := 37) rfl, List.forall_mem_cons.mpr ⟨List.mem_of_getElem? (i := 38) rfl, List.forall_mem_cons.mpr ⟨List.mem_of_getElem? (i := 39) rfl, List.forall_mem_cons.mpr ⟨List.mem_of_getElem? (i := 40) rfl, List.forall_mem_cons.mpr ⟨List.mem_of_getElem? (i := 41) rfl, List.forall_mem_cons.mpr ⟨List.mem_of_getElem? (i := 42) rfl, List.forall_mem_cons.mpr ⟨List.mem_of_getElem? (i := 43) rfl, List.forall_mem_cons.mpr ⟨List.mem_of_getElem? (i := 1) rfl, List.forall_mem_cons.mpr ⟨List.mem_of_getElem? (i := 44) rfl, List.forall_mem_cons.mpr ⟨List.mem_of_getElem? (i := 45) rfl, List.forall_mem_cons.mpr ⟨List.mem_of_getElem? (i := 46) rfl, List.forall_mem_cons.mpr ⟨List.mem_of_getElem? (i := 47) rfl, List.forall_mem_cons.mpr ⟨List.mem_of_getElem? (i := 48) rfl, List.forall_mem_cons.mpr ⟨List.mem_of_getElem? (i := 49) rfl, List.forall_mem_cons.mpr ⟨List.mem_of_getElem? (i := 50) rfl, List.forall_mem_cons.mpr ⟨List.mem_of_getElem? (i := 51) rfl, List.forall_mem_cons.mpr ⟨List.mem_of_getElem? (i := 52) rfl, List.forall_mem_cons.mpr ⟨List.mem_of_getElem? (i := 53) rfl, List.forall_mem_cons.mpr ⟨List.mem_of_getElem? (i := 54) rfl, List.forall_mem_cons.mpr ⟨List.mem_of_getElem? (i := 55) rfl, fun _ h => absurd h List.not_mem_nil⟩⟩⟩⟩⟩⟩⟩⟩⟩⟩⟩⟩⟩⟩⟩⟩⟩⟩⟩⟩⟩⟩⟩⟩), (List.forall_mem_cons.mpr ⟨List.mem_of_getElem? (i := 56) rfl, List.forall_mem_cons.mpr ⟨List.mem_of_getElem? (i := 57) rfl, List.forall_mem_cons.mpr ⟨List.mem_of_getElem? (i := 58) rfl, List.forall_mem_cons.mpr ⟨List.mem_of_getElem? (i := 59) rfl, List.forall_mem_cons.mpr ⟨List.mem_of_getElem? (i := 60) rfl, List.forall_mem_cons.mpr ⟨List.mem_of_getElem? (i := 61) rfl, fun _ h => absurd h List.not_mem_nil⟩⟩⟩⟩⟩⟩)⟩)⟩), (fun _ h => List.mem_cons_of_mem _ (List.mem_append_right _ h))⟩)⟩) (by decide +kernel)
set_option maxRecDepth 20000 in
theorem gX6_comes_X6_firstBy : GoodIn wsX6_comes (wsV RX6 122 RX6 yX6_firstBy wsX6_firstBy) := goodIn_app (goodIn_sub (List.forall_mem_cons.mpr ⟨List.mem_of_getElem? (i := 6) rfl, List.forall_mem_cons.mpr ⟨List.mem_of_getElem? (i := 7) rfl, List.forall_mem_cons.mpr ⟨List.mem_of_getElem? (i := 8) rfl, List.forall_mem_cons.mpr ⟨List.mem_of_getElem? (i := 4) rfl, fun _ h => absurd h List.not_mem_nil⟩⟩⟩⟩) (by decide +kernel)) ggX6_comes_X6_firstBy
set_option maxRecDepth 20000 in
theorem ggX6_comes_X6_no : GoodIn wsX6_comes wsX6_no := goodIn_sub (List.forall_mem_cons.mpr ⟨List.mem_of_getElem? (i := 59) rfl, (List.forall_mem_append.mpr ⟨(List.forall_mem_cons.mpr ⟨List.mem_of_getElem? (i := 60) rfl, List.forall_mem_cons.mpr ⟨List.mem_of_getElem? (i := 61) rfl, fun _ h => absurd h List.not_mem_nil⟩⟩), (fun _ h => List.mem_cons_of_mem _ (List.mem_append_right _ h))⟩)⟩) (by decide +kernel)
set_option maxRecDepth 20000 in
theorem gX6_comes_X6_no : GoodIn wsX6_comes (wsV RX6 87 RX6 yX6_no wsX6_no) := goodIn_app (goodIn_sub (List.forall_mem_cons.mpr ⟨List.mem_of_getElem? (i := 56) rfl, List.forall_mem_cons.mpr ⟨List.mem_of_getElem? (i := 57) rfl, List.forall_mem_cons.mpr ⟨List.mem_of_getElem? (i := 58) rfl, List.forall_mem_cons.mpr ⟨List.mem_of_getElem? (i := 4) rfl, fun _ h => absurd h List.not_mem_nil⟩⟩⟩⟩) (by decide +kernel)) ggX6_comes_X6_no
theorem dX6_comes_0 : decode cX6_comes 0 = .ok (.iload_n 1, 1) := by decide +kernel
theorem dX6_comes_1 : decode cX6_comes 1 = .ok (.iconst 0, 1) := by decide +kernel
theorem dX6_comes_2 : decode cX6_comes 2 = .ok (.ldc 68, 2) := by decide +kernel
theorem dX6_comes_4 : decode cX6_comes 4 = .ok (.invokestatic 49, 3) := by decide +kernel
theorem dX6_comes_7 : decode cX6_comes 7 = .ok (.ifCond .eq 12, 3) := by decide +kernel
theorem dX6_comes_10 : decode cX6_comes 10 = .ok (.aload_n 0, 1) := by decide +kernel
theorem dX6_comes_11 : decode cX6_comes 11 = .ok (.iconst 3, 1) := by decide +kernel
theorem dX6_comes_12 : decode cX6_comes 12 = .ok (.iload_n 1, 1) := by decide +kernel
theorem dX6_comes_13 : decode cX6_comes 13 = .ok (.invokevirtual 122, 3) := by decide +kernel
theorem dX6_comes_16 : decode cX6_comes 16 = .ok (.goto 8, 3) := by decide +kernel
theorem dX6_comes_19 : decode cX6_comes 19 = .ok (.aload_n 0, 1) := by decide +kernel
theorem dX6_comes_20 : decode cX6_comes 20 = .ok (.iconst 0, 1) := by decide +kernel
theorem dX6_comes_21 : decode cX6_comes 21 = .ok (.invokevirtual 87, 3) := by decide +kernel
theorem dX6_comes_24 : decode cX6_comes 24 = .ok (.ireturn, 1) := by decide +kernel
set_option maxRecDepth 20000 in
theorem ggX6_watched_X6_isPerson : GoodIn wsX6_watched wsX6_isPerson := goodIn_sub (List.forall_mem_cons.mpr ⟨List.mem_of_getElem? (i := 5) rfl, (List.forall_mem_append.mpr ⟨(List.forall_mem_cons.mpr ⟨List.mem_of_getElem? (i := 6) rfl, List.forall_mem_cons.mpr ⟨List.mem_of_getElem? (i := 7) rfl, List.forall_mem_cons.mpr ⟨List.mem_of_getElem? (i := 8) rfl, List.forall_mem_cons.mpr ⟨List.mem_of_getElem? (i := 4) rfl, List.forall_mem_cons.mpr ⟨List.mem_of_getElem? (i := 9) rfl, fun _ h => absurd h List.not_mem_nil⟩⟩⟩⟩⟩), (fun _ h => List.mem_cons_of_mem _ (List.mem_append_right _ h))⟩)⟩) (by decide +kernel)
set_option maxRecDepth 20000 in
theorem gX6_watched_X6_isPerson : GoodIn wsX6_watched (wsV RX6 101 RX6 yX6_isPerson wsX6_isPerson) := goodIn_app (goodIn_sub (List.forall_mem_cons.mpr ⟨List.mem_of_getElem? (i := 1) rfl, List.forall_mem_cons.mpr ⟨List.mem_of_getElem? (i := 2) rfl, List.forall_mem_cons.mpr ⟨List.mem_of_getElem? (i := 3) rfl, List.forall_mem_cons.mpr ⟨List.mem_of_getElem? (i := 4) rfl, fun _ h => absurd h List.not_mem_nil⟩⟩⟩⟩) (by decide +kernel)) ggX6_watched_X6_isPerson
set_option maxRecDepth 20000 in
theorem ggX6_watched_X6_firstBy : GoodIn wsX6_watched wsX6_firstBy := goodIn_sub (List.forall_mem_cons.mpr ⟨List.mem_of_getElem? (i := 13) rfl, (List.forall_mem_append.mpr ⟨(List.forall_mem_append.mpr ⟨(List.forall_mem_cons.mpr ⟨List.mem_of_getElem? (i := 6) rfl, List.forall_mem_cons.mpr ⟨List.mem_of_getElem? (i := 14) rfl, List.forall_mem_cons.mpr ⟨List.mem_of_getElem? (i := 15) rfl, List.forall_mem_cons.mpr ⟨List.mem_of_getElem? (i := 16) rfl, List.forall_mem_cons.mpr ⟨List.mem_of_getElem? (i := 4) rfl, List.forall_mem_cons.mpr ⟨List.mem_of_getElem? (i := 17) rfl, List.forall_mem_cons.mpr ⟨List.mem_of_getElem? (i := 18) rfl, List.forall_mem_cons.mpr ⟨List.mem_of_getElem? (i := 19) rfl, List.forall_mem_cons.mpr ⟨List.mem_of_getElem? (i := 20) rfl, List.forall_mem_cons.mpr ⟨List.mem_of_getElem? (i := 21) rfl, List.forall_mem_cons.mpr ⟨List.mem_of_getElem? (i := 22) rfl, List.forall_mem_cons.mpr ⟨List.mem_of_getElem? (i := 23) rfl, List.forall_mem_cons.mpr ⟨List.mem_of_getElem? (i := 24) rfl, List.forall_mem_cons.mpr ⟨List.mem_of_getElem? (i := 25) rfl, List.forall_mem_cons.mpr ⟨List.mem_of_getElem? (i := 26) rfl, List.forall_mem_cons.mpr ⟨List.mem_of_getElem? (i := 27) rfl, List.forall_mem_cons.mpr ⟨List.mem_of_getElem? (i := 28) rfl, List.forall_mem_cons.mpr ⟨List.mem_of_getElem? (i := 29) rfl, List.forall_mem_cons.mpr ⟨List.mem_of_getElem? (i := 30) rfl, List.forall_mem_cons.mpr ⟨List.mem_of_getElem? (i := 31) rfl, List.forall_mem_cons.mpr ⟨List.mem_of_getElem? (i := 32) rfl, List.forall_mem_cons.mpr ⟨List.mem_of_getElem? (i := 33) rfl, List.forall_mem_cons.mpr ⟨List.mem_of_getElem? (i := 34) rfl, List.forall_mem_cons.mpr ⟨List.mem_of_getElem? (i := 35) rfl, fun _ h => absurd h List.not_mem_nil⟩⟩⟩⟩⟩⟩⟩⟩⟩⟩⟩⟩⟩⟩⟩⟩⟩⟩⟩⟩⟩⟩⟩⟩), (List.forall_mem_append.mpr ⟨(List.forall_mem_cons.mpr ⟨List.mem_of_getElem? (i := 36) rfl, List.forall_mem_cons.mpr ⟨List.mem_of_getElem? (i := 37) rfl, List.forall_mem_cons.mpr ⟨List.mem_of_getElem? (i := 38) rfl, List.forall_mem_cons.mpr ⟨List.mem_of_getElem? (i := 39) rfl, List.forall_mem_cons.mpr ⟨List.mem_of_getElem? (i := 40) rfl, List.forall_mem_cons.mpr ⟨List.mem_of_getElem? (i := 41) rfl, List.forall_mem_cons.mpr ⟨List.mem_of_getElem? (i := 42) rfl, List.forall_mem_cons.mpr ⟨List.mem_of_getElem? (i := 43) rfl, List.forall_mem_cons.mpr ⟨List.mem_of_getElem? (i := 44) rfl, List.forall_mem_cons.mpr ⟨List.mem_of_getElem? (i := 45) rfl, List.forall_mem_cons.mpr ⟨List.mem_of_getElem? (i := 46) rfl, List.forall_mem_cons.mpr ⟨List.mem_of_getElem? (i := 47) rfl, List.forall_mem_cons.mpr ⟨List.mem_of_getElem? (i := 48) rfl, List.forall_mem_cons.mpr ⟨List.mem_of_getElem? (i := 49) rfl, List.forall_mem_cons.mpr ⟨List.mem_of_getElem? (i := 50) rfl, List.forall_mem_cons.mpr ⟨List.mem_of_getElem? (i := 51) rfl, List.forall_mem_cons.mpr ⟨List.mem_of_getElem? (i := 52) rfl, List.forall_mem_cons.mpr ⟨List.mem_of_getElem? (i := 53) rfl, List.forall_mem_cons.mpr ⟨List.mem_of_getElem? (i := 54) rfl, List.forall_mem_cons.mpr ⟨List.mem_of_getElem? (i := 55) rfl, List.forall_mem_cons.mpr ⟨List.mem_of_getElem? (i := 56) rfl, List.forall_mem_cons.mpr ⟨List.mem_of_getElem? (i := 57) rfl, List.forall_mem_cons.mpr ⟨List.mem_of_getElem? (i := 58) rfl, List.forall_mem_cons.mpr ⟨List.mem_of_getElem? (i := 59) rfl, fun _ h => absurd h List.not_mem_nil⟩⟩⟩⟩⟩⟩⟩⟩⟩⟩⟩⟩⟩⟩⟩⟩⟩⟩⟩⟩⟩⟩⟩⟩), (List.forall_mem_cons.mpr ⟨List.mem_of_getElem? (i := 60) rfl, List.forall_mem_cons.mpr ⟨List.mem_of_getElem? (i := 61) rfl, List.forall_mem_cons.mpr ⟨List.mem_of_getElem? (i := 62) rfl, List.forall_mem_cons.mpr ⟨List.mem_of_getElem? (i := 63) rfl, List.forall_mem_cons.mpr ⟨List.mem_of_getElem? (i := 64) rfl, List.forall_mem_cons.mpr ⟨List.mem_of_getElem? (i := 65) rfl, fun _ h => absurd h List.not_mem_nil⟩⟩⟩⟩⟩⟩)⟩)⟩), (fun _ h => List.mem_cons_of_mem _ (List.mem_append_right _ h))⟩)⟩) (by decide +kernel)
set_option maxRecDepth 20000 in
theorem gX6_watched_X6_firstBy : GoodIn wsX6_watched (wsV RX6 122 RX6 yX6_firstBy wsX6_firstBy) := goodIn_app (goodIn_sub (List.forall_mem_cons.mpr ⟨List.mem_of_getElem? (i := 10) rfl, List.forall_mem_cons.mpr ⟨List.mem_of_getElem? (i := 11) rfl, List.forall_mem_cons.mpr ⟨List.mem_of_getElem? (i := 12) rfl, List.forall_mem_cons.mpr ⟨List.mem_of_getElem? (i := 4) rfl, fun _ h => absurd h List.not_mem_nil⟩⟩⟩⟩) (by decide +kernel)) ggX6_watched_X6_firstBy
set_option maxRecDepth 20000 in
theorem ggX6_watched_X6_no : GoodIn wsX6_watched wsX6_no := goodIn_sub (List.forall_mem_cons.mpr ⟨List.mem_of_getElem? (i := 63) rfl, (List.forall_mem_append.mpr ⟨(List.forall_mem_cons.mpr ⟨List.mem_of_getElem? (i := 64) rfl, List.forall_mem_cons.mpr ⟨List.mem_of_getElem? (i := 65) rfl, fun _ h => absurd h List.not_mem_nil⟩⟩), (fun _ h => List.mem_cons_of_mem _ (List.mem_append_right _ h))⟩)⟩) (by decide +kernel)
set_option maxRecDepth 20000 in
theorem gX6_watched_X6_no : GoodIn wsX6_watched (wsV RX6 87 RX6 yX6_no wsX6_no) := goodIn_app (goodIn_sub (List.forall_mem_cons.mpr ⟨List.mem_of_getElem? (i := 60) rfl, List.forall_mem_cons.mpr ⟨List.mem_of_getElem? (i := 61) rfl, List.forall_mem_cons.mpr ⟨List.mem_of_getElem? (i := 62) rfl, List.forall_mem_cons.mpr ⟨List.mem_of_getElem? (i := 4) rfl, fun _ h => absurd h List.not_mem_nil⟩⟩⟩⟩) (by decide +kernel)) ggX6_watched_X6_no
theorem dX6_watched_0 : decode cX6_watched 0 = .ok (.aload_n 0, 1) := by decide +kernel
theorem dX6_watched_1 : decode cX6_watched 1 = .ok (.iload_n 1, 1) := by decide +kernel
theorem dX6_watched_2 : decode cX6_watched 2 = .ok (.invokevirtual 101, 3) := by decide +kernel
theorem dX6_watched_5 : decode cX6_watched 5 = .ok (.ifCond .eq 19, 3) := by decide +kernel
theorem dX6_watched_8 : decode cX6_watched 8 = .ok (.aload_n 0, 1) := by decide +kernel
theorem dX6_watched_9 : decode cX6_watched 9 = .ok (.bipush 6, 2) := by decide +kernel
theorem dX6_watched_11 : decode cX6_watched 11 = .ok (.iconst 5, 1) := by decide +kernel
theorem dX6_watched_12 : decode cX6_watched 12 = .ok (.iload_n 1, 1) := by decide +kernel
theorem dX6_watched_13 : decode cX6_watched 13 = .ok (.imul, 1) := by decide +kernel
theorem dX6_watched_14 : decode cX6_watched 14 = .ok (.iadd, 1) := by decide +kernel
theorem dX6_watched_15 : decode cX6_watched 15 = .ok (.iconst 3, 1) := by decide +kernel
theorem dX6_watched_16 : decode cX6_watched 16 = .ok (.iadd, 1) := by decide +kernel
theorem dX6_watched_17 : decode cX6_watched 17 = .ok (.iconst 1, 1) := by decide +kernel
theorem dX6_watched_18 : decode cX6_watched 18 = .ok (.invokevirtual 122, 3) := by decide +kernel
theorem dX6_watched_21 : decode cX6_watched 21 = .ok (.goto 8, 3) := by decide +kernel
theorem dX6_watched_24 : decode cX6_watched 24 = .ok (.aload_n 0, 1) := by decide +kernel
theorem dX6_watched_25 : decode cX6_watched 25 = .ok (.iconst 0, 1) := by decide +kernel
theorem dX6_watched_26 : decode cX6_watched 26 = .ok (.invokevirtual 87, 3) := by decide +kernel
theorem dX6_watched_29 : decode cX6_watched 29 = .ok (.ireturn, 1) := by decide +kernel
set_option maxRecDepth 20000 in
theorem ggX6_isSoon_X6_in1 : GoodIn wsX6_isSoon wsX6_in1 := goodIn_sub (List.forall_mem_cons.mpr ⟨List.mem_of_getElem? (i := 4) rfl, (fun _ h => absurd h List.not_mem_nil)⟩) (by decide +kernel)
set_option maxRecDepth 20000 in
theorem gX6_isSoon_X6_in1 : GoodIn wsX6_isSoon (va_wsS RX6 49 yX6_in1 wsX6_in1) := goodIn_app (goodIn_sub (List.forall_mem_cons.mpr ⟨List.mem_of_getElem? (i := 1) rfl, List.forall_mem_cons.mpr ⟨List.mem_of_getElem? (i := 2) rfl, List.forall_mem_cons.mpr ⟨List.mem_of_getElem? (i := 3) rfl, fun _ h => absurd h List.not_mem_nil⟩⟩⟩) (by decide +kernel)) ggX6_isSoon_X6_in1
theorem dX6_isSoon_0 : decode cX6_isSoon 0 = .ok (.iload_n 0, 1) := by decide +kernel
theorem dX6_isSoon_1 : decode cX6_isSoon 1 = .ok (.iconst 1, 1) := by decide +kernel
theorem dX6_isSoon_2 : decode cX6_isSoon 2 = .ok (.bipush 60, 2) := by decide +kernel
theorem dX6_isSoon_4 : decode cX6_isSoon 4 = .ok (.invokestatic 49, 3) := by decide +kernel
theorem dX6_isSoon_7 : decode cX6_isSoon 7 = .ok (.ireturn, 1) := by decide +kernel
set_option maxRecDepth 20000 in
theorem ggX6_turns_X6_isSoon : GoodIn wsX6_turns wsX6_isSoon := goodIn_sub (List.forall_mem_cons.mpr ⟨List.mem_of_getElem? (i := 5) rfl, (List.forall_mem_cons.mpr ⟨List.mem_of_getElem? (i := 6) rfl, List.forall_mem_cons.mpr ⟨List.mem_of_getElem? (i := 7) rfl, List.forall_mem_cons.mpr ⟨List.mem_of_getElem? (i := 4) rfl, List.forall_mem_cons.mpr ⟨List.mem_of_getElem? (i := 8) rfl, fun _ h => absurd h List.not_mem_nil⟩⟩⟩⟩)⟩) (by decide +kernel)
set_option maxRecDepth 20000 in
theorem gX6_turns_X6_isSoon : GoodIn wsX6_turns (va_wsS RX6 125 yX6_isSoon wsX6_isSoon) := goodIn_app (goodIn_sub (List.forall_mem_cons.mpr ⟨List.mem_of_getElem? (i := 2) rfl, List.forall_mem_cons.mpr ⟨List.mem_of_getElem? (i := 3) rfl, List.forall_mem_cons.mpr ⟨List.mem_of_getElem? (i := 4) rfl, fun _ h => absurd h List.not_mem_nil⟩⟩⟩) (by decide +kernel)) ggX6_turns_X6_isSoon
set_option maxRecDepth 20000 in
theorem ggX6_turns_X6_no : GoodIn wsX6_turns wsX6_no := goodIn_sub (List.forall_mem_cons.mpr ⟨List.mem_of_getElem? (i := 12) rfl, (List.forall_mem_append.mpr ⟨(List.forall_mem_cons.mpr ⟨List.mem_of_getElem? (i := 13) rfl, List.forall_mem_cons.mpr ⟨List.mem_of_getElem? (i := 14) rfl, fun _ h => absurd h List.not_mem_nil⟩⟩), (fun _ h => List.mem_cons_of_mem _ (List.mem_append_right _ h))⟩)⟩) (by decide +kernel)
set_option maxRecDepth 20000 in
theorem gX6_turns_X6_no : GoodIn wsX6_turns (wsV RX6 87 RX6 yX6_no wsX6_no) := goodIn_app (goodIn_sub (List.forall_mem_cons.mpr ⟨List.mem_of_getElem? (i := 9) rfl, List.forall_mem_cons.mpr ⟨List.mem_of_getElem? (i := 10) rfl, List.forall_mem_cons.mpr ⟨List.mem_of_getElem? (i := 11) rfl, List.forall_mem_cons.mpr ⟨List.mem_of_getElem? (i := 4) rfl, fun _ h => absurd h List.not_mem_nil⟩⟩⟩⟩) (by decide +kernel)) ggX6_turns_X6_no
set_option maxRecDepth 20000 in
theorem ggX6_turns_X6_setsAside : GoodIn wsX6_turns wsX6_setsAside := goodIn_sub (List.forall_mem_cons.mpr ⟨List.mem_of_getElem? (i := 18) rfl, (List.forall_mem_append.mpr ⟨(List.forall_mem_cons.mpr ⟨List.mem_of_getElem? (i := 19) rfl, List.forall_mem_cons.mpr ⟨List.mem_of_getElem? (i := 1) rfl, fun _ h => absurd h List.not_mem_nil⟩⟩), (fun _ h => List.mem_cons_of_mem _ (List.mem_append_right _ h))⟩)⟩) (by decide +kernel)
set_option maxRecDepth 20000 in
theorem gX6_turns_X6_setsAside : GoodIn wsX6_turns (wsV RX6 116 RX6 yX6_setsAside wsX6_setsAside) := goodIn_app (goodIn_sub (List.forall_mem_cons.mpr ⟨List.mem_of_getElem? (i := 15) rfl, List.forall_mem_cons.mpr ⟨List.mem_of_getElem? (i := 16) rfl, List.forall_mem_cons.mpr ⟨List.mem_of_getElem? (i := 17) rfl, List.forall_mem_cons.mpr ⟨List.mem_of_getElem? (i := 4) rfl, fun _ h => absurd h List.not_mem_nil⟩⟩⟩⟩) (by decide +kernel)) ggX6_turns_X6_setsAside
set_option maxRecDepth 20000 in
theorem ggX6_turns_X6_thenAt : GoodIn wsX6_turns wsX6_thenAt := goodIn_sub (List.forall_mem_cons.mpr ⟨List.mem_of_getElem? (i := 23) rfl, (List.forall_mem_append.mpr ⟨(List.forall_mem_append.mpr ⟨(List.forall_mem_cons.mpr ⟨List.mem_of_getElem? (i := 1) rfl, List.forall_mem_cons.mpr ⟨List.mem_of_getElem? (i := 24) rfl, List.forall_mem_cons.mpr ⟨List.mem_of_getElem? (i := 25) rfl, List.forall_mem_cons.mpr ⟨List.mem_of_getElem? (i := 26) rfl, List.forall_mem_cons.mpr ⟨List.mem_of_getElem? (i := 4) rfl, List.forall_mem_cons.mpr ⟨List.mem_of_getElem? (i := 27) rfl, List.forall_mem_cons.mpr ⟨List.mem_of_getElem? (i := 28) rfl, List.forall_mem_cons.mpr ⟨List.mem_of_getElem? (i := 29) rfl, List.forall_mem_cons.mpr ⟨List.mem_of_getElem? (i := 30) rfl, List.forall_mem_cons.mpr ⟨List.mem_of_getElem? (i := 31) rfl, List.forall_mem_cons.mpr ⟨List.mem_of_getElem? (i := 32) rfl, List.forall_mem_cons.mpr ⟨List.mem_of_getElem? (i := 33) rfl, List.forall_mem_cons.mpr ⟨List.mem_of_getElem? (i := 34) rfl, List.forall_mem_cons.mpr ⟨List.mem_of_getElem? (i := 35) rfl, List.forall_mem_cons.mpr ⟨List.mem_of_getElem? (i := 36) rfl, List.forall_mem_cons.mpr ⟨List.mem_of_getElem? (i := 37) rfl, List.forall_mem_cons.mpr ⟨List.mem_of_getElem? (i := 38) rfl, List.forall_mem_cons.mpr ⟨List.mem_of_getElem? (i := 39) rfl, List.forall_mem_cons.mpr ⟨List.mem_of_getElem? (i := 40) rfl, List.forall_mem_cons.mpr ⟨List.mem_of_getElem? (i := 41) rfl, List.forall_mem_cons.mpr ⟨List.mem_of_getElem? (i := 42) rfl, List.forall_mem_cons.mpr ⟨List.mem_of_getElem? (i := 43) rfl, List.forall_mem_cons.mpr ⟨List.mem_of_getElem? (i := 44) rfl, List.forall_mem_cons.mpr ⟨List.mem_of_getElem? (i := 45) rfl, fun _ h => absurd h List.not_mem_nil⟩⟩⟩⟩⟩⟩⟩⟩⟩⟩⟩⟩⟩⟩⟩⟩⟩⟩⟩⟩⟩⟩⟩⟩), (List.forall_mem_cons.mpr ⟨List.mem_of_getElem? (i := 46) rfl, List.forall_mem_cons.mpr ⟨List.mem_of_getElem? (i := 47) rfl, List.forall_mem_cons.mpr ⟨List.mem_of_getElem? (i := 48) rfl, List.forall_mem_cons.mpr ⟨List.mem_of_getElem? (i := 49) rfl, List.forall_mem_cons.mpr ⟨List.mem_of_getElem? (i := 50) rfl, List.forall_mem_cons.mpr ⟨List.mem_of_getElem? (i := 51) rfl, List.forall_mem_cons.mpr ⟨List.mem_of_getElem? (i := 52) rfl, List.forall_mem_cons.mpr ⟨List.mem_of_getElem? (i := 53) rfl, List.forall_mem_cons.mpr ⟨List.mem_of_getElem? (i := 54) rfl, List.forall_mem_cons.mpr ⟨List.mem_of_getElem? (i := 55) rfl, List.forall_mem_cons.mpr ⟨List.mem_of_getElem? (i := 56) rfl, List.forall_mem_cons.mpr ⟨List.mem_of_getElem? (i := 57) rfl, List.forall_mem_cons.mpr ⟨List.mem_of_getElem? (i := 58) rfl, List.forall_mem_cons.mpr ⟨List.mem_of_getElem? (i := 59) rfl, List.forall_mem_cons.mpr ⟨List.mem_of_getElem? (i := 60) rfl, List.forall_mem_cons.mpr ⟨List.mem_of_getElem? (i := 61) rfl, List.forall_mem_cons.mpr ⟨List.mem_of_getElem? (i := 62) rfl, List.forall_mem_cons.mpr ⟨List.mem_of_getElem? (i := 63) rfl, List.forall_mem_cons.mpr ⟨List.mem_of_getElem? (i := 64) rfl, List.forall_mem_cons.mpr ⟨List.mem_of_getElem? (i := 65) rfl, List.forall_mem_cons.mpr ⟨List.mem_of_getElem? (i := 66) rfl, List.forall_mem_cons.mpr ⟨List.mem_of_getElem? (i := 67) rfl, List.forall_mem_cons.mpr ⟨List.mem_of_getElem? (i := 68) rfl, List.forall_mem_cons.mpr ⟨List.mem_of_getElem? (i := 19) rfl, fun _ h => absurd h List.not_mem_nil⟩⟩⟩⟩⟩⟩⟩⟩⟩⟩⟩⟩⟩⟩⟩⟩⟩⟩⟩⟩⟩⟩⟩⟩)⟩), (fun _ h => List.mem_cons_of_mem _ (List.mem_append_right _ h))⟩)⟩) (by decide +kernel)
set_option maxRecDepth 20000 in
theorem gX6_turns_X6_thenAt : GoodIn wsX6_turns (wsV RX6 119 RX6 yX6_thenAt wsX6_thenAt) := goodIn_app (goodIn_sub (List.forall_mem_cons.mpr ⟨List.mem_of_getElem? (i := 20) rfl, List.forall_mem_cons.mpr ⟨List.mem_of_getElem? (i := 21) rfl, List.forall_mem_cons.mpr ⟨List.mem_of_getElem? (i := 22) rfl, List.forall_mem_cons.mpr ⟨List.mem_of_getElem? (i := 4) rfl, fun _ h => absurd h List.not_mem_nil⟩⟩⟩⟩) (by decide +kernel)) ggX6_turns_X6_thenAt
set_option maxRecDepth 20000 in
theorem ggX6_turns_X6_changes : GoodIn wsX6_turns wsX6_changes := goodIn_sub (List.forall_mem_cons.mpr ⟨List.mem_of_getElem? (i := 72) rfl, (List.forall_mem_append.mpr ⟨(List.forall_mem_cons.mpr ⟨List.mem_of_getElem? (i := 39) rfl, List.forall_mem_cons.mpr ⟨List.mem_of_getElem? (i := 40) rfl, List.forall_mem_cons.mpr ⟨List.mem_of_getElem? (i := 41) rfl, List.forall_mem_cons.mpr ⟨List.mem_of_getElem? (i := 4) rfl, List.forall_mem_cons.mpr ⟨List.mem_of_getElem? (i := 42) rfl, List.forall_mem_cons.mpr ⟨List.mem_of_getElem? (i := 1) rfl, List.forall_mem_cons.mpr ⟨List.mem_of_getElem? (i := 43) rfl, List.forall_mem_cons.mpr ⟨List.mem_of_getElem? (i := 44) rfl, List.forall_mem_cons.mpr ⟨List.mem_of_getElem? (i := 45) rfl, List.forall_mem_cons.mpr ⟨List.mem_of_getElem? (i := 46) rfl, fun _ h => absurd h List.not_mem_nil⟩⟩⟩⟩⟩⟩⟩⟩⟩⟩), (fun _ h => List.mem_cons_of_mem _ (List.mem_append_right _ h))⟩)⟩) (by decide +kernel)
set_option maxRecDepth 20000 in
theorem gX6_turns_X6_changes : GoodIn wsX6_turns (wsV RX6 104 RX6 yX6_changes wsX6_changes) := goodIn_app (goodIn_sub (List.forall_mem_cons.mpr ⟨List.mem_of_getElem? (i := 69) rfl, List.forall_mem_cons.mpr ⟨List.mem_of_getElem? (i := 70) rfl, List.forall_mem_cons.mpr ⟨List.mem_of_getElem? (i := 71) rfl, List.forall_mem_cons.mpr ⟨List.mem_of_getElem? (i := 4) rfl, fun _ h => absurd h List.not_mem_nil⟩⟩⟩⟩) (by decide +kernel)) ggX6_turns_X6_changes
theorem dX6_turns_0 : decode cX6_turns 0 = .ok (.iload_n 1, 1) := by decide +kernel
theorem dX6_turns_1 : decode cX6_turns 1 = .ok (.invokestatic 125, 3) := by decide +kernel
theorem dX6_turns_4 : decode cX6_turns 4 = .ok (.ifCond .ne 9, 3) := by decide +kernel
theorem dX6_turns_7 : decode cX6_turns 7 = .ok (.aload_n 0, 1) := by decide +kernel
theorem dX6_turns_8 : decode cX6_turns 8 = .ok (.iconst 0, 1) := by decide +kernel
theorem dX6_turns_9 : decode cX6_turns 9 = .ok (.invokevirtual 87, 3) := by decide +kernel
theorem dX6_turns_12 : decode cX6_turns 12 = .ok (.ireturn, 1) := by decide +kernel
theorem dX6_turns_13 : decode cX6_turns 13 = .ok (.aload_n 0, 1) := by decide +kernel
theorem dX6_turns_14 : decode cX6_turns 14 = .ok (.invokevirtual 116, 3) := by decide +kernel
theorem dX6_turns_17 : decode cX6_turns 17 = .ok (.aload_n 0, 1) := by decide +kernel
theorem dX6_turns_18 : decode cX6_turns 18 = .ok (.iconst 3, 1) := by decide +kernel
theorem dX6_turns_19 : decode cX6_turns 19 = .ok (.iload_n 1, 1) := by decide +kernel
theorem dX6_turns_20 : decode cX6_turns 20 = .ok (.invokevirtual 119, 3) := by decide +kernel
theorem dX6_turns_23 : decode cX6_turns 23 = .ok (.istore_n 2, 1) := by decide +kernel
theorem dX6_turns_24 : decode cX6_turns 24 = .ok (.iconst (-1), 1) := by decide +kernel
theorem dX6_turns_25 : decode cX6_turns 25 = .ok (.istore_n 3, 1) := by decide +kernel
theorem dX6_turns_26 : decode cX6_turns 26 = .ok (.iconst 0, 1) := by decide +kernel
theorem dX6_turns_27 : decode cX6_turns 27 = .ok (.istore 4, 2) := by decide +kernel
theorem dX6_turns_29 : decode cX6_turns 29 = .ok (.iload 4, 2) := by decide +kernel
theorem dX6_turns_31 : decode cX6_turns 31 = .ok (.aload_n 0, 1) := by decide +kernel
theorem dX6_turns_32 : decode cX6_turns 32 = .ok (.getfield 9, 3) := by decide +kernel
theorem dX6_turns_35 : decode cX6_turns 35 = .ok (.iconst 5, 1) := by decide +kernel
theorem dX6_turns_36 : decode cX6_turns 36 = .ok (.iaload, 1) := by decide +kernel
theorem dX6_turns_37 : decode cX6_turns 37 = .ok (.if_icmp .ge 80, 3) := by decide +kernel
theorem dX6_turns_40 : decode cX6_turns 40 = .ok (.iload 4, 2) := by decide +kernel
theorem dX6_turns_42 : decode cX6_turns 42 = .ok (.iconst 1, 1) := by decide +kernel
theorem dX6_turns_43 : decode cX6_turns 43 = .ok (.iadd, 1) := by decide +kernel
theorem dX6_turns_44 : decode cX6_turns 44 = .ok (.istore 5, 2) := by decide +kernel
theorem dX6_turns_46 : decode cX6_turns 46 = .ok (.iload 5, 2) := by decide +kernel
theorem dX6_turns_48 : decode cX6_turns 48 = .ok (.aload_n 0, 1) := by decide +kernel
theorem dX6_turns_49 : decode cX6_turns 49 = .ok (.getfield 9, 3) := by decide +kernel
theorem dX6_turns_52 : decode cX6_turns 52 = .ok (.iconst 5, 1) := by decide +kernel
theorem dX6_turns_53 : decode cX6_turns 53 = .ok (.iaload, 1) := by decide +kernel
theorem dX6_turns_54 : decode cX6_turns 54 = .ok (.if_icmp .ge 57, 3) := by decide +kernel
theorem dX6_turns_57 : decode cX6_turns 57 = .ok (.aload_n 0, 1) := by decide +kernel
theorem dX6_turns_58 : decode cX6_turns 58 = .ok (.iload 4, 2) := by decide +kernel
theorem dX6_turns_60 : decode cX6_turns 60 = .ok (.iload 5, 2) := by decide +kernel
theorem dX6_turns_62 : decode cX6_turns 62 = .ok (.invokevirtual 104, 3) := by decide +kernel
theorem dX6_turns_65 : decode cX6_turns 65 = .ok (.aload_n 0, 1) := by decide +kernel
theorem dX6_turns_66 : decode cX6_turns 66 = .ok (.iconst 3, 1) := by decide +kernel
theorem dX6_turns_67 : decode cX6_turns 67 = .ok (.iload_n 1, 1) := by decide +kernel
theorem dX6_turns_68 : decode cX6_turns 68 = .ok (.invokevirtual 119, 3) := by decide +kernel
theorem dX6_turns_71 : decode cX6_turns 71 = .ok (.istore 6, 2) := by decide +kernel
theorem dX6_turns_73 : decode cX6_turns 73 = .ok (.iload 6, 2) := by decide +kernel
theorem dX6_turns_75 : decode cX6_turns 75 = .ok (.iload_n 2, 1) := by decide +kernel
theorem dX6_turns_76 : decode cX6_turns 76 = .ok (.if_icmp .le 14, 3) := by decide +kernel
theorem dX6_turns_79 : decode cX6_turns 79 = .ok (.bipush 10, 2) := by decide +kernel
theorem dX6_turns_81 : decode cX6_turns 81 = .ok (.iload 4, 2) := by decide +kernel
theorem dX6_turns_83 : decode cX6_turns 83 = .ok (.imul, 1) := by decide +kernel
theorem dX6_turns_84 : decode cX6_turns 84 = .ok (.iload 5, 2) := by decide +kernel
theorem dX6_turns_86 : decode cX6_turns 86 = .ok (.iadd, 1) := by decide +kernel
theorem dX6_turns_87 : decode cX6_turns 87 = .ok (.goto 4, 3) := by decide +kernel
theorem dX6_turns_90 : decode cX6_turns 90 = .ok (.iload_n 3, 1) := by decide +kernel
theorem dX6_turns_91 : decode cX6_turns 91 = .ok (.istore_n 3, 1) := by decide +kernel
theorem dX6_turns_92 : decode cX6_turns 92 = .ok (.iload 6, 2) := by decide +kernel
theorem dX6_turns_94 : decode cX6_turns 94 = .ok (.iload_n 2, 1) := by decide +kernel
theorem dX6_turns_95 : decode cX6_turns 95 = .ok (.if_icmp .le 8, 3) := by decide +kernel
theorem dX6_turns_98 : decode cX6_turns 98 = .ok (.iload 6, 2) := by decide +kernel
theorem dX6_turns_100 : decode cX6_turns 100 = .ok (.goto 4, 3) := by decide +kernel
theorem dX6_turns_103 : decode cX6_turns 103 = .ok (.iload_n 2, 1) := by decide +kernel
theorem dX6_turns_104 : decode cX6_turns 104 = .ok (.istore_n 2, 1) := by decide +kernel
theorem dX6_turns_105 : decode cX6_turns 105 = .ok (.iinc 5 1, 3) := by decide +kernel
theorem dX6_turns_108 : decode cX6_turns 108 = .ok (.goto (-62), 3) := by decide +kernel
theorem dX6_turns_111 : decode cX6_turns 111 = .ok (.iinc 4 1, 3) := by decide +kernel
theorem dX6_turns_114 : decode cX6_turns 114 = .ok (.goto (-85), 3) := by decide +kernel
theorem dX6_turns_117 : decode cX6_turns 117 = .ok (.iload_n 3, 1) := by decide +kernel
theorem dX6_turns_118 : decode cX6_turns 118 = .ok (.ifCond .ge 11, 3) := by decide +kernel
theorem dX6_turns_121 : decode cX6_turns 121 = .ok (.aload_n 0, 1) := by decide +kernel
theorem dX6_turns_122 : decode cX6_turns 122 = .ok (.iconst 3, 1) := by decide +kernel
theorem dX6_turns_123 : decode cX6_turns 123 = .ok (.invokevirtual 87, 3) := by decide +kernel
theorem dX6_turns_126 : decode cX6_turns 126 = .ok (.goto 4, 3) := by decide +kernel
theorem dX6_turns_129 : decode cX6_turns 129 = .ok (.iload_n 3, 1) := by decide +kernel
theorem dX6_turns_130 : decode cX6_turns 130 = .ok (.ireturn, 1) := by decide +kernel
set_option maxRecDepth 20000 in
theorem ggX6_reason_X6_isPerson : GoodIn wsX6_reason wsX6_isPerson := goodIn_sub (List.forall_mem_cons.mpr ⟨List.mem_of_getElem? (i := 6) rfl, (List.forall_mem_append.mpr ⟨(List.forall_mem_cons.mpr ⟨List.mem_of_getElem? (i := 7) rfl, List.forall_mem_cons.mpr ⟨List.mem_of_getElem? (i := 8) rfl, List.forall_mem_cons.mpr ⟨List.mem_of_getElem? (i := 9) rfl, List.forall_mem_cons.mpr ⟨List.mem_of_getElem? (i := 5) rfl, List.forall_mem_cons.mpr ⟨List.mem_of_getElem? (i := 10) rfl, fun _ h => absurd h List.not_mem_nil⟩⟩⟩⟩⟩), (fun _ h => List.mem_cons_of_mem _ (List.mem_append_right _ h))⟩)⟩) (by decide +kernel)
set_option maxRecDepth 20000 in
theorem gX6_reason_X6_isPerson : GoodIn wsX6_reason (wsV RX6 101 RX6 yX6_isPerson wsX6_isPerson) := goodIn_app (goodIn_sub (List.forall_mem_cons.mpr ⟨List.mem_of_getElem? (i := 2) rfl, List.forall_mem_cons.mpr ⟨List.mem_of_getElem? (i := 3) rfl, List.forall_mem_cons.mpr ⟨List.mem_of_getElem? (i := 4) rfl, List.forall_mem_cons.mpr ⟨List.mem_of_getElem? (i := 5) rfl, fun _ h => absurd h List.not_mem_nil⟩⟩⟩⟩) (by decide +kernel)) ggX6_reason_X6_isPerson
set_option maxRecDepth 20000 in
theorem ggX6_reason_X6_isSoon : GoodIn wsX6_reason wsX6_isSoon := goodIn_sub (List.forall_mem_cons.mpr ⟨List.mem_of_getElem? (i := 13) rfl, (List.forall_mem_cons.mpr ⟨List.mem_of_getElem? (i := 8) rfl, List.forall_mem_cons.mpr ⟨List.mem_of_getElem? (i := 9) rfl, List.forall_mem_cons.mpr ⟨List.mem_of_getElem? (i := 5) rfl, List.forall_mem_cons.mpr ⟨List.mem_of_getElem? (i := 10) rfl, fun _ h => absurd h List.not_mem_nil⟩⟩⟩⟩)⟩) (by decide +kernel)
set_option maxRecDepth 20000 in
theorem gX6_reason_X6_isSoon : GoodIn wsX6_reason (va_wsS RX6 125 yX6_isSoon wsX6_isSoon) := goodIn_app (goodIn_sub (List.forall_mem_cons.mpr ⟨List.mem_of_getElem? (i := 11) rfl, List.forall_mem_cons.mpr ⟨List.mem_of_getElem? (i := 12) rfl, List.forall_mem_cons.mpr ⟨List.mem_of_getElem? (i := 5) rfl, fun _ h => absurd h List.not_mem_nil⟩⟩⟩) (by decide +kernel)) ggX6_reason_X6_isSoon
set_option maxRecDepth 20000 in
theorem ggX6_reason_X6_in1 : GoodIn wsX6_reason wsX6_in1 := goodIn_sub (List.forall_mem_cons.mpr ⟨List.mem_of_getElem? (i := 10) rfl, (fun _ h => absurd h List.not_mem_nil)⟩) (by decide +kernel)
set_option maxRecDepth 20000 in
theorem gX6_reason_X6_in1 : GoodIn wsX6_reason (va_wsS RX6 49 yX6_in1 wsX6_in1) := goodIn_app (goodIn_sub (List.forall_mem_cons.mpr ⟨List.mem_of_getElem? (i := 8) rfl, List.forall_mem_cons.mpr ⟨List.mem_of_getElem? (i := 9) rfl, List.forall_mem_cons.mpr ⟨List.mem_of_getElem? (i := 5) rfl, fun _ h => absurd h List.not_mem_nil⟩⟩⟩) (by decide +kernel)) ggX6_reason_X6_in1
set_option maxRecDepth 20000 in
theorem ggX6_reason_X6_no : GoodIn wsX6_reason wsX6_no := goodIn_sub (List.forall_mem_cons.mpr ⟨List.mem_of_getElem? (i := 17) rfl, (List.forall_mem_append.mpr ⟨(List.forall_mem_cons.mpr ⟨List.mem_of_getElem? (i := 18) rfl, List.forall_mem_cons.mpr ⟨List.mem_of_getElem? (i := 19) rfl, fun _ h => absurd h List.not_mem_nil⟩⟩), (fun _ h => List.mem_cons_of_mem _ (List.mem_append_right _ h))⟩)⟩) (by decide +kernel)
set_option maxRecDepth 20000 in
theorem gX6_reason_X6_no : GoodIn wsX6_reason (wsV RX6 87 RX6 yX6_no wsX6_no) := goodIn_app (goodIn_sub (List.forall_mem_cons.mpr ⟨List.mem_of_getElem? (i := 14) rfl, List.forall_mem_cons.mpr ⟨List.mem_of_getElem? (i := 15) rfl, List.forall_mem_cons.mpr ⟨List.mem_of_getElem? (i := 16) rfl, List.forall_mem_cons.mpr ⟨List.mem_of_getElem? (i := 5) rfl, fun _ h => absurd h List.not_mem_nil⟩⟩⟩⟩) (by decide +kernel)) ggX6_reason_X6_no
set_option maxRecDepth 20000 in
theorem ggX6_reason_X6_setsAside : GoodIn wsX6_reason wsX6_setsAside := goodIn_sub (List.forall_mem_cons.mpr ⟨List.mem_of_getElem? (i := 23) rfl, (List.forall_mem_append.mpr ⟨(List.forall_mem_cons.mpr ⟨List.mem_of_getElem? (i := 24) rfl, List.forall_mem_cons.mpr ⟨List.mem_of_getElem? (i := 7) rfl, fun _ h => absurd h List.not_mem_nil⟩⟩), (fun _ h => List.mem_cons_of_mem _ (List.mem_append_right _ h))⟩)⟩) (by decide +kernel)
set_option maxRecDepth 20000 in
theorem gX6_reason_X6_setsAside : GoodIn wsX6_reason (wsV RX6 116 RX6 yX6_setsAside wsX6_setsAside) := goodIn_app (goodIn_sub (List.forall_mem_cons.mpr ⟨List.mem_of_getElem? (i := 20) rfl, List.forall_mem_cons.mpr ⟨List.mem_of_getElem? (i := 21) rfl, List.forall_mem_cons.mpr ⟨List.mem_of_getElem? (i := 22) rfl, List.forall_mem_cons.mpr ⟨List.mem_of_getElem? (i := 5) rfl, fun _ h => absurd h List.not_mem_nil⟩⟩⟩⟩) (by decide +kernel)) ggX6_reason_X6_setsAside
set_option maxRecDepth 20000 in
theorem ggX6_reason_X6_puts : GoodIn wsX6_reason wsX6_puts := goodIn_sub (List.forall_mem_cons.mpr ⟨List.mem_of_getElem? (i := 28) rfl, (List.forall_mem_append.mpr ⟨(List.forall_mem_cons.mpr ⟨List.mem_of_getElem? (i := 7) rfl, fun _ h => absurd h List.not_mem_nil⟩), (fun _ h => List.mem_cons_of_mem _ (List.mem_append_right _ h))⟩)⟩) (by decide +kernel)
set_option maxRecDepth 20000 in
theorem gX6_reason_X6_puts : GoodIn wsX6_reason (wsV RX6 64 RX6 yX6_puts wsX6_puts) := goodIn_app (goodIn_sub (List.forall_mem_cons.mpr ⟨List.mem_of_getElem? (i := 25) rfl, List.forall_mem_cons.mpr ⟨List.mem_of_getElem? (i := 26) rfl, List.forall_mem_cons.mpr ⟨List.mem_of_getElem? (i := 27) rfl, List.forall_mem_cons.mpr ⟨List.mem_of_getElem? (i := 5) rfl, fun _ h => absurd h List.not_mem_nil⟩⟩⟩⟩) (by decide +kernel)) ggX6_reason_X6_puts
set_option maxRecDepth 20000 in
theorem ggX6_reason_X6_thenAt : GoodIn wsX6_reason wsX6_thenAt := goodIn_sub (List.forall_mem_cons.mpr ⟨List.mem_of_getElem? (i := 32) rfl, (List.forall_mem_append.mpr ⟨(List.forall_mem_append.mpr ⟨(List.forall_mem_cons.mpr ⟨List.mem_of_getElem? (i := 7) rfl, List.forall_mem_cons.mpr ⟨List.mem_of_getElem? (i := 33) rfl, List.forall_mem_cons.mpr ⟨List.mem_of_getElem? (i := 34) rfl, List.forall_mem_cons.mpr ⟨List.mem_of_getElem? (i := 35) rfl, List.forall_mem_cons.mpr ⟨List.mem_of_getElem? (i := 5) rfl, List.forall_mem_cons.mpr ⟨List.mem_of_getElem? (i := 36) rfl, List.forall_mem_cons.mpr ⟨List.mem_of_getElem? (i := 37) rfl, List.forall_mem_cons.mpr ⟨List.mem_of_getElem? (i := 38) rfl, List.forall_mem_cons.mpr ⟨List.mem_of_getElem? (i := 39) rfl, List.forall_mem_cons.mpr ⟨List.mem_of_getElem? (i := 40) rfl, List.forall_mem_cons.mpr ⟨List.mem_of_getElem? (i := 41) rfl, List.forall_mem_cons.mpr ⟨List.mem_of_getElem? (i := 42) rfl, List.forall_mem_cons.mpr ⟨List.mem_of_getElem? (i := 43) rfl, List.forall_mem_cons.mpr ⟨List.mem_of_getElem? (i := 44) rfl, List.forall_mem_cons.mpr ⟨List.mem_of_getElem? (i := 45) rfl, List.forall_mem_cons.mpr ⟨List.mem_of_getElem? (i := 46) rfl, List.forall_mem_cons.mpr ⟨List.mem_of_getElem? (i := 47) rfl, List.forall_mem_cons.mpr ⟨List.mem_of_getElem? (i := 48) rfl, List.forall_mem_cons.mpr ⟨List.mem_of_getElem? (i := 49) rfl, List.forall_mem_cons.mpr ⟨List.mem_of_getElem? (i := 50) rfl, List.forall_mem_cons.mpr ⟨List.mem_of_getElem? (i := 51) rfl, List.forall_mem_cons.mpr ⟨List.mem_of_getElem? (i := 25) rfl, List.forall_mem_cons.mpr ⟨List.mem_of_getElem? (i := 26) rfl, List.forall_mem_cons.mpr ⟨List.mem_of_getElem? (i := 27) rfl, fun _ h => absurd h List.not_mem_nil⟩⟩⟩⟩⟩⟩⟩⟩⟩⟩⟩⟩⟩⟩⟩⟩⟩⟩⟩⟩⟩⟩⟩⟩), (List.forall_mem_cons.mpr ⟨List.mem_of_getElem? (i := 28) rfl, List.forall_mem_cons.mpr ⟨List.mem_of_getElem? (i := 52) rfl, List.forall_mem_cons.mpr ⟨List.mem_of_getElem? (i := 53) rfl, List.forall_mem_cons.mpr ⟨List.mem_of_getElem? (i := 54) rfl, List.forall_mem_cons.mpr ⟨List.mem_of_getElem? (i := 55) rfl, List.forall_mem_cons.mpr ⟨List.mem_of_getElem? (i := 56) rfl, List.forall_mem_cons.mpr ⟨List.mem_of_getElem? (i := 57) rfl, List.forall_mem_cons.mpr ⟨List.mem_of_getElem? (i := 58) rfl, List.forall_mem_cons.mpr ⟨List.mem_of_getElem? (i := 59) rfl, List.forall_mem_cons.mpr ⟨List.mem_of_getElem? (i := 60) rfl, List.forall_mem_cons.mpr ⟨List.mem_of_getElem? (i := 1) rfl, List.forall_mem_cons.mpr ⟨List.mem_of_getElem? (i := 61) rfl, List.forall_mem_cons.mpr ⟨List.mem_of_getElem? (i := 62) rfl, List.forall_mem_cons.mpr ⟨List.mem_of_getElem? (i := 63) rfl, List.forall_mem_cons.mpr ⟨List.mem_of_getElem? (i := 64) rfl, List.forall_mem_cons.mpr ⟨List.mem_of_getElem? (i := 65) rfl, List.forall_mem_cons.mpr ⟨List.mem_of_getElem? (i := 66) rfl, List.forall_mem_cons.mpr ⟨List.mem_of_getElem? (i := 67) rfl, List.forall_mem_cons.mpr ⟨List.mem_of_getElem? (i := 68) rfl, List.forall_mem_cons.mpr ⟨List.mem_of_getElem? (i := 69) rfl, List.forall_mem_cons.mpr ⟨List.mem_of_getElem? (i := 70) rfl, List.forall_mem_cons.mpr ⟨List.mem_of_getElem? (i := 71) rfl, List.forall_mem_cons.mpr ⟨List.mem_of_getElem? (i := 72) rfl, List.forall_mem_cons.mpr ⟨List.mem_of_getElem? (i := 24) rfl, fun _ h => absurd h List.not_mem_nil⟩⟩⟩⟩⟩⟩⟩⟩⟩⟩⟩⟩⟩⟩⟩⟩⟩⟩⟩⟩⟩⟩⟩⟩)⟩), (fun _ h => List.mem_cons_of_mem _ (List.mem_append_right _ h))⟩)⟩) (by decide +kernel)
set_option maxRecDepth 20000 in
theorem gX6_reason_X6_thenAt : GoodIn wsX6_reason (wsV RX6 119 RX6 yX6_thenAt wsX6_thenAt) := goodIn_app (goodIn_sub (List.forall_mem_cons.mpr ⟨List.mem_of_getElem? (i := 29) rfl, List.forall_mem_cons.mpr ⟨List.mem_of_getElem? (i := 30) rfl, List.forall_mem_cons.mpr ⟨List.mem_of_getElem? (i := 31) rfl, List.forall_mem_cons.mpr ⟨List.mem_of_getElem? (i := 5) rfl, fun _ h => absurd h List.not_mem_nil⟩⟩⟩⟩) (by decide +kernel)) ggX6_reason_X6_thenAt
theorem dX6_reason_0 : decode cX6_reason 0 = .ok (.aload_n 0, 1) := by decide +kernel
theorem dX6_reason_1 : decode cX6_reason 1 = .ok (.iload_n 1, 1) := by decide +kernel
theorem dX6_reason_2 : decode cX6_reason 2 = .ok (.invokevirtual 101, 3) := by decide +kernel
theorem dX6_reason_5 : decode cX6_reason 5 = .ok (.ifCond .eq 20, 3) := by decide +kernel
theorem dX6_reason_8 : decode cX6_reason 8 = .ok (.iload_n 2, 1) := by decide +kernel
theorem dX6_reason_9 : decode cX6_reason 9 = .ok (.invokestatic 125, 3) := by decide +kernel
theorem dX6_reason_12 : decode cX6_reason 12 = .ok (.ifCond .eq 13, 3) := by decide +kernel
theorem dX6_reason_15 : decode cX6_reason 15 = .ok (.iload_n 3, 1) := by decide +kernel
theorem dX6_reason_16 : decode cX6_reason 16 = .ok (.iconst 0, 1) := by decide +kernel
theorem dX6_reason_17 : decode cX6_reason 17 = .ok (.ldc 68, 2) := by decide +kernel
theorem dX6_reason_19 : decode cX6_reason 19 = .ok (.invokestatic 49, 3) := by decide +kernel
theorem dX6_reason_22 : decode cX6_reason 22 = .ok (.ifCond .ne 9, 3) := by decide +kernel
theorem dX6_reason_25 : decode cX6_reason 25 = .ok (.aload_n 0, 1) := by decide +kernel
theorem dX6_reason_26 : decode cX6_reason 26 = .ok (.iconst 0, 1) := by decide +kernel
theorem dX6_reason_27 : decode cX6_reason 27 = .ok (.invokevirtual 87, 3) := by decide +kernel
theorem dX6_reason_30 : decode cX6_reason 30 = .ok (.ireturn, 1) := by decide +kernel
theorem dX6_reason_31 : decode cX6_reason 31 = .ok (.aload_n 0, 1) := by decide +kernel
theorem dX6_reason_32 : decode cX6_reason 32 = .ok (.invokevirtual 116, 3) := by decide +kernel
theorem dX6_reason_35 : decode cX6_reason 35 = .ok (.iconst 0, 1) := by decide +kernel
theorem dX6_reason_36 : decode cX6_reason 36 = .ok (.istore 4, 2) := by decide +kernel
theorem dX6_reason_38 : decode cX6_reason 38 = .ok (.iload 4, 2) := by decide +kernel
theorem dX6_reason_40 : decode cX6_reason 40 = .ok (.bipush 100, 2) := by decide +kernel
theorem dX6_reason_42 : decode cX6_reason 42 = .ok (.if_icmp .ge 30, 3) := by decide +kernel
theorem dX6_reason_45 : decode cX6_reason 45 = .ok (.aload_n 0, 1) := by decide +kernel
theorem dX6_reason_46 : decode cX6_reason 46 = .ok (.iload_n 1, 1) := by decide +kernel
theorem dX6_reason_47 : decode cX6_reason 47 = .ok (.iconst 2, 1) := by decide +kernel
theorem dX6_reason_48 : decode cX6_reason 48 = .ok (.iload 4, 2) := by decide +kernel
theorem dX6_reason_50 : decode cX6_reason 50 = .ok (.invokevirtual 64, 3) := by decide +kernel
theorem dX6_reason_53 : decode cX6_reason 53 = .ok (.aload_n 0, 1) := by decide +kernel
theorem dX6_reason_54 : decode cX6_reason 54 = .ok (.iconst 3, 1) := by decide +kernel
theorem dX6_reason_55 : decode cX6_reason 55 = .ok (.iload_n 2, 1) := by decide +kernel
theorem dX6_reason_56 : decode cX6_reason 56 = .ok (.invokevirtual 119, 3) := by decide +kernel
theorem dX6_reason_59 : decode cX6_reason 59 = .ok (.iload_n 3, 1) := by decide +kernel
theorem dX6_reason_60 : decode cX6_reason 60 = .ok (.if_icmp .lt 6, 3) := by decide +kernel
theorem dX6_reason_63 : decode cX6_reason 63 = .ok (.iload 4, 2) := by decide +kernel
theorem dX6_reason_65 : decode cX6_reason 65 = .ok (.ireturn, 1) := by decide +kernel
theorem dX6_reason_66 : decode cX6_reason 66 = .ok (.iinc 4 1, 3) := by decide +kernel
theorem dX6_reason_69 : decode cX6_reason 69 = .ok (.goto (-31), 3) := by decide +kernel
theorem dX6_reason_72 : decode cX6_reason 72 = .ok (.aload_n 0, 1) := by decide +kernel
theorem dX6_reason_73 : decode cX6_reason 73 = .ok (.iconst 3, 1) := by decide +kernel
theorem dX6_reason_74 : decode cX6_reason 74 = .ok (.invokevirtual 87, 3) := by decide +kernel
theorem dX6_reason_77 : decode cX6_reason 77 = .ok (.ireturn, 1) := by decide +kernel
set_option maxRecDepth 20000 in
theorem ggX6_enough_X6_isSoon : GoodIn wsX6_enough wsX6_isSoon := goodIn_sub (List.forall_mem_cons.mpr ⟨List.mem_of_getElem? (i := 5) rfl, (List.forall_mem_cons.mpr ⟨List.mem_of_getElem? (i := 6) rfl, List.forall_mem_cons.mpr ⟨List.mem_of_getElem? (i := 7) rfl, List.forall_mem_cons.mpr ⟨List.mem_of_getElem? (i := 4) rfl, List.forall_mem_cons.mpr ⟨List.mem_of_getElem? (i := 8) rfl, fun _ h => absurd h List.not_mem_nil⟩⟩⟩⟩)⟩) (by decide +kernel)
set_option maxRecDepth 20000 in
theorem gX6_enough_X6_isSoon : GoodIn wsX6_enough (va_wsS RX6 125 yX6_isSoon wsX6_isSoon) := goodIn_app (goodIn_sub (List.forall_mem_cons.mpr ⟨List.mem_of_getElem? (i := 2) rfl, List.forall_mem_cons.mpr ⟨List.mem_of_getElem? (i := 3) rfl, List.forall_mem_cons.mpr ⟨List.mem_of_getElem? (i := 4) rfl, fun _ h => absurd h List.not_mem_nil⟩⟩⟩) (by decide +kernel)) ggX6_enough_X6_isSoon
set_option maxRecDepth 20000 in
theorem ggX6_enough_X6_no : GoodIn wsX6_enough wsX6_no := goodIn_sub (List.forall_mem_cons.mpr ⟨List.mem_of_getElem? (i := 12) rfl, (List.forall_mem_append.mpr ⟨(List.forall_mem_cons.mpr ⟨List.mem_of_getElem? (i := 13) rfl, List.forall_mem_cons.mpr ⟨List.mem_of_getElem? (i := 14) rfl, fun _ h => absurd h List.not_mem_nil⟩⟩), (fun _ h => List.mem_cons_of_mem _ (List.mem_append_right _ h))⟩)⟩) (by decide +kernel)
set_option maxRecDepth 20000 in
theorem gX6_enough_X6_no : GoodIn wsX6_enough (wsV RX6 87 RX6 yX6_no wsX6_no) := goodIn_app (goodIn_sub (List.forall_mem_cons.mpr ⟨List.mem_of_getElem? (i := 9) rfl, List.forall_mem_cons.mpr ⟨List.mem_of_getElem? (i := 10) rfl, List.forall_mem_cons.mpr ⟨List.mem_of_getElem? (i := 11) rfl, List.forall_mem_cons.mpr ⟨List.mem_of_getElem? (i := 4) rfl, fun _ h => absurd h List.not_mem_nil⟩⟩⟩⟩) (by decide +kernel)) ggX6_enough_X6_no
set_option maxRecDepth 20000 in
theorem ggX6_enough_X6_setsAside : GoodIn wsX6_enough wsX6_setsAside := goodIn_sub (List.forall_mem_cons.mpr ⟨List.mem_of_getElem? (i := 18) rfl, (List.forall_mem_append.mpr ⟨(List.forall_mem_cons.mpr ⟨List.mem_of_getElem? (i := 19) rfl, List.forall_mem_cons.mpr ⟨List.mem_of_getElem? (i := 1) rfl, fun _ h => absurd h List.not_mem_nil⟩⟩), (fun _ h => List.mem_cons_of_mem _ (List.mem_append_right _ h))⟩)⟩) (by decide +kernel)
set_option maxRecDepth 20000 in
theorem gX6_enough_X6_setsAside : GoodIn wsX6_enough (wsV RX6 116 RX6 yX6_setsAside wsX6_setsAside) := goodIn_app (goodIn_sub (List.forall_mem_cons.mpr ⟨List.mem_of_getElem? (i := 15) rfl, List.forall_mem_cons.mpr ⟨List.mem_of_getElem? (i := 16) rfl, List.forall_mem_cons.mpr ⟨List.mem_of_getElem? (i := 17) rfl, List.forall_mem_cons.mpr ⟨List.mem_of_getElem? (i := 4) rfl, fun _ h => absurd h List.not_mem_nil⟩⟩⟩⟩) (by decide +kernel)) ggX6_enough_X6_setsAside
set_option maxRecDepth 20000 in
theorem ggX6_enough_X6_thenAt : GoodIn wsX6_enough wsX6_thenAt := goodIn_sub (List.forall_mem_cons.mpr ⟨List.mem_of_getElem? (i := 23) rfl, (List.forall_mem_append.mpr ⟨(List.forall_mem_append.mpr ⟨(List.forall_mem_cons.mpr ⟨List.mem_of_getElem? (i := 1) rfl, List.forall_mem_cons.mpr ⟨List.mem_of_getElem? (i := 24) rfl, List.forall_mem_cons.mpr ⟨List.mem_of_getElem? (i := 25) rfl, List.forall_mem_cons.mpr ⟨List.mem_of_getElem? (i := 26) rfl, List.forall_mem_cons.mpr ⟨List.mem_of_getElem? (i := 4) rfl, List.forall_mem_cons.mpr ⟨List.mem_of_getElem? (i := 27) rfl, List.forall_mem_cons.mpr ⟨List.mem_of_getElem? (i := 28) rfl, List.forall_mem_cons.mpr ⟨List.mem_of_getElem? (i := 29) rfl, List.forall_mem_cons.mpr ⟨List.mem_of_getElem? (i := 30) rfl, List.forall_mem_cons.mpr ⟨List.mem_of_getElem? (i := 31) rfl, List.forall_mem_cons.mpr ⟨List.mem_of_getElem? (i := 32) rfl, List.forall_mem_cons.mpr ⟨List.mem_of_getElem? (i := 33) rfl, List.forall_mem_cons.mpr ⟨List.mem_of_getElem? (i := 34) rfl, List.forall_mem_cons.mpr ⟨List.mem_of_getElem? (i := 35) rfl, List.forall_mem_cons.mpr ⟨List.mem_of_getElem? (i := 36) rfl, List.forall_mem_cons.mpr ⟨List.mem_of_getElem? (i := 37) rfl, List.forall_mem_cons.mpr ⟨List.mem_of_getElem? (i := 38) rfl, List.forall_mem_cons.mpr ⟨List.mem_of_getElem? (i := 39) rfl, List.forall_mem_cons.mpr ⟨List.mem_of_getElem? (i := 40) rfl, List.forall_mem_cons.mpr ⟨List.mem_of_getElem? (i := 41) rfl, List.forall_mem_cons.mpr ⟨List.mem_of_getElem? (i := 42) rfl, List.forall_mem_cons.mpr ⟨List.mem_of_getElem? (i := 43) rfl, List.forall_mem_cons.mpr ⟨List.mem_of_getElem? (i := 44) rfl, List.forall_mem_cons.mpr ⟨List.mem_of_getElem? (i := 45) rfl, fun _ h => absurd h List.not_mem_nil⟩⟩⟩⟩⟩⟩⟩⟩⟩⟩⟩⟩⟩⟩⟩⟩⟩⟩⟩⟩⟩⟩⟩⟩), (List.forall_mem_cons.mpr ⟨List.mem_of_getElem? (i := 46) rfl, List.forall_mem_cons.mpr ⟨List.mem_of_getElem? (i := 47) rfl, List.forall_mem_cons.mpr ⟨List.mem_of_getElem? (i := 48) rfl, List.forall_mem_cons.mpr ⟨List.mem_of_getElem? (i := 49) rfl, List.forall_mem_cons.mpr ⟨List.mem_of_getElem? (i := 50) rfl, List.forall_mem_cons.mpr ⟨List.mem_of_getElem? (i := 51) rfl, List.forall_mem_cons.mpr ⟨List.mem_of_getElem? (i := 52) rfl, List.forall_mem_cons.mpr ⟨List.mem_of_getElem? (i := 53) rfl, List.forall_mem_cons.mpr ⟨List.mem_of_getElem? (i := 54) rfl, List.forall_mem_cons.mpr ⟨List.mem_of_getElem? (i := 55) rfl, List.forall_mem_cons.mpr ⟨List.mem_of_getElem? (i := 56) rfl, List.forall_mem_cons.mpr ⟨List.mem_of_getElem? (i := 57) rfl, List.forall_mem_cons.mpr ⟨List.mem_of_getElem? (i := 58) rfl, List.forall_mem_cons.mpr ⟨List.mem_of_getElem? (i := 59) rfl, List.forall_mem_cons.mpr ⟨List.mem_of_getElem? (i := 60) rfl, List.forall_mem_cons.mpr ⟨List.mem_of_getElem? (i := 61) rfl, List.forall_mem_cons.mpr ⟨List.mem_of_getElem? (i := 62) rfl, List.forall_mem_cons.mpr ⟨List.mem_of_getElem? (i := 63) rfl, List.forall_mem_cons.mpr ⟨List.mem_of_getElem? (i := 64) rfl, List.forall_mem_cons.mpr ⟨List.mem_of_getElem? (i := 65) rfl, List.forall_mem_cons.mpr ⟨List.mem_of_getElem? (i := 66) rfl, List.forall_mem_cons.mpr ⟨List.mem_of_getElem? (i := 67) rfl, List.forall_mem_cons.mpr ⟨List.mem_of_getElem? (i := 68) rfl, List.forall_mem_cons.mpr ⟨List.mem_of_getElem? (i := 19) rfl, fun _ h => absurd h List.not_mem_nil⟩⟩⟩⟩⟩⟩⟩⟩⟩⟩⟩⟩⟩⟩⟩⟩⟩⟩⟩⟩⟩⟩⟩⟩)⟩), (fun _ h => List.mem_cons_of_mem _ (List.mem_append_right _ h))⟩)⟩) (by decide +kernel)
set_option maxRecDepth 20000 in
theorem gX6_enough_X6_thenAt : GoodIn wsX6_enough (wsV RX6 119 RX6 yX6_thenAt wsX6_thenAt) := goodIn_app (goodIn_sub (List.forall_mem_cons.mpr ⟨List.mem_of_getElem? (i := 20) rfl, List.forall_mem_cons.mpr ⟨List.mem_of_getElem? (i := 21) rfl, List.forall_mem_cons.mpr ⟨List.mem_of_getElem? (i := 22) rfl, List.forall_mem_cons.mpr ⟨List.mem_of_getElem? (i := 4) rfl, fun _ h => absurd h List.not_mem_nil⟩⟩⟩⟩) (by decide +kernel)) ggX6_enough_X6_thenAt
theorem dX6_enough_0 : decode cX6_enough 0 = .ok (.iload_n 1, 1) := by decide +kernel
theorem dX6_enough_1 : decode cX6_enough 1 = .ok (.invokestatic 125, 3) := by decide +kernel
theorem dX6_enough_4 : decode cX6_enough 4 = .ok (.ifCond .ne 9, 3) := by decide +kernel
theorem dX6_enough_7 : decode cX6_enough 7 = .ok (.aload_n 0, 1) := by decide +kernel
theorem dX6_enough_8 : decode cX6_enough 8 = .ok (.iconst 0, 1) := by decide +kernel
theorem dX6_enough_9 : decode cX6_enough 9 = .ok (.invokevirtual 87, 3) := by decide +kernel
theorem dX6_enough_12 : decode cX6_enough 12 = .ok (.ireturn, 1) := by decide +kernel
theorem dX6_enough_13 : decode cX6_enough 13 = .ok (.aload_n 0, 1) := by decide +kernel
theorem dX6_enough_14 : decode cX6_enough 14 = .ok (.invokevirtual 116, 3) := by decide +kernel
theorem dX6_enough_17 : decode cX6_enough 17 = .ok (.iconst 0, 1) := by decide +kernel
theorem dX6_enough_18 : decode cX6_enough 18 = .ok (.istore_n 2, 1) := by decide +kernel
theorem dX6_enough_19 : decode cX6_enough 19 = .ok (.iload_n 2, 1) := by decide +kernel
theorem dX6_enough_20 : decode cX6_enough 20 = .ok (.bipush 99, 2) := by decide +kernel
theorem dX6_enough_22 : decode cX6_enough 22 = .ok (.if_icmp .gt 33, 3) := by decide +kernel
theorem dX6_enough_25 : decode cX6_enough 25 = .ok (.aload_n 0, 1) := by decide +kernel
theorem dX6_enough_26 : decode cX6_enough 26 = .ok (.getfield 9, 3) := by decide +kernel
theorem dX6_enough_29 : decode cX6_enough 29 = .ok (.iconst 2, 1) := by decide +kernel
theorem dX6_enough_30 : decode cX6_enough 30 = .ok (.iload_n 2, 1) := by decide +kernel
theorem dX6_enough_31 : decode cX6_enough 31 = .ok (.iastore, 1) := by decide +kernel
theorem dX6_enough_32 : decode cX6_enough 32 = .ok (.aload_n 0, 1) := by decide +kernel
theorem dX6_enough_33 : decode cX6_enough 33 = .ok (.iconst 4, 1) := by decide +kernel
theorem dX6_enough_34 : decode cX6_enough 34 = .ok (.iload_n 1, 1) := by decide +kernel
theorem dX6_enough_35 : decode cX6_enough 35 = .ok (.invokevirtual 119, 3) := by decide +kernel
theorem dX6_enough_38 : decode cX6_enough 38 = .ok (.aload_n 0, 1) := by decide +kernel
theorem dX6_enough_39 : decode cX6_enough 39 = .ok (.getfield 9, 3) := by decide +kernel
theorem dX6_enough_42 : decode cX6_enough 42 = .ok (.iconst 4, 1) := by decide +kernel
theorem dX6_enough_43 : decode cX6_enough 43 = .ok (.iaload, 1) := by decide +kernel
theorem dX6_enough_44 : decode cX6_enough 44 = .ok (.if_icmp .ne 5, 3) := by decide +kernel
theorem dX6_enough_47 : decode cX6_enough 47 = .ok (.iload_n 2, 1) := by decide +kernel
theorem dX6_enough_48 : decode cX6_enough 48 = .ok (.ireturn, 1) := by decide +kernel
theorem dX6_enough_49 : decode cX6_enough 49 = .ok (.iinc 2 1, 3) := by decide +kernel
theorem dX6_enough_52 : decode cX6_enough 52 = .ok (.goto (-33), 3) := by decide +kernel
theorem dX6_enough_55 : decode cX6_enough 55 = .ok (.aload_n 0, 1) := by decide +kernel
theorem dX6_enough_56 : decode cX6_enough 56 = .ok (.iconst 3, 1) := by decide +kernel
theorem dX6_enough_57 : decode cX6_enough 57 = .ok (.invokevirtual 87, 3) := by decide +kernel
theorem dX6_enough_60 : decode cX6_enough 60 = .ok (.ireturn, 1) := by decide +kernel
set_option maxRecDepth 20000 in
theorem ggX6_kind_X6_isPerson : GoodIn wsX6_kind wsX6_isPerson := goodIn_sub (List.forall_mem_cons.mpr ⟨List.mem_of_getElem? (i := 5) rfl, (List.forall_mem_append.mpr ⟨(List.forall_mem_cons.mpr ⟨List.mem_of_getElem? (i := 6) rfl, List.forall_mem_cons.mpr ⟨List.mem_of_getElem? (i := 7) rfl, List.forall_mem_cons.mpr ⟨List.mem_of_getElem? (i := 8) rfl, List.forall_mem_cons.mpr ⟨List.mem_of_getElem? (i := 4) rfl, List.forall_mem_cons.mpr ⟨List.mem_of_getElem? (i := 9) rfl, fun _ h => absurd h List.not_mem_nil⟩⟩⟩⟩⟩), (fun _ h => List.mem_cons_of_mem _ (List.mem_append_right _ h))⟩)⟩) (by decide +kernel)
set_option maxRecDepth 20000 in
theorem gX6_kind_X6_isPerson : GoodIn wsX6_kind (wsV RX6 101 RX6 yX6_isPerson wsX6_isPerson) := goodIn_app (goodIn_sub (List.forall_mem_cons.mpr ⟨List.mem_of_getElem? (i := 1) rfl, List.forall_mem_cons.mpr ⟨List.mem_of_getElem? (i := 2) rfl, List.forall_mem_cons.mpr ⟨List.mem_of_getElem? (i := 3) rfl, List.forall_mem_cons.mpr ⟨List.mem_of_getElem? (i := 4) rfl, fun _ h => absurd h List.not_mem_nil⟩⟩⟩⟩) (by decide +kernel)) ggX6_kind_X6_isPerson
set_option maxRecDepth 20000 in
theorem ggX6_kind_X6_isSoon : GoodIn wsX6_kind wsX6_isSoon := goodIn_sub (List.forall_mem_cons.mpr ⟨List.mem_of_getElem? (i := 12) rfl, (List.forall_mem_cons.mpr ⟨List.mem_of_getElem? (i := 7) rfl, List.forall_mem_cons.mpr ⟨List.mem_of_getElem? (i := 8) rfl, List.forall_mem_cons.mpr ⟨List.mem_of_getElem? (i := 4) rfl, List.forall_mem_cons.mpr ⟨List.mem_of_getElem? (i := 9) rfl, fun _ h => absurd h List.not_mem_nil⟩⟩⟩⟩)⟩) (by decide +kernel)
set_option maxRecDepth 20000 in
theorem gX6_kind_X6_isSoon : GoodIn wsX6_kind (va_wsS RX6 125 yX6_isSoon wsX6_isSoon) := goodIn_app (goodIn_sub (List.forall_mem_cons.mpr ⟨List.mem_of_getElem? (i := 10) rfl, List.forall_mem_cons.mpr ⟨List.mem_of_getElem? (i := 11) rfl, List.forall_mem_cons.mpr ⟨List.mem_of_getElem? (i := 4) rfl, fun _ h => absurd h List.not_mem_nil⟩⟩⟩) (by decide +kernel)) ggX6_kind_X6_isSoon
set_option maxRecDepth 20000 in
theorem ggX6_kind_X6_no : GoodIn wsX6_kind wsX6_no := goodIn_sub (List.forall_mem_cons.mpr ⟨List.mem_of_getElem? (i := 16) rfl, (List.forall_mem_append.mpr ⟨(List.forall_mem_cons.mpr ⟨List.mem_of_getElem? (i := 17) rfl, List.forall_mem_cons.mpr ⟨List.mem_of_getElem? (i := 18) rfl, fun _ h => absurd h List.not_mem_nil⟩⟩), (fun _ h => List.mem_cons_of_mem _ (List.mem_append_right _ h))⟩)⟩) (by decide +kernel)
set_option maxRecDepth 20000 in
theorem gX6_kind_X6_no : GoodIn wsX6_kind (wsV RX6 87 RX6 yX6_no wsX6_no) := goodIn_app (goodIn_sub (List.forall_mem_cons.mpr ⟨List.mem_of_getElem? (i := 13) rfl, List.forall_mem_cons.mpr ⟨List.mem_of_getElem? (i := 14) rfl, List.forall_mem_cons.mpr ⟨List.mem_of_getElem? (i := 15) rfl, List.forall_mem_cons.mpr ⟨List.mem_of_getElem? (i := 4) rfl, fun _ h => absurd h List.not_mem_nil⟩⟩⟩⟩) (by decide +kernel)) ggX6_kind_X6_no
set_option maxRecDepth 20000 in
theorem ggX6_kind_X6_setsAside : GoodIn wsX6_kind wsX6_setsAside := goodIn_sub (List.forall_mem_cons.mpr ⟨List.mem_of_getElem? (i := 22) rfl, (List.forall_mem_append.mpr ⟨(List.forall_mem_cons.mpr ⟨List.mem_of_getElem? (i := 23) rfl, List.forall_mem_cons.mpr ⟨List.mem_of_getElem? (i := 6) rfl, fun _ h => absurd h List.not_mem_nil⟩⟩), (fun _ h => List.mem_cons_of_mem _ (List.mem_append_right _ h))⟩)⟩) (by decide +kernel)
set_option maxRecDepth 20000 in
theorem gX6_kind_X6_setsAside : GoodIn wsX6_kind (wsV RX6 116 RX6 yX6_setsAside wsX6_setsAside) := goodIn_app (goodIn_sub (List.forall_mem_cons.mpr ⟨List.mem_of_getElem? (i := 19) rfl, List.forall_mem_cons.mpr ⟨List.mem_of_getElem? (i := 20) rfl, List.forall_mem_cons.mpr ⟨List.mem_of_getElem? (i := 21) rfl, List.forall_mem_cons.mpr ⟨List.mem_of_getElem? (i := 4) rfl, fun _ h => absurd h List.not_mem_nil⟩⟩⟩⟩) (by decide +kernel)) ggX6_kind_X6_setsAside
set_option maxRecDepth 20000 in
theorem ggX6_kind_X6_puts : GoodIn wsX6_kind wsX6_puts := goodIn_sub (List.forall_mem_cons.mpr ⟨List.mem_of_getElem? (i := 27) rfl, (List.forall_mem_append.mpr ⟨(List.forall_mem_cons.mpr ⟨List.mem_of_getElem? (i := 6) rfl, fun _ h => absurd h List.not_mem_nil⟩), (fun _ h => List.mem_cons_of_mem _ (List.mem_append_right _ h))⟩)⟩) (by decide +kernel)
set_option maxRecDepth 20000 in
theorem gX6_kind_X6_puts : GoodIn wsX6_kind (wsV RX6 64 RX6 yX6_puts wsX6_puts) := goodIn_app (goodIn_sub (List.forall_mem_cons.mpr ⟨List.mem_of_getElem? (i := 24) rfl, List.forall_mem_cons.mpr ⟨List.mem_of_getElem? (i := 25) rfl, List.forall_mem_cons.mpr ⟨List.mem_of_getElem? (i := 26) rfl, List.forall_mem_cons.mpr ⟨List.mem_of_getElem? (i := 4) rfl, fun _ h => absurd h List.not_mem_nil⟩⟩⟩⟩) (by decide +kernel)) ggX6_kind_X6_puts
set_option maxRecDepth 20000 in
theorem ggX6_kind_X6_thenAt : GoodIn wsX6_kind wsX6_thenAt := goodIn_sub (List.forall_mem_cons.mpr ⟨List.mem_of_getElem? (i := 31) rfl, (List.forall_mem_append.mpr ⟨(List.forall_mem_append.mpr ⟨(List.forall_mem_cons.mpr ⟨List.mem_of_getElem? (i := 6) rfl, List.forall_mem_cons.mpr ⟨List.mem_of_getElem? (i := 32) rfl, List.forall_mem_cons.mpr ⟨List.mem_of_getElem? (i := 33) rfl, List.forall_mem_cons.mpr ⟨List.mem_of_getElem? (i := 34) rfl, List.forall_mem_cons.mpr ⟨List.mem_of_getElem? (i := 4) rfl, List.forall_mem_cons.mpr ⟨List.mem_of_getElem? (i := 35) rfl, List.forall_mem_cons.mpr ⟨List.mem_of_getElem? (i := 36) rfl, List.forall_mem_cons.mpr ⟨List.mem_of_getElem? (i := 37) rfl, List.forall_mem_cons.mpr ⟨List.mem_of_getElem? (i := 38) rfl, List.forall_mem_cons.mpr ⟨List.mem_of_getElem? (i := 39) rfl, List.forall_mem_cons.mpr ⟨List.mem_of_getElem? (i := 40) rfl, List.forall_mem_cons.mpr ⟨List.mem_of_getElem? (i := 41) rfl, List.forall_mem_cons.mpr ⟨List.mem_of_getElem? (i := 42) rfl, List.forall_mem_cons.mpr ⟨List.mem_of_getElem? (i := 43) rfl, List.forall_mem_cons.mpr ⟨List.mem_of_getElem? (i := 44) rfl, List.forall_mem_cons.mpr ⟨List.mem_of_getElem? (i := 45) rfl, List.forall_mem_cons.mpr ⟨List.mem_of_getElem? (i := 46) rfl, List.forall_mem_cons.mpr ⟨List.mem_of_getElem? (i := 47) rfl, List.forall_mem_cons.mpr ⟨List.mem_of_getElem? (i := 48) rfl, List.forall_mem_cons.mpr ⟨List.mem_of_getElem? (i := 49) rfl, List.forall_mem_cons.mpr ⟨List.mem_of_getElem? (i := 50) rfl, List.forall_mem_cons.mpr ⟨List.mem_of_getElem? (i := 24) rfl, List.forall_mem_cons.mpr ⟨List.mem_of_getElem? (i := 25) rfl, List.forall_mem_cons.mpr ⟨List.mem_of_getElem? (i := 26) rfl, fun _ h => absurd h List.not_mem_nil⟩⟩⟩⟩⟩⟩⟩⟩⟩⟩⟩⟩⟩⟩⟩⟩⟩⟩⟩⟩⟩⟩⟩⟩), (List.forall_mem_cons.mpr ⟨List.mem_of_getElem? (i := 27) rfl, List.forall_mem_cons.mpr ⟨List.mem_of_getElem? (i := 51) rfl, List.forall_mem_cons.mpr ⟨List.mem_of_getElem? (i := 52) rfl, List.forall_mem_cons.mpr ⟨List.mem_of_getElem? (i := 53) rfl, List.forall_mem_cons.mpr ⟨List.mem_of_getElem? (i := 54) rfl, List.forall_mem_cons.mpr ⟨List.mem_of_getElem? (i := 55) rfl, List.forall_mem_cons.mpr ⟨List.mem_of_getElem? (i := 56) rfl, List.forall_mem_cons.mpr ⟨List.mem_of_getElem? (i := 57) rfl, List.forall_mem_cons.mpr ⟨List.mem_of_getElem? (i := 58) rfl, List.forall_mem_cons.mpr ⟨List.mem_of_getElem? (i := 59) rfl, List.forall_mem_cons.mpr ⟨List.mem_of_getElem? (i := 60) rfl, List.forall_mem_cons.mpr ⟨List.mem_of_getElem? (i := 61) rfl, List.forall_mem_cons.mpr ⟨List.mem_of_getElem? (i := 62) rfl, List.forall_mem_cons.mpr ⟨List.mem_of_getElem? (i := 63) rfl, List.forall_mem_cons.mpr ⟨List.mem_of_getElem? (i := 64) rfl, List.forall_mem_cons.mpr ⟨List.mem_of_getElem? (i := 65) rfl, List.forall_mem_cons.mpr ⟨List.mem_of_getElem? (i := 66) rfl, List.forall_mem_cons.mpr ⟨List.mem_of_getElem? (i := 67) rfl, List.forall_mem_cons.mpr ⟨List.mem_of_getElem? (i := 68) rfl, List.forall_mem_cons.mpr ⟨List.mem_of_getElem? (i := 69) rfl, List.forall_mem_cons.mpr ⟨List.mem_of_getElem? (i := 70) rfl, List.forall_mem_cons.mpr ⟨List.mem_of_getElem? (i := 71) rfl, List.forall_mem_cons.mpr ⟨List.mem_of_getElem? (i := 72) rfl, List.forall_mem_cons.mpr ⟨List.mem_of_getElem? (i := 23) rfl, fun _ h => absurd h List.not_mem_nil⟩⟩⟩⟩⟩⟩⟩⟩⟩⟩⟩⟩⟩⟩⟩⟩⟩⟩⟩⟩⟩⟩⟩⟩)⟩), (fun _ h => List.mem_cons_of_mem _ (List.mem_append_right _ h))⟩)⟩) (by decide +kernel)
set_option maxRecDepth 20000 in
theorem gX6_kind_X6_thenAt : GoodIn wsX6_kind (wsV RX6 119 RX6 yX6_thenAt wsX6_thenAt) := goodIn_app (goodIn_sub (List.forall_mem_cons.mpr ⟨List.mem_of_getElem? (i := 28) rfl, List.forall_mem_cons.mpr ⟨List.mem_of_getElem? (i := 29) rfl, List.forall_mem_cons.mpr ⟨List.mem_of_getElem? (i := 30) rfl, List.forall_mem_cons.mpr ⟨List.mem_of_getElem? (i := 4) rfl, fun _ h => absurd h List.not_mem_nil⟩⟩⟩⟩) (by decide +kernel)) ggX6_kind_X6_thenAt
theorem dX6_kind_0 : decode cX6_kind 0 = .ok (.aload_n 0, 1) := by decide +kernel
theorem dX6_kind_1 : decode cX6_kind 1 = .ok (.iload_n 1, 1) := by decide +kernel
theorem dX6_kind_2 : decode cX6_kind 2 = .ok (.invokevirtual 101, 3) := by decide +kernel
theorem dX6_kind_5 : decode cX6_kind 5 = .ok (.ifCond .eq 10, 3) := by decide +kernel
theorem dX6_kind_8 : decode cX6_kind 8 = .ok (.iload_n 2, 1) := by decide +kernel
theorem dX6_kind_9 : decode cX6_kind 9 = .ok (.invokestatic 125, 3) := by decide +kernel
theorem dX6_kind_12 : decode cX6_kind 12 = .ok (.ifCond .ne 9, 3) := by decide +kernel
theorem dX6_kind_15 : decode cX6_kind 15 = .ok (.aload_n 0, 1) := by decide +kernel
theorem dX6_kind_16 : decode cX6_kind 16 = .ok (.iconst 0, 1) := by decide +kernel
theorem dX6_kind_17 : decode cX6_kind 17 = .ok (.invokevirtual 87, 3) := by decide +kernel
theorem dX6_kind_20 : decode cX6_kind 20 = .ok (.ireturn, 1) := by decide +kernel
theorem dX6_kind_21 : decode cX6_kind 21 = .ok (.iconst 0, 1) := by decide +kernel
theorem dX6_kind_22 : decode cX6_kind 22 = .ok (.istore_n 3, 1) := by decide +kernel
theorem dX6_kind_23 : decode cX6_kind 23 = .ok (.iconst (-1), 1) := by decide +kernel
theorem dX6_kind_24 : decode cX6_kind 24 = .ok (.istore 4, 2) := by decide +kernel
theorem dX6_kind_26 : decode cX6_kind 26 = .ok (.aload_n 0, 1) := by decide +kernel
theorem dX6_kind_27 : decode cX6_kind 27 = .ok (.invokevirtual 116, 3) := by decide +kernel
theorem dX6_kind_30 : decode cX6_kind 30 = .ok (.iconst 0, 1) := by decide +kernel
theorem dX6_kind_31 : decode cX6_kind 31 = .ok (.istore 5, 2) := by decide +kernel
theorem dX6_kind_33 : decode cX6_kind 33 = .ok (.iload 5, 2) := by decide +kernel
theorem dX6_kind_35 : decode cX6_kind 35 = .ok (.bipush 6, 2) := by decide +kernel
theorem dX6_kind_37 : decode cX6_kind 37 = .ok (.if_icmp .ge 55, 3) := by decide +kernel
theorem dX6_kind_40 : decode cX6_kind 40 = .ok (.aload_n 0, 1) := by decide +kernel
theorem dX6_kind_41 : decode cX6_kind 41 = .ok (.iload_n 1, 1) := by decide +kernel
theorem dX6_kind_42 : decode cX6_kind 42 = .ok (.iconst 0, 1) := by decide +kernel
theorem dX6_kind_43 : decode cX6_kind 43 = .ok (.iload 5, 2) := by decide +kernel
theorem dX6_kind_45 : decode cX6_kind 45 = .ok (.invokevirtual 64, 3) := by decide +kernel
theorem dX6_kind_48 : decode cX6_kind 48 = .ok (.aload_n 0, 1) := by decide +kernel
theorem dX6_kind_49 : decode cX6_kind 49 = .ok (.iconst 3, 1) := by decide +kernel
theorem dX6_kind_50 : decode cX6_kind 50 = .ok (.iload_n 2, 1) := by decide +kernel
theorem dX6_kind_51 : decode cX6_kind 51 = .ok (.invokevirtual 119, 3) := by decide +kernel
theorem dX6_kind_54 : decode cX6_kind 54 = .ok (.istore 6, 2) := by decide +kernel
theorem dX6_kind_56 : decode cX6_kind 56 = .ok (.iload 6, 2) := by decide +kernel
theorem dX6_kind_58 : decode cX6_kind 58 = .ok (.iload 4, 2) := by decide +kernel
theorem dX6_kind_60 : decode cX6_kind 60 = .ok (.if_icmp .le 8, 3) := by decide +kernel
theorem dX6_kind_63 : decode cX6_kind 63 = .ok (.iload 5, 2) := by decide +kernel
theorem dX6_kind_65 : decode cX6_kind 65 = .ok (.goto 4, 3) := by decide +kernel
theorem dX6_kind_68 : decode cX6_kind 68 = .ok (.iload_n 3, 1) := by decide +kernel
theorem dX6_kind_69 : decode cX6_kind 69 = .ok (.istore_n 3, 1) := by decide +kernel
theorem dX6_kind_70 : decode cX6_kind 70 = .ok (.iload 6, 2) := by decide +kernel
theorem dX6_kind_72 : decode cX6_kind 72 = .ok (.iload 4, 2) := by decide +kernel
theorem dX6_kind_74 : decode cX6_kind 74 = .ok (.if_icmp .le 8, 3) := by decide +kernel
theorem dX6_kind_77 : decode cX6_kind 77 = .ok (.iload 6, 2) := by decide +kernel
theorem dX6_kind_79 : decode cX6_kind 79 = .ok (.goto 5, 3) := by decide +kernel
theorem dX6_kind_82 : decode cX6_kind 82 = .ok (.iload 4, 2) := by decide +kernel
theorem dX6_kind_84 : decode cX6_kind 84 = .ok (.istore 4, 2) := by decide +kernel
theorem dX6_kind_86 : decode cX6_kind 86 = .ok (.iinc 5 1, 3) := by decide +kernel
theorem dX6_kind_89 : decode cX6_kind 89 = .ok (.goto (-56), 3) := by decide +kernel
theorem dX6_kind_92 : decode cX6_kind 92 = .ok (.iload_n 3, 1) := by decide +kernel
theorem dX6_kind_93 : decode cX6_kind 93 = .ok (.ireturn, 1) := by decide +kernel
set_option maxRecDepth 20000 in
theorem ggX6_needs_X6_isPerson : GoodIn wsX6_needs wsX6_isPerson := goodIn_sub (List.forall_mem_cons.mpr ⟨List.mem_of_getElem? (i := 6) rfl, (List.forall_mem_append.mpr ⟨(List.forall_mem_cons.mpr ⟨List.mem_of_getElem? (i := 1) rfl, List.forall_mem_cons.mpr ⟨List.mem_of_getElem? (i := 7) rfl, List.forall_mem_cons.mpr ⟨List.mem_of_getElem? (i := 8) rfl, List.forall_mem_cons.mpr ⟨List.mem_of_getElem? (i := 5) rfl, List.forall_mem_cons.mpr ⟨List.mem_of_getElem? (i := 9) rfl, fun _ h => absurd h List.not_mem_nil⟩⟩⟩⟩⟩), (fun _ h => List.mem_cons_of_mem _ (List.mem_append_right _ h))⟩)⟩) (by decide +kernel)
set_option maxRecDepth 20000 in
theorem gX6_needs_X6_isPerson : GoodIn wsX6_needs (wsV RX6 101 RX6 yX6_isPerson wsX6_isPerson) := goodIn_app (goodIn_sub (List.forall_mem_cons.mpr ⟨List.mem_of_getElem? (i := 2) rfl, List.forall_mem_cons.mpr ⟨List.mem_of_getElem? (i := 3) rfl, List.forall_mem_cons.mpr ⟨List.mem_of_getElem? (i := 4) rfl, List.forall_mem_cons.mpr ⟨List.mem_of_getElem? (i := 5) rfl, fun _ h => absurd h List.not_mem_nil⟩⟩⟩⟩) (by decide +kernel)) ggX6_needs_X6_isPerson
set_option maxRecDepth 20000 in
theorem ggX6_needs_X6_isSoon : GoodIn wsX6_needs wsX6_isSoon := goodIn_sub (List.forall_mem_cons.mpr ⟨List.mem_of_getElem? (i := 12) rfl, (List.forall_mem_cons.mpr ⟨List.mem_of_getElem? (i := 7) rfl, List.forall_mem_cons.mpr ⟨List.mem_of_getElem? (i := 8) rfl, List.forall_mem_cons.mpr ⟨List.mem_of_getElem? (i := 5) rfl, List.forall_mem_cons.mpr ⟨List.mem_of_getElem? (i := 9) rfl, fun _ h => absurd h List.not_mem_nil⟩⟩⟩⟩)⟩) (by decide +kernel)
set_option maxRecDepth 20000 in
theorem gX6_needs_X6_isSoon : GoodIn wsX6_needs (va_wsS RX6 125 yX6_isSoon wsX6_isSoon) := goodIn_app (goodIn_sub (List.forall_mem_cons.mpr ⟨List.mem_of_getElem? (i := 10) rfl, List.forall_mem_cons.mpr ⟨List.mem_of_getElem? (i := 11) rfl, List.forall_mem_cons.mpr ⟨List.mem_of_getElem? (i := 5) rfl, fun _ h => absurd h List.not_mem_nil⟩⟩⟩) (by decide +kernel)) ggX6_needs_X6_isSoon
set_option maxRecDepth 20000 in
theorem ggX6_needs_X6_no : GoodIn wsX6_needs wsX6_no := goodIn_sub (List.forall_mem_cons.mpr ⟨List.mem_of_getElem? (i := 16) rfl, (List.forall_mem_append.mpr ⟨(List.forall_mem_cons.mpr ⟨List.mem_of_getElem? (i := 17) rfl, List.forall_mem_cons.mpr ⟨List.mem_of_getElem? (i := 18) rfl, fun _ h => absurd h List.not_mem_nil⟩⟩), (fun _ h => List.mem_cons_of_mem _ (List.mem_append_right _ h))⟩)⟩) (by decide +kernel)
set_option maxRecDepth 20000 in
theorem gX6_needs_X6_no : GoodIn wsX6_needs (wsV RX6 87 RX6 yX6_no wsX6_no) := goodIn_app (goodIn_sub (List.forall_mem_cons.mpr ⟨List.mem_of_getElem? (i := 13) rfl, List.forall_mem_cons.mpr ⟨List.mem_of_getElem? (i := 14) rfl, List.forall_mem_cons.mpr ⟨List.mem_of_getElem? (i := 15) rfl, List.forall_mem_cons.mpr ⟨List.mem_of_getElem? (i := 5) rfl, fun _ h => absurd h List.not_mem_nil⟩⟩⟩⟩) (by decide +kernel)) ggX6_needs_X6_no
set_option maxRecDepth 20000 in
theorem ggX6_needs_X6_setsAside : GoodIn wsX6_needs wsX6_setsAside := goodIn_sub (List.forall_mem_cons.mpr ⟨List.mem_of_getElem? (i := 22) rfl, (List.forall_mem_append.mpr ⟨(List.forall_mem_cons.mpr ⟨List.mem_of_getElem? (i := 23) rfl, List.forall_mem_cons.mpr ⟨List.mem_of_getElem? (i := 1) rfl, fun _ h => absurd h List.not_mem_nil⟩⟩), (fun _ h => List.mem_cons_of_mem _ (List.mem_append_right _ h))⟩)⟩) (by decide +kernel)
set_option maxRecDepth 20000 in
theorem gX6_needs_X6_setsAside : GoodIn wsX6_needs (wsV RX6 116 RX6 yX6_setsAside wsX6_setsAside) := goodIn_app (goodIn_sub (List.forall_mem_cons.mpr ⟨List.mem_of_getElem? (i := 19) rfl, List.forall_mem_cons.mpr ⟨List.mem_of_getElem? (i := 20) rfl, List.forall_mem_cons.mpr ⟨List.mem_of_getElem? (i := 21) rfl, List.forall_mem_cons.mpr ⟨List.mem_of_getElem? (i := 5) rfl, fun _ h => absurd h List.not_mem_nil⟩⟩⟩⟩) (by decide +kernel)) ggX6_needs_X6_setsAside
set_option maxRecDepth 20000 in
theorem ggX6_needs_X6_puts : GoodIn wsX6_needs wsX6_puts := goodIn_sub (List.forall_mem_cons.mpr ⟨List.mem_of_getElem? (i := 27) rfl, (List.forall_mem_append.mpr ⟨(List.forall_mem_cons.mpr ⟨List.mem_of_getElem? (i := 1) rfl, fun _ h => absurd h List.not_mem_nil⟩), (fun _ h => List.mem_cons_of_mem _ (List.mem_append_right _ h))⟩)⟩) (by decide +kernel)
set_option maxRecDepth 20000 in
theorem gX6_needs_X6_puts : GoodIn wsX6_needs (wsV RX6 64 RX6 yX6_puts wsX6_puts) := goodIn_app (goodIn_sub (List.forall_mem_cons.mpr ⟨List.mem_of_getElem? (i := 24) rfl, List.forall_mem_cons.mpr ⟨List.mem_of_getElem? (i := 25) rfl, List.forall_mem_cons.mpr ⟨List.mem_of_getElem? (i := 26) rfl, List.forall_mem_cons.mpr ⟨List.mem_of_getElem? (i := 5) rfl, fun _ h => absurd h List.not_mem_nil⟩⟩⟩⟩) (by decide +kernel)) ggX6_needs_X6_puts
set_option maxRecDepth 20000 in
theorem ggX6_needs_X6_thenAt : GoodIn wsX6_needs wsX6_thenAt := goodIn_sub (List.forall_mem_cons.mpr ⟨List.mem_of_getElem? (i := 31) rfl, (List.forall_mem_append.mpr ⟨(List.forall_mem_append.mpr ⟨(List.forall_mem_cons.mpr ⟨List.mem_of_getElem? (i := 1) rfl, List.forall_mem_cons.mpr ⟨List.mem_of_getElem? (i := 32) rfl, List.forall_mem_cons.mpr ⟨List.mem_of_getElem? (i := 33) rfl, List.forall_mem_cons.mpr ⟨List.mem_of_getElem? (i := 34) rfl, List.forall_mem_cons.mpr ⟨List.mem_of_getElem? (i := 5) rfl, List.forall_mem_cons.mpr ⟨List.mem_of_getElem? (i := 35) rfl, List.forall_mem_cons.mpr ⟨List.mem_of_getElem? (i := 36) rfl, List.forall_mem_cons.mpr ⟨List.mem_of_getElem? (i := 37) rfl, List.forall_mem_cons.mpr ⟨List.mem_of_getElem? (i := 38) rfl, List.forall_mem_cons.mpr ⟨List.mem_of_getElem? (i := 39) rfl, List.forall_mem_cons.mpr ⟨List.mem_of_getElem? (i := 40) rfl, List.forall_mem_cons.mpr ⟨List.mem_of_getElem? (i := 41) rfl, List.forall_mem_cons.mpr ⟨List.mem_of_getElem? (i := 42) rfl, List.forall_mem_cons.mpr ⟨List.mem_of_getElem? (i := 43) rfl, List.forall_mem_cons.mpr ⟨List.mem_of_getElem? (i := 44) rfl, List.forall_mem_cons.mpr ⟨List.mem_of_getElem? (i := 45) rfl, List.forall_mem_cons.mpr ⟨List.mem_of_getElem? (i := 46) rfl, List.forall_mem_cons.mpr ⟨List.mem_of_getElem? (i := 47) rfl, List.forall_mem_cons.mpr ⟨List.mem_of_getElem? (i := 48) rfl, List.forall_mem_cons.mpr ⟨List.mem_of_getElem? (i := 49) rfl, List.forall_mem_cons.mpr ⟨List.mem_of_getElem? (i := 50) rfl, List.forall_mem_cons.mpr ⟨List.mem_of_getElem? (i := 24) rfl, List.forall_mem_cons.mpr ⟨List.mem_of_getElem? (i := 25) rfl, List.forall_mem_cons.mpr ⟨List.mem_of_getElem? (i := 26) rfl, fun _ h => absurd h List.not_mem_nil⟩⟩⟩⟩⟩⟩⟩⟩⟩⟩⟩⟩⟩⟩⟩⟩⟩⟩⟩⟩⟩⟩⟩⟩), (List.forall_mem_cons.mpr ⟨List.mem_of_getElem? (i := 27) rfl, List.forall_mem_cons.mpr ⟨List.mem_of_getElem? (i := 51) rfl, List.forall_mem_cons.mpr ⟨List.mem_of_getElem? (i := 52) rfl, List.forall_mem_cons.mpr ⟨List.mem_of_getElem? (i := 53) rfl, List.forall_mem_cons.mpr ⟨List.mem_of_getElem? (i := 54) rfl, List.forall_mem_cons.mpr ⟨List.mem_of_getElem? (i := 55) rfl, List.forall_mem_cons.mpr ⟨List.mem_of_getElem? (i := 56) rfl, List.forall_mem_cons.mpr ⟨List.mem_of_getElem? (i := 57) rfl, List.forall_mem_cons.mpr ⟨List.mem_of_getElem? (i := 58) rfl, List.forall_mem_cons.mpr ⟨List.mem_of_getElem? (i := 59) rfl, List.forall_mem_cons.mpr ⟨List.mem_of_getElem? (i := 60) rfl, List.forall_mem_cons.mpr ⟨List.mem_of_getElem? (i := 61) rfl, List.forall_mem_cons.mpr ⟨List.mem_of_getElem? (i := 62) rfl, List.forall_mem_cons.mpr ⟨List.mem_of_getElem? (i := 63) rfl, List.forall_mem_cons.mpr ⟨List.mem_of_getElem? (i := 64) rfl, List.forall_mem_cons.mpr ⟨List.mem_of_getElem? (i := 65) rfl, List.forall_mem_cons.mpr ⟨List.mem_of_getElem? (i := 66) rfl, List.forall_mem_cons.mpr ⟨List.mem_of_getElem? (i := 67) rfl, List.forall_mem_cons.mpr ⟨List.mem_of_getElem? (i := 68) rfl, List.forall_mem_cons.mpr ⟨List.mem_of_getElem? (i := 69) rfl, List.forall_mem_cons.mpr ⟨List.mem_of_getElem? (i := 70) rfl, List.forall_mem_cons.mpr ⟨List.mem_of_getElem? (i := 71) rfl, List.forall_mem_cons.mpr ⟨List.mem_of_getElem? (i := 72) rfl, List.forall_mem_cons.mpr ⟨List.mem_of_getElem? (i := 23) rfl, fun _ h => absurd h List.not_mem_nil⟩⟩⟩⟩⟩⟩⟩⟩⟩⟩⟩⟩⟩⟩⟩⟩⟩⟩⟩⟩⟩⟩⟩⟩)⟩), (fun _ h => List.mem_cons_of_mem _ (List.mem_append_right _ h))⟩)⟩) (by decide +kernel)
set_option maxRecDepth 20000 in
theorem gX6_needs_X6_thenAt : GoodIn wsX6_needs (wsV RX6 119 RX6 yX6_thenAt wsX6_thenAt) := goodIn_app (goodIn_sub (List.forall_mem_cons.mpr ⟨List.mem_of_getElem? (i := 28) rfl, List.forall_mem_cons.mpr ⟨List.mem_of_getElem? (i := 29) rfl, List.forall_mem_cons.mpr ⟨List.mem_of_getElem? (i := 30) rfl, List.forall_mem_cons.mpr ⟨List.mem_of_getElem? (i := 5) rfl, fun _ h => absurd h List.not_mem_nil⟩⟩⟩⟩) (by decide +kernel)) ggX6_needs_X6_thenAt
theorem dX6_needs_0 : decode cX6_needs 0 = .ok (.aload_n 0, 1) := by decide +kernel
theorem dX6_needs_1 : decode cX6_needs 1 = .ok (.iload_n 1, 1) := by decide +kernel
theorem dX6_needs_2 : decode cX6_needs 2 = .ok (.invokevirtual 101, 3) := by decide +kernel
theorem dX6_needs_5 : decode cX6_needs 5 = .ok (.ifCond .eq 10, 3) := by decide +kernel
theorem dX6_needs_8 : decode cX6_needs 8 = .ok (.iload_n 2, 1) := by decide +kernel
theorem dX6_needs_9 : decode cX6_needs 9 = .ok (.invokestatic 125, 3) := by decide +kernel
theorem dX6_needs_12 : decode cX6_needs 12 = .ok (.ifCond .ne 9, 3) := by decide +kernel
theorem dX6_needs_15 : decode cX6_needs 15 = .ok (.aload_n 0, 1) := by decide +kernel
theorem dX6_needs_16 : decode cX6_needs 16 = .ok (.iconst 0, 1) := by decide +kernel
theorem dX6_needs_17 : decode cX6_needs 17 = .ok (.invokevirtual 87, 3) := by decide +kernel
theorem dX6_needs_20 : decode cX6_needs 20 = .ok (.ireturn, 1) := by decide +kernel
theorem dX6_needs_21 : decode cX6_needs 21 = .ok (.aload_n 0, 1) := by decide +kernel
theorem dX6_needs_22 : decode cX6_needs 22 = .ok (.invokevirtual 116, 3) := by decide +kernel
theorem dX6_needs_25 : decode cX6_needs 25 = .ok (.bipush 20, 2) := by decide +kernel
theorem dX6_needs_27 : decode cX6_needs 27 = .ok (.istore_n 3, 1) := by decide +kernel
theorem dX6_needs_28 : decode cX6_needs 28 = .ok (.iload_n 3, 1) := by decide +kernel
theorem dX6_needs_29 : decode cX6_needs 29 = .ok (.ifCond .lt 33, 3) := by decide +kernel
theorem dX6_needs_32 : decode cX6_needs 32 = .ok (.aload_n 0, 1) := by decide +kernel
theorem dX6_needs_33 : decode cX6_needs 33 = .ok (.iload_n 1, 1) := by decide +kernel
theorem dX6_needs_34 : decode cX6_needs 34 = .ok (.iconst 1, 1) := by decide +kernel
theorem dX6_needs_35 : decode cX6_needs 35 = .ok (.iload_n 3, 1) := by decide +kernel
theorem dX6_needs_36 : decode cX6_needs 36 = .ok (.invokevirtual 64, 3) := by decide +kernel
theorem dX6_needs_39 : decode cX6_needs 39 = .ok (.aload_n 0, 1) := by decide +kernel
theorem dX6_needs_40 : decode cX6_needs 40 = .ok (.iconst 2, 1) := by decide +kernel
theorem dX6_needs_41 : decode cX6_needs 41 = .ok (.iload_n 2, 1) := by decide +kernel
theorem dX6_needs_42 : decode cX6_needs 42 = .ok (.invokevirtual 119, 3) := by decide +kernel
theorem dX6_needs_45 : decode cX6_needs 45 = .ok (.aload_n 0, 1) := by decide +kernel
theorem dX6_needs_46 : decode cX6_needs 46 = .ok (.getfield 9, 3) := by decide +kernel
theorem dX6_needs_49 : decode cX6_needs 49 = .ok (.iconst 2, 1) := by decide +kernel
theorem dX6_needs_50 : decode cX6_needs 50 = .ok (.iaload, 1) := by decide +kernel
theorem dX6_needs_51 : decode cX6_needs 51 = .ok (.if_icmp .lt 5, 3) := by decide +kernel
theorem dX6_needs_54 : decode cX6_needs 54 = .ok (.iload_n 3, 1) := by decide +kernel
theorem dX6_needs_55 : decode cX6_needs 55 = .ok (.ireturn, 1) := by decide +kernel
theorem dX6_needs_56 : decode cX6_needs 56 = .ok (.iinc 3 (-1), 3) := by decide +kernel
theorem dX6_needs_59 : decode cX6_needs 59 = .ok (.goto (-31), 3) := by decide +kernel
theorem dX6_needs_62 : decode cX6_needs 62 = .ok (.aload_n 0, 1) := by decide +kernel
theorem dX6_needs_63 : decode cX6_needs 63 = .ok (.iconst 3, 1) := by decide +kernel
theorem dX6_needs_64 : decode cX6_needs 64 = .ok (.invokevirtual 87, 3) := by decide +kernel
theorem dX6_needs_67 : decode cX6_needs 67 = .ok (.ireturn, 1) := by decide +kernel
set_option maxRecDepth 20000 in
theorem ggX6_isKeptOut_X6_get : GoodIn wsX6_isKeptOut wsX6_get := goodIn_sub (List.forall_mem_cons.mpr ⟨List.mem_of_getElem? (i := 6) rfl, (List.forall_mem_append.mpr ⟨(List.forall_mem_cons.mpr ⟨List.mem_of_getElem? (i := 1) rfl, fun _ h => absurd h List.not_mem_nil⟩), (fun _ h => List.mem_cons_of_mem _ (List.mem_append_right _ h))⟩)⟩) (by decide +kernel)
set_option maxRecDepth 20000 in
theorem gX6_isKeptOut_X6_get : GoodIn wsX6_isKeptOut (wsV RX6 53 RX6 yX6_get wsX6_get) := goodIn_app (goodIn_sub (List.forall_mem_cons.mpr ⟨List.mem_of_getElem? (i := 2) rfl, List.forall_mem_cons.mpr ⟨List.mem_of_getElem? (i := 3) rfl, List.forall_mem_cons.mpr ⟨List.mem_of_getElem? (i := 4) rfl, List.forall_mem_cons.mpr ⟨List.mem_of_getElem? (i := 5) rfl, fun _ h => absurd h List.not_mem_nil⟩⟩⟩⟩) (by decide +kernel)) ggX6_isKeptOut_X6_get
set_option maxRecDepth 20000 in
theorem ggX6_isKeptOut_X6_puts : GoodIn wsX6_isKeptOut wsX6_puts := goodIn_sub (List.forall_mem_cons.mpr ⟨List.mem_of_getElem? (i := 10) rfl, (List.forall_mem_append.mpr ⟨(List.forall_mem_cons.mpr ⟨List.mem_of_getElem? (i := 1) rfl, fun _ h => absurd h List.not_mem_nil⟩), (fun _ h => List.mem_cons_of_mem _ (List.mem_append_right _ h))⟩)⟩) (by decide +kernel)
set_option maxRecDepth 20000 in
theorem gX6_isKeptOut_X6_puts : GoodIn wsX6_isKeptOut (wsV RX6 64 RX6 yX6_puts wsX6_puts) := goodIn_app (goodIn_sub (List.forall_mem_cons.mpr ⟨List.mem_of_getElem? (i := 7) rfl, List.forall_mem_cons.mpr ⟨List.mem_of_getElem? (i := 8) rfl, List.forall_mem_cons.mpr ⟨List.mem_of_getElem? (i := 9) rfl, List.forall_mem_cons.mpr ⟨List.mem_of_getElem? (i := 5) rfl, fun _ h => absurd h List.not_mem_nil⟩⟩⟩⟩) (by decide +kernel)) ggX6_isKeptOut_X6_puts
set_option maxRecDepth 20000 in
theorem ggX6_isKeptOut_X6_thenAt : GoodIn wsX6_isKeptOut wsX6_thenAt := goodIn_sub (List.forall_mem_cons.mpr ⟨List.mem_of_getElem? (i := 14) rfl, (List.forall_mem_append.mpr ⟨(List.forall_mem_append.mpr ⟨(List.forall_mem_cons.mpr ⟨List.mem_of_getElem? (i := 1) rfl, List.forall_mem_cons.mpr ⟨List.mem_of_getElem? (i := 15) rfl, List.forall_mem_cons.mpr ⟨List.mem_of_getElem? (i := 16) rfl, List.forall_mem_cons.mpr ⟨List.mem_of_getElem? (i := 17) rfl, List.forall_mem_cons.mpr ⟨List.mem_of_getElem? (i := 5) rfl, List.forall_mem_cons.mpr ⟨List.mem_of_getElem? (i := 18) rfl, List.forall_mem_cons.mpr ⟨List.mem_of_getElem? (i := 19) rfl, List.forall_mem_cons.mpr ⟨List.mem_of_getElem? (i := 20) rfl, List.forall_mem_cons.mpr ⟨List.mem_of_getElem? (i := 21) rfl, List.forall_mem_cons.mpr ⟨List.mem_of_getElem? (i := 22) rfl, List.forall_mem_cons.mpr ⟨List.mem_of_getElem? (i := 23) rfl, List.forall_mem_cons.mpr ⟨List.mem_of_getElem? (i := 24) rfl, List.forall_mem_cons.mpr ⟨List.mem_of_getElem? (i := 25) rfl, List.forall_mem_cons.mpr ⟨List.mem_of_getElem? (i := 26) rfl, List.forall_mem_cons.mpr ⟨List.mem_of_getElem? (i := 27) rfl, List.forall_mem_cons.mpr ⟨List.mem_of_getElem? (i := 28) rfl, List.forall_mem_cons.mpr ⟨List.mem_of_getElem? (i := 29) rfl, List.forall_mem_cons.mpr ⟨List.mem_of_getElem? (i := 2) rfl, List.forall_mem_cons.mpr ⟨List.mem_of_getElem? (i := 3) rfl, List.forall_mem_cons.mpr ⟨List.mem_of_getElem? (i := 4) rfl, List.forall_mem_cons.mpr ⟨List.mem_of_getElem? (i := 6) rfl, List.forall_mem_cons.mpr ⟨List.mem_of_getElem? (i := 7) rfl, List.forall_mem_cons.mpr ⟨List.mem_of_getElem? (i := 8) rfl, List.forall_mem_cons.mpr ⟨List.mem_of_getElem? (i := 9) rfl, fun _ h => absurd h List.not_mem_nil⟩⟩⟩⟩⟩⟩⟩⟩⟩⟩⟩⟩⟩⟩⟩⟩⟩⟩⟩⟩⟩⟩⟩⟩), (List.forall_mem_cons.mpr ⟨List.mem_of_getElem? (i := 10) rfl, List.forall_mem_cons.mpr ⟨List.mem_of_getElem? (i := 30) rfl, List.forall_mem_cons.mpr ⟨List.mem_of_getElem? (i := 31) rfl, List.forall_mem_cons.mpr ⟨List.mem_of_getElem? (i := 32) rfl, List.forall_mem_cons.mpr ⟨List.mem_of_getElem? (i := 33) rfl, List.forall_mem_cons.mpr ⟨List.mem_of_getElem? (i := 34) rfl, List.forall_mem_cons.mpr ⟨List.mem_of_getElem? (i := 35) rfl, List.forall_mem_cons.mpr ⟨List.mem_of_getElem? (i := 36) rfl, List.forall_mem_cons.mpr ⟨List.mem_of_getElem? (i := 37) rfl, List.forall_mem_cons.mpr ⟨List.mem_of_getElem? (i := 38) rfl, List.forall_mem_cons.mpr ⟨List.mem_of_getElem? (i := 39) rfl, List.forall_mem_cons.mpr ⟨List.mem_of_getElem? (i := 40) rfl, List.forall_mem_cons.mpr ⟨List.mem_of_getElem? (i := 41) rfl, List.forall_mem_cons.mpr ⟨List.mem_of_getElem? (i := 42) rfl, List.forall_mem_cons.mpr ⟨List.mem_of_getElem? (i := 43) rfl, List.forall_mem_cons.mpr ⟨List.mem_of_getElem? (i := 44) rfl, List.forall_mem_cons.mpr ⟨List.mem_of_getElem? (i := 45) rfl, List.forall_mem_cons.mpr ⟨List.mem_of_getElem? (i := 46) rfl, List.forall_mem_cons.mpr ⟨List.mem_of_getElem? (i := 47) rfl, List.forall_mem_cons.mpr ⟨List.mem_of_getElem? (i := 48) rfl, List.forall_mem_cons.mpr ⟨List.mem_of_getElem? (i := 49) rfl, List.forall_mem_cons.mpr ⟨List.mem_of_getElem? (i := 50) rfl, List.forall_mem_cons.mpr ⟨List.mem_of_getElem? (i := 51) rfl, List.forall_mem_cons.mpr ⟨List.mem_of_getElem? (i := 52) rfl, fun _ h => absurd h List.not_mem_nil⟩⟩⟩⟩⟩⟩⟩⟩⟩⟩⟩⟩⟩⟩⟩⟩⟩⟩⟩⟩⟩⟩⟩⟩)⟩), (fun _ h => List.mem_cons_of_mem _ (List.mem_append_right _ h))⟩)⟩) (by decide +kernel)
set_option maxRecDepth 20000 in
theorem gX6_isKeptOut_X6_thenAt : GoodIn wsX6_isKeptOut (wsV RX6 119 RX6 yX6_thenAt wsX6_thenAt) := goodIn_app (goodIn_sub (List.forall_mem_cons.mpr ⟨List.mem_of_getElem? (i := 11) rfl, List.forall_mem_cons.mpr ⟨List.mem_of_getElem? (i := 12) rfl, List.forall_mem_cons.mpr ⟨List.mem_of_getElem? (i := 13) rfl, List.forall_mem_cons.mpr ⟨List.mem_of_getElem? (i := 5) rfl, fun _ h => absurd h List.not_mem_nil⟩⟩⟩⟩) (by decide +kernel)) ggX6_isKeptOut_X6_thenAt
theorem dX6_isKeptOut_0 : decode cX6_isKeptOut 0 = .ok (.iconst 0, 1) := by decide +kernel
theorem dX6_isKeptOut_1 : decode cX6_isKeptOut 1 = .ok (.istore_n 3, 1) := by decide +kernel
theorem dX6_isKeptOut_2 : decode cX6_isKeptOut 2 = .ok (.iload_n 3, 1) := by decide +kernel
theorem dX6_isKeptOut_3 : decode cX6_isKeptOut 3 = .ok (.aload_n 0, 1) := by decide +kernel
theorem dX6_isKeptOut_4 : decode cX6_isKeptOut 4 = .ok (.getfield 9, 3) := by decide +kernel
theorem dX6_isKeptOut_7 : decode cX6_isKeptOut 7 = .ok (.iconst 5, 1) := by decide +kernel
theorem dX6_isKeptOut_8 : decode cX6_isKeptOut 8 = .ok (.iaload, 1) := by decide +kernel
theorem dX6_isKeptOut_9 : decode cX6_isKeptOut 9 = .ok (.if_icmp .ge 35, 3) := by decide +kernel
theorem dX6_isKeptOut_12 : decode cX6_isKeptOut 12 = .ok (.aload_n 0, 1) := by decide +kernel
theorem dX6_isKeptOut_13 : decode cX6_isKeptOut 13 = .ok (.iload_n 3, 1) := by decide +kernel
theorem dX6_isKeptOut_14 : decode cX6_isKeptOut 14 = .ok (.iconst 3, 1) := by decide +kernel
theorem dX6_isKeptOut_15 : decode cX6_isKeptOut 15 = .ok (.iload_n 1, 1) := by decide +kernel
theorem dX6_isKeptOut_16 : decode cX6_isKeptOut 16 = .ok (.iload_n 3, 1) := by decide +kernel
theorem dX6_isKeptOut_17 : decode cX6_isKeptOut 17 = .ok (.ishr, 1) := by decide +kernel
theorem dX6_isKeptOut_18 : decode cX6_isKeptOut 18 = .ok (.iconst 1, 1) := by decide +kernel
theorem dX6_isKeptOut_19 : decode cX6_isKeptOut 19 = .ok (.iand, 1) := by decide +kernel
theorem dX6_isKeptOut_20 : decode cX6_isKeptOut 20 = .ok (.iconst 1, 1) := by decide +kernel
theorem dX6_isKeptOut_21 : decode cX6_isKeptOut 21 = .ok (.if_icmp .ne 8, 3) := by decide +kernel
theorem dX6_isKeptOut_24 : decode cX6_isKeptOut 24 = .ok (.bipush 99, 2) := by decide +kernel
theorem dX6_isKeptOut_26 : decode cX6_isKeptOut 26 = .ok (.goto 9, 3) := by decide +kernel
theorem dX6_isKeptOut_29 : decode cX6_isKeptOut 29 = .ok (.aload_n 0, 1) := by decide +kernel
theorem dX6_isKeptOut_30 : decode cX6_isKeptOut 30 = .ok (.iload_n 3, 1) := by decide +kernel
theorem dX6_isKeptOut_31 : decode cX6_isKeptOut 31 = .ok (.iconst 3, 1) := by decide +kernel
theorem dX6_isKeptOut_32 : decode cX6_isKeptOut 32 = .ok (.invokevirtual 53, 3) := by decide +kernel
theorem dX6_isKeptOut_35 : decode cX6_isKeptOut 35 = .ok (.invokevirtual 64, 3) := by decide +kernel
theorem dX6_isKeptOut_38 : decode cX6_isKeptOut 38 = .ok (.iinc 3 1, 3) := by decide +kernel
theorem dX6_isKeptOut_41 : decode cX6_isKeptOut 41 = .ok (.goto (-39), 3) := by decide +kernel
theorem dX6_isKeptOut_44 : decode cX6_isKeptOut 44 = .ok (.aload_n 0, 1) := by decide +kernel
theorem dX6_isKeptOut_45 : decode cX6_isKeptOut 45 = .ok (.iconst 4, 1) := by decide +kernel
theorem dX6_isKeptOut_46 : decode cX6_isKeptOut 46 = .ok (.iload_n 2, 1) := by decide +kernel
theorem dX6_isKeptOut_47 : decode cX6_isKeptOut 47 = .ok (.invokevirtual 119, 3) := by decide +kernel
theorem dX6_isKeptOut_50 : decode cX6_isKeptOut 50 = .ok (.aload_n 0, 1) := by decide +kernel
theorem dX6_isKeptOut_51 : decode cX6_isKeptOut 51 = .ok (.getfield 9, 3) := by decide +kernel
theorem dX6_isKeptOut_54 : decode cX6_isKeptOut 54 = .ok (.iconst 4, 1) := by decide +kernel
theorem dX6_isKeptOut_55 : decode cX6_isKeptOut 55 = .ok (.iaload, 1) := by decide +kernel
theorem dX6_isKeptOut_56 : decode cX6_isKeptOut 56 = .ok (.if_icmp .ne 7, 3) := by decide +kernel
theorem dX6_isKeptOut_59 : decode cX6_isKeptOut 59 = .ok (.iconst 1, 1) := by decide +kernel
theorem dX6_isKeptOut_60 : decode cX6_isKeptOut 60 = .ok (.goto 4, 3) := by decide +kernel
theorem dX6_isKeptOut_63 : decode cX6_isKeptOut 63 = .ok (.iconst 0, 1) := by decide +kernel
theorem dX6_isKeptOut_64 : decode cX6_isKeptOut 64 = .ok (.ireturn, 1) := by decide +kernel
set_option maxRecDepth 20000 in
theorem ggX6_keep_X6_in1 : GoodIn wsX6_keep wsX6_in1 := goodIn_sub (List.forall_mem_cons.mpr ⟨List.mem_of_getElem? (i := 5) rfl, (fun _ h => absurd h List.not_mem_nil)⟩) (by decide +kernel)
set_option maxRecDepth 20000 in
theorem gX6_keep_X6_in1 : GoodIn wsX6_keep (va_wsS RX6 49 yX6_in1 wsX6_in1) := goodIn_app (goodIn_sub (List.forall_mem_cons.mpr ⟨List.mem_of_getElem? (i := 2) rfl, List.forall_mem_cons.mpr ⟨List.mem_of_getElem? (i := 3) rfl, List.forall_mem_cons.mpr ⟨List.mem_of_getElem? (i := 4) rfl, fun _ h => absurd h List.not_mem_nil⟩⟩⟩) (by decide +kernel)) ggX6_keep_X6_in1
set_option maxRecDepth 20000 in
theorem ggX6_keep_X6_no : GoodIn wsX6_keep wsX6_no := goodIn_sub (List.forall_mem_cons.mpr ⟨List.mem_of_getElem? (i := 9) rfl, (List.forall_mem_append.mpr ⟨(List.forall_mem_cons.mpr ⟨List.mem_of_getElem? (i := 10) rfl, List.forall_mem_cons.mpr ⟨List.mem_of_getElem? (i := 11) rfl, fun _ h => absurd h List.not_mem_nil⟩⟩), (fun _ h => List.mem_cons_of_mem _ (List.mem_append_right _ h))⟩)⟩) (by decide +kernel)
set_option maxRecDepth 20000 in
theorem gX6_keep_X6_no : GoodIn wsX6_keep (wsV RX6 87 RX6 yX6_no wsX6_no) := goodIn_app (goodIn_sub (List.forall_mem_cons.mpr ⟨List.mem_of_getElem? (i := 6) rfl, List.forall_mem_cons.mpr ⟨List.mem_of_getElem? (i := 7) rfl, List.forall_mem_cons.mpr ⟨List.mem_of_getElem? (i := 8) rfl, List.forall_mem_cons.mpr ⟨List.mem_of_getElem? (i := 4) rfl, fun _ h => absurd h List.not_mem_nil⟩⟩⟩⟩) (by decide +kernel)) ggX6_keep_X6_no
set_option maxRecDepth 20000 in
theorem ggX6_keep_X6_setsAside : GoodIn wsX6_keep wsX6_setsAside := goodIn_sub (List.forall_mem_cons.mpr ⟨List.mem_of_getElem? (i := 15) rfl, (List.forall_mem_append.mpr ⟨(List.forall_mem_cons.mpr ⟨List.mem_of_getElem? (i := 16) rfl, List.forall_mem_cons.mpr ⟨List.mem_of_getElem? (i := 1) rfl, fun _ h => absurd h List.not_mem_nil⟩⟩), (fun _ h => List.mem_cons_of_mem _ (List.mem_append_right _ h))⟩)⟩) (by decide +kernel)
set_option maxRecDepth 20000 in
theorem gX6_keep_X6_setsAside : GoodIn wsX6_keep (wsV RX6 116 RX6 yX6_setsAside wsX6_setsAside) := goodIn_app (goodIn_sub (List.forall_mem_cons.mpr ⟨List.mem_of_getElem? (i := 12) rfl, List.forall_mem_cons.mpr ⟨List.mem_of_getElem? (i := 13) rfl, List.forall_mem_cons.mpr ⟨List.mem_of_getElem? (i := 14) rfl, List.forall_mem_cons.mpr ⟨List.mem_of_getElem? (i := 4) rfl, fun _ h => absurd h List.not_mem_nil⟩⟩⟩⟩) (by decide +kernel)) ggX6_keep_X6_setsAside
set_option maxRecDepth 20000 in
theorem ggX6_keep_X6_bits : GoodIn wsX6_keep wsX6_bits := goodIn_sub (List.forall_mem_cons.mpr ⟨List.mem_of_getElem? (i := 19) rfl, (fun _ h => absurd h List.not_mem_nil)⟩) (by decide +kernel)
set_option maxRecDepth 20000 in
theorem gX6_keep_X6_bits : GoodIn wsX6_keep (va_wsS RX6 128 yX6_bits wsX6_bits) := goodIn_app (goodIn_sub (List.forall_mem_cons.mpr ⟨List.mem_of_getElem? (i := 17) rfl, List.forall_mem_cons.mpr ⟨List.mem_of_getElem? (i := 18) rfl, List.forall_mem_cons.mpr ⟨List.mem_of_getElem? (i := 4) rfl, fun _ h => absurd h List.not_mem_nil⟩⟩⟩) (by decide +kernel)) ggX6_keep_X6_bits
set_option maxRecDepth 20000 in
theorem ggX6_keep_X6_isKeptOut : GoodIn wsX6_keep wsX6_isKeptOut := goodIn_sub (List.forall_mem_cons.mpr ⟨List.mem_of_getElem? (i := 23) rfl, (List.forall_mem_append.mpr ⟨(List.forall_mem_append.mpr ⟨(List.forall_mem_cons.mpr ⟨List.mem_of_getElem? (i := 1) rfl, List.forall_mem_cons.mpr ⟨List.mem_of_getElem? (i := 24) rfl, List.forall_mem_cons.mpr ⟨List.mem_of_getElem? (i := 25) rfl, List.forall_mem_cons.mpr ⟨List.mem_of_getElem? (i := 26) rfl, List.forall_mem_cons.mpr ⟨List.mem_of_getElem? (i := 4) rfl, List.forall_mem_cons.mpr ⟨List.mem_of_getElem? (i := 27) rfl, List.forall_mem_cons.mpr ⟨List.mem_of_getElem? (i := 28) rfl, List.forall_mem_cons.mpr ⟨List.mem_of_getElem? (i := 29) rfl, List.forall_mem_cons.mpr ⟨List.mem_of_getElem? (i := 30) rfl, List.forall_mem_cons.mpr ⟨List.mem_of_getElem? (i := 31) rfl, List.forall_mem_cons.mpr ⟨List.mem_of_getElem? (i := 32) rfl, List.forall_mem_cons.mpr ⟨List.mem_of_getElem? (i := 33) rfl, List.forall_mem_cons.mpr ⟨List.mem_of_getElem? (i := 34) rfl, List.forall_mem_cons.mpr ⟨List.mem_of_getElem? (i := 35) rfl, List.forall_mem_cons.mpr ⟨List.mem_of_getElem? (i := 36) rfl, List.forall_mem_cons.mpr ⟨List.mem_of_getElem? (i := 37) rfl, List.forall_mem_cons.mpr ⟨List.mem_of_getElem? (i := 38) rfl, List.forall_mem_cons.mpr ⟨List.mem_of_getElem? (i := 39) rfl, List.forall_mem_cons.mpr ⟨List.mem_of_getElem? (i := 40) rfl, List.forall_mem_cons.mpr ⟨List.mem_of_getElem? (i := 41) rfl, List.forall_mem_cons.mpr ⟨List.mem_of_getElem? (i := 42) rfl, List.forall_mem_cons.mpr ⟨List.mem_of_getElem? (i := 43) rfl, List.forall_mem_cons.mpr ⟨List.mem_of_getElem? (i := 44) rfl, List.forall_mem_cons.mpr ⟨List.mem_of_getElem? (i := 45) rfl, fun _ h => absurd h List.not_mem_nil⟩⟩⟩⟩⟩⟩⟩⟩⟩⟩⟩⟩⟩⟩⟩⟩⟩⟩⟩⟩⟩⟩⟩⟩), (List.forall_mem_append.mpr ⟨(List.forall_mem_cons.mpr ⟨List.mem_of_getElem? (i := 46) rfl, List.forall_mem_cons.mpr ⟨List.mem_of_getElem? (i := 47) rfl, List.forall_mem_cons.mpr ⟨List.mem_of_getElem? (i := 48) rfl, List.forall_mem_cons.mpr ⟨List.mem_of_getElem? (i := 49) rfl, List.forall_mem_cons.mpr ⟨List.mem_of_getElem? (i := 50) rfl, List.forall_mem_cons.mpr ⟨List.mem_of_getElem? (i := 51) rfl, List.forall_mem_cons.mpr ⟨List.mem_of_getElem? (i := 52) rfl, List.forall_mem_cons.mpr ⟨List.mem_of_getElem? (i := 53) rfl, List.forall_mem_cons.mpr ⟨List.mem_of_getElem? (i := 54) rfl, List.forall_mem_cons.mpr ⟨List.mem_of_getElem? (i := 55) rfl, List.forall_mem_cons.mpr ⟨List.mem_of_getElem? (i := 56) rfl, List.forall_mem_cons.mpr ⟨List.mem_of_getElem? (i := 57) rfl, List.forall_mem_cons.mpr ⟨List.mem_of_getElem? (i := 58) rfl, List.forall_mem_cons.mpr ⟨List.mem_of_getElem? (i := 59) rfl, List.forall_mem_cons.mpr ⟨List.mem_of_getElem? (i := 60) rfl, List.forall_mem_cons.mpr ⟨List.mem_of_getElem? (i := 61) rfl, List.forall_mem_cons.mpr ⟨List.mem_of_getElem? (i := 62) rfl, List.forall_mem_cons.mpr ⟨List.mem_of_getElem? (i := 63) rfl, List.forall_mem_cons.mpr ⟨List.mem_of_getElem? (i := 64) rfl, List.forall_mem_cons.mpr ⟨List.mem_of_getElem? (i := 65) rfl, List.forall_mem_cons.mpr ⟨List.mem_of_getElem? (i := 66) rfl, List.forall_mem_cons.mpr ⟨List.mem_of_getElem? (i := 67) rfl, List.forall_mem_cons.mpr ⟨List.mem_of_getElem? (i := 68) rfl, List.forall_mem_cons.mpr ⟨List.mem_of_getElem? (i := 69) rfl, fun _ h => absurd h List.not_mem_nil⟩⟩⟩⟩⟩⟩⟩⟩⟩⟩⟩⟩⟩⟩⟩⟩⟩⟩⟩⟩⟩⟩⟩⟩), (List.forall_mem_cons.mpr ⟨List.mem_of_getElem? (i := 70) rfl, List.forall_mem_cons.mpr ⟨List.mem_of_getElem? (i := 71) rfl, List.forall_mem_cons.mpr ⟨List.mem_of_getElem? (i := 72) rfl, List.forall_mem_cons.mpr ⟨List.mem_of_getElem? (i := 16) rfl, fun _ h => absurd h List.not_mem_nil⟩⟩⟩⟩)⟩)⟩), (fun _ h => List.mem_cons_of_mem _ (List.mem_append_right _ h))⟩)⟩) (by decide +kernel)
set_option maxRecDepth 20000 in
theorem gX6_keep_X6_isKeptOut : GoodIn wsX6_keep (wsV RX6 131 RX6 yX6_isKeptOut wsX6_isKeptOut) := goodIn_app (goodIn_sub (List.forall_mem_cons.mpr ⟨List.mem_of_getElem? (i := 20) rfl, List.forall_mem_cons.mpr ⟨List.mem_of_getElem? (i := 21) rfl, List.forall_mem_cons.mpr ⟨List.mem_of_getElem? (i := 22) rfl, List.forall_mem_cons.mpr ⟨List.mem_of_getElem? (i := 4) rfl, fun _ h => absurd h List.not_mem_nil⟩⟩⟩⟩) (by decide +kernel)) ggX6_keep_X6_isKeptOut
theorem dX6_keep_0 : decode cX6_keep 0 = .ok (.iload_n 1, 1) := by decide +kernel
theorem dX6_keep_1 : decode cX6_keep 1 = .ok (.iconst 1, 1) := by decide +kernel
theorem dX6_keep_2 : decode cX6_keep 2 = .ok (.bipush 20, 2) := by decide +kernel
theorem dX6_keep_4 : decode cX6_keep 4 = .ok (.invokestatic 49, 3) := by decide +kernel
theorem dX6_keep_7 : decode cX6_keep 7 = .ok (.ifCond .ne 9, 3) := by decide +kernel
theorem dX6_keep_10 : decode cX6_keep 10 = .ok (.aload_n 0, 1) := by decide +kernel
theorem dX6_keep_11 : decode cX6_keep 11 = .ok (.iconst 0, 1) := by decide +kernel
theorem dX6_keep_12 : decode cX6_keep 12 = .ok (.invokevirtual 87, 3) := by decide +kernel
theorem dX6_keep_15 : decode cX6_keep 15 = .ok (.ireturn, 1) := by decide +kernel
theorem dX6_keep_16 : decode cX6_keep 16 = .ok (.iconst (-1), 1) := by decide +kernel
theorem dX6_keep_17 : decode cX6_keep 17 = .ok (.istore_n 2, 1) := by decide +kernel
theorem dX6_keep_18 : decode cX6_keep 18 = .ok (.aload_n 0, 1) := by decide +kernel
theorem dX6_keep_19 : decode cX6_keep 19 = .ok (.invokevirtual 116, 3) := by decide +kernel
theorem dX6_keep_22 : decode cX6_keep 22 = .ok (.iconst 0, 1) := by decide +kernel
theorem dX6_keep_23 : decode cX6_keep 23 = .ok (.istore_n 3, 1) := by decide +kernel
theorem dX6_keep_24 : decode cX6_keep 24 = .ok (.iload_n 3, 1) := by decide +kernel
theorem dX6_keep_25 : decode cX6_keep 25 = .ok (.iconst 1, 1) := by decide +kernel
theorem dX6_keep_26 : decode cX6_keep 26 = .ok (.aload_n 0, 1) := by decide +kernel
theorem dX6_keep_27 : decode cX6_keep 27 = .ok (.getfield 9, 3) := by decide +kernel
theorem dX6_keep_30 : decode cX6_keep 30 = .ok (.iconst 5, 1) := by decide +kernel
theorem dX6_keep_31 : decode cX6_keep 31 = .ok (.iaload, 1) := by decide +kernel
theorem dX6_keep_32 : decode cX6_keep 32 = .ok (.ishl, 1) := by decide +kernel
theorem dX6_keep_33 : decode cX6_keep 33 = .ok (.if_icmp .ge 51, 3) := by decide +kernel
theorem dX6_keep_36 : decode cX6_keep 36 = .ok (.iload_n 2, 1) := by decide +kernel
theorem dX6_keep_37 : decode cX6_keep 37 = .ok (.ifCond .lt 14, 3) := by decide +kernel
theorem dX6_keep_40 : decode cX6_keep 40 = .ok (.iload_n 3, 1) := by decide +kernel
theorem dX6_keep_41 : decode cX6_keep 41 = .ok (.invokestatic 128, 3) := by decide +kernel
theorem dX6_keep_44 : decode cX6_keep 44 = .ok (.iload_n 2, 1) := by decide +kernel
theorem dX6_keep_45 : decode cX6_keep 45 = .ok (.invokestatic 128, 3) := by decide +kernel
theorem dX6_keep_48 : decode cX6_keep 48 = .ok (.if_icmp .ge 7, 3) := by decide +kernel
theorem dX6_keep_51 : decode cX6_keep 51 = .ok (.iconst 1, 1) := by decide +kernel
theorem dX6_keep_52 : decode cX6_keep 52 = .ok (.goto 4, 3) := by decide +kernel
theorem dX6_keep_55 : decode cX6_keep 55 = .ok (.iconst 0, 1) := by decide +kernel
theorem dX6_keep_56 : decode cX6_keep 56 = .ok (.istore 4, 2) := by decide +kernel
theorem dX6_keep_58 : decode cX6_keep 58 = .ok (.iload 4, 2) := by decide +kernel
theorem dX6_keep_60 : decode cX6_keep 60 = .ok (.ifCond .eq 16, 3) := by decide +kernel
theorem dX6_keep_63 : decode cX6_keep 63 = .ok (.aload_n 0, 1) := by decide +kernel
theorem dX6_keep_64 : decode cX6_keep 64 = .ok (.iload_n 3, 1) := by decide +kernel
theorem dX6_keep_65 : decode cX6_keep 65 = .ok (.iload_n 1, 1) := by decide +kernel
theorem dX6_keep_66 : decode cX6_keep 66 = .ok (.invokevirtual 131, 3) := by decide +kernel
theorem dX6_keep_69 : decode cX6_keep 69 = .ok (.ifCond .eq 7, 3) := by decide +kernel
theorem dX6_keep_72 : decode cX6_keep 72 = .ok (.iload_n 3, 1) := by decide +kernel
theorem dX6_keep_73 : decode cX6_keep 73 = .ok (.goto 4, 3) := by decide +kernel
theorem dX6_keep_76 : decode cX6_keep 76 = .ok (.iload_n 2, 1) := by decide +kernel
theorem dX6_keep_77 : decode cX6_keep 77 = .ok (.istore_n 2, 1) := by decide +kernel
theorem dX6_keep_78 : decode cX6_keep 78 = .ok (.iinc 3 1, 3) := by decide +kernel
theorem dX6_keep_81 : decode cX6_keep 81 = .ok (.goto (-57), 3) := by decide +kernel
theorem dX6_keep_84 : decode cX6_keep 84 = .ok (.iload_n 2, 1) := by decide +kernel
theorem dX6_keep_85 : decode cX6_keep 85 = .ok (.ifCond .ge 11, 3) := by decide +kernel
theorem dX6_keep_88 : decode cX6_keep 88 = .ok (.aload_n 0, 1) := by decide +kernel
theorem dX6_keep_89 : decode cX6_keep 89 = .ok (.iconst 3, 1) := by decide +kernel
theorem dX6_keep_90 : decode cX6_keep 90 = .ok (.invokevirtual 87, 3) := by decide +kernel
theorem dX6_keep_93 : decode cX6_keep 93 = .ok (.goto 4, 3) := by decide +kernel
theorem dX6_keep_96 : decode cX6_keep 96 = .ok (.iload_n 2, 1) := by decide +kernel
theorem dX6_keep_97 : decode cX6_keep 97 = .ok (.ireturn, 1) := by decide +kernel
set_option maxRecDepth 20000 in
theorem ggX6_most_X6_isAhead : GoodIn wsX6_most wsX6_isAhead := goodIn_sub (List.forall_mem_cons.mpr ⟨List.mem_of_getElem? (i := 5) rfl, (List.forall_mem_cons.mpr ⟨List.mem_of_getElem? (i := 6) rfl, List.forall_mem_cons.mpr ⟨List.mem_of_getElem? (i := 7) rfl, List.forall_mem_cons.mpr ⟨List.mem_of_getElem? (i := 4) rfl, List.forall_mem_cons.mpr ⟨List.mem_of_getElem? (i := 8) rfl, fun _ h => absurd h List.not_mem_nil⟩⟩⟩⟩)⟩) (by decide +kernel)
set_option maxRecDepth 20000 in
theorem gX6_most_X6_isAhead : GoodIn wsX6_most (va_wsS RX6 113 yX6_isAhead wsX6_isAhead) := goodIn_app (goodIn_sub (List.forall_mem_cons.mpr ⟨List.mem_of_getElem? (i := 2) rfl, List.forall_mem_cons.mpr ⟨List.mem_of_getElem? (i := 3) rfl, List.forall_mem_cons.mpr ⟨List.mem_of_getElem? (i := 4) rfl, fun _ h => absurd h List.not_mem_nil⟩⟩⟩) (by decide +kernel)) ggX6_most_X6_isAhead
set_option maxRecDepth 20000 in
theorem ggX6_most_X6_no : GoodIn wsX6_most wsX6_no := goodIn_sub (List.forall_mem_cons.mpr ⟨List.mem_of_getElem? (i := 12) rfl, (List.forall_mem_append.mpr ⟨(List.forall_mem_cons.mpr ⟨List.mem_of_getElem? (i := 13) rfl, List.forall_mem_cons.mpr ⟨List.mem_of_getElem? (i := 14) rfl, fun _ h => absurd h List.not_mem_nil⟩⟩), (fun _ h => List.mem_cons_of_mem _ (List.mem_append_right _ h))⟩)⟩) (by decide +kernel)
set_option maxRecDepth 20000 in
theorem gX6_most_X6_no : GoodIn wsX6_most (wsV RX6 87 RX6 yX6_no wsX6_no) := goodIn_app (goodIn_sub (List.forall_mem_cons.mpr ⟨List.mem_of_getElem? (i := 9) rfl, List.forall_mem_cons.mpr ⟨List.mem_of_getElem? (i := 10) rfl, List.forall_mem_cons.mpr ⟨List.mem_of_getElem? (i := 11) rfl, List.forall_mem_cons.mpr ⟨List.mem_of_getElem? (i := 4) rfl, fun _ h => absurd h List.not_mem_nil⟩⟩⟩⟩) (by decide +kernel)) ggX6_most_X6_no
set_option maxRecDepth 20000 in
theorem ggX6_most_X6_setsAside : GoodIn wsX6_most wsX6_setsAside := goodIn_sub (List.forall_mem_cons.mpr ⟨List.mem_of_getElem? (i := 18) rfl, (List.forall_mem_append.mpr ⟨(List.forall_mem_cons.mpr ⟨List.mem_of_getElem? (i := 19) rfl, List.forall_mem_cons.mpr ⟨List.mem_of_getElem? (i := 1) rfl, fun _ h => absurd h List.not_mem_nil⟩⟩), (fun _ h => List.mem_cons_of_mem _ (List.mem_append_right _ h))⟩)⟩) (by decide +kernel)
set_option maxRecDepth 20000 in
theorem gX6_most_X6_setsAside : GoodIn wsX6_most (wsV RX6 116 RX6 yX6_setsAside wsX6_setsAside) := goodIn_app (goodIn_sub (List.forall_mem_cons.mpr ⟨List.mem_of_getElem? (i := 15) rfl, List.forall_mem_cons.mpr ⟨List.mem_of_getElem? (i := 16) rfl, List.forall_mem_cons.mpr ⟨List.mem_of_getElem? (i := 17) rfl, List.forall_mem_cons.mpr ⟨List.mem_of_getElem? (i := 4) rfl, fun _ h => absurd h List.not_mem_nil⟩⟩⟩⟩) (by decide +kernel)) ggX6_most_X6_setsAside
set_option maxRecDepth 20000 in
theorem ggX6_most_X6_goes : GoodIn wsX6_most wsX6_goes := goodIn_sub (List.forall_mem_cons.mpr ⟨List.mem_of_getElem? (i := 23) rfl, (List.forall_mem_append.mpr ⟨(List.forall_mem_append.mpr ⟨(List.forall_mem_cons.mpr ⟨List.mem_of_getElem? (i := 24) rfl, List.forall_mem_cons.mpr ⟨List.mem_of_getElem? (i := 25) rfl, List.forall_mem_cons.mpr ⟨List.mem_of_getElem? (i := 26) rfl, List.forall_mem_cons.mpr ⟨List.mem_of_getElem? (i := 4) rfl, List.forall_mem_cons.mpr ⟨List.mem_of_getElem? (i := 27) rfl, List.forall_mem_cons.mpr ⟨List.mem_of_getElem? (i := 1) rfl, List.forall_mem_cons.mpr ⟨List.mem_of_getElem? (i := 28) rfl, List.forall_mem_cons.mpr ⟨List.mem_of_getElem? (i := 29) rfl, List.forall_mem_cons.mpr ⟨List.mem_of_getElem? (i := 30) rfl, List.forall_mem_cons.mpr ⟨List.mem_of_getElem? (i := 31) rfl, List.forall_mem_cons.mpr ⟨List.mem_of_getElem? (i := 32) rfl, List.forall_mem_cons.mpr ⟨List.mem_of_getElem? (i := 33) rfl, List.forall_mem_cons.mpr ⟨List.mem_of_getElem? (i := 34) rfl, List.forall_mem_cons.mpr ⟨List.mem_of_getElem? (i := 35) rfl, List.forall_mem_cons.mpr ⟨List.mem_of_getElem? (i := 36) rfl, List.forall_mem_cons.mpr ⟨List.mem_of_getElem? (i := 37) rfl, List.forall_mem_cons.mpr ⟨List.mem_of_getElem? (i := 38) rfl, List.forall_mem_cons.mpr ⟨List.mem_of_getElem? (i := 39) rfl, List.forall_mem_cons.mpr ⟨List.mem_of_getElem? (i := 40) rfl, List.forall_mem_cons.mpr ⟨List.mem_of_getElem? (i := 41) rfl, List.forall_mem_cons.mpr ⟨List.mem_of_getElem? (i := 42) rfl, List.forall_mem_cons.mpr ⟨List.mem_of_getElem? (i := 43) rfl, List.forall_mem_cons.mpr ⟨List.mem_of_getElem? (i := 44) rfl, List.forall_mem_cons.mpr ⟨List.mem_of_getElem? (i := 45) rfl, fun _ h => absurd h List.not_mem_nil⟩⟩⟩⟩⟩⟩⟩⟩⟩⟩⟩⟩⟩⟩⟩⟩⟩⟩⟩⟩⟩⟩⟩⟩), (List.forall_mem_cons.mpr ⟨List.mem_of_getElem? (i := 46) rfl, List.forall_mem_cons.mpr ⟨List.mem_of_getElem? (i := 47) rfl, List.forall_mem_cons.mpr ⟨List.mem_of_getElem? (i := 48) rfl, List.forall_mem_cons.mpr ⟨List.mem_of_getElem? (i := 49) rfl, List.forall_mem_cons.mpr ⟨List.mem_of_getElem? (i := 50) rfl, List.forall_mem_cons.mpr ⟨List.mem_of_getElem? (i := 51) rfl, List.forall_mem_cons.mpr ⟨List.mem_of_getElem? (i := 52) rfl, List.forall_mem_cons.mpr ⟨List.mem_of_getElem? (i := 53) rfl, List.forall_mem_cons.mpr ⟨List.mem_of_getElem? (i := 54) rfl, List.forall_mem_cons.mpr ⟨List.mem_of_getElem? (i := 55) rfl, List.forall_mem_cons.mpr ⟨List.mem_of_getElem? (i := 56) rfl, List.forall_mem_cons.mpr ⟨List.mem_of_getElem? (i := 57) rfl, List.forall_mem_cons.mpr ⟨List.mem_of_getElem? (i := 58) rfl, List.forall_mem_cons.mpr ⟨List.mem_of_getElem? (i := 59) rfl, List.forall_mem_cons.mpr ⟨List.mem_of_getElem? (i := 60) rfl, fun _ h => absurd h List.not_mem_nil⟩⟩⟩⟩⟩⟩⟩⟩⟩⟩⟩⟩⟩⟩⟩)⟩), (fun _ h => List.mem_cons_of_mem _ (List.mem_append_right _ h))⟩)⟩) (by decide +kernel)
set_option maxRecDepth 20000 in
theorem gX6_most_X6_goes : GoodIn wsX6_most (wsV RX6 107 RX6 yX6_goes wsX6_goes) := goodIn_app (goodIn_sub (List.forall_mem_cons.mpr ⟨List.mem_of_getElem? (i := 20) rfl, List.forall_mem_cons.mpr ⟨List.mem_of_getElem? (i := 21) rfl, List.forall_mem_cons.mpr ⟨List.mem_of_getElem? (i := 22) rfl, List.forall_mem_cons.mpr ⟨List.mem_of_getElem? (i := 4) rfl, fun _ h => absurd h List.not_mem_nil⟩⟩⟩⟩) (by decide +kernel)) ggX6_most_X6_goes
set_option maxRecDepth 20000 in
theorem ggX6_most_X6_get : GoodIn wsX6_most wsX6_get := goodIn_sub (List.forall_mem_cons.mpr ⟨List.mem_of_getElem? (i := 38) rfl, (List.forall_mem_append.mpr ⟨(List.forall_mem_cons.mpr ⟨List.mem_of_getElem? (i := 1) rfl, fun _ h => absurd h List.not_mem_nil⟩), (fun _ h => List.mem_cons_of_mem _ (List.mem_append_right _ h))⟩)⟩) (by decide +kernel)
set_option maxRecDepth 20000 in
theorem gX6_most_X6_get : GoodIn wsX6_most (wsV RX6 53 RX6 yX6_get wsX6_get) := goodIn_app (goodIn_sub (List.forall_mem_cons.mpr ⟨List.mem_of_getElem? (i := 35) rfl, List.forall_mem_cons.mpr ⟨List.mem_of_getElem? (i := 36) rfl, List.forall_mem_cons.mpr ⟨List.mem_of_getElem? (i := 37) rfl, List.forall_mem_cons.mpr ⟨List.mem_of_getElem? (i := 4) rfl, fun _ h => absurd h List.not_mem_nil⟩⟩⟩⟩) (by decide +kernel)) ggX6_most_X6_get
set_option maxRecDepth 20000 in
theorem ggX6_most_X6_laysBack : GoodIn wsX6_most wsX6_laysBack := goodIn_sub (List.forall_mem_cons.mpr ⟨List.mem_of_getElem? (i := 64) rfl, (List.forall_mem_append.mpr ⟨(List.forall_mem_cons.mpr ⟨List.mem_of_getElem? (i := 1) rfl, List.forall_mem_cons.mpr ⟨List.mem_of_getElem? (i := 19) rfl, fun _ h => absurd h List.not_mem_nil⟩⟩), (fun _ h => List.mem_cons_of_mem _ (List.mem_append_right _ h))⟩)⟩) (by decide +kernel)
set_option maxRecDepth 20000 in
theorem gX6_most_X6_laysBack : GoodIn wsX6_most (wsV RX6 110 RX6 yX6_laysBack wsX6_laysBack) := goodIn_app (goodIn_sub (List.forall_mem_cons.mpr ⟨List.mem_of_getElem? (i := 61) rfl, List.forall_mem_cons.mpr ⟨List.mem_of_getElem? (i := 62) rfl, List.forall_mem_cons.mpr ⟨List.mem_of_getElem? (i := 63) rfl, List.forall_mem_cons.mpr ⟨List.mem_of_getElem? (i := 4) rfl, fun _ h => absurd h List.not_mem_nil⟩⟩⟩⟩) (by decide +kernel)) ggX6_most_X6_laysBack
theorem dX6_most_0 : decode cX6_most 0 = .ok (.iload_n 1, 1) := by decide +kernel
theorem dX6_most_1 : decode cX6_most 1 = .ok (.invokestatic 113, 3) := by decide +kernel
theorem dX6_most_4 : decode cX6_most 4 = .ok (.ifCond .ne 9, 3) := by decide +kernel
theorem dX6_most_7 : decode cX6_most 7 = .ok (.aload_n 0, 1) := by decide +kernel
theorem dX6_most_8 : decode cX6_most 8 = .ok (.iconst 0, 1) := by decide +kernel
theorem dX6_most_9 : decode cX6_most 9 = .ok (.invokevirtual 87, 3) := by decide +kernel
theorem dX6_most_12 : decode cX6_most 12 = .ok (.ireturn, 1) := by decide +kernel
theorem dX6_most_13 : decode cX6_most 13 = .ok (.aload_n 0, 1) := by decide +kernel
theorem dX6_most_14 : decode cX6_most 14 = .ok (.getfield 9, 3) := by decide +kernel
theorem dX6_most_17 : decode cX6_most 17 = .ok (.iconst 5, 1) := by decide +kernel
theorem dX6_most_18 : decode cX6_most 18 = .ok (.iaload, 1) := by decide +kernel
theorem dX6_most_19 : decode cX6_most 19 = .ok (.ifCond .ne 9, 3) := by decide +kernel
theorem dX6_most_22 : decode cX6_most 22 = .ok (.aload_n 0, 1) := by decide +kernel
theorem dX6_most_23 : decode cX6_most 23 = .ok (.iconst 3, 1) := by decide +kernel
theorem dX6_most_24 : decode cX6_most 24 = .ok (.invokevirtual 87, 3) := by decide +kernel
theorem dX6_most_27 : decode cX6_most 27 = .ok (.ireturn, 1) := by decide +kernel
theorem dX6_most_28 : decode cX6_most 28 = .ok (.aload_n 0, 1) := by decide +kernel
theorem dX6_most_29 : decode cX6_most 29 = .ok (.invokevirtual 116, 3) := by decide +kernel
theorem dX6_most_32 : decode cX6_most 32 = .ok (.aload_n 0, 1) := by decide +kernel
theorem dX6_most_33 : decode cX6_most 33 = .ok (.iload_n 1, 1) := by decide +kernel
theorem dX6_most_34 : decode cX6_most 34 = .ok (.invokevirtual 107, 3) := by decide +kernel
theorem dX6_most_37 : decode cX6_most 37 = .ok (.iconst 0, 1) := by decide +kernel
theorem dX6_most_38 : decode cX6_most 38 = .ok (.istore_n 2, 1) := by decide +kernel
theorem dX6_most_39 : decode cX6_most 39 = .ok (.iconst 1, 1) := by decide +kernel
theorem dX6_most_40 : decode cX6_most 40 = .ok (.istore_n 3, 1) := by decide +kernel
theorem dX6_most_41 : decode cX6_most 41 = .ok (.iload_n 3, 1) := by decide +kernel
theorem dX6_most_42 : decode cX6_most 42 = .ok (.aload_n 0, 1) := by decide +kernel
theorem dX6_most_43 : decode cX6_most 43 = .ok (.getfield 9, 3) := by decide +kernel
theorem dX6_most_46 : decode cX6_most 46 = .ok (.iconst 5, 1) := by decide +kernel
theorem dX6_most_47 : decode cX6_most 47 = .ok (.iaload, 1) := by decide +kernel
theorem dX6_most_48 : decode cX6_most 48 = .ok (.if_icmp .ge 30, 3) := by decide +kernel
theorem dX6_most_51 : decode cX6_most 51 = .ok (.aload_n 0, 1) := by decide +kernel
theorem dX6_most_52 : decode cX6_most 52 = .ok (.iload_n 3, 1) := by decide +kernel
theorem dX6_most_53 : decode cX6_most 53 = .ok (.iconst 4, 1) := by decide +kernel
theorem dX6_most_54 : decode cX6_most 54 = .ok (.invokevirtual 53, 3) := by decide +kernel
theorem dX6_most_57 : decode cX6_most 57 = .ok (.aload_n 0, 1) := by decide +kernel
theorem dX6_most_58 : decode cX6_most 58 = .ok (.iload_n 2, 1) := by decide +kernel
theorem dX6_most_59 : decode cX6_most 59 = .ok (.iconst 4, 1) := by decide +kernel
theorem dX6_most_60 : decode cX6_most 60 = .ok (.invokevirtual 53, 3) := by decide +kernel
theorem dX6_most_63 : decode cX6_most 63 = .ok (.if_icmp .le 7, 3) := by decide +kernel
theorem dX6_most_66 : decode cX6_most 66 = .ok (.iload_n 3, 1) := by decide +kernel
theorem dX6_most_67 : decode cX6_most 67 = .ok (.goto 4, 3) := by decide +kernel
theorem dX6_most_70 : decode cX6_most 70 = .ok (.iload_n 2, 1) := by decide +kernel
theorem dX6_most_71 : decode cX6_most 71 = .ok (.istore_n 2, 1) := by decide +kernel
theorem dX6_most_72 : decode cX6_most 72 = .ok (.iinc 3 1, 3) := by decide +kernel
theorem dX6_most_75 : decode cX6_most 75 = .ok (.goto (-34), 3) := by decide +kernel
theorem dX6_most_78 : decode cX6_most 78 = .ok (.aload_n 0, 1) := by decide +kernel
theorem dX6_most_79 : decode cX6_most 79 = .ok (.invokevirtual 110, 3) := by decide +kernel
theorem dX6_most_82 : decode cX6_most 82 = .ok (.iload_n 2, 1) := by decide +kernel
theorem dX6_most_83 : decode cX6_most 83 = .ok (.ireturn, 1) := by decide +kernel
set_option maxRecDepth 20000 in
theorem ggX6_feed_X6_in1 : GoodIn wsX6_feed wsX6_in1 := goodIn_sub (List.forall_mem_cons.mpr ⟨List.mem_of_getElem? (i := 6) rfl, (fun _ h => absurd h List.not_mem_nil)⟩) (by decide +kernel)
set_option maxRecDepth 20000 in
theorem gX6_feed_X6_in1 : GoodIn wsX6_feed (va_wsS RX6 49 yX6_in1 wsX6_in1) := goodIn_app (goodIn_sub (List.forall_mem_cons.mpr ⟨List.mem_of_getElem? (i := 3) rfl, List.forall_mem_cons.mpr ⟨List.mem_of_getElem? (i := 4) rfl, List.forall_mem_cons.mpr ⟨List.mem_of_getElem? (i := 5) rfl, fun _ h => absurd h List.not_mem_nil⟩⟩⟩) (by decide +kernel)) ggX6_feed_X6_in1
set_option maxRecDepth 20000 in
theorem ggX6_feed_X6_no : GoodIn wsX6_feed wsX6_no := goodIn_sub (List.forall_mem_cons.mpr ⟨List.mem_of_getElem? (i := 10) rfl, (List.forall_mem_append.mpr ⟨(List.forall_mem_cons.mpr ⟨List.mem_of_getElem? (i := 11) rfl, List.forall_mem_cons.mpr ⟨List.mem_of_getElem? (i := 12) rfl, fun _ h => absurd h List.not_mem_nil⟩⟩), (fun _ h => List.mem_cons_of_mem _ (List.mem_append_right _ h))⟩)⟩) (by decide +kernel)
set_option maxRecDepth 20000 in
theorem gX6_feed_X6_no : GoodIn wsX6_feed (wsV RX6 87 RX6 yX6_no wsX6_no) := goodIn_app (goodIn_sub (List.forall_mem_cons.mpr ⟨List.mem_of_getElem? (i := 7) rfl, List.forall_mem_cons.mpr ⟨List.mem_of_getElem? (i := 8) rfl, List.forall_mem_cons.mpr ⟨List.mem_of_getElem? (i := 9) rfl, List.forall_mem_cons.mpr ⟨List.mem_of_getElem? (i := 5) rfl, fun _ h => absurd h List.not_mem_nil⟩⟩⟩⟩) (by decide +kernel)) ggX6_feed_X6_no
theorem dX6_feed_0 : decode cX6_feed 0 = .ok (.iload_n 2, 1) := by decide +kernel
theorem dX6_feed_1 : decode cX6_feed 1 = .ok (.iconst 1, 1) := by decide +kernel
theorem dX6_feed_2 : decode cX6_feed 2 = .ok (.iconst 4, 1) := by decide +kernel
theorem dX6_feed_3 : decode cX6_feed 3 = .ok (.invokestatic 49, 3) := by decide +kernel
theorem dX6_feed_6 : decode cX6_feed 6 = .ok (.ifCond .ne 9, 3) := by decide +kernel
theorem dX6_feed_9 : decode cX6_feed 9 = .ok (.aload_n 0, 1) := by decide +kernel
theorem dX6_feed_10 : decode cX6_feed 10 = .ok (.iconst 0, 1) := by decide +kernel
theorem dX6_feed_11 : decode cX6_feed 11 = .ok (.invokevirtual 87, 3) := by decide +kernel
theorem dX6_feed_14 : decode cX6_feed 14 = .ok (.ireturn, 1) := by decide +kernel
theorem dX6_feed_15 : decode cX6_feed 15 = .ok (.aload_n 0, 1) := by decide +kernel
theorem dX6_feed_16 : decode cX6_feed 16 = .ok (.getfield 135, 3) := by decide +kernel
theorem dX6_feed_19 : decode cX6_feed 19 = .ok (.iload_n 2, 1) := by decide +kernel
theorem dX6_feed_20 : decode cX6_feed 20 = .ok (.iadd, 1) := by decide +kernel
theorem dX6_feed_21 : decode cX6_feed 21 = .ok (.bipush 120, 2) := by decide +kernel
theorem dX6_feed_23 : decode cX6_feed 23 = .ok (.if_icmp .le 9, 3) := by decide +kernel
theorem dX6_feed_26 : decode cX6_feed 26 = .ok (.aload_n 0, 1) := by decide +kernel
theorem dX6_feed_27 : decode cX6_feed 27 = .ok (.iconst 1, 1) := by decide +kernel
theorem dX6_feed_28 : decode cX6_feed 28 = .ok (.invokevirtual 87, 3) := by decide +kernel
theorem dX6_feed_31 : decode cX6_feed 31 = .ok (.ireturn, 1) := by decide +kernel
theorem dX6_feed_32 : decode cX6_feed 32 = .ok (.iload_n 2, 1) := by decide +kernel
theorem dX6_feed_33 : decode cX6_feed 33 = .ok (.iconst 1, 1) := by decide +kernel
theorem dX6_feed_34 : decode cX6_feed 34 = .ok (.isub, 1) := by decide +kernel
theorem dX6_feed_35 : decode cX6_feed 35 = .ok (.istore_n 3, 1) := by decide +kernel
theorem dX6_feed_36 : decode cX6_feed 36 = .ok (.iload_n 3, 1) := by decide +kernel
theorem dX6_feed_37 : decode cX6_feed 37 = .ok (.ifCond .lt 38, 3) := by decide +kernel
theorem dX6_feed_40 : decode cX6_feed 40 = .ok (.aload_n 0, 1) := by decide +kernel
theorem dX6_feed_41 : decode cX6_feed 41 = .ok (.getfield 22, 3) := by decide +kernel
theorem dX6_feed_44 : decode cX6_feed 44 = .ok (.aload_n 0, 1) := by decide +kernel
theorem dX6_feed_45 : decode cX6_feed 45 = .ok (.getfield 135, 3) := by decide +kernel
theorem dX6_feed_48 : decode cX6_feed 48 = .ok (.iload_n 1, 1) := by decide +kernel
theorem dX6_feed_49 : decode cX6_feed 49 = .ok (.bipush 8, 2) := by decide +kernel
theorem dX6_feed_51 : decode cX6_feed 51 = .ok (.iload_n 3, 1) := by decide +kernel
theorem dX6_feed_52 : decode cX6_feed 52 = .ok (.imul, 1) := by decide +kernel
theorem dX6_feed_53 : decode cX6_feed 53 = .ok (.ishr, 1) := by decide +kernel
theorem dX6_feed_54 : decode cX6_feed 54 = .ok (.sipush 255, 3) := by decide +kernel
theorem dX6_feed_57 : decode cX6_feed 57 = .ok (.iand, 1) := by decide +kernel
theorem dX6_feed_58 : decode cX6_feed 58 = .ok (.iastore, 1) := by decide +kernel
theorem dX6_feed_59 : decode cX6_feed 59 = .ok (.aload_n 0, 1) := by decide +kernel
theorem dX6_feed_60 : decode cX6_feed 60 = .ok (.dup, 1) := by decide +kernel
theorem dX6_feed_61 : decode cX6_feed 61 = .ok (.getfield 135, 3) := by decide +kernel
theorem dX6_feed_64 : decode cX6_feed 64 = .ok (.iconst 1, 1) := by decide +kernel
theorem dX6_feed_65 : decode cX6_feed 65 = .ok (.iadd, 1) := by decide +kernel
theorem dX6_feed_66 : decode cX6_feed 66 = .ok (.putfield 135, 3) := by decide +kernel
theorem dX6_feed_69 : decode cX6_feed 69 = .ok (.iinc 3 (-1), 3) := by decide +kernel
theorem dX6_feed_72 : decode cX6_feed 72 = .ok (.goto (-36), 3) := by decide +kernel
theorem dX6_feed_75 : decode cX6_feed 75 = .ok (.aload_n 0, 1) := by decide +kernel
theorem dX6_feed_76 : decode cX6_feed 76 = .ok (.getfield 135, 3) := by decide +kernel
theorem dX6_feed_79 : decode cX6_feed 79 = .ok (.ireturn, 1) := by decide +kernel
theorem dX6_wipe_0 : decode cX6_wipe 0 = .ok (.aload_n 0, 1) := by decide +kernel
theorem dX6_wipe_1 : decode cX6_wipe 1 = .ok (.getfield 135, 3) := by decide +kernel
theorem dX6_wipe_4 : decode cX6_wipe 4 = .ok (.istore_n 1, 1) := by decide +kernel
theorem dX6_wipe_5 : decode cX6_wipe 5 = .ok (.aload_n 0, 1) := by decide +kernel
theorem dX6_wipe_6 : decode cX6_wipe 6 = .ok (.iconst 0, 1) := by decide +kernel
theorem dX6_wipe_7 : decode cX6_wipe 7 = .ok (.putfield 135, 3) := by decide +kernel
theorem dX6_wipe_10 : decode cX6_wipe 10 = .ok (.iload_n 1, 1) := by decide +kernel
theorem dX6_wipe_11 : decode cX6_wipe 11 = .ok (.ireturn, 1) := by decide +kernel
set_option maxRecDepth 20000 in
theorem ggX6_isLetter_X6_in1 : GoodIn wsX6_isLetter wsX6_in1 := goodIn_sub (List.forall_mem_cons.mpr ⟨List.mem_of_getElem? (i := 4) rfl, (fun _ h => absurd h List.not_mem_nil)⟩) (by decide +kernel)
set_option maxRecDepth 20000 in
theorem gX6_isLetter_X6_in1 : GoodIn wsX6_isLetter (va_wsS RX6 49 yX6_in1 wsX6_in1) := goodIn_app (goodIn_sub (List.forall_mem_cons.mpr ⟨List.mem_of_getElem? (i := 1) rfl, List.forall_mem_cons.mpr ⟨List.mem_of_getElem? (i := 2) rfl, List.forall_mem_cons.mpr ⟨List.mem_of_getElem? (i := 3) rfl, fun _ h => absurd h List.not_mem_nil⟩⟩⟩) (by decide +kernel)) ggX6_isLetter_X6_in1
theorem dX6_isLetter_0 : decode cX6_isLetter 0 = .ok (.iload_n 0, 1) := by decide +kernel
theorem dX6_isLetter_1 : decode cX6_isLetter 1 = .ok (.bipush 97, 2) := by decide +kernel
theorem dX6_isLetter_3 : decode cX6_isLetter 3 = .ok (.bipush 122, 2) := by decide +kernel
theorem dX6_isLetter_5 : decode cX6_isLetter 5 = .ok (.invokestatic 49, 3) := by decide +kernel
theorem dX6_isLetter_8 : decode cX6_isLetter 8 = .ok (.ireturn, 1) := by decide +kernel
set_option maxRecDepth 20000 in
theorem ggX6_isDigit_X6_in1 : GoodIn wsX6_isDigit wsX6_in1 := goodIn_sub (List.forall_mem_cons.mpr ⟨List.mem_of_getElem? (i := 4) rfl, (fun _ h => absurd h List.not_mem_nil)⟩) (by decide +kernel)
set_option maxRecDepth 20000 in
theorem gX6_isDigit_X6_in1 : GoodIn wsX6_isDigit (va_wsS RX6 49 yX6_in1 wsX6_in1) := goodIn_app (goodIn_sub (List.forall_mem_cons.mpr ⟨List.mem_of_getElem? (i := 1) rfl, List.forall_mem_cons.mpr ⟨List.mem_of_getElem? (i := 2) rfl, List.forall_mem_cons.mpr ⟨List.mem_of_getElem? (i := 3) rfl, fun _ h => absurd h List.not_mem_nil⟩⟩⟩) (by decide +kernel)) ggX6_isDigit_X6_in1
theorem dX6_isDigit_0 : decode cX6_isDigit 0 = .ok (.iload_n 0, 1) := by decide +kernel
theorem dX6_isDigit_1 : decode cX6_isDigit 1 = .ok (.bipush 48, 2) := by decide +kernel
theorem dX6_isDigit_3 : decode cX6_isDigit 3 = .ok (.bipush 57, 2) := by decide +kernel
theorem dX6_isDigit_5 : decode cX6_isDigit 5 = .ok (.invokestatic 49, 3) := by decide +kernel
theorem dX6_isDigit_8 : decode cX6_isDigit 8 = .ok (.ireturn, 1) := by decide +kernel
set_option maxRecDepth 20000 in
theorem ggX6_nextToken_X6_isLetter : GoodIn wsX6_nextToken wsX6_isLetter := goodIn_sub (List.forall_mem_cons.mpr ⟨List.mem_of_getElem? (i := 16) rfl, (List.forall_mem_cons.mpr ⟨List.mem_of_getElem? (i := 17) rfl, List.forall_mem_cons.mpr ⟨List.mem_of_getElem? (i := 18) rfl, List.forall_mem_cons.mpr ⟨List.mem_of_getElem? (i := 15) rfl, List.forall_mem_cons.mpr ⟨List.mem_of_getElem? (i := 19) rfl, fun _ h => absurd h List.not_mem_nil⟩⟩⟩⟩)⟩) (by decide +kernel)
set_option maxRecDepth 20000 in
theorem gX6_nextToken_X6_isLetter : GoodIn wsX6_nextToken (va_wsS RX6 152 yX6_isLetter wsX6_isLetter) := goodIn_app (goodIn_sub (List.forall_mem_cons.mpr ⟨List.mem_of_getElem? (i := 13) rfl, List.forall_mem_cons.mpr ⟨List.mem_of_getElem? (i := 14) rfl, List.forall_mem_cons.mpr ⟨List.mem_of_getElem? (i := 15) rfl, fun _ h => absurd h List.not_mem_nil⟩⟩⟩) (by decide +kernel)) ggX6_nextToken_X6_isLetter
set_option maxRecDepth 20000 in
theorem ggX6_nextToken_X6_isDigit : GoodIn wsX6_nextToken wsX6_isDigit := goodIn_sub (List.forall_mem_cons.mpr ⟨List.mem_of_getElem? (i := 22) rfl, (List.forall_mem_cons.mpr ⟨List.mem_of_getElem? (i := 17) rfl, List.forall_mem_cons.mpr ⟨List.mem_of_getElem? (i := 18) rfl, List.forall_mem_cons.mpr ⟨List.mem_of_getElem? (i := 15) rfl, List.forall_mem_cons.mpr ⟨List.mem_of_getElem? (i := 19) rfl, fun _ h => absurd h List.not_mem_nil⟩⟩⟩⟩)⟩) (by decide +kernel)
set_option maxRecDepth 20000 in
theorem gX6_nextToken_X6_isDigit : GoodIn wsX6_nextToken (va_wsS RX6 161 yX6_isDigit wsX6_isDigit) := goodIn_app (goodIn_sub (List.forall_mem_cons.mpr ⟨List.mem_of_getElem? (i := 20) rfl, List.forall_mem_cons.mpr ⟨List.mem_of_getElem? (i := 21) rfl, List.forall_mem_cons.mpr ⟨List.mem_of_getElem? (i := 15) rfl, fun _ h => absurd h List.not_mem_nil⟩⟩⟩) (by decide +kernel)) ggX6_nextToken_X6_isDigit
theorem dX6_nextToken_0 : decode cX6_nextToken 0 = .ok (.aload_n 0, 1) := by decide +kernel
theorem dX6_nextToken_1 : decode cX6_nextToken 1 = .ok (.aload_n 0, 1) := by decide +kernel
theorem dX6_nextToken_2 : decode cX6_nextToken 2 = .ok (.getfield 139, 3) := by decide +kernel
theorem dX6_nextToken_5 : decode cX6_nextToken 5 = .ok (.putfield 142, 3) := by decide +kernel
theorem dX6_nextToken_8 : decode cX6_nextToken 8 = .ok (.aload_n 0, 1) := by decide +kernel
theorem dX6_nextToken_9 : decode cX6_nextToken 9 = .ok (.getfield 142, 3) := by decide +kernel
theorem dX6_nextToken_12 : decode cX6_nextToken 12 = .ok (.aload_n 0, 1) := by decide +kernel
theorem dX6_nextToken_13 : decode cX6_nextToken 13 = .ok (.getfield 135, 3) := by decide +kernel
theorem dX6_nextToken_16 : decode cX6_nextToken 16 = .ok (.if_icmp .ge 30, 3) := by decide +kernel
theorem dX6_nextToken_19 : decode cX6_nextToken 19 = .ok (.aload_n 0, 1) := by decide +kernel
theorem dX6_nextToken_20 : decode cX6_nextToken 20 = .ok (.getfield 22, 3) := by decide +kernel
theorem dX6_nextToken_23 : decode cX6_nextToken 23 = .ok (.aload_n 0, 1) := by decide +kernel
theorem dX6_nextToken_24 : decode cX6_nextToken 24 = .ok (.getfield 142, 3) := by decide +kernel
theorem dX6_nextToken_27 : decode cX6_nextToken 27 = .ok (.iaload, 1) := by decide +kernel
theorem dX6_nextToken_28 : decode cX6_nextToken 28 = .ok (.bipush 32, 2) := by decide +kernel
theorem dX6_nextToken_30 : decode cX6_nextToken 30 = .ok (.if_icmp .ne 16, 3) := by decide +kernel
theorem dX6_nextToken_33 : decode cX6_nextToken 33 = .ok (.aload_n 0, 1) := by decide +kernel
theorem dX6_nextToken_34 : decode cX6_nextToken 34 = .ok (.dup, 1) := by decide +kernel
theorem dX6_nextToken_35 : decode cX6_nextToken 35 = .ok (.getfield 142, 3) := by decide +kernel
theorem dX6_nextToken_38 : decode cX6_nextToken 38 = .ok (.iconst 1, 1) := by decide +kernel
theorem dX6_nextToken_39 : decode cX6_nextToken 39 = .ok (.iadd, 1) := by decide +kernel
theorem dX6_nextToken_40 : decode cX6_nextToken 40 = .ok (.putfield 142, 3) := by decide +kernel
theorem dX6_nextToken_43 : decode cX6_nextToken 43 = .ok (.goto (-35), 3) := by decide +kernel
theorem dX6_nextToken_46 : decode cX6_nextToken 46 = .ok (.aload_n 0, 1) := by decide +kernel
theorem dX6_nextToken_47 : decode cX6_nextToken 47 = .ok (.aload_n 0, 1) := by decide +kernel
theorem dX6_nextToken_48 : decode cX6_nextToken 48 = .ok (.getfield 142, 3) := by decide +kernel
theorem dX6_nextToken_51 : decode cX6_nextToken 51 = .ok (.putfield 139, 3) := by decide +kernel
theorem dX6_nextToken_54 : decode cX6_nextToken 54 = .ok (.aload_n 0, 1) := by decide +kernel
theorem dX6_nextToken_55 : decode cX6_nextToken 55 = .ok (.lconst 0, 1) := by decide +kernel
theorem dX6_nextToken_56 : decode cX6_nextToken 56 = .ok (.putfield 145, 3) := by decide +kernel
theorem dX6_nextToken_59 : decode cX6_nextToken 59 = .ok (.aload_n 0, 1) := by decide +kernel
theorem dX6_nextToken_60 : decode cX6_nextToken 60 = .ok (.getfield 142, 3) := by decide +kernel
theorem dX6_nextToken_63 : decode cX6_nextToken 63 = .ok (.aload_n 0, 1) := by decide +kernel
theorem dX6_nextToken_64 : decode cX6_nextToken 64 = .ok (.getfield 135, 3) := by decide +kernel
theorem dX6_nextToken_67 : decode cX6_nextToken 67 = .ok (.if_icmp .ne 11, 3) := by decide +kernel
theorem dX6_nextToken_70 : decode cX6_nextToken 70 = .ok (.aload_n 0, 1) := by decide +kernel
theorem dX6_nextToken_71 : decode cX6_nextToken 71 = .ok (.iconst 0, 1) := by decide +kernel
theorem dX6_nextToken_72 : decode cX6_nextToken 72 = .ok (.putfield 149, 3) := by decide +kernel
theorem dX6_nextToken_75 : decode cX6_nextToken 75 = .ok (.goto 262, 3) := by decide +kernel
theorem dX6_nextToken_78 : decode cX6_nextToken 78 = .ok (.aload_n 0, 1) := by decide +kernel
theorem dX6_nextToken_79 : decode cX6_nextToken 79 = .ok (.getfield 22, 3) := by decide +kernel
theorem dX6_nextToken_82 : decode cX6_nextToken 82 = .ok (.aload_n 0, 1) := by decide +kernel
theorem dX6_nextToken_83 : decode cX6_nextToken 83 = .ok (.getfield 142, 3) := by decide +kernel
theorem dX6_nextToken_86 : decode cX6_nextToken 86 = .ok (.iaload, 1) := by decide +kernel
theorem dX6_nextToken_87 : decode cX6_nextToken 87 = .ok (.invokestatic 152, 3) := by decide +kernel
theorem dX6_nextToken_90 : decode cX6_nextToken 90 = .ok (.ifCond .eq 92, 3) := by decide +kernel
theorem dX6_nextToken_93 : decode cX6_nextToken 93 = .ok (.aload_n 0, 1) := by decide +kernel
theorem dX6_nextToken_94 : decode cX6_nextToken 94 = .ok (.iconst 1, 1) := by decide +kernel
theorem dX6_nextToken_95 : decode cX6_nextToken 95 = .ok (.putfield 149, 3) := by decide +kernel
theorem dX6_nextToken_98 : decode cX6_nextToken 98 = .ok (.aload_n 0, 1) := by decide +kernel
theorem dX6_nextToken_99 : decode cX6_nextToken 99 = .ok (.getfield 139, 3) := by decide +kernel
theorem dX6_nextToken_102 : decode cX6_nextToken 102 = .ok (.aload_n 0, 1) := by decide +kernel
theorem dX6_nextToken_103 : decode cX6_nextToken 103 = .ok (.getfield 135, 3) := by decide +kernel
theorem dX6_nextToken_106 : decode cX6_nextToken 106 = .ok (.if_icmp .ge 231, 3) := by decide +kernel
theorem dX6_nextToken_109 : decode cX6_nextToken 109 = .ok (.aload_n 0, 1) := by decide +kernel
theorem dX6_nextToken_110 : decode cX6_nextToken 110 = .ok (.getfield 22, 3) := by decide +kernel
theorem dX6_nextToken_113 : decode cX6_nextToken 113 = .ok (.aload_n 0, 1) := by decide +kernel
theorem dX6_nextToken_114 : decode cX6_nextToken 114 = .ok (.getfield 139, 3) := by decide +kernel
theorem dX6_nextToken_117 : decode cX6_nextToken 117 = .ok (.iaload, 1) := by decide +kernel
theorem dX6_nextToken_118 : decode cX6_nextToken 118 = .ok (.invokestatic 152, 3) := by decide +kernel
theorem dX6_nextToken_121 : decode cX6_nextToken 121 = .ok (.ifCond .eq 216, 3) := by decide +kernel
theorem dX6_nextToken_124 : decode cX6_nextToken 124 = .ok (.aload_n 0, 1) := by decide +kernel
theorem dX6_nextToken_125 : decode cX6_nextToken 125 = .ok (.aload_n 0, 1) := by decide +kernel
theorem dX6_nextToken_126 : decode cX6_nextToken 126 = .ok (.getfield 145, 3) := by decide +kernel
theorem dX6_nextToken_129 : decode cX6_nextToken 129 = .ok (.ldc2_w 155, 3) := by decide +kernel
theorem dX6_nextToken_132 : decode cX6_nextToken 132 = .ok (.lcmp, 1) := by decide +kernel
theorem dX6_nextToken_133 : decode cX6_nextToken 133 = .ok (.ifCond .le 10, 3) := by decide +kernel
theorem dX6_nextToken_136 : decode cX6_nextToken 136 = .ok (.aload_n 0, 1) := by decide +kernel
theorem dX6_nextToken_137 : decode cX6_nextToken 137 = .ok (.getfield 145, 3) := by decide +kernel
theorem dX6_nextToken_140 : decode cX6_nextToken 140 = .ok (.goto 26, 3) := by decide +kernel
theorem dX6_nextToken_143 : decode cX6_nextToken 143 = .ok (.aload_n 0, 1) := by decide +kernel
theorem dX6_nextToken_144 : decode cX6_nextToken 144 = .ok (.getfield 145, 3) := by decide +kernel
theorem dX6_nextToken_147 : decode cX6_nextToken 147 = .ok (.ldc2_w 157, 3) := by decide +kernel
theorem dX6_nextToken_150 : decode cX6_nextToken 150 = .ok (.lmul, 1) := by decide +kernel
theorem dX6_nextToken_151 : decode cX6_nextToken 151 = .ok (.aload_n 0, 1) := by decide +kernel
theorem dX6_nextToken_152 : decode cX6_nextToken 152 = .ok (.getfield 22, 3) := by decide +kernel
theorem dX6_nextToken_155 : decode cX6_nextToken 155 = .ok (.aload_n 0, 1) := by decide +kernel
theorem dX6_nextToken_156 : decode cX6_nextToken 156 = .ok (.getfield 139, 3) := by decide +kernel
theorem dX6_nextToken_159 : decode cX6_nextToken 159 = .ok (.iaload, 1) := by decide +kernel
theorem dX6_nextToken_160 : decode cX6_nextToken 160 = .ok (.i2l, 1) := by decide +kernel
theorem dX6_nextToken_161 : decode cX6_nextToken 161 = .ok (.ladd, 1) := by decide +kernel
theorem dX6_nextToken_162 : decode cX6_nextToken 162 = .ok (.ldc2_w 159, 3) := by decide +kernel
theorem dX6_nextToken_165 : decode cX6_nextToken 165 = .ok (.lsub, 1) := by decide +kernel
theorem dX6_nextToken_166 : decode cX6_nextToken 166 = .ok (.putfield 145, 3) := by decide +kernel
theorem dX6_nextToken_169 : decode cX6_nextToken 169 = .ok (.aload_n 0, 1) := by decide +kernel
theorem dX6_nextToken_170 : decode cX6_nextToken 170 = .ok (.dup, 1) := by decide +kernel
theorem dX6_nextToken_171 : decode cX6_nextToken 171 = .ok (.getfield 139, 3) := by decide +kernel
theorem dX6_nextToken_174 : decode cX6_nextToken 174 = .ok (.iconst 1, 1) := by decide +kernel
theorem dX6_nextToken_175 : decode cX6_nextToken 175 = .ok (.iadd, 1) := by decide +kernel
theorem dX6_nextToken_176 : decode cX6_nextToken 176 = .ok (.putfield 139, 3) := by decide +kernel
theorem dX6_nextToken_179 : decode cX6_nextToken 179 = .ok (.goto (-81), 3) := by decide +kernel
theorem dX6_nextToken_182 : decode cX6_nextToken 182 = .ok (.aload_n 0, 1) := by decide +kernel
theorem dX6_nextToken_183 : decode cX6_nextToken 183 = .ok (.getfield 22, 3) := by decide +kernel
theorem dX6_nextToken_186 : decode cX6_nextToken 186 = .ok (.aload_n 0, 1) := by decide +kernel
theorem dX6_nextToken_187 : decode cX6_nextToken 187 = .ok (.getfield 142, 3) := by decide +kernel
theorem dX6_nextToken_190 : decode cX6_nextToken 190 = .ok (.iaload, 1) := by decide +kernel
theorem dX6_nextToken_191 : decode cX6_nextToken 191 = .ok (.invokestatic 161, 3) := by decide +kernel
theorem dX6_nextToken_194 : decode cX6_nextToken 194 = .ok (.ifCond .eq 110, 3) := by decide +kernel
theorem dX6_nextToken_197 : decode cX6_nextToken 197 = .ok (.aload_n 0, 1) := by decide +kernel
theorem dX6_nextToken_198 : decode cX6_nextToken 198 = .ok (.getfield 139, 3) := by decide +kernel
theorem dX6_nextToken_201 : decode cX6_nextToken 201 = .ok (.aload_n 0, 1) := by decide +kernel
theorem dX6_nextToken_202 : decode cX6_nextToken 202 = .ok (.getfield 135, 3) := by decide +kernel
theorem dX6_nextToken_205 : decode cX6_nextToken 205 = .ok (.if_icmp .ge 76, 3) := by decide +kernel
theorem dX6_nextToken_208 : decode cX6_nextToken 208 = .ok (.aload_n 0, 1) := by decide +kernel
theorem dX6_nextToken_209 : decode cX6_nextToken 209 = .ok (.getfield 22, 3) := by decide +kernel
theorem dX6_nextToken_212 : decode cX6_nextToken 212 = .ok (.aload_n 0, 1) := by decide +kernel
theorem dX6_nextToken_213 : decode cX6_nextToken 213 = .ok (.getfield 139, 3) := by decide +kernel
theorem dX6_nextToken_216 : decode cX6_nextToken 216 = .ok (.iaload, 1) := by decide +kernel
theorem dX6_nextToken_217 : decode cX6_nextToken 217 = .ok (.invokestatic 161, 3) := by decide +kernel
theorem dX6_nextToken_220 : decode cX6_nextToken 220 = .ok (.ifCond .eq 61, 3) := by decide +kernel
theorem dX6_nextToken_223 : decode cX6_nextToken 223 = .ok (.aload_n 0, 1) := by decide +kernel
theorem dX6_nextToken_224 : decode cX6_nextToken 224 = .ok (.aload_n 0, 1) := by decide +kernel
theorem dX6_nextToken_225 : decode cX6_nextToken 225 = .ok (.getfield 145, 3) := by decide +kernel
theorem dX6_nextToken_228 : decode cX6_nextToken 228 = .ok (.ldc2_w 164, 3) := by decide +kernel
theorem dX6_nextToken_231 : decode cX6_nextToken 231 = .ok (.lcmp, 1) := by decide +kernel
theorem dX6_nextToken_232 : decode cX6_nextToken 232 = .ok (.ifCond .le 10, 3) := by decide +kernel
theorem dX6_nextToken_235 : decode cX6_nextToken 235 = .ok (.aload_n 0, 1) := by decide +kernel
theorem dX6_nextToken_236 : decode cX6_nextToken 236 = .ok (.getfield 145, 3) := by decide +kernel
theorem dX6_nextToken_239 : decode cX6_nextToken 239 = .ok (.goto 26, 3) := by decide +kernel
theorem dX6_nextToken_242 : decode cX6_nextToken 242 = .ok (.aload_n 0, 1) := by decide +kernel
theorem dX6_nextToken_243 : decode cX6_nextToken 243 = .ok (.getfield 145, 3) := by decide +kernel
theorem dX6_nextToken_246 : decode cX6_nextToken 246 = .ok (.ldc2_w 166, 3) := by decide +kernel
theorem dX6_nextToken_249 : decode cX6_nextToken 249 = .ok (.lmul, 1) := by decide +kernel
theorem dX6_nextToken_250 : decode cX6_nextToken 250 = .ok (.aload_n 0, 1) := by decide +kernel
theorem dX6_nextToken_251 : decode cX6_nextToken 251 = .ok (.getfield 22, 3) := by decide +kernel
theorem dX6_nextToken_254 : decode cX6_nextToken 254 = .ok (.aload_n 0, 1) := by decide +kernel
theorem dX6_nextToken_255 : decode cX6_nextToken 255 = .ok (.getfield 139, 3) := by decide +kernel
theorem dX6_nextToken_258 : decode cX6_nextToken 258 = .ok (.iaload, 1) := by decide +kernel
theorem dX6_nextToken_259 : decode cX6_nextToken 259 = .ok (.i2l, 1) := by decide +kernel
theorem dX6_nextToken_260 : decode cX6_nextToken 260 = .ok (.ladd, 1) := by decide +kernel
theorem dX6_nextToken_261 : decode cX6_nextToken 261 = .ok (.ldc2_w 168, 3) := by decide +kernel
theorem dX6_nextToken_264 : decode cX6_nextToken 264 = .ok (.lsub, 1) := by decide +kernel
theorem dX6_nextToken_265 : decode cX6_nextToken 265 = .ok (.putfield 145, 3) := by decide +kernel
theorem dX6_nextToken_268 : decode cX6_nextToken 268 = .ok (.aload_n 0, 1) := by decide +kernel
theorem dX6_nextToken_269 : decode cX6_nextToken 269 = .ok (.dup, 1) := by decide +kernel
theorem dX6_nextToken_270 : decode cX6_nextToken 270 = .ok (.getfield 139, 3) := by decide +kernel
theorem dX6_nextToken_273 : decode cX6_nextToken 273 = .ok (.iconst 1, 1) := by decide +kernel
theorem dX6_nextToken_274 : decode cX6_nextToken 274 = .ok (.iadd, 1) := by decide +kernel
theorem dX6_nextToken_275 : decode cX6_nextToken 275 = .ok (.putfield 139, 3) := by decide +kernel
theorem dX6_nextToken_278 : decode cX6_nextToken 278 = .ok (.goto (-81), 3) := by decide +kernel
theorem dX6_nextToken_281 : decode cX6_nextToken 281 = .ok (.aload_n 0, 1) := by decide +kernel
theorem dX6_nextToken_282 : decode cX6_nextToken 282 = .ok (.aload_n 0, 1) := by decide +kernel
theorem dX6_nextToken_283 : decode cX6_nextToken 283 = .ok (.getfield 145, 3) := by decide +kernel
theorem dX6_nextToken_286 : decode cX6_nextToken 286 = .ok (.ldc2_w 164, 3) := by decide +kernel
theorem dX6_nextToken_289 : decode cX6_nextToken 289 = .ok (.lcmp, 1) := by decide +kernel
theorem dX6_nextToken_290 : decode cX6_nextToken 290 = .ok (.ifCond .le 7, 3) := by decide +kernel
theorem dX6_nextToken_293 : decode cX6_nextToken 293 = .ok (.iconst 4, 1) := by decide +kernel
theorem dX6_nextToken_294 : decode cX6_nextToken 294 = .ok (.goto 4, 3) := by decide +kernel
theorem dX6_nextToken_297 : decode cX6_nextToken 297 = .ok (.iconst 2, 1) := by decide +kernel
theorem dX6_nextToken_298 : decode cX6_nextToken 298 = .ok (.putfield 149, 3) := by decide +kernel
theorem dX6_nextToken_301 : decode cX6_nextToken 301 = .ok (.goto 36, 3) := by decide +kernel
theorem dX6_nextToken_304 : decode cX6_nextToken 304 = .ok (.aload_n 0, 1) := by decide +kernel
theorem dX6_nextToken_305 : decode cX6_nextToken 305 = .ok (.aload_n 0, 1) := by decide +kernel
theorem dX6_nextToken_306 : decode cX6_nextToken 306 = .ok (.getfield 22, 3) := by decide +kernel
theorem dX6_nextToken_309 : decode cX6_nextToken 309 = .ok (.aload_n 0, 1) := by decide +kernel
theorem dX6_nextToken_310 : decode cX6_nextToken 310 = .ok (.getfield 142, 3) := by decide +kernel
theorem dX6_nextToken_313 : decode cX6_nextToken 313 = .ok (.iaload, 1) := by decide +kernel
theorem dX6_nextToken_314 : decode cX6_nextToken 314 = .ok (.bipush 59, 2) := by decide +kernel
theorem dX6_nextToken_316 : decode cX6_nextToken 316 = .ok (.if_icmp .ne 7, 3) := by decide +kernel
theorem dX6_nextToken_319 : decode cX6_nextToken 319 = .ok (.iconst 3, 1) := by decide +kernel
theorem dX6_nextToken_320 : decode cX6_nextToken 320 = .ok (.goto 4, 3) := by decide +kernel
theorem dX6_nextToken_323 : decode cX6_nextToken 323 = .ok (.iconst 4, 1) := by decide +kernel
theorem dX6_nextToken_324 : decode cX6_nextToken 324 = .ok (.putfield 149, 3) := by decide +kernel
theorem dX6_nextToken_327 : decode cX6_nextToken 327 = .ok (.aload_n 0, 1) := by decide +kernel
theorem dX6_nextToken_328 : decode cX6_nextToken 328 = .ok (.dup, 1) := by decide +kernel
theorem dX6_nextToken_329 : decode cX6_nextToken 329 = .ok (.getfield 139, 3) := by decide +kernel
theorem dX6_nextToken_332 : decode cX6_nextToken 332 = .ok (.iconst 1, 1) := by decide +kernel
theorem dX6_nextToken_333 : decode cX6_nextToken 333 = .ok (.iadd, 1) := by decide +kernel
theorem dX6_nextToken_334 : decode cX6_nextToken 334 = .ok (.putfield 139, 3) := by decide +kernel
theorem dX6_nextToken_337 : decode cX6_nextToken 337 = .ok (.return_, 1) := by decide +kernel
theorem dX6_wordOf_0 : decode cX6_wordOf 0 = .ok (.iconst (-1), 1) := by decide +kernel
theorem dX6_wordOf_1 : decode cX6_wordOf 1 = .ok (.istore_n 2, 1) := by decide +kernel
theorem dX6_wordOf_2 : decode cX6_wordOf 2 = .ok (.iconst 0, 1) := by decide +kernel
theorem dX6_wordOf_3 : decode cX6_wordOf 3 = .ok (.istore_n 3, 1) := by decide +kernel
theorem dX6_wordOf_4 : decode cX6_wordOf 4 = .ok (.iload_n 3, 1) := by decide +kernel
theorem dX6_wordOf_5 : decode cX6_wordOf 5 = .ok (.aload_n 1, 1) := by decide +kernel
theorem dX6_wordOf_6 : decode cX6_wordOf 6 = .ok (.arraylength, 1) := by decide +kernel
theorem dX6_wordOf_7 : decode cX6_wordOf 7 = .ok (.bipush 8, 2) := by decide +kernel
theorem dX6_wordOf_9 : decode cX6_wordOf 9 = .ok (.idiv, 1) := by decide +kernel
theorem dX6_wordOf_10 : decode cX6_wordOf 10 = .ok (.if_icmp .ge 94, 3) := by decide +kernel
theorem dX6_wordOf_13 : decode cX6_wordOf 13 = .ok (.aload_n 0, 1) := by decide +kernel
theorem dX6_wordOf_14 : decode cX6_wordOf 14 = .ok (.getfield 149, 3) := by decide +kernel
theorem dX6_wordOf_17 : decode cX6_wordOf 17 = .ok (.iconst 1, 1) := by decide +kernel
theorem dX6_wordOf_18 : decode cX6_wordOf 18 = .ok (.if_icmp .ne 86, 3) := by decide +kernel
theorem dX6_wordOf_21 : decode cX6_wordOf 21 = .ok (.lconst 0, 1) := by decide +kernel
theorem dX6_wordOf_22 : decode cX6_wordOf 22 = .ok (.lstore 4, 2) := by decide +kernel
theorem dX6_wordOf_24 : decode cX6_wordOf 24 = .ok (.iconst 0, 1) := by decide +kernel
theorem dX6_wordOf_25 : decode cX6_wordOf 25 = .ok (.istore 6, 2) := by decide +kernel
theorem dX6_wordOf_27 : decode cX6_wordOf 27 = .ok (.iload 6, 2) := by decide +kernel
theorem dX6_wordOf_29 : decode cX6_wordOf 29 = .ok (.bipush 8, 2) := by decide +kernel
theorem dX6_wordOf_31 : decode cX6_wordOf 31 = .ok (.if_icmp .ge 51, 3) := by decide +kernel
theorem dX6_wordOf_34 : decode cX6_wordOf 34 = .ok (.aload_n 1, 1) := by decide +kernel
theorem dX6_wordOf_35 : decode cX6_wordOf 35 = .ok (.bipush 8, 2) := by decide +kernel
theorem dX6_wordOf_37 : decode cX6_wordOf 37 = .ok (.iload_n 3, 1) := by decide +kernel
theorem dX6_wordOf_38 : decode cX6_wordOf 38 = .ok (.imul, 1) := by decide +kernel
theorem dX6_wordOf_39 : decode cX6_wordOf 39 = .ok (.iload 6, 2) := by decide +kernel
theorem dX6_wordOf_41 : decode cX6_wordOf 41 = .ok (.iadd, 1) := by decide +kernel
theorem dX6_wordOf_42 : decode cX6_wordOf 42 = .ok (.caload, 1) := by decide +kernel
theorem dX6_wordOf_43 : decode cX6_wordOf 43 = .ok (.bipush 32, 2) := by decide +kernel
theorem dX6_wordOf_45 : decode cX6_wordOf 45 = .ok (.if_icmp .ne 8, 3) := by decide +kernel
theorem dX6_wordOf_48 : decode cX6_wordOf 48 = .ok (.lload 4, 2) := by decide +kernel
theorem dX6_wordOf_50 : decode cX6_wordOf 50 = .ok (.goto 24, 3) := by decide +kernel
theorem dX6_wordOf_53 : decode cX6_wordOf 53 = .ok (.lload 4, 2) := by decide +kernel
theorem dX6_wordOf_55 : decode cX6_wordOf 55 = .ok (.ldc2_w 157, 3) := by decide +kernel
theorem dX6_wordOf_58 : decode cX6_wordOf 58 = .ok (.lmul, 1) := by decide +kernel
theorem dX6_wordOf_59 : decode cX6_wordOf 59 = .ok (.aload_n 1, 1) := by decide +kernel
theorem dX6_wordOf_60 : decode cX6_wordOf 60 = .ok (.bipush 8, 2) := by decide +kernel
theorem dX6_wordOf_62 : decode cX6_wordOf 62 = .ok (.iload_n 3, 1) := by decide +kernel
theorem dX6_wordOf_63 : decode cX6_wordOf 63 = .ok (.imul, 1) := by decide +kernel
theorem dX6_wordOf_64 : decode cX6_wordOf 64 = .ok (.iload 6, 2) := by decide +kernel
theorem dX6_wordOf_66 : decode cX6_wordOf 66 = .ok (.iadd, 1) := by decide +kernel
theorem dX6_wordOf_67 : decode cX6_wordOf 67 = .ok (.caload, 1) := by decide +kernel
theorem dX6_wordOf_68 : decode cX6_wordOf 68 = .ok (.i2l, 1) := by decide +kernel
theorem dX6_wordOf_69 : decode cX6_wordOf 69 = .ok (.ladd, 1) := by decide +kernel
theorem dX6_wordOf_70 : decode cX6_wordOf 70 = .ok (.ldc2_w 159, 3) := by decide +kernel
theorem dX6_wordOf_73 : decode cX6_wordOf 73 = .ok (.lsub, 1) := by decide +kernel
theorem dX6_wordOf_74 : decode cX6_wordOf 74 = .ok (.lstore 4, 2) := by decide +kernel
theorem dX6_wordOf_76 : decode cX6_wordOf 76 = .ok (.iinc 6 1, 3) := by decide +kernel
theorem dX6_wordOf_79 : decode cX6_wordOf 79 = .ok (.goto (-52), 3) := by decide +kernel
theorem dX6_wordOf_82 : decode cX6_wordOf 82 = .ok (.lload 4, 2) := by decide +kernel
theorem dX6_wordOf_84 : decode cX6_wordOf 84 = .ok (.aload_n 0, 1) := by decide +kernel
theorem dX6_wordOf_85 : decode cX6_wordOf 85 = .ok (.getfield 145, 3) := by decide +kernel
theorem dX6_wordOf_88 : decode cX6_wordOf 88 = .ok (.lcmp, 1) := by decide +kernel
theorem dX6_wordOf_89 : decode cX6_wordOf 89 = .ok (.ifCond .ne 7, 3) := by decide +kernel
theorem dX6_wordOf_92 : decode cX6_wordOf 92 = .ok (.iload_n 3, 1) := by decide +kernel
theorem dX6_wordOf_93 : decode cX6_wordOf 93 = .ok (.goto 4, 3) := by decide +kernel
theorem dX6_wordOf_96 : decode cX6_wordOf 96 = .ok (.iload_n 2, 1) := by decide +kernel
theorem dX6_wordOf_97 : decode cX6_wordOf 97 = .ok (.istore_n 2, 1) := by decide +kernel
theorem dX6_wordOf_98 : decode cX6_wordOf 98 = .ok (.iinc 3 1, 3) := by decide +kernel
theorem dX6_wordOf_101 : decode cX6_wordOf 101 = .ok (.goto (-97), 3) := by decide +kernel
theorem dX6_wordOf_104 : decode cX6_wordOf 104 = .ok (.iload_n 2, 1) := by decide +kernel
theorem dX6_wordOf_105 : decode cX6_wordOf 105 = .ok (.ireturn, 1) := by decide +kernel
set_option maxRecDepth 20000 in
theorem ggX6_takesNumber_X6_in1 : GoodIn wsX6_takesNumber wsX6_in1 := goodIn_sub (List.forall_mem_cons.mpr ⟨List.mem_of_getElem? (i := 6) rfl, (fun _ h => absurd h List.not_mem_nil)⟩) (by decide +kernel)
set_option maxRecDepth 20000 in
theorem gX6_takesNumber_X6_in1 : GoodIn wsX6_takesNumber (va_wsS RX6 49 yX6_in1 wsX6_in1) := goodIn_app (goodIn_sub (List.forall_mem_cons.mpr ⟨List.mem_of_getElem? (i := 3) rfl, List.forall_mem_cons.mpr ⟨List.mem_of_getElem? (i := 4) rfl, List.forall_mem_cons.mpr ⟨List.mem_of_getElem? (i := 5) rfl, fun _ h => absurd h List.not_mem_nil⟩⟩⟩) (by decide +kernel)) ggX6_takesNumber_X6_in1
set_option maxRecDepth 20000 in
theorem ggX6_takesNumber_X6_nextToken : GoodIn wsX6_takesNumber wsX6_nextToken := goodIn_sub (List.forall_mem_cons.mpr ⟨List.mem_of_getElem? (i := 10) rfl, (List.forall_mem_append.mpr ⟨(List.forall_mem_cons.mpr ⟨List.mem_of_getElem? (i := 11) rfl, List.forall_mem_cons.mpr ⟨List.mem_of_getElem? (i := 12) rfl, List.forall_mem_cons.mpr ⟨List.mem_of_getElem? (i := 13) rfl, List.forall_mem_cons.mpr ⟨List.mem_of_getElem? (i := 14) rfl, List.forall_mem_cons.mpr ⟨List.mem_of_getElem? (i := 2) rfl, List.forall_mem_cons.mpr ⟨List.mem_of_getElem? (i := 1) rfl, List.forall_mem_cons.mpr ⟨List.mem_of_getElem? (i := 15) rfl, List.forall_mem_cons.mpr ⟨List.mem_of_getElem? (i := 16) rfl, List.forall_mem_cons.mpr ⟨List.mem_of_getElem? (i := 17) rfl, List.forall_mem_cons.mpr ⟨List.mem_of_getElem? (i := 18) rfl, List.forall_mem_cons.mpr ⟨List.mem_of_getElem? (i := 19) rfl, List.forall_mem_cons.mpr ⟨List.mem_of_getElem? (i := 20) rfl, List.forall_mem_cons.mpr ⟨List.mem_of_getElem? (i := 21) rfl, List.forall_mem_cons.mpr ⟨List.mem_of_getElem? (i := 22) rfl, List.forall_mem_cons.mpr ⟨List.mem_of_getElem? (i := 5) rfl, List.forall_mem_cons.mpr ⟨List.mem_of_getElem? (i := 23) rfl, List.forall_mem_cons.mpr ⟨List.mem_of_getElem? (i := 3) rfl, List.forall_mem_cons.mpr ⟨List.mem_of_getElem? (i := 4) rfl, List.forall_mem_cons.mpr ⟨List.mem_of_getElem? (i := 6) rfl, List.forall_mem_cons.mpr ⟨List.mem_of_getElem? (i := 24) rfl, List.forall_mem_cons.mpr ⟨List.mem_of_getElem? (i := 25) rfl, List.forall_mem_cons.mpr ⟨List.mem_of_getElem? (i := 26) rfl, fun _ h => absurd h List.not_mem_nil⟩⟩⟩⟩⟩⟩⟩⟩⟩⟩⟩⟩⟩⟩⟩⟩⟩⟩⟩⟩⟩⟩), (fun _ h => List.mem_cons_of_mem _ (List.mem_append_right _ h))⟩)⟩) (by decide +kernel)
set_option maxRecDepth 20000 in
theorem gX6_takesNumber_X6_nextToken : GoodIn wsX6_takesNumber (wsV RX6 170 RX6 yX6_nextToken wsX6_nextToken) := goodIn_app (goodIn_sub (List.forall_mem_cons.mpr ⟨List.mem_of_getElem? (i := 7) rfl, List.forall_mem_cons.mpr ⟨List.mem_of_getElem? (i := 8) rfl, List.forall_mem_cons.mpr ⟨List.mem_of_getElem? (i := 9) rfl, List.forall_mem_cons.mpr ⟨List.mem_of_getElem? (i := 5) rfl, fun _ h => absurd h List.not_mem_nil⟩⟩⟩⟩) (by decide +kernel)) ggX6_takesNumber_X6_nextToken
theorem dX6_takesNumber_0 : decode cX6_takesNumber 0 = .ok (.aload_n 0, 1) := by decide +kernel
theorem dX6_takesNumber_1 : decode cX6_takesNumber 1 = .ok (.getfield 149, 3) := by decide +kernel
theorem dX6_takesNumber_4 : decode cX6_takesNumber 4 = .ok (.iconst 2, 1) := by decide +kernel
theorem dX6_takesNumber_5 : decode cX6_takesNumber 5 = .ok (.if_icmp .ne 24, 3) := by decide +kernel
theorem dX6_takesNumber_8 : decode cX6_takesNumber 8 = .ok (.aload_n 0, 1) := by decide +kernel
theorem dX6_takesNumber_9 : decode cX6_takesNumber 9 = .ok (.getfield 145, 3) := by decide +kernel
theorem dX6_takesNumber_12 : decode cX6_takesNumber 12 = .ok (.l2i, 1) := by decide +kernel
theorem dX6_takesNumber_13 : decode cX6_takesNumber 13 = .ok (.iload_n 1, 1) := by decide +kernel
theorem dX6_takesNumber_14 : decode cX6_takesNumber 14 = .ok (.iload_n 2, 1) := by decide +kernel
theorem dX6_takesNumber_15 : decode cX6_takesNumber 15 = .ok (.invokestatic 49, 3) := by decide +kernel
theorem dX6_takesNumber_18 : decode cX6_takesNumber 18 = .ok (.ifCond .eq 11, 3) := by decide +kernel
theorem dX6_takesNumber_21 : decode cX6_takesNumber 21 = .ok (.aload_n 0, 1) := by decide +kernel
theorem dX6_takesNumber_22 : decode cX6_takesNumber 22 = .ok (.getfield 145, 3) := by decide +kernel
theorem dX6_takesNumber_25 : decode cX6_takesNumber 25 = .ok (.l2i, 1) := by decide +kernel
theorem dX6_takesNumber_26 : decode cX6_takesNumber 26 = .ok (.goto 4, 3) := by decide +kernel
theorem dX6_takesNumber_29 : decode cX6_takesNumber 29 = .ok (.iconst (-1), 1) := by decide +kernel
theorem dX6_takesNumber_30 : decode cX6_takesNumber 30 = .ok (.istore_n 3, 1) := by decide +kernel
theorem dX6_takesNumber_31 : decode cX6_takesNumber 31 = .ok (.iload_n 3, 1) := by decide +kernel
theorem dX6_takesNumber_32 : decode cX6_takesNumber 32 = .ok (.ifCond .lt 7, 3) := by decide +kernel
theorem dX6_takesNumber_35 : decode cX6_takesNumber 35 = .ok (.aload_n 0, 1) := by decide +kernel
theorem dX6_takesNumber_36 : decode cX6_takesNumber 36 = .ok (.invokevirtual 170, 3) := by decide +kernel
theorem dX6_takesNumber_39 : decode cX6_takesNumber 39 = .ok (.iload_n 3, 1) := by decide +kernel
theorem dX6_takesNumber_40 : decode cX6_takesNumber 40 = .ok (.ireturn, 1) := by decide +kernel
set_option maxRecDepth 20000 in
theorem ggX6_readsPerson_X6_addsPerson : GoodIn wsX6_readsPerson wsX6_addsPerson := goodIn_sub (List.forall_mem_cons.mpr ⟨List.mem_of_getElem? (i := 7) rfl, (List.forall_mem_append.mpr ⟨(List.forall_mem_cons.mpr ⟨List.mem_of_getElem? (i := 1) rfl, List.forall_mem_cons.mpr ⟨List.mem_of_getElem? (i := 8) rfl, List.forall_mem_cons.mpr ⟨List.mem_of_getElem? (i := 9) rfl, List.forall_mem_cons.mpr ⟨List.mem_of_getElem? (i := 10) rfl, List.forall_mem_cons.mpr ⟨List.mem_of_getElem? (i := 6) rfl, List.forall_mem_cons.mpr ⟨List.mem_of_getElem? (i := 11) rfl, fun _ h => absurd h List.not_mem_nil⟩⟩⟩⟩⟩⟩), (fun _ h => List.mem_cons_of_mem _ (List.mem_append_right _ h))⟩)⟩) (by decide +kernel)
set_option maxRecDepth 20000 in
theorem gX6_readsPerson_X6_addsPerson : GoodIn wsX6_readsPerson (wsV RX6 97 RX6 yX6_addsPerson wsX6_addsPerson) := goodIn_app (goodIn_sub (List.forall_mem_cons.mpr ⟨List.mem_of_getElem? (i := 3) rfl, List.forall_mem_cons.mpr ⟨List.mem_of_getElem? (i := 4) rfl, List.forall_mem_cons.mpr ⟨List.mem_of_getElem? (i := 5) rfl, List.forall_mem_cons.mpr ⟨List.mem_of_getElem? (i := 6) rfl, fun _ h => absurd h List.not_mem_nil⟩⟩⟩⟩) (by decide +kernel)) ggX6_readsPerson_X6_addsPerson
set_option maxRecDepth 20000 in
theorem ggX6_readsPerson_X6_nextToken : GoodIn wsX6_readsPerson wsX6_nextToken := goodIn_sub (List.forall_mem_cons.mpr ⟨List.mem_of_getElem? (i := 15) rfl, (List.forall_mem_append.mpr ⟨(List.forall_mem_cons.mpr ⟨List.mem_of_getElem? (i := 16) rfl, List.forall_mem_cons.mpr ⟨List.mem_of_getElem? (i := 17) rfl, List.forall_mem_cons.mpr ⟨List.mem_of_getElem? (i := 18) rfl, List.forall_mem_cons.mpr ⟨List.mem_of_getElem? (i := 19) rfl, List.forall_mem_cons.mpr ⟨List.mem_of_getElem? (i := 20) rfl, List.forall_mem_cons.mpr ⟨List.mem_of_getElem? (i := 21) rfl, List.forall_mem_cons.mpr ⟨List.mem_of_getElem? (i := 22) rfl, List.forall_mem_cons.mpr ⟨List.mem_of_getElem? (i := 23) rfl, List.forall_mem_cons.mpr ⟨List.mem_of_getElem? (i := 24) rfl, List.forall_mem_cons.mpr ⟨List.mem_of_getElem? (i := 25) rfl, List.forall_mem_cons.mpr ⟨List.mem_of_getElem? (i := 26) rfl, List.forall_mem_cons.mpr ⟨List.mem_of_getElem? (i := 27) rfl, List.forall_mem_cons.mpr ⟨List.mem_of_getElem? (i := 28) rfl, List.forall_mem_cons.mpr ⟨List.mem_of_getElem? (i := 29) rfl, List.forall_mem_cons.mpr ⟨List.mem_of_getElem? (i := 6) rfl, List.forall_mem_cons.mpr ⟨List.mem_of_getElem? (i := 30) rfl, List.forall_mem_cons.mpr ⟨List.mem_of_getElem? (i := 31) rfl, List.forall_mem_cons.mpr ⟨List.mem_of_getElem? (i := 32) rfl, List.forall_mem_cons.mpr ⟨List.mem_of_getElem? (i := 33) rfl, List.forall_mem_cons.mpr ⟨List.mem_of_getElem? (i := 34) rfl, List.forall_mem_cons.mpr ⟨List.mem_of_getElem? (i := 35) rfl, List.forall_mem_cons.mpr ⟨List.mem_of_getElem? (i := 36) rfl, fun _ h => absurd h List.not_mem_nil⟩⟩⟩⟩⟩⟩⟩⟩⟩⟩⟩⟩⟩⟩⟩⟩⟩⟩⟩⟩⟩⟩), (fun _ h => List.mem_cons_of_mem _ (List.mem_append_right _ h))⟩)⟩) (by decide +kernel)
set_option maxRecDepth 20000 in
theorem gX6_readsPerson_X6_nextToken : GoodIn wsX6_readsPerson (wsV RX6 170 RX6 yX6_nextToken wsX6_nextToken) := goodIn_app (goodIn_sub (List.forall_mem_cons.mpr ⟨List.mem_of_getElem? (i := 12) rfl, List.forall_mem_cons.mpr ⟨List.mem_of_getElem? (i := 13) rfl, List.forall_mem_cons.mpr ⟨List.mem_of_getElem? (i := 14) rfl, List.forall_mem_cons.mpr ⟨List.mem_of_getElem? (i := 6) rfl, fun _ h => absurd h List.not_mem_nil⟩⟩⟩⟩) (by decide +kernel)) ggX6_readsPerson_X6_nextToken
set_option maxRecDepth 20000 in
theorem ggX6_readsPerson_X6_wordOf : GoodIn wsX6_readsPerson wsX6_wordOf := goodIn_sub (List.forall_mem_cons.mpr ⟨List.mem_of_getElem? (i := 40) rfl, (List.forall_mem_append.mpr ⟨(List.forall_mem_cons.mpr ⟨List.mem_of_getElem? (i := 21) rfl, List.forall_mem_cons.mpr ⟨List.mem_of_getElem? (i := 23) rfl, List.forall_mem_cons.mpr ⟨List.mem_of_getElem? (i := 24) rfl, List.forall_mem_cons.mpr ⟨List.mem_of_getElem? (i := 20) rfl, fun _ h => absurd h List.not_mem_nil⟩⟩⟩⟩), (fun _ h => List.mem_cons_of_mem _ (List.mem_append_right _ h))⟩)⟩) (by decide +kernel)
set_option maxRecDepth 20000 in
theorem gX6_readsPerson_X6_wordOf : GoodIn wsX6_readsPerson (wsV RX6 173 RX6 yX6_wordOf wsX6_wordOf) := goodIn_app (goodIn_sub (List.forall_mem_cons.mpr ⟨List.mem_of_getElem? (i := 37) rfl, List.forall_mem_cons.mpr ⟨List.mem_of_getElem? (i := 38) rfl, List.forall_mem_cons.mpr ⟨List.mem_of_getElem? (i := 39) rfl, List.forall_mem_cons.mpr ⟨List.mem_of_getElem? (i := 6) rfl, fun _ h => absurd h List.not_mem_nil⟩⟩⟩⟩) (by decide +kernel)) ggX6_readsPerson_X6_wordOf
set_option maxRecDepth 20000 in
theorem ggX6_readsPerson_X6_takesNumber : GoodIn wsX6_readsPerson wsX6_takesNumber := goodIn_sub (List.forall_mem_cons.mpr ⟨List.mem_of_getElem? (i := 44) rfl, (List.forall_mem_append.mpr ⟨(List.forall_mem_append.mpr ⟨(List.forall_mem_cons.mpr ⟨List.mem_of_getElem? (i := 21) rfl, List.forall_mem_cons.mpr ⟨List.mem_of_getElem? (i := 20) rfl, List.forall_mem_cons.mpr ⟨List.mem_of_getElem? (i := 31) rfl, List.forall_mem_cons.mpr ⟨List.mem_of_getElem? (i := 32) rfl, List.forall_mem_cons.mpr ⟨List.mem_of_getElem? (i := 6) rfl, List.forall_mem_cons.mpr ⟨List.mem_of_getElem? (i := 33) rfl, List.forall_mem_cons.mpr ⟨List.mem_of_getElem? (i := 12) rfl, List.forall_mem_cons.mpr ⟨List.mem_of_getElem? (i := 13) rfl, List.forall_mem_cons.mpr ⟨List.mem_of_getElem? (i := 14) rfl, List.forall_mem_cons.mpr ⟨List.mem_of_getElem? (i := 15) rfl, List.forall_mem_cons.mpr ⟨List.mem_of_getElem? (i := 16) rfl, List.forall_mem_cons.mpr ⟨List.mem_of_getElem? (i := 17) rfl, List.forall_mem_cons.mpr ⟨List.mem_of_getElem? (i := 18) rfl, List.forall_mem_cons.mpr ⟨List.mem_of_getElem? (i := 19) rfl, List.forall_mem_cons.mpr ⟨List.mem_of_getElem? (i := 22) rfl, List.forall_mem_cons.mpr ⟨List.mem_of_getElem? (i := 23) rfl, List.forall_mem_cons.mpr ⟨List.mem_of_getElem? (i := 24) rfl, List.forall_mem_cons.mpr ⟨List.mem_of_getElem? (i := 25) rfl, List.forall_mem_cons.mpr ⟨List.mem_of_getElem? (i := 26) rfl, List.forall_mem_cons.mpr ⟨List.mem_of_getElem? (i := 27) rfl, List.forall_mem_cons.mpr ⟨List.mem_of_getElem? (i := 28) rfl, List.forall_mem_cons.mpr ⟨List.mem_of_getElem? (i := 29) rfl, List.forall_mem_cons.mpr ⟨List.mem_of_getElem? (i := 30) rfl, List.forall_mem_cons.mpr ⟨List.mem_of_getElem? (i := 34) rfl, fun _ h => absurd h List.not_mem_nil⟩⟩⟩⟩⟩⟩⟩⟩⟩⟩⟩⟩⟩⟩⟩⟩⟩⟩⟩⟩⟩⟩⟩⟩), (List.forall_mem_cons.mpr ⟨List.mem_of_getElem? (i := 35) rfl, List.forall_mem_cons.mpr ⟨List.mem_of_getElem? (i := 36) rfl, fun _ h => absurd h List.not_mem_nil⟩⟩)⟩), (fun _ h => List.mem_cons_of_mem _ (List.mem_append_right _ h))⟩)⟩) (by decide +kernel)
set_option maxRecDepth 20000 in
theorem gX6_readsPerson_X6_takesNumber : GoodIn wsX6_readsPerson (wsV RX6 177 RX6 yX6_takesNumber wsX6_takesNumber) := goodIn_app (goodIn_sub (List.forall_mem_cons.mpr ⟨List.mem_of_getElem? (i := 41) rfl, List.forall_mem_cons.mpr ⟨List.mem_of_getElem? (i := 42) rfl, List.forall_mem_cons.mpr ⟨List.mem_of_getElem? (i := 43) rfl, List.forall_mem_cons.mpr ⟨List.mem_of_getElem? (i := 6) rfl, fun _ h => absurd h List.not_mem_nil⟩⟩⟩⟩) (by decide +kernel)) ggX6_readsPerson_X6_takesNumber
set_option maxRecDepth 20000 in
theorem ggX6_readsPerson_X6_puts : GoodIn wsX6_readsPerson wsX6_puts := goodIn_sub (List.forall_mem_cons.mpr ⟨List.mem_of_getElem? (i := 11) rfl, (List.forall_mem_append.mpr ⟨(List.forall_mem_cons.mpr ⟨List.mem_of_getElem? (i := 1) rfl, fun _ h => absurd h List.not_mem_nil⟩), (fun _ h => List.mem_cons_of_mem _ (List.mem_append_right _ h))⟩)⟩) (by decide +kernel)
set_option maxRecDepth 20000 in
theorem gX6_readsPerson_X6_puts : GoodIn wsX6_readsPerson (wsV RX6 64 RX6 yX6_puts wsX6_puts) := goodIn_app (goodIn_sub (List.forall_mem_cons.mpr ⟨List.mem_of_getElem? (i := 8) rfl, List.forall_mem_cons.mpr ⟨List.mem_of_getElem? (i := 9) rfl, List.forall_mem_cons.mpr ⟨List.mem_of_getElem? (i := 10) rfl, List.forall_mem_cons.mpr ⟨List.mem_of_getElem? (i := 6) rfl, fun _ h => absurd h List.not_mem_nil⟩⟩⟩⟩) (by decide +kernel)) ggX6_readsPerson_X6_puts
theorem dX6_readsPerson_0 : decode cX6_readsPerson 0 = .ok (.aload_n 0, 1) := by decide +kernel
theorem dX6_readsPerson_1 : decode cX6_readsPerson 1 = .ok (.getfield 9, 3) := by decide +kernel
theorem dX6_readsPerson_4 : decode cX6_readsPerson 4 = .ok (.iconst 5, 1) := by decide +kernel
theorem dX6_readsPerson_5 : decode cX6_readsPerson 5 = .ok (.iaload, 1) := by decide +kernel
theorem dX6_readsPerson_6 : decode cX6_readsPerson 6 = .ok (.bipush 8, 2) := by decide +kernel
theorem dX6_readsPerson_8 : decode cX6_readsPerson 8 = .ok (.if_icmp .ne 5, 3) := by decide +kernel
theorem dX6_readsPerson_11 : decode cX6_readsPerson 11 = .ok (.iconst 0, 1) := by decide +kernel
theorem dX6_readsPerson_12 : decode cX6_readsPerson 12 = .ok (.ireturn, 1) := by decide +kernel
theorem dX6_readsPerson_13 : decode cX6_readsPerson 13 = .ok (.aload_n 0, 1) := by decide +kernel
theorem dX6_readsPerson_14 : decode cX6_readsPerson 14 = .ok (.getfield 9, 3) := by decide +kernel
theorem dX6_readsPerson_17 : decode cX6_readsPerson 17 = .ok (.iconst 5, 1) := by decide +kernel
theorem dX6_readsPerson_18 : decode cX6_readsPerson 18 = .ok (.iaload, 1) := by decide +kernel
theorem dX6_readsPerson_19 : decode cX6_readsPerson 19 = .ok (.istore_n 2, 1) := by decide +kernel
theorem dX6_readsPerson_20 : decode cX6_readsPerson 20 = .ok (.aload_n 0, 1) := by decide +kernel
theorem dX6_readsPerson_21 : decode cX6_readsPerson 21 = .ok (.iload_n 1, 1) := by decide +kernel
theorem dX6_readsPerson_22 : decode cX6_readsPerson 22 = .ok (.invokevirtual 97, 3) := by decide +kernel
theorem dX6_readsPerson_25 : decode cX6_readsPerson 25 = .ok (.aload_n 0, 1) := by decide +kernel
theorem dX6_readsPerson_26 : decode cX6_readsPerson 26 = .ok (.invokevirtual 170, 3) := by decide +kernel
theorem dX6_readsPerson_29 : decode cX6_readsPerson 29 = .ok (.iconst 0, 1) := by decide +kernel
theorem dX6_readsPerson_30 : decode cX6_readsPerson 30 = .ok (.istore_n 3, 1) := by decide +kernel
theorem dX6_readsPerson_31 : decode cX6_readsPerson 31 = .ok (.iload_n 3, 1) := by decide +kernel
theorem dX6_readsPerson_32 : decode cX6_readsPerson 32 = .ok (.iconst 3, 1) := by decide +kernel
theorem dX6_readsPerson_33 : decode cX6_readsPerson 33 = .ok (.if_icmp .ge 60, 3) := by decide +kernel
theorem dX6_readsPerson_36 : decode cX6_readsPerson 36 = .ok (.aload_n 0, 1) := by decide +kernel
theorem dX6_readsPerson_37 : decode cX6_readsPerson 37 = .ok (.aload_n 0, 1) := by decide +kernel
theorem dX6_readsPerson_38 : decode cX6_readsPerson 38 = .ok (.getfield 29, 3) := by decide +kernel
theorem dX6_readsPerson_41 : decode cX6_readsPerson 41 = .ok (.invokevirtual 173, 3) := by decide +kernel
theorem dX6_readsPerson_44 : decode cX6_readsPerson 44 = .ok (.iload_n 3, 1) := by decide +kernel
theorem dX6_readsPerson_45 : decode cX6_readsPerson 45 = .ok (.if_icmp .ne 42, 3) := by decide +kernel
theorem dX6_readsPerson_48 : decode cX6_readsPerson 48 = .ok (.aload_n 0, 1) := by decide +kernel
theorem dX6_readsPerson_49 : decode cX6_readsPerson 49 = .ok (.invokevirtual 170, 3) := by decide +kernel
theorem dX6_readsPerson_52 : decode cX6_readsPerson 52 = .ok (.aload_n 0, 1) := by decide +kernel
theorem dX6_readsPerson_53 : decode cX6_readsPerson 53 = .ok (.iconst 0, 1) := by decide +kernel
theorem dX6_readsPerson_54 : decode cX6_readsPerson 54 = .ok (.iload_n 3, 1) := by decide +kernel
theorem dX6_readsPerson_55 : decode cX6_readsPerson 55 = .ok (.ifCond .ne 8, 3) := by decide +kernel
theorem dX6_readsPerson_58 : decode cX6_readsPerson 58 = .ok (.bipush 20, 2) := by decide +kernel
theorem dX6_readsPerson_60 : decode cX6_readsPerson 60 = .ok (.goto 5, 3) := by decide +kernel
theorem dX6_readsPerson_63 : decode cX6_readsPerson 63 = .ok (.bipush 99, 2) := by decide +kernel
theorem dX6_readsPerson_65 : decode cX6_readsPerson 65 = .ok (.invokevirtual 177, 3) := by decide +kernel
theorem dX6_readsPerson_68 : decode cX6_readsPerson 68 = .ok (.istore 4, 2) := by decide +kernel
theorem dX6_readsPerson_70 : decode cX6_readsPerson 70 = .ok (.iload 4, 2) := by decide +kernel
theorem dX6_readsPerson_72 : decode cX6_readsPerson 72 = .ok (.ifCond .ge 5, 3) := by decide +kernel
theorem dX6_readsPerson_75 : decode cX6_readsPerson 75 = .ok (.iconst 0, 1) := by decide +kernel
theorem dX6_readsPerson_76 : decode cX6_readsPerson 76 = .ok (.ireturn, 1) := by decide +kernel
theorem dX6_readsPerson_77 : decode cX6_readsPerson 77 = .ok (.aload_n 0, 1) := by decide +kernel
theorem dX6_readsPerson_78 : decode cX6_readsPerson 78 = .ok (.iload_n 2, 1) := by decide +kernel
theorem dX6_readsPerson_79 : decode cX6_readsPerson 79 = .ok (.iconst 1, 1) := by decide +kernel
theorem dX6_readsPerson_80 : decode cX6_readsPerson 80 = .ok (.iload_n 3, 1) := by decide +kernel
theorem dX6_readsPerson_81 : decode cX6_readsPerson 81 = .ok (.iadd, 1) := by decide +kernel
theorem dX6_readsPerson_82 : decode cX6_readsPerson 82 = .ok (.iload 4, 2) := by decide +kernel
theorem dX6_readsPerson_84 : decode cX6_readsPerson 84 = .ok (.invokevirtual 64, 3) := by decide +kernel
theorem dX6_readsPerson_87 : decode cX6_readsPerson 87 = .ok (.iinc 3 1, 3) := by decide +kernel
theorem dX6_readsPerson_90 : decode cX6_readsPerson 90 = .ok (.goto (-59), 3) := by decide +kernel
theorem dX6_readsPerson_93 : decode cX6_readsPerson 93 = .ok (.iconst 1, 1) := by decide +kernel
theorem dX6_readsPerson_94 : decode cX6_readsPerson 94 = .ok (.ireturn, 1) := by decide +kernel
set_option maxRecDepth 20000 in
theorem ggX6_readsItem_X6_wordOf : GoodIn wsX6_readsItem wsX6_wordOf := goodIn_sub (List.forall_mem_cons.mpr ⟨List.mem_of_getElem? (i := 8) rfl, (List.forall_mem_append.mpr ⟨(List.forall_mem_cons.mpr ⟨List.mem_of_getElem? (i := 9) rfl, List.forall_mem_cons.mpr ⟨List.mem_of_getElem? (i := 10) rfl, List.forall_mem_cons.mpr ⟨List.mem_of_getElem? (i := 11) rfl, List.forall_mem_cons.mpr ⟨List.mem_of_getElem? (i := 12) rfl, fun _ h => absurd h List.not_mem_nil⟩⟩⟩⟩), (fun _ h => List.mem_cons_of_mem _ (List.mem_append_right _ h))⟩)⟩) (by decide +kernel)
set_option maxRecDepth 20000 in
theorem gX6_readsItem_X6_wordOf : GoodIn wsX6_readsItem (wsV RX6 173 RX6 yX6_wordOf wsX6_wordOf) := goodIn_app (goodIn_sub (List.forall_mem_cons.mpr ⟨List.mem_of_getElem? (i := 4) rfl, List.forall_mem_cons.mpr ⟨List.mem_of_getElem? (i := 5) rfl, List.forall_mem_cons.mpr ⟨List.mem_of_getElem? (i := 6) rfl, List.forall_mem_cons.mpr ⟨List.mem_of_getElem? (i := 7) rfl, fun _ h => absurd h List.not_mem_nil⟩⟩⟩⟩) (by decide +kernel)) ggX6_readsItem_X6_wordOf
set_option maxRecDepth 20000 in
theorem ggX6_readsItem_X6_readsPerson : GoodIn wsX6_readsItem wsX6_readsPerson := goodIn_sub (List.forall_mem_cons.mpr ⟨List.mem_of_getElem? (i := 16) rfl, (List.forall_mem_append.mpr ⟨(List.forall_mem_append.mpr ⟨(List.forall_mem_cons.mpr ⟨List.mem_of_getElem? (i := 3) rfl, List.forall_mem_cons.mpr ⟨List.mem_of_getElem? (i := 17) rfl, List.forall_mem_cons.mpr ⟨List.mem_of_getElem? (i := 18) rfl, List.forall_mem_cons.mpr ⟨List.mem_of_getElem? (i := 19) rfl, List.forall_mem_cons.mpr ⟨List.mem_of_getElem? (i := 20) rfl, List.forall_mem_cons.mpr ⟨List.mem_of_getElem? (i := 7) rfl, List.forall_mem_cons.mpr ⟨List.mem_of_getElem? (i := 21) rfl, List.forall_mem_cons.mpr ⟨List.mem_of_getElem? (i := 22) rfl, List.forall_mem_cons.mpr ⟨List.mem_of_getElem? (i := 23) rfl, List.forall_mem_cons.mpr ⟨List.mem_of_getElem? (i := 24) rfl, List.forall_mem_cons.mpr ⟨List.mem_of_getElem? (i := 25) rfl, List.forall_mem_cons.mpr ⟨List.mem_of_getElem? (i := 26) rfl, List.forall_mem_cons.mpr ⟨List.mem_of_getElem? (i := 27) rfl, List.forall_mem_cons.mpr ⟨List.mem_of_getElem? (i := 28) rfl, List.forall_mem_cons.mpr ⟨List.mem_of_getElem? (i := 29) rfl, List.forall_mem_cons.mpr ⟨List.mem_of_getElem? (i := 30) rfl, List.forall_mem_cons.mpr ⟨List.mem_of_getElem? (i := 31) rfl, List.forall_mem_cons.mpr ⟨List.mem_of_getElem? (i := 32) rfl, List.forall_mem_cons.mpr ⟨List.mem_of_getElem? (i := 33) rfl, List.forall_mem_cons.mpr ⟨List.mem_of_getElem? (i := 12) rfl, List.forall_mem_cons.mpr ⟨List.mem_of_getElem? (i := 9) rfl, List.forall_mem_cons.mpr ⟨List.mem_of_getElem? (i := 34) rfl, List.forall_mem_cons.mpr ⟨List.mem_of_getElem? (i := 10) rfl, List.forall_mem_cons.mpr ⟨List.mem_of_getElem? (i := 11) rfl, fun _ h => absurd h List.not_mem_nil⟩⟩⟩⟩⟩⟩⟩⟩⟩⟩⟩⟩⟩⟩⟩⟩⟩⟩⟩⟩⟩⟩⟩⟩), (List.forall_mem_cons.mpr ⟨List.mem_of_getElem? (i := 35) rfl, List.forall_mem_cons.mpr ⟨List.mem_of_getElem? (i := 36) rfl, List.forall_mem_cons.mpr ⟨List.mem_of_getElem? (i := 37) rfl, List.forall_mem_cons.mpr ⟨List.mem_of_getElem? (i := 38) rfl, List.forall_mem_cons.mpr ⟨List.mem_of_getElem? (i := 39) rfl, List.forall_mem_cons.mpr ⟨List.mem_of_getElem? (i := 40) rfl, List.forall_mem_cons.mpr ⟨List.mem_of_getElem? (i := 41) rfl, List.forall_mem_cons.mpr ⟨List.mem_of_getElem? (i := 42) rfl, List.forall_mem_cons.mpr ⟨List.mem_of_getElem? (i := 43) rfl, List.forall_mem_cons.mpr ⟨List.mem_of_getElem? (i := 44) rfl, List.forall_mem_cons.mpr ⟨List.mem_of_getElem? (i := 45) rfl, List.forall_mem_cons.mpr ⟨List.mem_of_getElem? (i := 46) rfl, List.forall_mem_cons.mpr ⟨List.mem_of_getElem? (i := 4) rfl, List.forall_mem_cons.mpr ⟨List.mem_of_getElem? (i := 5) rfl, List.forall_mem_cons.mpr ⟨List.mem_of_getElem? (i := 6) rfl, List.forall_mem_cons.mpr ⟨List.mem_of_getElem? (i := 8) rfl, List.forall_mem_cons.mpr ⟨List.mem_of_getElem? (i := 47) rfl, List.forall_mem_cons.mpr ⟨List.mem_of_getElem? (i := 48) rfl, List.forall_mem_cons.mpr ⟨List.mem_of_getElem? (i := 49) rfl, List.forall_mem_cons.mpr ⟨List.mem_of_getElem? (i := 50) rfl, fun _ h => absurd h List.not_mem_nil⟩⟩⟩⟩⟩⟩⟩⟩⟩⟩⟩⟩⟩⟩⟩⟩⟩⟩⟩⟩)⟩), (fun _ h => List.mem_cons_of_mem _ (List.mem_append_right _ h))⟩)⟩) (by decide +kernel)
set_option maxRecDepth 20000 in
theorem gX6_readsItem_X6_readsPerson : GoodIn wsX6_readsItem (wsV RX6 180 RX6 yX6_readsPerson wsX6_readsPerson) := goodIn_app (goodIn_sub (List.forall_mem_cons.mpr ⟨List.mem_of_getElem? (i := 13) rfl, List.forall_mem_cons.mpr ⟨List.mem_of_getElem? (i := 14) rfl, List.forall_mem_cons.mpr ⟨List.mem_of_getElem? (i := 15) rfl, List.forall_mem_cons.mpr ⟨List.mem_of_getElem? (i := 7) rfl, fun _ h => absurd h List.not_mem_nil⟩⟩⟩⟩) (by decide +kernel)) ggX6_readsItem_X6_readsPerson
set_option maxRecDepth 20000 in
theorem ggX6_readsItem_X6_nextToken : GoodIn wsX6_readsItem wsX6_nextToken := goodIn_sub (List.forall_mem_cons.mpr ⟨List.mem_of_getElem? (i := 29) rfl, (List.forall_mem_append.mpr ⟨(List.forall_mem_cons.mpr ⟨List.mem_of_getElem? (i := 30) rfl, List.forall_mem_cons.mpr ⟨List.mem_of_getElem? (i := 31) rfl, List.forall_mem_cons.mpr ⟨List.mem_of_getElem? (i := 32) rfl, List.forall_mem_cons.mpr ⟨List.mem_of_getElem? (i := 33) rfl, List.forall_mem_cons.mpr ⟨List.mem_of_getElem? (i := 12) rfl, List.forall_mem_cons.mpr ⟨List.mem_of_getElem? (i := 9) rfl, List.forall_mem_cons.mpr ⟨List.mem_of_getElem? (i := 34) rfl, List.forall_mem_cons.mpr ⟨List.mem_of_getElem? (i := 10) rfl, List.forall_mem_cons.mpr ⟨List.mem_of_getElem? (i := 11) rfl, List.forall_mem_cons.mpr ⟨List.mem_of_getElem? (i := 35) rfl, List.forall_mem_cons.mpr ⟨List.mem_of_getElem? (i := 36) rfl, List.forall_mem_cons.mpr ⟨List.mem_of_getElem? (i := 37) rfl, List.forall_mem_cons.mpr ⟨List.mem_of_getElem? (i := 38) rfl, List.forall_mem_cons.mpr ⟨List.mem_of_getElem? (i := 39) rfl, List.forall_mem_cons.mpr ⟨List.mem_of_getElem? (i := 7) rfl, List.forall_mem_cons.mpr ⟨List.mem_of_getElem? (i := 40) rfl, List.forall_mem_cons.mpr ⟨List.mem_of_getElem? (i := 41) rfl, List.forall_mem_cons.mpr ⟨List.mem_of_getElem? (i := 42) rfl, List.forall_mem_cons.mpr ⟨List.mem_of_getElem? (i := 43) rfl, List.forall_mem_cons.mpr ⟨List.mem_of_getElem? (i := 44) rfl, List.forall_mem_cons.mpr ⟨List.mem_of_getElem? (i := 45) rfl, List.forall_mem_cons.mpr ⟨List.mem_of_getElem? (i := 46) rfl, fun _ h => absurd h List.not_mem_nil⟩⟩⟩⟩⟩⟩⟩⟩⟩⟩⟩⟩⟩⟩⟩⟩⟩⟩⟩⟩⟩⟩), (fun _ h => List.mem_cons_of_mem _ (List.mem_append_right _ h))⟩)⟩) (by decide +kernel)
set_option maxRecDepth 20000 in
theorem gX6_readsItem_X6_nextToken : GoodIn wsX6_readsItem (wsV RX6 170 RX6 yX6_nextToken wsX6_nextToken) := goodIn_app (goodIn_sub (List.forall_mem_cons.mpr ⟨List.mem_of_getElem? (i := 26) rfl, List.forall_mem_cons.mpr ⟨List.mem_of_getElem? (i := 27) rfl, List.forall_mem_cons.mpr ⟨List.mem_of_getElem? (i := 28) rfl, List.forall_mem_cons.mpr ⟨List.mem_of_getElem? (i := 7) rfl, fun _ h => absurd h List.not_mem_nil⟩⟩⟩⟩) (by decide +kernel)) ggX6_readsItem_X6_nextToken
set_option maxRecDepth 20000 in
theorem ggX6_readsItem_X6_takesNumber : GoodIn wsX6_readsItem wsX6_takesNumber := goodIn_sub (List.forall_mem_cons.mpr ⟨List.mem_of_getElem? (i := 50) rfl, (List.forall_mem_append.mpr ⟨(List.forall_mem_append.mpr ⟨(List.forall_mem_cons.mpr ⟨List.mem_of_getElem? (i := 9) rfl, List.forall_mem_cons.mpr ⟨List.mem_of_getElem? (i := 12) rfl, List.forall_mem_cons.mpr ⟨List.mem_of_getElem? (i := 41) rfl, List.forall_mem_cons.mpr ⟨List.mem_of_getElem? (i := 42) rfl, List.forall_mem_cons.mpr ⟨List.mem_of_getElem? (i := 7) rfl, List.forall_mem_cons.mpr ⟨List.mem_of_getElem? (i := 43) rfl, List.forall_mem_cons.mpr ⟨List.mem_of_getElem? (i := 26) rfl, List.forall_mem_cons.mpr ⟨List.mem_of_getElem? (i := 27) rfl, List.forall_mem_cons.mpr ⟨List.mem_of_getElem? (i := 28) rfl, List.forall_mem_cons.mpr ⟨List.mem_of_getElem? (i := 29) rfl, List.forall_mem_cons.mpr ⟨List.mem_of_getElem? (i := 30) rfl, List.forall_mem_cons.mpr ⟨List.mem_of_getElem? (i := 31) rfl, List.forall_mem_cons.mpr ⟨List.mem_of_getElem? (i := 32) rfl, List.forall_mem_cons.mpr ⟨List.mem_of_getElem? (i := 33) rfl, List.forall_mem_cons.mpr ⟨List.mem_of_getElem? (i := 34) rfl, List.forall_mem_cons.mpr ⟨List.mem_of_getElem? (i := 10) rfl, List.forall_mem_cons.mpr ⟨List.mem_of_getElem? (i := 11) rfl, List.forall_mem_cons.mpr ⟨List.mem_of_getElem? (i := 35) rfl, List.forall_mem_cons.mpr ⟨List.mem_of_getElem? (i := 36) rfl, List.forall_mem_cons.mpr ⟨List.mem_of_getElem? (i := 37) rfl, List.forall_mem_cons.mpr ⟨List.mem_of_getElem? (i := 38) rfl, List.forall_mem_cons.mpr ⟨List.mem_of_getElem? (i := 39) rfl, List.forall_mem_cons.mpr ⟨List.mem_of_getElem? (i := 40) rfl, List.forall_mem_cons.mpr ⟨List.mem_of_getElem? (i := 44) rfl, fun _ h => absurd h List.not_mem_nil⟩⟩⟩⟩⟩⟩⟩⟩⟩⟩⟩⟩⟩⟩⟩⟩⟩⟩⟩⟩⟩⟩⟩⟩), (List.forall_mem_cons.mpr ⟨List.mem_of_getElem? (i := 45) rfl, List.forall_mem_cons.mpr ⟨List.mem_of_getElem? (i := 46) rfl, fun _ h => absurd h List.not_mem_nil⟩⟩)⟩), (fun _ h => List.mem_cons_of_mem _ (List.mem_append_right _ h))⟩)⟩) (by decide +kernel)
set_option maxRecDepth 20000 in
theorem gX6_readsItem_X6_takesNumber : GoodIn wsX6_readsItem (wsV RX6 177 RX6 yX6_takesNumber wsX6_takesNumber) := goodIn_app (goodIn_sub (List.forall_mem_cons.mpr ⟨List.mem_of_getElem? (i := 47) rfl, List.forall_mem_cons.mpr ⟨List.mem_of_getElem? (i := 48) rfl, List.forall_mem_cons.mpr ⟨List.mem_of_getElem? (i := 49) rfl, List.forall_mem_cons.mpr ⟨List.mem_of_getElem? (i := 7) rfl, fun _ h => absurd h List.not_mem_nil⟩⟩⟩⟩) (by decide +kernel)) ggX6_readsItem_X6_takesNumber
theorem dX6_readsItem_0 : decode cX6_readsItem 0 = .ok (.aload_n 0, 1) := by decide +kernel
theorem dX6_readsItem_1 : decode cX6_readsItem 1 = .ok (.aload_n 0, 1) := by decide +kernel
theorem dX6_readsItem_2 : decode cX6_readsItem 2 = .ok (.getfield 25, 3) := by decide +kernel
theorem dX6_readsItem_5 : decode cX6_readsItem 5 = .ok (.invokevirtual 173, 3) := by decide +kernel
theorem dX6_readsItem_8 : decode cX6_readsItem 8 = .ok (.istore_n 1, 1) := by decide +kernel
theorem dX6_readsItem_9 : decode cX6_readsItem 9 = .ok (.iload_n 1, 1) := by decide +kernel
theorem dX6_readsItem_10 : decode cX6_readsItem 10 = .ok (.ifCond .lt 9, 3) := by decide +kernel
theorem dX6_readsItem_13 : decode cX6_readsItem 13 = .ok (.aload_n 0, 1) := by decide +kernel
theorem dX6_readsItem_14 : decode cX6_readsItem 14 = .ok (.iload_n 1, 1) := by decide +kernel
theorem dX6_readsItem_15 : decode cX6_readsItem 15 = .ok (.invokevirtual 180, 3) := by decide +kernel
theorem dX6_readsItem_18 : decode cX6_readsItem 18 = .ok (.ireturn, 1) := by decide +kernel
theorem dX6_readsItem_19 : decode cX6_readsItem 19 = .ok (.aload_n 0, 1) := by decide +kernel
theorem dX6_readsItem_20 : decode cX6_readsItem 20 = .ok (.aload_n 0, 1) := by decide +kernel
theorem dX6_readsItem_21 : decode cX6_readsItem 21 = .ok (.getfield 32, 3) := by decide +kernel
theorem dX6_readsItem_24 : decode cX6_readsItem 24 = .ok (.invokevirtual 173, 3) := by decide +kernel
theorem dX6_readsItem_27 : decode cX6_readsItem 27 = .ok (.istore_n 2, 1) := by decide +kernel
theorem dX6_readsItem_28 : decode cX6_readsItem 28 = .ok (.iload_n 2, 1) := by decide +kernel
theorem dX6_readsItem_29 : decode cX6_readsItem 29 = .ok (.ifCond .ge 5, 3) := by decide +kernel
theorem dX6_readsItem_32 : decode cX6_readsItem 32 = .ok (.iconst 0, 1) := by decide +kernel
theorem dX6_readsItem_33 : decode cX6_readsItem 33 = .ok (.ireturn, 1) := by decide +kernel
theorem dX6_readsItem_34 : decode cX6_readsItem 34 = .ok (.aload_n 0, 1) := by decide +kernel
theorem dX6_readsItem_35 : decode cX6_readsItem 35 = .ok (.invokevirtual 170, 3) := by decide +kernel
theorem dX6_readsItem_38 : decode cX6_readsItem 38 = .ok (.aload_n 0, 1) := by decide +kernel
theorem dX6_readsItem_39 : decode cX6_readsItem 39 = .ok (.iconst 0, 1) := by decide +kernel
theorem dX6_readsItem_40 : decode cX6_readsItem 40 = .ok (.iload_n 2, 1) := by decide +kernel
theorem dX6_readsItem_41 : decode cX6_readsItem 41 = .ok (.ifCond .ne 9, 3) := by decide +kernel
theorem dX6_readsItem_44 : decode cX6_readsItem 44 = .ok (.sipush 999, 3) := by decide +kernel
theorem dX6_readsItem_47 : decode cX6_readsItem 47 = .ok (.goto 5, 3) := by decide +kernel
theorem dX6_readsItem_50 : decode cX6_readsItem 50 = .ok (.bipush 99, 2) := by decide +kernel
theorem dX6_readsItem_52 : decode cX6_readsItem 52 = .ok (.invokevirtual 177, 3) := by decide +kernel
theorem dX6_readsItem_55 : decode cX6_readsItem 55 = .ok (.istore_n 3, 1) := by decide +kernel
theorem dX6_readsItem_56 : decode cX6_readsItem 56 = .ok (.aload_n 0, 1) := by decide +kernel
theorem dX6_readsItem_57 : decode cX6_readsItem 57 = .ok (.getfield 9, 3) := by decide +kernel
theorem dX6_readsItem_60 : decode cX6_readsItem 60 = .ok (.iconst 1, 1) := by decide +kernel
theorem dX6_readsItem_61 : decode cX6_readsItem 61 = .ok (.iload_n 2, 1) := by decide +kernel
theorem dX6_readsItem_62 : decode cX6_readsItem 62 = .ok (.iadd, 1) := by decide +kernel
theorem dX6_readsItem_63 : decode cX6_readsItem 63 = .ok (.iload_n 3, 1) := by decide +kernel
theorem dX6_readsItem_64 : decode cX6_readsItem 64 = .ok (.iastore, 1) := by decide +kernel
theorem dX6_readsItem_65 : decode cX6_readsItem 65 = .ok (.iload_n 3, 1) := by decide +kernel
theorem dX6_readsItem_66 : decode cX6_readsItem 66 = .ok (.ifCond .lt 7, 3) := by decide +kernel
theorem dX6_readsItem_69 : decode cX6_readsItem 69 = .ok (.iconst 1, 1) := by decide +kernel
theorem dX6_readsItem_70 : decode cX6_readsItem 70 = .ok (.goto 4, 3) := by decide +kernel
theorem dX6_readsItem_73 : decode cX6_readsItem 73 = .ok (.iconst 0, 1) := by decide +kernel
theorem dX6_readsItem_74 : decode cX6_readsItem 74 = .ok (.ireturn, 1) := by decide +kernel
set_option maxRecDepth 20000 in
theorem ggX6_text_X6_setsAside : GoodIn wsX6_text wsX6_setsAside := goodIn_sub (List.forall_mem_cons.mpr ⟨List.mem_of_getElem? (i := 9) rfl, (List.forall_mem_append.mpr ⟨(List.forall_mem_cons.mpr ⟨List.mem_of_getElem? (i := 10) rfl, List.forall_mem_cons.mpr ⟨List.mem_of_getElem? (i := 11) rfl, fun _ h => absurd h List.not_mem_nil⟩⟩), (fun _ h => List.mem_cons_of_mem _ (List.mem_append_right _ h))⟩)⟩) (by decide +kernel)
set_option maxRecDepth 20000 in
theorem gX6_text_X6_setsAside : GoodIn wsX6_text (wsV RX6 116 RX6 yX6_setsAside wsX6_setsAside) := goodIn_app (goodIn_sub (List.forall_mem_cons.mpr ⟨List.mem_of_getElem? (i := 5) rfl, List.forall_mem_cons.mpr ⟨List.mem_of_getElem? (i := 6) rfl, List.forall_mem_cons.mpr ⟨List.mem_of_getElem? (i := 7) rfl, List.forall_mem_cons.mpr ⟨List.mem_of_getElem? (i := 8) rfl, fun _ h => absurd h List.not_mem_nil⟩⟩⟩⟩) (by decide +kernel)) ggX6_text_X6_setsAside
set_option maxRecDepth 20000 in
theorem ggX6_text_X6_nextToken : GoodIn wsX6_text wsX6_nextToken := goodIn_sub (List.forall_mem_cons.mpr ⟨List.mem_of_getElem? (i := 15) rfl, (List.forall_mem_append.mpr ⟨(List.forall_mem_cons.mpr ⟨List.mem_of_getElem? (i := 1) rfl, List.forall_mem_cons.mpr ⟨List.mem_of_getElem? (i := 4) rfl, List.forall_mem_cons.mpr ⟨List.mem_of_getElem? (i := 3) rfl, List.forall_mem_cons.mpr ⟨List.mem_of_getElem? (i := 16) rfl, List.forall_mem_cons.mpr ⟨List.mem_of_getElem? (i := 17) rfl, List.forall_mem_cons.mpr ⟨List.mem_of_getElem? (i := 2) rfl, List.forall_mem_cons.mpr ⟨List.mem_of_getElem? (i := 18) rfl, List.forall_mem_cons.mpr ⟨List.mem_of_getElem? (i := 19) rfl, List.forall_mem_cons.mpr ⟨List.mem_of_getElem? (i := 20) rfl, List.forall_mem_cons.mpr ⟨List.mem_of_getElem? (i := 21) rfl, List.forall_mem_cons.mpr ⟨List.mem_of_getElem? (i := 22) rfl, List.forall_mem_cons.mpr ⟨List.mem_of_getElem? (i := 23) rfl, List.forall_mem_cons.mpr ⟨List.mem_of_getElem? (i := 24) rfl, List.forall_mem_cons.mpr ⟨List.mem_of_getElem? (i := 25) rfl, List.forall_mem_cons.mpr ⟨List.mem_of_getElem? (i := 8) rfl, List.forall_mem_cons.mpr ⟨List.mem_of_getElem? (i := 26) rfl, List.forall_mem_cons.mpr ⟨List.mem_of_getElem? (i := 27) rfl, List.forall_mem_cons.mpr ⟨List.mem_of_getElem? (i := 28) rfl, List.forall_mem_cons.mpr ⟨List.mem_of_getElem? (i := 29) rfl, List.forall_mem_cons.mpr ⟨List.mem_of_getElem? (i := 30) rfl, List.forall_mem_cons.mpr ⟨List.mem_of_getElem? (i := 31) rfl, List.forall_mem_cons.mpr ⟨List.mem_of_getElem? (i := 32) rfl, fun _ h => absurd h List.not_mem_nil⟩⟩⟩⟩⟩⟩⟩⟩⟩⟩⟩⟩⟩⟩⟩⟩⟩⟩⟩⟩⟩⟩), (fun _ h => List.mem_cons_of_mem _ (List.mem_append_right _ h))⟩)⟩) (by decide +kernel)
set_option maxRecDepth 20000 in
theorem gX6_text_X6_nextToken : GoodIn wsX6_text (wsV RX6 170 RX6 yX6_nextToken wsX6_nextToken) := goodIn_app (goodIn_sub (List.forall_mem_cons.mpr ⟨List.mem_of_getElem? (i := 12) rfl, List.forall_mem_cons.mpr ⟨List.mem_of_getElem? (i := 13) rfl, List.forall_mem_cons.mpr ⟨List.mem_of_getElem? (i := 14) rfl, List.forall_mem_cons.mpr ⟨List.mem_of_getElem? (i := 8) rfl, fun _ h => absurd h List.not_mem_nil⟩⟩⟩⟩) (by decide +kernel)) ggX6_text_X6_nextToken
set_option maxRecDepth 20000 in
theorem ggX6_text_X6_readsItem : GoodIn wsX6_text wsX6_readsItem := goodIn_sub (List.forall_mem_cons.mpr ⟨List.mem_of_getElem? (i := 36) rfl, (List.forall_mem_append.mpr ⟨(List.forall_mem_append.mpr ⟨(List.forall_mem_cons.mpr ⟨List.mem_of_getElem? (i := 37) rfl, List.forall_mem_cons.mpr ⟨List.mem_of_getElem? (i := 38) rfl, List.forall_mem_cons.mpr ⟨List.mem_of_getElem? (i := 11) rfl, List.forall_mem_cons.mpr ⟨List.mem_of_getElem? (i := 39) rfl, List.forall_mem_cons.mpr ⟨List.mem_of_getElem? (i := 40) rfl, List.forall_mem_cons.mpr ⟨List.mem_of_getElem? (i := 41) rfl, List.forall_mem_cons.mpr ⟨List.mem_of_getElem? (i := 8) rfl, List.forall_mem_cons.mpr ⟨List.mem_of_getElem? (i := 42) rfl, List.forall_mem_cons.mpr ⟨List.mem_of_getElem? (i := 2) rfl, List.forall_mem_cons.mpr ⟨List.mem_of_getElem? (i := 19) rfl, List.forall_mem_cons.mpr ⟨List.mem_of_getElem? (i := 20) rfl, List.forall_mem_cons.mpr ⟨List.mem_of_getElem? (i := 17) rfl, List.forall_mem_cons.mpr ⟨List.mem_of_getElem? (i := 43) rfl, List.forall_mem_cons.mpr ⟨List.mem_of_getElem? (i := 44) rfl, List.forall_mem_cons.mpr ⟨List.mem_of_getElem? (i := 45) rfl, List.forall_mem_cons.mpr ⟨List.mem_of_getElem? (i := 46) rfl, List.forall_mem_cons.mpr ⟨List.mem_of_getElem? (i := 47) rfl, List.forall_mem_cons.mpr ⟨List.mem_of_getElem? (i := 48) rfl, List.forall_mem_cons.mpr ⟨List.mem_of_getElem? (i := 49) rfl, List.forall_mem_cons.mpr ⟨List.mem_of_getElem? (i := 50) rfl, List.forall_mem_cons.mpr ⟨List.mem_of_getElem? (i := 51) rfl, List.forall_mem_cons.mpr ⟨List.mem_of_getElem? (i := 52) rfl, List.forall_mem_cons.mpr ⟨List.mem_of_getElem? (i := 53) rfl, List.forall_mem_cons.mpr ⟨List.mem_of_getElem? (i := 54) rfl, fun _ h => absurd h List.not_mem_nil⟩⟩⟩⟩⟩⟩⟩⟩⟩⟩⟩⟩⟩⟩⟩⟩⟩⟩⟩⟩⟩⟩⟩⟩), (List.forall_mem_append.mpr ⟨(List.forall_mem_cons.mpr ⟨List.mem_of_getElem? (i := 55) rfl, List.forall_mem_cons.mpr ⟨List.mem_of_getElem? (i := 12) rfl, List.forall_mem_cons.mpr ⟨List.mem_of_getElem? (i := 13) rfl, List.forall_mem_cons.mpr ⟨List.mem_of_getElem? (i := 14) rfl, List.forall_mem_cons.mpr ⟨List.mem_of_getElem? (i := 15) rfl, List.forall_mem_cons.mpr ⟨List.mem_of_getElem? (i := 1) rfl, List.forall_mem_cons.mpr ⟨List.mem_of_getElem? (i := 4) rfl, List.forall_mem_cons.mpr ⟨List.mem_of_getElem? (i := 3) rfl, List.forall_mem_cons.mpr ⟨List.mem_of_getElem? (i := 16) rfl, List.forall_mem_cons.mpr ⟨List.mem_of_getElem? (i := 18) rfl, List.forall_mem_cons.mpr ⟨List.mem_of_getElem? (i := 21) rfl, List.forall_mem_cons.mpr ⟨List.mem_of_getElem? (i := 22) rfl, List.forall_mem_cons.mpr ⟨List.mem_of_getElem? (i := 23) rfl, List.forall_mem_cons.mpr ⟨List.mem_of_getElem? (i := 24) rfl, List.forall_mem_cons.mpr ⟨List.mem_of_getElem? (i := 25) rfl, List.forall_mem_cons.mpr ⟨List.mem_of_getElem? (i := 26) rfl, List.forall_mem_cons.mpr ⟨List.mem_of_getElem? (i := 27) rfl, List.forall_mem_cons.mpr ⟨List.mem_of_getElem? (i := 28) rfl, List.forall_mem_cons.mpr ⟨List.mem_of_getElem? (i := 29) rfl, List.forall_mem_cons.mpr ⟨List.mem_of_getElem? (i := 30) rfl, List.forall_mem_cons.mpr ⟨List.mem_of_getElem? (i := 31) rfl, List.forall_mem_cons.mpr ⟨List.mem_of_getElem? (i := 32) rfl, List.forall_mem_cons.mpr ⟨List.mem_of_getElem? (i := 56) rfl, List.forall_mem_cons.mpr ⟨List.mem_of_getElem? (i := 57) rfl, fun _ h => absurd h List.not_mem_nil⟩⟩⟩⟩⟩⟩⟩⟩⟩⟩⟩⟩⟩⟩⟩⟩⟩⟩⟩⟩⟩⟩⟩⟩), (List.forall_mem_cons.mpr ⟨List.mem_of_getElem? (i := 58) rfl, List.forall_mem_cons.mpr ⟨List.mem_of_getElem? (i := 59) rfl, fun _ h => absurd h List.not_mem_nil⟩⟩)⟩)⟩), (fun _ h => List.mem_cons_of_mem _ (List.mem_append_right _ h))⟩)⟩) (by decide +kernel)
set_option maxRecDepth 20000 in
theorem gX6_text_X6_readsItem : GoodIn wsX6_text (wsV RX6 183 RX6 yX6_readsItem wsX6_readsItem) := goodIn_app (goodIn_sub (List.forall_mem_cons.mpr ⟨List.mem_of_getElem? (i := 33) rfl, List.forall_mem_cons.mpr ⟨List.mem_of_getElem? (i := 34) rfl, List.forall_mem_cons.mpr ⟨List.mem_of_getElem? (i := 35) rfl, List.forall_mem_cons.mpr ⟨List.mem_of_getElem? (i := 8) rfl, fun _ h => absurd h List.not_mem_nil⟩⟩⟩⟩) (by decide +kernel)) ggX6_text_X6_readsItem
set_option maxRecDepth 20000 in
theorem ggX6_text_X6_laysBack : GoodIn wsX6_text wsX6_laysBack := goodIn_sub (List.forall_mem_cons.mpr ⟨List.mem_of_getElem? (i := 63) rfl, (List.forall_mem_append.mpr ⟨(List.forall_mem_cons.mpr ⟨List.mem_of_getElem? (i := 11) rfl, List.forall_mem_cons.mpr ⟨List.mem_of_getElem? (i := 10) rfl, fun _ h => absurd h List.not_mem_nil⟩⟩), (fun _ h => List.mem_cons_of_mem _ (List.mem_append_right _ h))⟩)⟩) (by decide +kernel)
set_option maxRecDepth 20000 in
theorem gX6_text_X6_laysBack : GoodIn wsX6_text (wsV RX6 110 RX6 yX6_laysBack wsX6_laysBack) := goodIn_app (goodIn_sub (List.forall_mem_cons.mpr ⟨List.mem_of_getElem? (i := 60) rfl, List.forall_mem_cons.mpr ⟨List.mem_of_getElem? (i := 61) rfl, List.forall_mem_cons.mpr ⟨List.mem_of_getElem? (i := 62) rfl, List.forall_mem_cons.mpr ⟨List.mem_of_getElem? (i := 8) rfl, fun _ h => absurd h List.not_mem_nil⟩⟩⟩⟩) (by decide +kernel)) ggX6_text_X6_laysBack
theorem dX6_text_0 : decode cX6_text 0 = .ok (.aload_n 0, 1) := by decide +kernel
theorem dX6_text_1 : decode cX6_text 1 = .ok (.invokevirtual 116, 3) := by decide +kernel
theorem dX6_text_4 : decode cX6_text 4 = .ok (.aload_n 0, 1) := by decide +kernel
theorem dX6_text_5 : decode cX6_text 5 = .ok (.iconst 0, 1) := by decide +kernel
theorem dX6_text_6 : decode cX6_text 6 = .ok (.putfield 139, 3) := by decide +kernel
theorem dX6_text_9 : decode cX6_text 9 = .ok (.aload_n 0, 1) := by decide +kernel
theorem dX6_text_10 : decode cX6_text 10 = .ok (.invokevirtual 170, 3) := by decide +kernel
theorem dX6_text_13 : decode cX6_text 13 = .ok (.iconst 1, 1) := by decide +kernel
theorem dX6_text_14 : decode cX6_text 14 = .ok (.istore_n 1, 1) := by decide +kernel
theorem dX6_text_15 : decode cX6_text 15 = .ok (.aload_n 0, 1) := by decide +kernel
theorem dX6_text_16 : decode cX6_text 16 = .ok (.invokevirtual 183, 3) := by decide +kernel
theorem dX6_text_19 : decode cX6_text 19 = .ok (.istore_n 2, 1) := by decide +kernel
theorem dX6_text_20 : decode cX6_text 20 = .ok (.iload_n 2, 1) := by decide +kernel
theorem dX6_text_21 : decode cX6_text 21 = .ok (.ifCond .eq 26, 3) := by decide +kernel
theorem dX6_text_24 : decode cX6_text 24 = .ok (.aload_n 0, 1) := by decide +kernel
theorem dX6_text_25 : decode cX6_text 25 = .ok (.getfield 149, 3) := by decide +kernel
theorem dX6_text_28 : decode cX6_text 28 = .ok (.iconst 3, 1) := by decide +kernel
theorem dX6_text_29 : decode cX6_text 29 = .ok (.if_icmp .ne 18, 3) := by decide +kernel
theorem dX6_text_32 : decode cX6_text 32 = .ok (.aload_n 0, 1) := by decide +kernel
theorem dX6_text_33 : decode cX6_text 33 = .ok (.invokevirtual 170, 3) := by decide +kernel
theorem dX6_text_36 : decode cX6_text 36 = .ok (.aload_n 0, 1) := by decide +kernel
theorem dX6_text_37 : decode cX6_text 37 = .ok (.invokevirtual 183, 3) := by decide +kernel
theorem dX6_text_40 : decode cX6_text 40 = .ok (.istore_n 2, 1) := by decide +kernel
theorem dX6_text_41 : decode cX6_text 41 = .ok (.iinc 1 1, 3) := by decide +kernel
theorem dX6_text_44 : decode cX6_text 44 = .ok (.goto (-24), 3) := by decide +kernel
theorem dX6_text_47 : decode cX6_text 47 = .ok (.iload_n 2, 1) := by decide +kernel
theorem dX6_text_48 : decode cX6_text 48 = .ok (.ifCond .eq 14, 3) := by decide +kernel
theorem dX6_text_51 : decode cX6_text 51 = .ok (.aload_n 0, 1) := by decide +kernel
theorem dX6_text_52 : decode cX6_text 52 = .ok (.getfield 149, 3) := by decide +kernel
theorem dX6_text_55 : decode cX6_text 55 = .ok (.ifCond .ne 7, 3) := by decide +kernel
theorem dX6_text_58 : decode cX6_text 58 = .ok (.iconst 1, 1) := by decide +kernel
theorem dX6_text_59 : decode cX6_text 59 = .ok (.goto 4, 3) := by decide +kernel
theorem dX6_text_62 : decode cX6_text 62 = .ok (.iconst 0, 1) := by decide +kernel
theorem dX6_text_63 : decode cX6_text 63 = .ok (.istore_n 2, 1) := by decide +kernel
theorem dX6_text_64 : decode cX6_text 64 = .ok (.aload_n 0, 1) := by decide +kernel
theorem dX6_text_65 : decode cX6_text 65 = .ok (.iconst 0, 1) := by decide +kernel
theorem dX6_text_66 : decode cX6_text 66 = .ok (.putfield 135, 3) := by decide +kernel
theorem dX6_text_69 : decode cX6_text 69 = .ok (.iload_n 2, 1) := by decide +kernel
theorem dX6_text_70 : decode cX6_text 70 = .ok (.ifCond .ne 14, 3) := by decide +kernel
theorem dX6_text_73 : decode cX6_text 73 = .ok (.aload_n 0, 1) := by decide +kernel
theorem dX6_text_74 : decode cX6_text 74 = .ok (.invokevirtual 110, 3) := by decide +kernel
theorem dX6_text_77 : decode cX6_text 77 = .ok (.iconst (-1), 1) := by decide +kernel
theorem dX6_text_78 : decode cX6_text 78 = .ok (.aload_n 0, 1) := by decide +kernel
theorem dX6_text_79 : decode cX6_text 79 = .ok (.getfield 142, 3) := by decide +kernel
theorem dX6_text_82 : decode cX6_text 82 = .ok (.isub, 1) := by decide +kernel
theorem dX6_text_83 : decode cX6_text 83 = .ok (.ireturn, 1) := by decide +kernel
theorem dX6_text_84 : decode cX6_text 84 = .ok (.iload_n 1, 1) := by decide +kernel
theorem dX6_text_85 : decode cX6_text 85 = .ok (.ireturn, 1) := by decide +kernel
set_option maxRecDepth 20000 in
theorem ggX6_isSheet_X6_in1 : GoodIn wsX6_isSheet wsX6_in1 := goodIn_sub (List.forall_mem_cons.mpr ⟨List.mem_of_getElem? (i := 4) rfl, (fun _ h => absurd h List.not_mem_nil)⟩) (by decide +kernel)
set_option maxRecDepth 20000 in
theorem gX6_isSheet_X6_in1 : GoodIn wsX6_isSheet (va_wsS RX6 49 yX6_in1 wsX6_in1) := goodIn_app (goodIn_sub (List.forall_mem_cons.mpr ⟨List.mem_of_getElem? (i := 1) rfl, List.forall_mem_cons.mpr ⟨List.mem_of_getElem? (i := 2) rfl, List.forall_mem_cons.mpr ⟨List.mem_of_getElem? (i := 3) rfl, fun _ h => absurd h List.not_mem_nil⟩⟩⟩) (by decide +kernel)) ggX6_isSheet_X6_in1
theorem dX6_isSheet_0 : decode cX6_isSheet 0 = .ok (.iload_n 0, 1) := by decide +kernel
theorem dX6_isSheet_1 : decode cX6_isSheet 1 = .ok (.iconst 0, 1) := by decide +kernel
theorem dX6_isSheet_2 : decode cX6_isSheet 2 = .ok (.iconst 3, 1) := by decide +kernel
theorem dX6_isSheet_3 : decode cX6_isSheet 3 = .ok (.invokestatic 49, 3) := by decide +kernel
theorem dX6_isSheet_6 : decode cX6_isSheet 6 = .ok (.ireturn, 1) := by decide +kernel
set_option maxRecDepth 20000 in
theorem ggX6_wrongSheet_X6_isSheet : GoodIn wsX6_wrongSheet wsX6_isSheet := goodIn_sub (List.forall_mem_cons.mpr ⟨List.mem_of_getElem? (i := 5) rfl, (List.forall_mem_cons.mpr ⟨List.mem_of_getElem? (i := 6) rfl, List.forall_mem_cons.mpr ⟨List.mem_of_getElem? (i := 7) rfl, List.forall_mem_cons.mpr ⟨List.mem_of_getElem? (i := 4) rfl, List.forall_mem_cons.mpr ⟨List.mem_of_getElem? (i := 8) rfl, fun _ h => absurd h List.not_mem_nil⟩⟩⟩⟩)⟩) (by decide +kernel)
set_option maxRecDepth 20000 in
theorem gX6_wrongSheet_X6_isSheet : GoodIn wsX6_wrongSheet (va_wsS RX6 187 yX6_isSheet wsX6_isSheet) := goodIn_app (goodIn_sub (List.forall_mem_cons.mpr ⟨List.mem_of_getElem? (i := 2) rfl, List.forall_mem_cons.mpr ⟨List.mem_of_getElem? (i := 3) rfl, List.forall_mem_cons.mpr ⟨List.mem_of_getElem? (i := 4) rfl, fun _ h => absurd h List.not_mem_nil⟩⟩⟩) (by decide +kernel)) ggX6_wrongSheet_X6_isSheet
theorem dX6_wrongSheet_0 : decode cX6_wrongSheet 0 = .ok (.iload_n 1, 1) := by decide +kernel
theorem dX6_wrongSheet_1 : decode cX6_wrongSheet 1 = .ok (.invokestatic 187, 3) := by decide +kernel
theorem dX6_wrongSheet_4 : decode cX6_wrongSheet 4 = .ok (.ifCond .ne 7, 3) := by decide +kernel
theorem dX6_wrongSheet_7 : decode cX6_wrongSheet 7 = .ok (.iconst 0, 1) := by decide +kernel
theorem dX6_wrongSheet_8 : decode cX6_wrongSheet 8 = .ok (.goto 17, 3) := by decide +kernel
theorem dX6_wrongSheet_11 : decode cX6_wrongSheet 11 = .ok (.aload_n 0, 1) := by decide +kernel
theorem dX6_wrongSheet_12 : decode cX6_wrongSheet 12 = .ok (.getfield 35, 3) := by decide +kernel
theorem dX6_wrongSheet_15 : decode cX6_wrongSheet 15 = .ok (.iload_n 1, 1) := by decide +kernel
theorem dX6_wrongSheet_16 : decode cX6_wrongSheet 16 = .ok (.iaload, 1) := by decide +kernel
theorem dX6_wrongSheet_17 : decode cX6_wrongSheet 17 = .ok (.ifCond .ne 7, 3) := by decide +kernel
theorem dX6_wrongSheet_20 : decode cX6_wrongSheet 20 = .ok (.iconst 5, 1) := by decide +kernel
theorem dX6_wrongSheet_21 : decode cX6_wrongSheet 21 = .ok (.goto 4, 3) := by decide +kernel
theorem dX6_wrongSheet_24 : decode cX6_wrongSheet 24 = .ok (.iconst (-1), 1) := by decide +kernel
theorem dX6_wrongSheet_25 : decode cX6_wrongSheet 25 = .ok (.ireturn, 1) := by decide +kernel
theorem dX6_told_0 : decode cX6_told 0 = .ok (.aload_n 0, 1) := by decide +kernel
theorem dX6_told_1 : decode cX6_told 1 = .ok (.getfield 41, 3) := by decide +kernel
theorem dX6_told_4 : decode cX6_told 4 = .ok (.bipush 40, 2) := by decide +kernel
theorem dX6_told_6 : decode cX6_told 6 = .ok (.iload_n 1, 1) := by decide +kernel
theorem dX6_told_7 : decode cX6_told 7 = .ok (.imul, 1) := by decide +kernel
theorem dX6_told_8 : decode cX6_told 8 = .ok (.iload_n 2, 1) := by decide +kernel
theorem dX6_told_9 : decode cX6_told 9 = .ok (.iadd, 1) := by decide +kernel
theorem dX6_told_10 : decode cX6_told 10 = .ok (.laload, 1) := by decide +kernel
theorem dX6_told_11 : decode cX6_told 11 = .ok (.lreturn, 1) := by decide +kernel
theorem dX6_tells_0 : decode cX6_tells 0 = .ok (.aload_n 0, 1) := by decide +kernel
theorem dX6_tells_1 : decode cX6_tells 1 = .ok (.getfield 41, 3) := by decide +kernel
theorem dX6_tells_4 : decode cX6_tells 4 = .ok (.bipush 40, 2) := by decide +kernel
theorem dX6_tells_6 : decode cX6_tells 6 = .ok (.iload_n 1, 1) := by decide +kernel
theorem dX6_tells_7 : decode cX6_tells 7 = .ok (.imul, 1) := by decide +kernel
theorem dX6_tells_8 : decode cX6_tells 8 = .ok (.iload_n 2, 1) := by decide +kernel
theorem dX6_tells_9 : decode cX6_tells 9 = .ok (.iadd, 1) := by decide +kernel
theorem dX6_tells_10 : decode cX6_tells 10 = .ok (.aload_n 0, 1) := by decide +kernel
theorem dX6_tells_11 : decode cX6_tells 11 = .ok (.getfield 35, 3) := by decide +kernel
theorem dX6_tells_14 : decode cX6_tells 14 = .ok (.iload_n 1, 1) := by decide +kernel
theorem dX6_tells_15 : decode cX6_tells 15 = .ok (.iaload, 1) := by decide +kernel
theorem dX6_tells_16 : decode cX6_tells 16 = .ok (.bipush 8, 2) := by decide +kernel
theorem dX6_tells_18 : decode cX6_tells 18 = .ok (.if_icmp .ne 10, 3) := by decide +kernel
theorem dX6_tells_21 : decode cX6_tells 21 = .ok (.lload_n 3, 1) := by decide +kernel
theorem dX6_tells_22 : decode cX6_tells 22 = .ok (.l2i, 1) := by decide +kernel
theorem dX6_tells_23 : decode cX6_tells 23 = .ok (.i2b, 1) := by decide +kernel
theorem dX6_tells_24 : decode cX6_tells 24 = .ok (.i2l, 1) := by decide +kernel
theorem dX6_tells_25 : decode cX6_tells 25 = .ok (.goto 22, 3) := by decide +kernel
theorem dX6_tells_28 : decode cX6_tells 28 = .ok (.aload_n 0, 1) := by decide +kernel
theorem dX6_tells_29 : decode cX6_tells 29 = .ok (.getfield 35, 3) := by decide +kernel
theorem dX6_tells_32 : decode cX6_tells 32 = .ok (.iload_n 1, 1) := by decide +kernel
theorem dX6_tells_33 : decode cX6_tells 33 = .ok (.iaload, 1) := by decide +kernel
theorem dX6_tells_34 : decode cX6_tells 34 = .ok (.bipush 16, 2) := by decide +kernel
theorem dX6_tells_36 : decode cX6_tells 36 = .ok (.if_icmp .ne 10, 3) := by decide +kernel
theorem dX6_tells_39 : decode cX6_tells 39 = .ok (.lload_n 3, 1) := by decide +kernel
theorem dX6_tells_40 : decode cX6_tells 40 = .ok (.l2i, 1) := by decide +kernel
theorem dX6_tells_41 : decode cX6_tells 41 = .ok (.i2s, 1) := by decide +kernel
theorem dX6_tells_42 : decode cX6_tells 42 = .ok (.i2l, 1) := by decide +kernel
theorem dX6_tells_43 : decode cX6_tells 43 = .ok (.goto 4, 3) := by decide +kernel
theorem dX6_tells_46 : decode cX6_tells 46 = .ok (.lload_n 3, 1) := by decide +kernel
theorem dX6_tells_47 : decode cX6_tells 47 = .ok (.lastore, 1) := by decide +kernel
theorem dX6_tells_48 : decode cX6_tells 48 = .ok (.return_, 1) := by decide +kernel
set_option maxRecDepth 20000 in
theorem ggX6_sheet_X6_isSheet : GoodIn wsX6_sheet wsX6_isSheet := goodIn_sub (List.forall_mem_cons.mpr ⟨List.mem_of_getElem? (i := 7) rfl, (List.forall_mem_cons.mpr ⟨List.mem_of_getElem? (i := 8) rfl, List.forall_mem_cons.mpr ⟨List.mem_of_getElem? (i := 9) rfl, List.forall_mem_cons.mpr ⟨List.mem_of_getElem? (i := 6) rfl, List.forall_mem_cons.mpr ⟨List.mem_of_getElem? (i := 10) rfl, fun _ h => absurd h List.not_mem_nil⟩⟩⟩⟩)⟩) (by decide +kernel)
set_option maxRecDepth 20000 in
theorem gX6_sheet_X6_isSheet : GoodIn wsX6_sheet (va_wsS RX6 187 yX6_isSheet wsX6_isSheet) := goodIn_app (goodIn_sub (List.forall_mem_cons.mpr ⟨List.mem_of_getElem? (i := 4) rfl, List.forall_mem_cons.mpr ⟨List.mem_of_getElem? (i := 5) rfl, List.forall_mem_cons.mpr ⟨List.mem_of_getElem? (i := 6) rfl, fun _ h => absurd h List.not_mem_nil⟩⟩⟩) (by decide +kernel)) ggX6_sheet_X6_isSheet
set_option maxRecDepth 20000 in
theorem ggX6_sheet_X6_no : GoodIn wsX6_sheet wsX6_no := goodIn_sub (List.forall_mem_cons.mpr ⟨List.mem_of_getElem? (i := 14) rfl, (List.forall_mem_append.mpr ⟨(List.forall_mem_cons.mpr ⟨List.mem_of_getElem? (i := 15) rfl, List.forall_mem_cons.mpr ⟨List.mem_of_getElem? (i := 16) rfl, fun _ h => absurd h List.not_mem_nil⟩⟩), (fun _ h => List.mem_cons_of_mem _ (List.mem_append_right _ h))⟩)⟩) (by decide +kernel)
set_option maxRecDepth 20000 in
theorem gX6_sheet_X6_no : GoodIn wsX6_sheet (wsV RX6 87 RX6 yX6_no wsX6_no) := goodIn_app (goodIn_sub (List.forall_mem_cons.mpr ⟨List.mem_of_getElem? (i := 11) rfl, List.forall_mem_cons.mpr ⟨List.mem_of_getElem? (i := 12) rfl, List.forall_mem_cons.mpr ⟨List.mem_of_getElem? (i := 13) rfl, List.forall_mem_cons.mpr ⟨List.mem_of_getElem? (i := 6) rfl, fun _ h => absurd h List.not_mem_nil⟩⟩⟩⟩) (by decide +kernel)) ggX6_sheet_X6_no
theorem dX6_sheet_0 : decode cX6_sheet 0 = .ok (.iload_n 1, 1) := by decide +kernel
theorem dX6_sheet_1 : decode cX6_sheet 1 = .ok (.invokestatic 187, 3) := by decide +kernel
theorem dX6_sheet_4 : decode cX6_sheet 4 = .ok (.ifCond .eq 25, 3) := by decide +kernel
theorem dX6_sheet_7 : decode cX6_sheet 7 = .ok (.iload_n 2, 1) := by decide +kernel
theorem dX6_sheet_8 : decode cX6_sheet 8 = .ok (.ifCond .eq 27, 3) := by decide +kernel
theorem dX6_sheet_11 : decode cX6_sheet 11 = .ok (.iload_n 2, 1) := by decide +kernel
theorem dX6_sheet_12 : decode cX6_sheet 12 = .ok (.bipush 8, 2) := by decide +kernel
theorem dX6_sheet_14 : decode cX6_sheet 14 = .ok (.if_icmp .eq 21, 3) := by decide +kernel
theorem dX6_sheet_17 : decode cX6_sheet 17 = .ok (.iload_n 2, 1) := by decide +kernel
theorem dX6_sheet_18 : decode cX6_sheet 18 = .ok (.bipush 16, 2) := by decide +kernel
theorem dX6_sheet_20 : decode cX6_sheet 20 = .ok (.if_icmp .eq 15, 3) := by decide +kernel
theorem dX6_sheet_23 : decode cX6_sheet 23 = .ok (.iload_n 2, 1) := by decide +kernel
theorem dX6_sheet_24 : decode cX6_sheet 24 = .ok (.bipush 64, 2) := by decide +kernel
theorem dX6_sheet_26 : decode cX6_sheet 26 = .ok (.if_icmp .eq 9, 3) := by decide +kernel
theorem dX6_sheet_29 : decode cX6_sheet 29 = .ok (.aload_n 0, 1) := by decide +kernel
theorem dX6_sheet_30 : decode cX6_sheet 30 = .ok (.iconst 0, 1) := by decide +kernel
theorem dX6_sheet_31 : decode cX6_sheet 31 = .ok (.invokevirtual 87, 3) := by decide +kernel
theorem dX6_sheet_34 : decode cX6_sheet 34 = .ok (.ireturn, 1) := by decide +kernel
theorem dX6_sheet_35 : decode cX6_sheet 35 = .ok (.iload_n 3, 1) := by decide +kernel
theorem dX6_sheet_36 : decode cX6_sheet 36 = .ok (.ifCond .ge 10, 3) := by decide +kernel
theorem dX6_sheet_39 : decode cX6_sheet 39 = .ok (.aload_n 0, 1) := by decide +kernel
theorem dX6_sheet_40 : decode cX6_sheet 40 = .ok (.bipush 6, 2) := by decide +kernel
theorem dX6_sheet_42 : decode cX6_sheet 42 = .ok (.invokevirtual 87, 3) := by decide +kernel
theorem dX6_sheet_45 : decode cX6_sheet 45 = .ok (.ireturn, 1) := by decide +kernel
theorem dX6_sheet_46 : decode cX6_sheet 46 = .ok (.iload_n 3, 1) := by decide +kernel
theorem dX6_sheet_47 : decode cX6_sheet 47 = .ok (.bipush 40, 2) := by decide +kernel
theorem dX6_sheet_49 : decode cX6_sheet 49 = .ok (.if_icmp .le 9, 3) := by decide +kernel
theorem dX6_sheet_52 : decode cX6_sheet 52 = .ok (.aload_n 0, 1) := by decide +kernel
theorem dX6_sheet_53 : decode cX6_sheet 53 = .ok (.iconst 0, 1) := by decide +kernel
theorem dX6_sheet_54 : decode cX6_sheet 54 = .ok (.invokevirtual 87, 3) := by decide +kernel
theorem dX6_sheet_57 : decode cX6_sheet 57 = .ok (.ireturn, 1) := by decide +kernel
theorem dX6_sheet_58 : decode cX6_sheet 58 = .ok (.aload_n 0, 1) := by decide +kernel
theorem dX6_sheet_59 : decode cX6_sheet 59 = .ok (.getfield 35, 3) := by decide +kernel
theorem dX6_sheet_62 : decode cX6_sheet 62 = .ok (.iload_n 1, 1) := by decide +kernel
theorem dX6_sheet_63 : decode cX6_sheet 63 = .ok (.iload_n 2, 1) := by decide +kernel
theorem dX6_sheet_64 : decode cX6_sheet 64 = .ok (.iastore, 1) := by decide +kernel
theorem dX6_sheet_65 : decode cX6_sheet 65 = .ok (.aload_n 0, 1) := by decide +kernel
theorem dX6_sheet_66 : decode cX6_sheet 66 = .ok (.getfield 38, 3) := by decide +kernel
theorem dX6_sheet_69 : decode cX6_sheet 69 = .ok (.iload_n 1, 1) := by decide +kernel
theorem dX6_sheet_70 : decode cX6_sheet 70 = .ok (.iload_n 2, 1) := by decide +kernel
theorem dX6_sheet_71 : decode cX6_sheet 71 = .ok (.ifCond .ne 7, 3) := by decide +kernel
theorem dX6_sheet_74 : decode cX6_sheet 74 = .ok (.iconst 0, 1) := by decide +kernel
theorem dX6_sheet_75 : decode cX6_sheet 75 = .ok (.goto 4, 3) := by decide +kernel
theorem dX6_sheet_78 : decode cX6_sheet 78 = .ok (.iload_n 3, 1) := by decide +kernel
theorem dX6_sheet_79 : decode cX6_sheet 79 = .ok (.iastore, 1) := by decide +kernel
theorem dX6_sheet_80 : decode cX6_sheet 80 = .ok (.iconst 0, 1) := by decide +kernel
theorem dX6_sheet_81 : decode cX6_sheet 81 = .ok (.istore 4, 2) := by decide +kernel
theorem dX6_sheet_83 : decode cX6_sheet 83 = .ok (.iload 4, 2) := by decide +kernel
theorem dX6_sheet_85 : decode cX6_sheet 85 = .ok (.bipush 40, 2) := by decide +kernel
theorem dX6_sheet_87 : decode cX6_sheet 87 = .ok (.if_icmp .ge 22, 3) := by decide +kernel
theorem dX6_sheet_90 : decode cX6_sheet 90 = .ok (.aload_n 0, 1) := by decide +kernel
theorem dX6_sheet_91 : decode cX6_sheet 91 = .ok (.getfield 41, 3) := by decide +kernel
theorem dX6_sheet_94 : decode cX6_sheet 94 = .ok (.bipush 40, 2) := by decide +kernel
theorem dX6_sheet_96 : decode cX6_sheet 96 = .ok (.iload_n 1, 1) := by decide +kernel
theorem dX6_sheet_97 : decode cX6_sheet 97 = .ok (.imul, 1) := by decide +kernel
theorem dX6_sheet_98 : decode cX6_sheet 98 = .ok (.iload 4, 2) := by decide +kernel
theorem dX6_sheet_100 : decode cX6_sheet 100 = .ok (.iadd, 1) := by decide +kernel
theorem dX6_sheet_101 : decode cX6_sheet 101 = .ok (.lconst 0, 1) := by decide +kernel
theorem dX6_sheet_102 : decode cX6_sheet 102 = .ok (.lastore, 1) := by decide +kernel
theorem dX6_sheet_103 : decode cX6_sheet 103 = .ok (.iinc 4 1, 3) := by decide +kernel
theorem dX6_sheet_106 : decode cX6_sheet 106 = .ok (.goto (-23), 3) := by decide +kernel
theorem dX6_sheet_109 : decode cX6_sheet 109 = .ok (.aload_n 0, 1) := by decide +kernel
theorem dX6_sheet_110 : decode cX6_sheet 110 = .ok (.getfield 38, 3) := by decide +kernel
theorem dX6_sheet_113 : decode cX6_sheet 113 = .ok (.iload_n 1, 1) := by decide +kernel
theorem dX6_sheet_114 : decode cX6_sheet 114 = .ok (.iaload, 1) := by decide +kernel
theorem dX6_sheet_115 : decode cX6_sheet 115 = .ok (.ireturn, 1) := by decide +kernel
set_option maxRecDepth 20000 in
theorem ggX6_write_X6_wrongSheet : GoodIn wsX6_write wsX6_wrongSheet := goodIn_sub (List.forall_mem_cons.mpr ⟨List.mem_of_getElem? (i := 6) rfl, (List.forall_mem_append.mpr ⟨(List.forall_mem_cons.mpr ⟨List.mem_of_getElem? (i := 7) rfl, List.forall_mem_cons.mpr ⟨List.mem_of_getElem? (i := 8) rfl, List.forall_mem_cons.mpr ⟨List.mem_of_getElem? (i := 9) rfl, List.forall_mem_cons.mpr ⟨List.mem_of_getElem? (i := 5) rfl, List.forall_mem_cons.mpr ⟨List.mem_of_getElem? (i := 10) rfl, List.forall_mem_cons.mpr ⟨List.mem_of_getElem? (i := 11) rfl, List.forall_mem_cons.mpr ⟨List.mem_of_getElem? (i := 12) rfl, List.forall_mem_cons.mpr ⟨List.mem_of_getElem? (i := 13) rfl, fun _ h => absurd h List.not_mem_nil⟩⟩⟩⟩⟩⟩⟩⟩), (fun _ h => List.mem_cons_of_mem _ (List.mem_append_right _ h))⟩)⟩) (by decide +kernel)
set_option maxRecDepth 20000 in
theorem gX6_write_X6_wrongSheet : GoodIn wsX6_write (wsV RX6 190 RX6 yX6_wrongSheet wsX6_wrongSheet) := goodIn_app (goodIn_sub (List.forall_mem_cons.mpr ⟨List.mem_of_getElem? (i := 2) rfl, List.forall_mem_cons.mpr ⟨List.mem_of_getElem? (i := 3) rfl, List.forall_mem_cons.mpr ⟨List.mem_of_getElem? (i := 4) rfl, List.forall_mem_cons.mpr ⟨List.mem_of_getElem? (i := 5) rfl, fun _ h => absurd h List.not_mem_nil⟩⟩⟩⟩) (by decide +kernel)) ggX6_write_X6_wrongSheet
set_option maxRecDepth 20000 in
theorem ggX6_write_X6_in1 : GoodIn wsX6_write wsX6_in1 := goodIn_sub (List.forall_mem_cons.mpr ⟨List.mem_of_getElem? (i := 13) rfl, (fun _ h => absurd h List.not_mem_nil)⟩) (by decide +kernel)
set_option maxRecDepth 20000 in
theorem gX6_write_X6_in1 : GoodIn wsX6_write (va_wsS RX6 49 yX6_in1 wsX6_in1) := goodIn_app (goodIn_sub (List.forall_mem_cons.mpr ⟨List.mem_of_getElem? (i := 11) rfl, List.forall_mem_cons.mpr ⟨List.mem_of_getElem? (i := 12) rfl, List.forall_mem_cons.mpr ⟨List.mem_of_getElem? (i := 5) rfl, fun _ h => absurd h List.not_mem_nil⟩⟩⟩) (by decide +kernel)) ggX6_write_X6_in1
set_option maxRecDepth 20000 in
theorem ggX6_write_X6_no : GoodIn wsX6_write wsX6_no := goodIn_sub (List.forall_mem_cons.mpr ⟨List.mem_of_getElem? (i := 17) rfl, (List.forall_mem_append.mpr ⟨(List.forall_mem_cons.mpr ⟨List.mem_of_getElem? (i := 18) rfl, List.forall_mem_cons.mpr ⟨List.mem_of_getElem? (i := 19) rfl, fun _ h => absurd h List.not_mem_nil⟩⟩), (fun _ h => List.mem_cons_of_mem _ (List.mem_append_right _ h))⟩)⟩) (by decide +kernel)
set_option maxRecDepth 20000 in
theorem gX6_write_X6_no : GoodIn wsX6_write (wsV RX6 87 RX6 yX6_no wsX6_no) := goodIn_app (goodIn_sub (List.forall_mem_cons.mpr ⟨List.mem_of_getElem? (i := 14) rfl, List.forall_mem_cons.mpr ⟨List.mem_of_getElem? (i := 15) rfl, List.forall_mem_cons.mpr ⟨List.mem_of_getElem? (i := 16) rfl, List.forall_mem_cons.mpr ⟨List.mem_of_getElem? (i := 5) rfl, fun _ h => absurd h List.not_mem_nil⟩⟩⟩⟩) (by decide +kernel)) ggX6_write_X6_no
set_option maxRecDepth 20000 in
theorem ggX6_write_X6_told : GoodIn wsX6_write wsX6_told := goodIn_sub (List.forall_mem_cons.mpr ⟨List.mem_of_getElem? (i := 23) rfl, (List.forall_mem_append.mpr ⟨(List.forall_mem_cons.mpr ⟨List.mem_of_getElem? (i := 24) rfl, fun _ h => absurd h List.not_mem_nil⟩), (fun _ h => List.mem_cons_of_mem _ (List.mem_append_right _ h))⟩)⟩) (by decide +kernel)
set_option maxRecDepth 20000 in
theorem gX6_write_X6_told : GoodIn wsX6_write (wsV RX6 193 RX6 yX6_told wsX6_told) := goodIn_app (goodIn_sub (List.forall_mem_cons.mpr ⟨List.mem_of_getElem? (i := 20) rfl, List.forall_mem_cons.mpr ⟨List.mem_of_getElem? (i := 21) rfl, List.forall_mem_cons.mpr ⟨List.mem_of_getElem? (i := 22) rfl, List.forall_mem_cons.mpr ⟨List.mem_of_getElem? (i := 5) rfl, fun _ h => absurd h List.not_mem_nil⟩⟩⟩⟩) (by decide +kernel)) ggX6_write_X6_told
set_option maxRecDepth 20000 in
theorem ggX6_write_X6_tells : GoodIn wsX6_write wsX6_tells := goodIn_sub (List.forall_mem_cons.mpr ⟨List.mem_of_getElem? (i := 28) rfl, (List.forall_mem_append.mpr ⟨(List.forall_mem_cons.mpr ⟨List.mem_of_getElem? (i := 24) rfl, List.forall_mem_cons.mpr ⟨List.mem_of_getElem? (i := 7) rfl, fun _ h => absurd h List.not_mem_nil⟩⟩), (fun _ h => List.mem_cons_of_mem _ (List.mem_append_right _ h))⟩)⟩) (by decide +kernel)
set_option maxRecDepth 20000 in
theorem gX6_write_X6_tells : GoodIn wsX6_write (wsV RX6 197 RX6 yX6_tells wsX6_tells) := goodIn_app (goodIn_sub (List.forall_mem_cons.mpr ⟨List.mem_of_getElem? (i := 25) rfl, List.forall_mem_cons.mpr ⟨List.mem_of_getElem? (i := 26) rfl, List.forall_mem_cons.mpr ⟨List.mem_of_getElem? (i := 27) rfl, List.forall_mem_cons.mpr ⟨List.mem_of_getElem? (i := 5) rfl, fun _ h => absurd h List.not_mem_nil⟩⟩⟩⟩) (by decide +kernel)) ggX6_write_X6_tells
theorem dX6_write_0 : decode cX6_write 0 = .ok (.aload_n 0, 1) := by decide +kernel
theorem dX6_write_1 : decode cX6_write 1 = .ok (.iload_n 1, 1) := by decide +kernel
theorem dX6_write_2 : decode cX6_write 2 = .ok (.invokevirtual 190, 3) := by decide +kernel
theorem dX6_write_5 : decode cX6_write 5 = .ok (.istore 5, 2) := by decide +kernel
theorem dX6_write_7 : decode cX6_write 7 = .ok (.iload 5, 2) := by decide +kernel
theorem dX6_write_9 : decode cX6_write 9 = .ok (.ifCond .ge 22, 3) := by decide +kernel
theorem dX6_write_12 : decode cX6_write 12 = .ok (.iload_n 2, 1) := by decide +kernel
theorem dX6_write_13 : decode cX6_write 13 = .ok (.iconst 0, 1) := by decide +kernel
theorem dX6_write_14 : decode cX6_write 14 = .ok (.aload_n 0, 1) := by decide +kernel
theorem dX6_write_15 : decode cX6_write 15 = .ok (.getfield 38, 3) := by decide +kernel
theorem dX6_write_18 : decode cX6_write 18 = .ok (.iload_n 1, 1) := by decide +kernel
theorem dX6_write_19 : decode cX6_write 19 = .ok (.iaload, 1) := by decide +kernel
theorem dX6_write_20 : decode cX6_write 20 = .ok (.iconst 1, 1) := by decide +kernel
theorem dX6_write_21 : decode cX6_write 21 = .ok (.isub, 1) := by decide +kernel
theorem dX6_write_22 : decode cX6_write 22 = .ok (.invokestatic 49, 3) := by decide +kernel
theorem dX6_write_25 : decode cX6_write 25 = .ok (.ifCond .ne 6, 3) := by decide +kernel
theorem dX6_write_28 : decode cX6_write 28 = .ok (.iconst 0, 1) := by decide +kernel
theorem dX6_write_29 : decode cX6_write 29 = .ok (.istore 5, 2) := by decide +kernel
theorem dX6_write_31 : decode cX6_write 31 = .ok (.iload 5, 2) := by decide +kernel
theorem dX6_write_33 : decode cX6_write 33 = .ok (.ifCond .lt 11, 3) := by decide +kernel
theorem dX6_write_36 : decode cX6_write 36 = .ok (.aload_n 0, 1) := by decide +kernel
theorem dX6_write_37 : decode cX6_write 37 = .ok (.iload 5, 2) := by decide +kernel
theorem dX6_write_39 : decode cX6_write 39 = .ok (.invokevirtual 87, 3) := by decide +kernel
theorem dX6_write_42 : decode cX6_write 42 = .ok (.i2l, 1) := by decide +kernel
theorem dX6_write_43 : decode cX6_write 43 = .ok (.lreturn, 1) := by decide +kernel
theorem dX6_write_44 : decode cX6_write 44 = .ok (.aload_n 0, 1) := by decide +kernel
theorem dX6_write_45 : decode cX6_write 45 = .ok (.iload_n 1, 1) := by decide +kernel
theorem dX6_write_46 : decode cX6_write 46 = .ok (.iload_n 2, 1) := by decide +kernel
theorem dX6_write_47 : decode cX6_write 47 = .ok (.invokevirtual 193, 3) := by decide +kernel
theorem dX6_write_50 : decode cX6_write 50 = .ok (.lstore 6, 2) := by decide +kernel
theorem dX6_write_52 : decode cX6_write 52 = .ok (.aload_n 0, 1) := by decide +kernel
theorem dX6_write_53 : decode cX6_write 53 = .ok (.iload_n 1, 1) := by decide +kernel
theorem dX6_write_54 : decode cX6_write 54 = .ok (.iload_n 2, 1) := by decide +kernel
theorem dX6_write_55 : decode cX6_write 55 = .ok (.lload_n 3, 1) := by decide +kernel
theorem dX6_write_56 : decode cX6_write 56 = .ok (.invokevirtual 197, 3) := by decide +kernel
theorem dX6_write_59 : decode cX6_write 59 = .ok (.lload 6, 2) := by decide +kernel
theorem dX6_write_61 : decode cX6_write 61 = .ok (.lreturn, 1) := by decide +kernel
set_option maxRecDepth 20000 in
theorem ggX6_copy_X6_isSheet : GoodIn wsX6_copy wsX6_isSheet := goodIn_sub (List.forall_mem_cons.mpr ⟨List.mem_of_getElem? (i := 8) rfl, (List.forall_mem_cons.mpr ⟨List.mem_of_getElem? (i := 9) rfl, List.forall_mem_cons.mpr ⟨List.mem_of_getElem? (i := 10) rfl, List.forall_mem_cons.mpr ⟨List.mem_of_getElem? (i := 7) rfl, List.forall_mem_cons.mpr ⟨List.mem_of_getElem? (i := 11) rfl, fun _ h => absurd h List.not_mem_nil⟩⟩⟩⟩)⟩) (by decide +kernel)
set_option maxRecDepth 20000 in
theorem gX6_copy_X6_isSheet : GoodIn wsX6_copy (va_wsS RX6 187 yX6_isSheet wsX6_isSheet) := goodIn_app (goodIn_sub (List.forall_mem_cons.mpr ⟨List.mem_of_getElem? (i := 5) rfl, List.forall_mem_cons.mpr ⟨List.mem_of_getElem? (i := 6) rfl, List.forall_mem_cons.mpr ⟨List.mem_of_getElem? (i := 7) rfl, fun _ h => absurd h List.not_mem_nil⟩⟩⟩) (by decide +kernel)) ggX6_copy_X6_isSheet
set_option maxRecDepth 20000 in
theorem ggX6_copy_X6_no : GoodIn wsX6_copy wsX6_no := goodIn_sub (List.forall_mem_cons.mpr ⟨List.mem_of_getElem? (i := 15) rfl, (List.forall_mem_append.mpr ⟨(List.forall_mem_cons.mpr ⟨List.mem_of_getElem? (i := 16) rfl, List.forall_mem_cons.mpr ⟨List.mem_of_getElem? (i := 17) rfl, fun _ h => absurd h List.not_mem_nil⟩⟩), (fun _ h => List.mem_cons_of_mem _ (List.mem_append_right _ h))⟩)⟩) (by decide +kernel)
set_option maxRecDepth 20000 in
theorem gX6_copy_X6_no : GoodIn wsX6_copy (wsV RX6 87 RX6 yX6_no wsX6_no) := goodIn_app (goodIn_sub (List.forall_mem_cons.mpr ⟨List.mem_of_getElem? (i := 12) rfl, List.forall_mem_cons.mpr ⟨List.mem_of_getElem? (i := 13) rfl, List.forall_mem_cons.mpr ⟨List.mem_of_getElem? (i := 14) rfl, List.forall_mem_cons.mpr ⟨List.mem_of_getElem? (i := 7) rfl, fun _ h => absurd h List.not_mem_nil⟩⟩⟩⟩) (by decide +kernel)) ggX6_copy_X6_no
set_option maxRecDepth 20000 in
theorem ggX6_copy_X6_told : GoodIn wsX6_copy wsX6_told := goodIn_sub (List.forall_mem_cons.mpr ⟨List.mem_of_getElem? (i := 21) rfl, (List.forall_mem_append.mpr ⟨(List.forall_mem_cons.mpr ⟨List.mem_of_getElem? (i := 4) rfl, fun _ h => absurd h List.not_mem_nil⟩), (fun _ h => List.mem_cons_of_mem _ (List.mem_append_right _ h))⟩)⟩) (by decide +kernel)
set_option maxRecDepth 20000 in
theorem gX6_copy_X6_told : GoodIn wsX6_copy (wsV RX6 193 RX6 yX6_told wsX6_told) := goodIn_app (goodIn_sub (List.forall_mem_cons.mpr ⟨List.mem_of_getElem? (i := 18) rfl, List.forall_mem_cons.mpr ⟨List.mem_of_getElem? (i := 19) rfl, List.forall_mem_cons.mpr ⟨List.mem_of_getElem? (i := 20) rfl, List.forall_mem_cons.mpr ⟨List.mem_of_getElem? (i := 7) rfl, fun _ h => absurd h List.not_mem_nil⟩⟩⟩⟩) (by decide +kernel)) ggX6_copy_X6_told
theorem dX6_copy_0 : decode cX6_copy 0 = .ok (.iload_n 1, 1) := by decide +kernel
theorem dX6_copy_1 : decode cX6_copy 1 = .ok (.invokestatic 187, 3) := by decide +kernel
theorem dX6_copy_4 : decode cX6_copy 4 = .ok (.ifCond .eq 10, 3) := by decide +kernel
theorem dX6_copy_7 : decode cX6_copy 7 = .ok (.iload_n 3, 1) := by decide +kernel
theorem dX6_copy_8 : decode cX6_copy 8 = .ok (.invokestatic 187, 3) := by decide +kernel
theorem dX6_copy_11 : decode cX6_copy 11 = .ok (.ifCond .ne 9, 3) := by decide +kernel
theorem dX6_copy_14 : decode cX6_copy 14 = .ok (.aload_n 0, 1) := by decide +kernel
theorem dX6_copy_15 : decode cX6_copy 15 = .ok (.iconst 0, 1) := by decide +kernel
theorem dX6_copy_16 : decode cX6_copy 16 = .ok (.invokevirtual 87, 3) := by decide +kernel
theorem dX6_copy_19 : decode cX6_copy 19 = .ok (.ireturn, 1) := by decide +kernel
theorem dX6_copy_20 : decode cX6_copy 20 = .ok (.aload_n 0, 1) := by decide +kernel
theorem dX6_copy_21 : decode cX6_copy 21 = .ok (.getfield 35, 3) := by decide +kernel
theorem dX6_copy_24 : decode cX6_copy 24 = .ok (.iload_n 1, 1) := by decide +kernel
theorem dX6_copy_25 : decode cX6_copy 25 = .ok (.iaload, 1) := by decide +kernel
theorem dX6_copy_26 : decode cX6_copy 26 = .ok (.ifCond .eq 12, 3) := by decide +kernel
theorem dX6_copy_29 : decode cX6_copy 29 = .ok (.aload_n 0, 1) := by decide +kernel
theorem dX6_copy_30 : decode cX6_copy 30 = .ok (.getfield 35, 3) := by decide +kernel
theorem dX6_copy_33 : decode cX6_copy 33 = .ok (.iload_n 3, 1) := by decide +kernel
theorem dX6_copy_34 : decode cX6_copy 34 = .ok (.iaload, 1) := by decide +kernel
theorem dX6_copy_35 : decode cX6_copy 35 = .ok (.ifCond .ne 9, 3) := by decide +kernel
theorem dX6_copy_38 : decode cX6_copy 38 = .ok (.aload_n 0, 1) := by decide +kernel
theorem dX6_copy_39 : decode cX6_copy 39 = .ok (.iconst 5, 1) := by decide +kernel
theorem dX6_copy_40 : decode cX6_copy 40 = .ok (.invokevirtual 87, 3) := by decide +kernel
theorem dX6_copy_43 : decode cX6_copy 43 = .ok (.ireturn, 1) := by decide +kernel
theorem dX6_copy_44 : decode cX6_copy 44 = .ok (.aload_n 0, 1) := by decide +kernel
theorem dX6_copy_45 : decode cX6_copy 45 = .ok (.getfield 35, 3) := by decide +kernel
theorem dX6_copy_48 : decode cX6_copy 48 = .ok (.iload_n 1, 1) := by decide +kernel
theorem dX6_copy_49 : decode cX6_copy 49 = .ok (.iaload, 1) := by decide +kernel
theorem dX6_copy_50 : decode cX6_copy 50 = .ok (.aload_n 0, 1) := by decide +kernel
theorem dX6_copy_51 : decode cX6_copy 51 = .ok (.getfield 35, 3) := by decide +kernel
theorem dX6_copy_54 : decode cX6_copy 54 = .ok (.iload_n 3, 1) := by decide +kernel
theorem dX6_copy_55 : decode cX6_copy 55 = .ok (.iaload, 1) := by decide +kernel
theorem dX6_copy_56 : decode cX6_copy 56 = .ok (.if_icmp .eq 9, 3) := by decide +kernel
theorem dX6_copy_59 : decode cX6_copy 59 = .ok (.aload_n 0, 1) := by decide +kernel
theorem dX6_copy_60 : decode cX6_copy 60 = .ok (.iconst 2, 1) := by decide +kernel
theorem dX6_copy_61 : decode cX6_copy 61 = .ok (.invokevirtual 87, 3) := by decide +kernel
theorem dX6_copy_64 : decode cX6_copy 64 = .ok (.ireturn, 1) := by decide +kernel
theorem dX6_copy_65 : decode cX6_copy 65 = .ok (.iload 5, 2) := by decide +kernel
theorem dX6_copy_67 : decode cX6_copy 67 = .ok (.ifCond .lt 39, 3) := by decide +kernel
theorem dX6_copy_70 : decode cX6_copy 70 = .ok (.iload_n 2, 1) := by decide +kernel
theorem dX6_copy_71 : decode cX6_copy 71 = .ok (.ifCond .lt 35, 3) := by decide +kernel
theorem dX6_copy_74 : decode cX6_copy 74 = .ok (.iload 4, 2) := by decide +kernel
theorem dX6_copy_76 : decode cX6_copy 76 = .ok (.ifCond .lt 30, 3) := by decide +kernel
theorem dX6_copy_79 : decode cX6_copy 79 = .ok (.iload_n 2, 1) := by decide +kernel
theorem dX6_copy_80 : decode cX6_copy 80 = .ok (.aload_n 0, 1) := by decide +kernel
theorem dX6_copy_81 : decode cX6_copy 81 = .ok (.getfield 38, 3) := by decide +kernel
theorem dX6_copy_84 : decode cX6_copy 84 = .ok (.iload_n 1, 1) := by decide +kernel
theorem dX6_copy_85 : decode cX6_copy 85 = .ok (.iaload, 1) := by decide +kernel
theorem dX6_copy_86 : decode cX6_copy 86 = .ok (.iload 5, 2) := by decide +kernel
theorem dX6_copy_88 : decode cX6_copy 88 = .ok (.isub, 1) := by decide +kernel
theorem dX6_copy_89 : decode cX6_copy 89 = .ok (.if_icmp .gt 17, 3) := by decide +kernel
theorem dX6_copy_92 : decode cX6_copy 92 = .ok (.iload 4, 2) := by decide +kernel
theorem dX6_copy_94 : decode cX6_copy 94 = .ok (.aload_n 0, 1) := by decide +kernel
theorem dX6_copy_95 : decode cX6_copy 95 = .ok (.getfield 38, 3) := by decide +kernel
theorem dX6_copy_98 : decode cX6_copy 98 = .ok (.iload_n 3, 1) := by decide +kernel
theorem dX6_copy_99 : decode cX6_copy 99 = .ok (.iaload, 1) := by decide +kernel
theorem dX6_copy_100 : decode cX6_copy 100 = .ok (.iload 5, 2) := by decide +kernel
theorem dX6_copy_102 : decode cX6_copy 102 = .ok (.isub, 1) := by decide +kernel
theorem dX6_copy_103 : decode cX6_copy 103 = .ok (.if_icmp .le 9, 3) := by decide +kernel
theorem dX6_copy_106 : decode cX6_copy 106 = .ok (.aload_n 0, 1) := by decide +kernel
theorem dX6_copy_107 : decode cX6_copy 107 = .ok (.iconst 0, 1) := by decide +kernel
theorem dX6_copy_108 : decode cX6_copy 108 = .ok (.invokevirtual 87, 3) := by decide +kernel
theorem dX6_copy_111 : decode cX6_copy 111 = .ok (.ireturn, 1) := by decide +kernel
theorem dX6_copy_112 : decode cX6_copy 112 = .ok (.iconst 0, 1) := by decide +kernel
theorem dX6_copy_113 : decode cX6_copy 113 = .ok (.istore 6, 2) := by decide +kernel
theorem dX6_copy_115 : decode cX6_copy 115 = .ok (.iload 6, 2) := by decide +kernel
theorem dX6_copy_117 : decode cX6_copy 117 = .ok (.iload 5, 2) := by decide +kernel
theorem dX6_copy_119 : decode cX6_copy 119 = .ok (.if_icmp .ge 25, 3) := by decide +kernel
theorem dX6_copy_122 : decode cX6_copy 122 = .ok (.aload_n 0, 1) := by decide +kernel
theorem dX6_copy_123 : decode cX6_copy 123 = .ok (.getfield 45, 3) := by decide +kernel
theorem dX6_copy_126 : decode cX6_copy 126 = .ok (.iload 6, 2) := by decide +kernel
theorem dX6_copy_128 : decode cX6_copy 128 = .ok (.aload_n 0, 1) := by decide +kernel
theorem dX6_copy_129 : decode cX6_copy 129 = .ok (.iload_n 1, 1) := by decide +kernel
theorem dX6_copy_130 : decode cX6_copy 130 = .ok (.iload_n 2, 1) := by decide +kernel
theorem dX6_copy_131 : decode cX6_copy 131 = .ok (.iload 6, 2) := by decide +kernel
theorem dX6_copy_133 : decode cX6_copy 133 = .ok (.iadd, 1) := by decide +kernel
theorem dX6_copy_134 : decode cX6_copy 134 = .ok (.invokevirtual 193, 3) := by decide +kernel
theorem dX6_copy_137 : decode cX6_copy 137 = .ok (.lastore, 1) := by decide +kernel
theorem dX6_copy_138 : decode cX6_copy 138 = .ok (.iinc 6 1, 3) := by decide +kernel
theorem dX6_copy_141 : decode cX6_copy 141 = .ok (.goto (-26), 3) := by decide +kernel
theorem dX6_copy_144 : decode cX6_copy 144 = .ok (.iconst 0, 1) := by decide +kernel
theorem dX6_copy_145 : decode cX6_copy 145 = .ok (.istore 6, 2) := by decide +kernel
theorem dX6_copy_147 : decode cX6_copy 147 = .ok (.iload 6, 2) := by decide +kernel
theorem dX6_copy_149 : decode cX6_copy 149 = .ok (.iload 5, 2) := by decide +kernel
theorem dX6_copy_151 : decode cX6_copy 151 = .ok (.if_icmp .ge 31, 3) := by decide +kernel
theorem dX6_copy_154 : decode cX6_copy 154 = .ok (.aload_n 0, 1) := by decide +kernel
theorem dX6_copy_155 : decode cX6_copy 155 = .ok (.getfield 41, 3) := by decide +kernel
theorem dX6_copy_158 : decode cX6_copy 158 = .ok (.bipush 40, 2) := by decide +kernel
theorem dX6_copy_160 : decode cX6_copy 160 = .ok (.iload_n 3, 1) := by decide +kernel
theorem dX6_copy_161 : decode cX6_copy 161 = .ok (.imul, 1) := by decide +kernel
theorem dX6_copy_162 : decode cX6_copy 162 = .ok (.iload 4, 2) := by decide +kernel
theorem dX6_copy_164 : decode cX6_copy 164 = .ok (.iadd, 1) := by decide +kernel
theorem dX6_copy_165 : decode cX6_copy 165 = .ok (.iload 6, 2) := by decide +kernel
theorem dX6_copy_167 : decode cX6_copy 167 = .ok (.iadd, 1) := by decide +kernel
theorem dX6_copy_168 : decode cX6_copy 168 = .ok (.aload_n 0, 1) := by decide +kernel
theorem dX6_copy_169 : decode cX6_copy 169 = .ok (.getfield 45, 3) := by decide +kernel
theorem dX6_copy_172 : decode cX6_copy 172 = .ok (.iload 6, 2) := by decide +kernel
theorem dX6_copy_174 : decode cX6_copy 174 = .ok (.laload, 1) := by decide +kernel
theorem dX6_copy_175 : decode cX6_copy 175 = .ok (.lastore, 1) := by decide +kernel
theorem dX6_copy_176 : decode cX6_copy 176 = .ok (.iinc 6 1, 3) := by decide +kernel
theorem dX6_copy_179 : decode cX6_copy 179 = .ok (.goto (-32), 3) := by decide +kernel
theorem dX6_copy_182 : decode cX6_copy 182 = .ok (.iload 5, 2) := by decide +kernel
theorem dX6_copy_184 : decode cX6_copy 184 = .ok (.ireturn, 1) := by decide +kernel
set_option maxRecDepth 20000 in
theorem ggX6_lays_X6_wrongSheet : GoodIn wsX6_lays wsX6_wrongSheet := goodIn_sub (List.forall_mem_cons.mpr ⟨List.mem_of_getElem? (i := 8) rfl, (List.forall_mem_append.mpr ⟨(List.forall_mem_cons.mpr ⟨List.mem_of_getElem? (i := 9) rfl, List.forall_mem_cons.mpr ⟨List.mem_of_getElem? (i := 10) rfl, List.forall_mem_cons.mpr ⟨List.mem_of_getElem? (i := 11) rfl, List.forall_mem_cons.mpr ⟨List.mem_of_getElem? (i := 7) rfl, List.forall_mem_cons.mpr ⟨List.mem_of_getElem? (i := 12) rfl, List.forall_mem_cons.mpr ⟨List.mem_of_getElem? (i := 13) rfl, List.forall_mem_cons.mpr ⟨List.mem_of_getElem? (i := 14) rfl, List.forall_mem_cons.mpr ⟨List.mem_of_getElem? (i := 15) rfl, fun _ h => absurd h List.not_mem_nil⟩⟩⟩⟩⟩⟩⟩⟩), (fun _ h => List.mem_cons_of_mem _ (List.mem_append_right _ h))⟩)⟩) (by decide +kernel)
set_option maxRecDepth 20000 in
theorem gX6_lays_X6_wrongSheet : GoodIn wsX6_lays (wsV RX6 190 RX6 yX6_wrongSheet wsX6_wrongSheet) := goodIn_app (goodIn_sub (List.forall_mem_cons.mpr ⟨List.mem_of_getElem? (i := 4) rfl, List.forall_mem_cons.mpr ⟨List.mem_of_getElem? (i := 5) rfl, List.forall_mem_cons.mpr ⟨List.mem_of_getElem? (i := 6) rfl, List.forall_mem_cons.mpr ⟨List.mem_of_getElem? (i := 7) rfl, fun _ h => absurd h List.not_mem_nil⟩⟩⟩⟩) (by decide +kernel)) ggX6_lays_X6_wrongSheet
set_option maxRecDepth 20000 in
theorem ggX6_lays_X6_no : GoodIn wsX6_lays wsX6_no := goodIn_sub (List.forall_mem_cons.mpr ⟨List.mem_of_getElem? (i := 19) rfl, (List.forall_mem_append.mpr ⟨(List.forall_mem_cons.mpr ⟨List.mem_of_getElem? (i := 20) rfl, List.forall_mem_cons.mpr ⟨List.mem_of_getElem? (i := 21) rfl, fun _ h => absurd h List.not_mem_nil⟩⟩), (fun _ h => List.mem_cons_of_mem _ (List.mem_append_right _ h))⟩)⟩) (by decide +kernel)
set_option maxRecDepth 20000 in
theorem gX6_lays_X6_no : GoodIn wsX6_lays (wsV RX6 87 RX6 yX6_no wsX6_no) := goodIn_app (goodIn_sub (List.forall_mem_cons.mpr ⟨List.mem_of_getElem? (i := 16) rfl, List.forall_mem_cons.mpr ⟨List.mem_of_getElem? (i := 17) rfl, List.forall_mem_cons.mpr ⟨List.mem_of_getElem? (i := 18) rfl, List.forall_mem_cons.mpr ⟨List.mem_of_getElem? (i := 7) rfl, fun _ h => absurd h List.not_mem_nil⟩⟩⟩⟩) (by decide +kernel)) ggX6_lays_X6_no
set_option maxRecDepth 20000 in
theorem ggX6_lays_X6_told : GoodIn wsX6_lays wsX6_told := goodIn_sub (List.forall_mem_cons.mpr ⟨List.mem_of_getElem? (i := 25) rfl, (List.forall_mem_append.mpr ⟨(List.forall_mem_cons.mpr ⟨List.mem_of_getElem? (i := 26) rfl, fun _ h => absurd h List.not_mem_nil⟩), (fun _ h => List.mem_cons_of_mem _ (List.mem_append_right _ h))⟩)⟩) (by decide +kernel)
set_option maxRecDepth 20000 in
theorem gX6_lays_X6_told : GoodIn wsX6_lays (wsV RX6 193 RX6 yX6_told wsX6_told) := goodIn_app (goodIn_sub (List.forall_mem_cons.mpr ⟨List.mem_of_getElem? (i := 22) rfl, List.forall_mem_cons.mpr ⟨List.mem_of_getElem? (i := 23) rfl, List.forall_mem_cons.mpr ⟨List.mem_of_getElem? (i := 24) rfl, List.forall_mem_cons.mpr ⟨List.mem_of_getElem? (i := 7) rfl, fun _ h => absurd h List.not_mem_nil⟩⟩⟩⟩) (by decide +kernel)) ggX6_lays_X6_told
set_option maxRecDepth 20000 in
theorem ggX6_lays_X6_get : GoodIn wsX6_lays wsX6_get := goodIn_sub (List.forall_mem_cons.mpr ⟨List.mem_of_getElem? (i := 30) rfl, (List.forall_mem_append.mpr ⟨(List.forall_mem_cons.mpr ⟨List.mem_of_getElem? (i := 2) rfl, fun _ h => absurd h List.not_mem_nil⟩), (fun _ h => List.mem_cons_of_mem _ (List.mem_append_right _ h))⟩)⟩) (by decide +kernel)
set_option maxRecDepth 20000 in
theorem gX6_lays_X6_get : GoodIn wsX6_lays (wsV RX6 53 RX6 yX6_get wsX6_get) := goodIn_app (goodIn_sub (List.forall_mem_cons.mpr ⟨List.mem_of_getElem? (i := 27) rfl, List.forall_mem_cons.mpr ⟨List.mem_of_getElem? (i := 28) rfl, List.forall_mem_cons.mpr ⟨List.mem_of_getElem? (i := 29) rfl, List.forall_mem_cons.mpr ⟨List.mem_of_getElem? (i := 7) rfl, fun _ h => absurd h List.not_mem_nil⟩⟩⟩⟩) (by decide +kernel)) ggX6_lays_X6_get
set_option maxRecDepth 20000 in
theorem ggX6_lays_X6_puts : GoodIn wsX6_lays wsX6_puts := goodIn_sub (List.forall_mem_cons.mpr ⟨List.mem_of_getElem? (i := 34) rfl, (List.forall_mem_append.mpr ⟨(List.forall_mem_cons.mpr ⟨List.mem_of_getElem? (i := 2) rfl, fun _ h => absurd h List.not_mem_nil⟩), (fun _ h => List.mem_cons_of_mem _ (List.mem_append_right _ h))⟩)⟩) (by decide +kernel)
set_option maxRecDepth 20000 in
theorem gX6_lays_X6_puts : GoodIn wsX6_lays (wsV RX6 64 RX6 yX6_puts wsX6_puts) := goodIn_app (goodIn_sub (List.forall_mem_cons.mpr ⟨List.mem_of_getElem? (i := 31) rfl, List.forall_mem_cons.mpr ⟨List.mem_of_getElem? (i := 32) rfl, List.forall_mem_cons.mpr ⟨List.mem_of_getElem? (i := 33) rfl, List.forall_mem_cons.mpr ⟨List.mem_of_getElem? (i := 7) rfl, fun _ h => absurd h List.not_mem_nil⟩⟩⟩⟩) (by decide +kernel)) ggX6_lays_X6_puts
theorem dX6_lays_0 : decode cX6_lays 0 = .ok (.aload_n 0, 1) := by decide +kernel
theorem dX6_lays_1 : decode cX6_lays 1 = .ok (.iload_n 1, 1) := by decide +kernel
theorem dX6_lays_2 : decode cX6_lays 2 = .ok (.invokevirtual 190, 3) := by decide +kernel
theorem dX6_lays_5 : decode cX6_lays 5 = .ok (.istore_n 2, 1) := by decide +kernel
theorem dX6_lays_6 : decode cX6_lays 6 = .ok (.iload_n 2, 1) := by decide +kernel
theorem dX6_lays_7 : decode cX6_lays 7 = .ok (.ifCond .lt 9, 3) := by decide +kernel
theorem dX6_lays_10 : decode cX6_lays 10 = .ok (.aload_n 0, 1) := by decide +kernel
theorem dX6_lays_11 : decode cX6_lays 11 = .ok (.iload_n 2, 1) := by decide +kernel
theorem dX6_lays_12 : decode cX6_lays 12 = .ok (.invokevirtual 87, 3) := by decide +kernel
theorem dX6_lays_15 : decode cX6_lays 15 = .ok (.ireturn, 1) := by decide +kernel
theorem dX6_lays_16 : decode cX6_lays 16 = .ok (.iconst 0, 1) := by decide +kernel
theorem dX6_lays_17 : decode cX6_lays 17 = .ok (.istore_n 3, 1) := by decide +kernel
theorem dX6_lays_18 : decode cX6_lays 18 = .ok (.iconst 0, 1) := by decide +kernel
theorem dX6_lays_19 : decode cX6_lays 19 = .ok (.istore 4, 2) := by decide +kernel
theorem dX6_lays_21 : decode cX6_lays 21 = .ok (.iload 4, 2) := by decide +kernel
theorem dX6_lays_23 : decode cX6_lays 23 = .ok (.aload_n 0, 1) := by decide +kernel
theorem dX6_lays_24 : decode cX6_lays 24 = .ok (.getfield 38, 3) := by decide +kernel
theorem dX6_lays_27 : decode cX6_lays 27 = .ok (.iload_n 1, 1) := by decide +kernel
theorem dX6_lays_28 : decode cX6_lays 28 = .ok (.iaload, 1) := by decide +kernel
theorem dX6_lays_29 : decode cX6_lays 29 = .ok (.if_icmp .ge 96, 3) := by decide +kernel
theorem dX6_lays_32 : decode cX6_lays 32 = .ok (.iload 4, 2) := by decide +kernel
theorem dX6_lays_34 : decode cX6_lays 34 = .ok (.aload_n 0, 1) := by decide +kernel
theorem dX6_lays_35 : decode cX6_lays 35 = .ok (.getfield 9, 3) := by decide +kernel
theorem dX6_lays_38 : decode cX6_lays 38 = .ok (.iconst 5, 1) := by decide +kernel
theorem dX6_lays_39 : decode cX6_lays 39 = .ok (.iaload, 1) := by decide +kernel
theorem dX6_lays_40 : decode cX6_lays 40 = .ok (.if_icmp .ge 85, 3) := by decide +kernel
theorem dX6_lays_43 : decode cX6_lays 43 = .ok (.aload_n 0, 1) := by decide +kernel
theorem dX6_lays_44 : decode cX6_lays 44 = .ok (.iload_n 1, 1) := by decide +kernel
theorem dX6_lays_45 : decode cX6_lays 45 = .ok (.iload 4, 2) := by decide +kernel
theorem dX6_lays_47 : decode cX6_lays 47 = .ok (.invokevirtual 193, 3) := by decide +kernel
theorem dX6_lays_50 : decode cX6_lays 50 = .ok (.lconst 0, 1) := by decide +kernel
theorem dX6_lays_51 : decode cX6_lays 51 = .ok (.lcmp, 1) := by decide +kernel
theorem dX6_lays_52 : decode cX6_lays 52 = .ok (.ifCond .lt 21, 3) := by decide +kernel
theorem dX6_lays_55 : decode cX6_lays 55 = .ok (.aload_n 0, 1) := by decide +kernel
theorem dX6_lays_56 : decode cX6_lays 56 = .ok (.iload_n 1, 1) := by decide +kernel
theorem dX6_lays_57 : decode cX6_lays 57 = .ok (.iload 4, 2) := by decide +kernel
theorem dX6_lays_59 : decode cX6_lays 59 = .ok (.invokevirtual 193, 3) := by decide +kernel
theorem dX6_lays_62 : decode cX6_lays 62 = .ok (.ldc2_w 201, 3) := by decide +kernel
theorem dX6_lays_65 : decode cX6_lays 65 = .ok (.lcmp, 1) := by decide +kernel
theorem dX6_lays_66 : decode cX6_lays 66 = .ok (.ifCond .gt 7, 3) := by decide +kernel
theorem dX6_lays_69 : decode cX6_lays 69 = .ok (.iconst 1, 1) := by decide +kernel
theorem dX6_lays_70 : decode cX6_lays 70 = .ok (.goto 4, 3) := by decide +kernel
theorem dX6_lays_73 : decode cX6_lays 73 = .ok (.iconst 0, 1) := by decide +kernel
theorem dX6_lays_74 : decode cX6_lays 74 = .ok (.istore 5, 2) := by decide +kernel
theorem dX6_lays_76 : decode cX6_lays 76 = .ok (.aload_n 0, 1) := by decide +kernel
theorem dX6_lays_77 : decode cX6_lays 77 = .ok (.iload 4, 2) := by decide +kernel
theorem dX6_lays_79 : decode cX6_lays 79 = .ok (.iconst 2, 1) := by decide +kernel
theorem dX6_lays_80 : decode cX6_lays 80 = .ok (.iload 5, 2) := by decide +kernel
theorem dX6_lays_82 : decode cX6_lays 82 = .ok (.ifCond .eq 14, 3) := by decide +kernel
theorem dX6_lays_85 : decode cX6_lays 85 = .ok (.aload_n 0, 1) := by decide +kernel
theorem dX6_lays_86 : decode cX6_lays 86 = .ok (.iload_n 1, 1) := by decide +kernel
theorem dX6_lays_87 : decode cX6_lays 87 = .ok (.iload 4, 2) := by decide +kernel
theorem dX6_lays_89 : decode cX6_lays 89 = .ok (.invokevirtual 193, 3) := by decide +kernel
