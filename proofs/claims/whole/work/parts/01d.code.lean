theorem dX5_of_104 : decode cX5_of 104 = .ok (.iaload, 1) := by decide +kernel
theorem dX5_of_105 : decode cX5_of 105 = .ok (.ireturn, 1) := by decide +kernel
theorem dX5_of_106 : decode cX5_of 106 = .ok (.aload_n 0, 1) := by decide +kernel
theorem dX5_of_107 : decode cX5_of 107 = .ok (.getfield 10, 3) := by decide +kernel
theorem dX5_of_110 : decode cX5_of 110 = .ok (.iload_n 1, 1) := by decide +kernel
theorem dX5_of_111 : decode cX5_of 111 = .ok (.invokevirtual 107, 3) := by decide +kernel
theorem dX5_of_114 : decode cX5_of 114 = .ok (.ireturn, 1) := by decide +kernel
theorem dX5_of_115 : decode cX5_of 115 = .ok (.aload_n 0, 1) := by decide +kernel
theorem dX5_of_116 : decode cX5_of 116 = .ok (.iconst 0, 1) := by decide +kernel
theorem dX5_of_117 : decode cX5_of 117 = .ok (.invokevirtual 48, 3) := by decide +kernel
theorem dX5_of_120 : decode cX5_of 120 = .ok (.ireturn, 1) := by decide +kernel
set_option maxRecDepth 20000 in
theorem ggX5_says_X0_hasOne : GoodIn wsX5_says wsX0_hasOne := goodIn_sub (List.forall_mem_cons.mpr ⟨List.mem_of_getElem? (i := 8) rfl, (List.forall_mem_append.mpr ⟨(List.forall_mem_cons.mpr ⟨List.mem_of_getElem? (i := 9) rfl, fun _ h => absurd h List.not_mem_nil⟩), (fun _ h => List.mem_cons_of_mem _ (List.mem_append_right _ h))⟩)⟩) (by decide +kernel)
set_option maxRecDepth 20000 in
theorem gX5_says_X0_hasOne : GoodIn wsX5_says (wsV RX5 89 RX0 yX0_hasOne wsX0_hasOne) := goodIn_app (goodIn_sub (List.forall_mem_cons.mpr ⟨List.mem_of_getElem? (i := 4) rfl, List.forall_mem_cons.mpr ⟨List.mem_of_getElem? (i := 5) rfl, List.forall_mem_cons.mpr ⟨List.mem_of_getElem? (i := 6) rfl, List.forall_mem_cons.mpr ⟨List.mem_of_getElem? (i := 7) rfl, fun _ h => absurd h List.not_mem_nil⟩⟩⟩⟩) (by decide +kernel)) ggX5_says_X0_hasOne
set_option maxRecDepth 20000 in
theorem ggX5_says_X5_tell : GoodIn wsX5_says wsX5_tell := goodIn_sub (List.forall_mem_cons.mpr ⟨List.mem_of_getElem? (i := 14) rfl, (List.forall_mem_append.mpr ⟨(List.forall_mem_cons.mpr ⟨List.mem_of_getElem? (i := 15) rfl, List.forall_mem_cons.mpr ⟨List.mem_of_getElem? (i := 16) rfl, List.forall_mem_cons.mpr ⟨List.mem_of_getElem? (i := 17) rfl, List.forall_mem_cons.mpr ⟨List.mem_of_getElem? (i := 18) rfl, List.forall_mem_cons.mpr ⟨List.mem_of_getElem? (i := 13) rfl, List.forall_mem_cons.mpr ⟨List.mem_of_getElem? (i := 19) rfl, fun _ h => absurd h List.not_mem_nil⟩⟩⟩⟩⟩⟩), (fun _ h => List.mem_cons_of_mem _ (List.mem_append_left _ (List.mem_append_right _ h)))⟩)⟩) (by decide +kernel)
set_option maxRecDepth 20000 in
theorem gX5_says_X5_tell : GoodIn wsX5_says (wsV RX5 48 RX5 yX5_tell wsX5_tell) := goodIn_app (goodIn_sub (List.forall_mem_cons.mpr ⟨List.mem_of_getElem? (i := 10) rfl, List.forall_mem_cons.mpr ⟨List.mem_of_getElem? (i := 11) rfl, List.forall_mem_cons.mpr ⟨List.mem_of_getElem? (i := 12) rfl, List.forall_mem_cons.mpr ⟨List.mem_of_getElem? (i := 13) rfl, fun _ h => absurd h List.not_mem_nil⟩⟩⟩⟩) (by decide +kernel)) ggX5_says_X5_tell
set_option maxRecDepth 20000 in
theorem ggX5_says_X5_isWithin : GoodIn wsX5_says wsX5_isWithin := goodIn_sub (List.forall_mem_cons.mpr ⟨List.mem_of_getElem? (i := 19) rfl, (fun _ h => absurd h List.not_mem_nil)⟩) (by decide +kernel)
set_option maxRecDepth 20000 in
theorem gX5_says_X5_isWithin : GoodIn wsX5_says (va_wsS RX5 44 yX5_isWithin wsX5_isWithin) := goodIn_app (goodIn_sub (List.forall_mem_cons.mpr ⟨List.mem_of_getElem? (i := 17) rfl, List.forall_mem_cons.mpr ⟨List.mem_of_getElem? (i := 18) rfl, List.forall_mem_cons.mpr ⟨List.mem_of_getElem? (i := 13) rfl, fun _ h => absurd h List.not_mem_nil⟩⟩⟩) (by decide +kernel)) ggX5_says_X5_isWithin
set_option maxRecDepth 20000 in
theorem ggX5_says_X2_enters : GoodIn wsX5_says wsX2_enters := goodIn_sub (List.forall_mem_cons.mpr ⟨List.mem_of_getElem? (i := 23) rfl, (List.forall_mem_cons.mpr ⟨List.mem_of_getElem? (i := 24) rfl, List.forall_mem_cons.mpr ⟨List.mem_of_getElem? (i := 25) rfl, List.forall_mem_cons.mpr ⟨List.mem_of_getElem? (i := 22) rfl, List.forall_mem_cons.mpr ⟨List.mem_of_getElem? (i := 26) rfl, fun _ h => absurd h List.not_mem_nil⟩⟩⟩⟩)⟩) (by decide +kernel)
set_option maxRecDepth 20000 in
theorem gX5_says_X2_enters : GoodIn wsX5_says (va_wsS RX5 110 yX2_enters wsX2_enters) := goodIn_app (goodIn_sub (List.forall_mem_cons.mpr ⟨List.mem_of_getElem? (i := 20) rfl, List.forall_mem_cons.mpr ⟨List.mem_of_getElem? (i := 21) rfl, List.forall_mem_cons.mpr ⟨List.mem_of_getElem? (i := 22) rfl, fun _ h => absurd h List.not_mem_nil⟩⟩⟩) (by decide +kernel)) ggX5_says_X2_enters
set_option maxRecDepth 20000 in
theorem ggX5_says_X2_watchDays : GoodIn wsX5_says wsX2_watchDays := goodIn_sub (List.forall_mem_cons.mpr ⟨List.mem_of_getElem? (i := 29) rfl, (List.forall_mem_cons.mpr ⟨List.mem_of_getElem? (i := 30) rfl, List.forall_mem_cons.mpr ⟨List.mem_of_getElem? (i := 31) rfl, List.forall_mem_cons.mpr ⟨List.mem_of_getElem? (i := 22) rfl, List.forall_mem_cons.mpr ⟨List.mem_of_getElem? (i := 32) rfl, fun _ h => absurd h List.not_mem_nil⟩⟩⟩⟩)⟩) (by decide +kernel)
set_option maxRecDepth 20000 in
theorem gX5_says_X2_watchDays : GoodIn wsX5_says (va_wsS RX5 114 yX2_watchDays wsX2_watchDays) := goodIn_app (goodIn_sub (List.forall_mem_cons.mpr ⟨List.mem_of_getElem? (i := 27) rfl, List.forall_mem_cons.mpr ⟨List.mem_of_getElem? (i := 28) rfl, List.forall_mem_cons.mpr ⟨List.mem_of_getElem? (i := 22) rfl, fun _ h => absurd h List.not_mem_nil⟩⟩⟩) (by decide +kernel)) ggX5_says_X2_watchDays
theorem dX5_says_0 : decode cX5_says 0 = .ok (.aload_n 0, 1) := by decide +kernel
theorem dX5_says_1 : decode cX5_says 1 = .ok (.getfield 10, 3) := by decide +kernel
theorem dX5_says_4 : decode cX5_says 4 = .ok (.iload_n 1, 1) := by decide +kernel
theorem dX5_says_5 : decode cX5_says 5 = .ok (.invokevirtual 89, 3) := by decide +kernel
theorem dX5_says_8 : decode cX5_says 8 = .ok (.ifCond .ne 9, 3) := by decide +kernel
theorem dX5_says_11 : decode cX5_says 11 = .ok (.aload_n 0, 1) := by decide +kernel
theorem dX5_says_12 : decode cX5_says 12 = .ok (.iconst 0, 1) := by decide +kernel
theorem dX5_says_13 : decode cX5_says 13 = .ok (.invokevirtual 48, 3) := by decide +kernel
theorem dX5_says_16 : decode cX5_says 16 = .ok (.ireturn, 1) := by decide +kernel
theorem dX5_says_17 : decode cX5_says 17 = .ok (.iload_n 2, 1) := by decide +kernel
theorem dX5_says_18 : decode cX5_says 18 = .ok (.iconst 0, 1) := by decide +kernel
theorem dX5_says_19 : decode cX5_says 19 = .ok (.iconst 1, 1) := by decide +kernel
theorem dX5_says_20 : decode cX5_says 20 = .ok (.invokestatic 44, 3) := by decide +kernel
theorem dX5_says_23 : decode cX5_says 23 = .ok (.ifCond .ne 9, 3) := by decide +kernel
theorem dX5_says_26 : decode cX5_says 26 = .ok (.aload_n 0, 1) := by decide +kernel
theorem dX5_says_27 : decode cX5_says 27 = .ok (.iconst 0, 1) := by decide +kernel
theorem dX5_says_28 : decode cX5_says 28 = .ok (.invokevirtual 48, 3) := by decide +kernel
theorem dX5_says_31 : decode cX5_says 31 = .ok (.ireturn, 1) := by decide +kernel
theorem dX5_says_32 : decode cX5_says 32 = .ok (.iload_n 3, 1) := by decide +kernel
theorem dX5_says_33 : decode cX5_says 33 = .ok (.iconst 0, 1) := by decide +kernel
theorem dX5_says_34 : decode cX5_says 34 = .ok (.sipush 999, 3) := by decide +kernel
theorem dX5_says_37 : decode cX5_says 37 = .ok (.invokestatic 44, 3) := by decide +kernel
theorem dX5_says_40 : decode cX5_says 40 = .ok (.ifCond .ne 9, 3) := by decide +kernel
theorem dX5_says_43 : decode cX5_says 43 = .ok (.aload_n 0, 1) := by decide +kernel
theorem dX5_says_44 : decode cX5_says 44 = .ok (.iconst 0, 1) := by decide +kernel
theorem dX5_says_45 : decode cX5_says 45 = .ok (.invokevirtual 48, 3) := by decide +kernel
theorem dX5_says_48 : decode cX5_says 48 = .ok (.ireturn, 1) := by decide +kernel
theorem dX5_says_49 : decode cX5_says 49 = .ok (.aload_n 0, 1) := by decide +kernel
theorem dX5_says_50 : decode cX5_says 50 = .ok (.getfield 10, 3) := by decide +kernel
theorem dX5_says_53 : decode cX5_says 53 = .ok (.getfield 92, 3) := by decide +kernel
theorem dX5_says_56 : decode cX5_says 56 = .ok (.iload_n 1, 1) := by decide +kernel
theorem dX5_says_57 : decode cX5_says 57 = .ok (.iaload, 1) := by decide +kernel
theorem dX5_says_58 : decode cX5_says 58 = .ok (.aload_n 0, 1) := by decide +kernel
theorem dX5_says_59 : decode cX5_says 59 = .ok (.getfield 10, 3) := by decide +kernel
theorem dX5_says_62 : decode cX5_says 62 = .ok (.getfield 98, 3) := by decide +kernel
theorem dX5_says_65 : decode cX5_says 65 = .ok (.iload_n 1, 1) := by decide +kernel
theorem dX5_says_66 : decode cX5_says 66 = .ok (.iaload, 1) := by decide +kernel
theorem dX5_says_67 : decode cX5_says 67 = .ok (.iload_n 3, 1) := by decide +kernel
theorem dX5_says_68 : decode cX5_says 68 = .ok (.invokestatic 110, 3) := by decide +kernel
theorem dX5_says_71 : decode cX5_says 71 = .ok (.istore 4, 2) := by decide +kernel
theorem dX5_says_73 : decode cX5_says 73 = .ok (.iload_n 2, 1) := by decide +kernel
theorem dX5_says_74 : decode cX5_says 74 = .ok (.ifCond .ne 8, 3) := by decide +kernel
theorem dX5_says_77 : decode cX5_says 77 = .ok (.iload 4, 2) := by decide +kernel
theorem dX5_says_79 : decode cX5_says 79 = .ok (.goto 18, 3) := by decide +kernel
theorem dX5_says_82 : decode cX5_says 82 = .ok (.aload_n 0, 1) := by decide +kernel
theorem dX5_says_83 : decode cX5_says 83 = .ok (.getfield 10, 3) := by decide +kernel
theorem dX5_says_86 : decode cX5_says 86 = .ok (.getfield 92, 3) := by decide +kernel
theorem dX5_says_89 : decode cX5_says 89 = .ok (.iload_n 1, 1) := by decide +kernel
theorem dX5_says_90 : decode cX5_says 90 = .ok (.iaload, 1) := by decide +kernel
theorem dX5_says_91 : decode cX5_says 91 = .ok (.iload_n 3, 1) := by decide +kernel
theorem dX5_says_92 : decode cX5_says 92 = .ok (.iload 4, 2) := by decide +kernel
theorem dX5_says_94 : decode cX5_says 94 = .ok (.invokestatic 114, 3) := by decide +kernel
theorem dX5_says_97 : decode cX5_says 97 = .ok (.ireturn, 1) := by decide +kernel
set_option maxRecDepth 20000 in
theorem ggX5_set_X0_hasOne : GoodIn wsX5_set wsX0_hasOne := goodIn_sub (List.forall_mem_cons.mpr ⟨List.mem_of_getElem? (i := 11) rfl, (List.forall_mem_append.mpr ⟨(List.forall_mem_cons.mpr ⟨List.mem_of_getElem? (i := 12) rfl, fun _ h => absurd h List.not_mem_nil⟩), (fun _ h => List.mem_cons_of_mem _ (List.mem_append_right _ h))⟩)⟩) (by decide +kernel)
set_option maxRecDepth 20000 in
theorem gX5_set_X0_hasOne : GoodIn wsX5_set (wsV RX5 89 RX0 yX0_hasOne wsX0_hasOne) := goodIn_app (goodIn_sub (List.forall_mem_cons.mpr ⟨List.mem_of_getElem? (i := 7) rfl, List.forall_mem_cons.mpr ⟨List.mem_of_getElem? (i := 8) rfl, List.forall_mem_cons.mpr ⟨List.mem_of_getElem? (i := 9) rfl, List.forall_mem_cons.mpr ⟨List.mem_of_getElem? (i := 10) rfl, fun _ h => absurd h List.not_mem_nil⟩⟩⟩⟩) (by decide +kernel)) ggX5_set_X0_hasOne
set_option maxRecDepth 20000 in
theorem ggX5_set_X5_tell : GoodIn wsX5_set wsX5_tell := goodIn_sub (List.forall_mem_cons.mpr ⟨List.mem_of_getElem? (i := 17) rfl, (List.forall_mem_append.mpr ⟨(List.forall_mem_cons.mpr ⟨List.mem_of_getElem? (i := 18) rfl, List.forall_mem_cons.mpr ⟨List.mem_of_getElem? (i := 19) rfl, List.forall_mem_cons.mpr ⟨List.mem_of_getElem? (i := 20) rfl, List.forall_mem_cons.mpr ⟨List.mem_of_getElem? (i := 21) rfl, List.forall_mem_cons.mpr ⟨List.mem_of_getElem? (i := 16) rfl, List.forall_mem_cons.mpr ⟨List.mem_of_getElem? (i := 22) rfl, fun _ h => absurd h List.not_mem_nil⟩⟩⟩⟩⟩⟩), (fun _ h => List.mem_cons_of_mem _ (List.mem_append_left _ (List.mem_append_right _ h)))⟩)⟩) (by decide +kernel)
set_option maxRecDepth 20000 in
theorem gX5_set_X5_tell : GoodIn wsX5_set (wsV RX5 48 RX5 yX5_tell wsX5_tell) := goodIn_app (goodIn_sub (List.forall_mem_cons.mpr ⟨List.mem_of_getElem? (i := 13) rfl, List.forall_mem_cons.mpr ⟨List.mem_of_getElem? (i := 14) rfl, List.forall_mem_cons.mpr ⟨List.mem_of_getElem? (i := 15) rfl, List.forall_mem_cons.mpr ⟨List.mem_of_getElem? (i := 16) rfl, fun _ h => absurd h List.not_mem_nil⟩⟩⟩⟩) (by decide +kernel)) ggX5_set_X5_tell
set_option maxRecDepth 20000 in
theorem ggX5_set_X5_isWithin : GoodIn wsX5_set wsX5_isWithin := goodIn_sub (List.forall_mem_cons.mpr ⟨List.mem_of_getElem? (i := 22) rfl, (fun _ h => absurd h List.not_mem_nil)⟩) (by decide +kernel)
set_option maxRecDepth 20000 in
theorem gX5_set_X5_isWithin : GoodIn wsX5_set (va_wsS RX5 44 yX5_isWithin wsX5_isWithin) := goodIn_app (goodIn_sub (List.forall_mem_cons.mpr ⟨List.mem_of_getElem? (i := 20) rfl, List.forall_mem_cons.mpr ⟨List.mem_of_getElem? (i := 21) rfl, List.forall_mem_cons.mpr ⟨List.mem_of_getElem? (i := 16) rfl, fun _ h => absurd h List.not_mem_nil⟩⟩⟩) (by decide +kernel)) ggX5_set_X5_isWithin
set_option maxRecDepth 20000 in
theorem ggX5_set_X5_put : GoodIn wsX5_set wsX5_put := goodIn_sub (List.forall_mem_cons.mpr ⟨List.mem_of_getElem? (i := 25) rfl, (fun _ h => absurd h List.not_mem_nil)⟩) (by decide +kernel)
set_option maxRecDepth 20000 in
theorem gX5_set_X5_put : GoodIn wsX5_set (va_wsS RX5 117 yX5_put wsX5_put) := goodIn_app (goodIn_sub (List.forall_mem_cons.mpr ⟨List.mem_of_getElem? (i := 23) rfl, List.forall_mem_cons.mpr ⟨List.mem_of_getElem? (i := 24) rfl, List.forall_mem_cons.mpr ⟨List.mem_of_getElem? (i := 16) rfl, fun _ h => absurd h List.not_mem_nil⟩⟩⟩) (by decide +kernel)) ggX5_set_X5_put
theorem dX5_set_0 : decode cX5_set 0 = .ok (.aload_n 0, 1) := by decide +kernel
theorem dX5_set_1 : decode cX5_set 1 = .ok (.getfield 10, 3) := by decide +kernel
theorem dX5_set_4 : decode cX5_set 4 = .ok (.iload_n 1, 1) := by decide +kernel
theorem dX5_set_5 : decode cX5_set 5 = .ok (.invokevirtual 89, 3) := by decide +kernel
theorem dX5_set_8 : decode cX5_set 8 = .ok (.ifCond .ne 9, 3) := by decide +kernel
theorem dX5_set_11 : decode cX5_set 11 = .ok (.aload_n 0, 1) := by decide +kernel
theorem dX5_set_12 : decode cX5_set 12 = .ok (.iconst 0, 1) := by decide +kernel
theorem dX5_set_13 : decode cX5_set 13 = .ok (.invokevirtual 48, 3) := by decide +kernel
theorem dX5_set_16 : decode cX5_set 16 = .ok (.ireturn, 1) := by decide +kernel
theorem dX5_set_17 : decode cX5_set 17 = .ok (.iload_n 2, 1) := by decide +kernel
theorem dX5_set_18 : decode cX5_set 18 = .ok (.tableswitch 154 1 4 #[30, 61, 92, 123], 30) := by decide +kernel
theorem dX5_set_48 : decode cX5_set 48 = .ok (.iload_n 3, 1) := by decide +kernel
theorem dX5_set_49 : decode cX5_set 49 = .ok (.iconst 0, 1) := by decide +kernel
theorem dX5_set_50 : decode cX5_set 50 = .ok (.bipush 20, 2) := by decide +kernel
theorem dX5_set_52 : decode cX5_set 52 = .ok (.invokestatic 44, 3) := by decide +kernel
theorem dX5_set_55 : decode cX5_set 55 = .ok (.ifCond .eq 18, 3) := by decide +kernel
theorem dX5_set_58 : decode cX5_set 58 = .ok (.aload_n 0, 1) := by decide +kernel
theorem dX5_set_59 : decode cX5_set 59 = .ok (.getfield 10, 3) := by decide +kernel
theorem dX5_set_62 : decode cX5_set 62 = .ok (.getfield 95, 3) := by decide +kernel
theorem dX5_set_65 : decode cX5_set 65 = .ok (.iload_n 1, 1) := by decide +kernel
theorem dX5_set_66 : decode cX5_set 66 = .ok (.iload_n 3, 1) := by decide +kernel
theorem dX5_set_67 : decode cX5_set 67 = .ok (.invokestatic 117, 3) := by decide +kernel
theorem dX5_set_70 : decode cX5_set 70 = .ok (.goto 8, 3) := by decide +kernel
theorem dX5_set_73 : decode cX5_set 73 = .ok (.aload_n 0, 1) := by decide +kernel
theorem dX5_set_74 : decode cX5_set 74 = .ok (.iconst 0, 1) := by decide +kernel
theorem dX5_set_75 : decode cX5_set 75 = .ok (.invokevirtual 48, 3) := by decide +kernel
theorem dX5_set_78 : decode cX5_set 78 = .ok (.ireturn, 1) := by decide +kernel
theorem dX5_set_79 : decode cX5_set 79 = .ok (.iload_n 3, 1) := by decide +kernel
theorem dX5_set_80 : decode cX5_set 80 = .ok (.iconst 0, 1) := by decide +kernel
theorem dX5_set_81 : decode cX5_set 81 = .ok (.bipush 99, 2) := by decide +kernel
theorem dX5_set_83 : decode cX5_set 83 = .ok (.invokestatic 44, 3) := by decide +kernel
theorem dX5_set_86 : decode cX5_set 86 = .ok (.ifCond .eq 18, 3) := by decide +kernel
theorem dX5_set_89 : decode cX5_set 89 = .ok (.aload_n 0, 1) := by decide +kernel
theorem dX5_set_90 : decode cX5_set 90 = .ok (.getfield 10, 3) := by decide +kernel
theorem dX5_set_93 : decode cX5_set 93 = .ok (.getfield 98, 3) := by decide +kernel
theorem dX5_set_96 : decode cX5_set 96 = .ok (.iload_n 1, 1) := by decide +kernel
theorem dX5_set_97 : decode cX5_set 97 = .ok (.iload_n 3, 1) := by decide +kernel
theorem dX5_set_98 : decode cX5_set 98 = .ok (.invokestatic 117, 3) := by decide +kernel
theorem dX5_set_101 : decode cX5_set 101 = .ok (.goto 8, 3) := by decide +kernel
theorem dX5_set_104 : decode cX5_set 104 = .ok (.aload_n 0, 1) := by decide +kernel
theorem dX5_set_105 : decode cX5_set 105 = .ok (.iconst 0, 1) := by decide +kernel
theorem dX5_set_106 : decode cX5_set 106 = .ok (.invokevirtual 48, 3) := by decide +kernel
theorem dX5_set_109 : decode cX5_set 109 = .ok (.ireturn, 1) := by decide +kernel
theorem dX5_set_110 : decode cX5_set 110 = .ok (.iload_n 3, 1) := by decide +kernel
theorem dX5_set_111 : decode cX5_set 111 = .ok (.iconst 0, 1) := by decide +kernel
theorem dX5_set_112 : decode cX5_set 112 = .ok (.bipush 99, 2) := by decide +kernel
theorem dX5_set_114 : decode cX5_set 114 = .ok (.invokestatic 44, 3) := by decide +kernel
theorem dX5_set_117 : decode cX5_set 117 = .ok (.ifCond .eq 18, 3) := by decide +kernel
theorem dX5_set_120 : decode cX5_set 120 = .ok (.aload_n 0, 1) := by decide +kernel
theorem dX5_set_121 : decode cX5_set 121 = .ok (.getfield 10, 3) := by decide +kernel
theorem dX5_set_124 : decode cX5_set 124 = .ok (.getfield 101, 3) := by decide +kernel
theorem dX5_set_127 : decode cX5_set 127 = .ok (.iload_n 1, 1) := by decide +kernel
theorem dX5_set_128 : decode cX5_set 128 = .ok (.iload_n 3, 1) := by decide +kernel
theorem dX5_set_129 : decode cX5_set 129 = .ok (.invokestatic 117, 3) := by decide +kernel
theorem dX5_set_132 : decode cX5_set 132 = .ok (.goto 8, 3) := by decide +kernel
theorem dX5_set_135 : decode cX5_set 135 = .ok (.aload_n 0, 1) := by decide +kernel
theorem dX5_set_136 : decode cX5_set 136 = .ok (.iconst 0, 1) := by decide +kernel
theorem dX5_set_137 : decode cX5_set 137 = .ok (.invokevirtual 48, 3) := by decide +kernel
theorem dX5_set_140 : decode cX5_set 140 = .ok (.ireturn, 1) := by decide +kernel
theorem dX5_set_141 : decode cX5_set 141 = .ok (.iload_n 3, 1) := by decide +kernel
theorem dX5_set_142 : decode cX5_set 142 = .ok (.iconst 0, 1) := by decide +kernel
theorem dX5_set_143 : decode cX5_set 143 = .ok (.ldc 121, 2) := by decide +kernel
theorem dX5_set_145 : decode cX5_set 145 = .ok (.invokestatic 44, 3) := by decide +kernel
theorem dX5_set_148 : decode cX5_set 148 = .ok (.ifCond .eq 18, 3) := by decide +kernel
theorem dX5_set_151 : decode cX5_set 151 = .ok (.aload_n 0, 1) := by decide +kernel
theorem dX5_set_152 : decode cX5_set 152 = .ok (.getfield 10, 3) := by decide +kernel
theorem dX5_set_155 : decode cX5_set 155 = .ok (.getfield 104, 3) := by decide +kernel
theorem dX5_set_158 : decode cX5_set 158 = .ok (.iload_n 1, 1) := by decide +kernel
theorem dX5_set_159 : decode cX5_set 159 = .ok (.iload_n 3, 1) := by decide +kernel
theorem dX5_set_160 : decode cX5_set 160 = .ok (.invokestatic 117, 3) := by decide +kernel
theorem dX5_set_163 : decode cX5_set 163 = .ok (.goto 8, 3) := by decide +kernel
theorem dX5_set_166 : decode cX5_set 166 = .ok (.aload_n 0, 1) := by decide +kernel
theorem dX5_set_167 : decode cX5_set 167 = .ok (.iconst 0, 1) := by decide +kernel
theorem dX5_set_168 : decode cX5_set 168 = .ok (.invokevirtual 48, 3) := by decide +kernel
theorem dX5_set_171 : decode cX5_set 171 = .ok (.ireturn, 1) := by decide +kernel
theorem dX5_set_172 : decode cX5_set 172 = .ok (.aload_n 0, 1) := by decide +kernel
theorem dX5_set_173 : decode cX5_set 173 = .ok (.iconst 0, 1) := by decide +kernel
theorem dX5_set_174 : decode cX5_set 174 = .ok (.invokevirtual 48, 3) := by decide +kernel
theorem dX5_set_177 : decode cX5_set 177 = .ok (.ireturn, 1) := by decide +kernel
set_option maxRecDepth 20000 in
theorem ggX5_turn_X0_hasOne : GoodIn wsX5_turn wsX0_hasOne := goodIn_sub (List.forall_mem_cons.mpr ⟨List.mem_of_getElem? (i := 7) rfl, (List.forall_mem_append.mpr ⟨(List.forall_mem_cons.mpr ⟨List.mem_of_getElem? (i := 8) rfl, fun _ h => absurd h List.not_mem_nil⟩), (fun _ h => List.mem_cons_of_mem _ (List.mem_append_right _ h))⟩)⟩) (by decide +kernel)
set_option maxRecDepth 20000 in
theorem gX5_turn_X0_hasOne : GoodIn wsX5_turn (wsV RX5 89 RX0 yX0_hasOne wsX0_hasOne) := goodIn_app (goodIn_sub (List.forall_mem_cons.mpr ⟨List.mem_of_getElem? (i := 3) rfl, List.forall_mem_cons.mpr ⟨List.mem_of_getElem? (i := 4) rfl, List.forall_mem_cons.mpr ⟨List.mem_of_getElem? (i := 5) rfl, List.forall_mem_cons.mpr ⟨List.mem_of_getElem? (i := 6) rfl, fun _ h => absurd h List.not_mem_nil⟩⟩⟩⟩) (by decide +kernel)) ggX5_turn_X0_hasOne
set_option maxRecDepth 20000 in
theorem ggX5_turn_X2_isOne : GoodIn wsX5_turn wsX2_isOne := goodIn_sub (List.forall_mem_cons.mpr ⟨List.mem_of_getElem? (i := 12) rfl, (fun _ h => absurd h List.not_mem_nil)⟩) (by decide +kernel)
set_option maxRecDepth 20000 in
theorem gX5_turn_X2_isOne : GoodIn wsX5_turn (va_wsS RX5 76 yX2_isOne wsX2_isOne) := goodIn_app (goodIn_sub (List.forall_mem_cons.mpr ⟨List.mem_of_getElem? (i := 9) rfl, List.forall_mem_cons.mpr ⟨List.mem_of_getElem? (i := 10) rfl, List.forall_mem_cons.mpr ⟨List.mem_of_getElem? (i := 11) rfl, fun _ h => absurd h List.not_mem_nil⟩⟩⟩) (by decide +kernel)) ggX5_turn_X2_isOne
set_option maxRecDepth 20000 in
theorem ggX5_turn_X5_tell : GoodIn wsX5_turn wsX5_tell := goodIn_sub (List.forall_mem_cons.mpr ⟨List.mem_of_getElem? (i := 17) rfl, (List.forall_mem_append.mpr ⟨(List.forall_mem_cons.mpr ⟨List.mem_of_getElem? (i := 18) rfl, List.forall_mem_cons.mpr ⟨List.mem_of_getElem? (i := 19) rfl, List.forall_mem_cons.mpr ⟨List.mem_of_getElem? (i := 20) rfl, List.forall_mem_cons.mpr ⟨List.mem_of_getElem? (i := 21) rfl, List.forall_mem_cons.mpr ⟨List.mem_of_getElem? (i := 16) rfl, List.forall_mem_cons.mpr ⟨List.mem_of_getElem? (i := 22) rfl, fun _ h => absurd h List.not_mem_nil⟩⟩⟩⟩⟩⟩), (fun _ h => List.mem_cons_of_mem _ (List.mem_append_left _ (List.mem_append_right _ h)))⟩)⟩) (by decide +kernel)
set_option maxRecDepth 20000 in
theorem gX5_turn_X5_tell : GoodIn wsX5_turn (wsV RX5 48 RX5 yX5_tell wsX5_tell) := goodIn_app (goodIn_sub (List.forall_mem_cons.mpr ⟨List.mem_of_getElem? (i := 13) rfl, List.forall_mem_cons.mpr ⟨List.mem_of_getElem? (i := 14) rfl, List.forall_mem_cons.mpr ⟨List.mem_of_getElem? (i := 15) rfl, List.forall_mem_cons.mpr ⟨List.mem_of_getElem? (i := 16) rfl, fun _ h => absurd h List.not_mem_nil⟩⟩⟩⟩) (by decide +kernel)) ggX5_turn_X5_tell
set_option maxRecDepth 20000 in
theorem ggX5_turn_X5_put : GoodIn wsX5_turn wsX5_put := goodIn_sub (List.forall_mem_cons.mpr ⟨List.mem_of_getElem? (i := 25) rfl, (fun _ h => absurd h List.not_mem_nil)⟩) (by decide +kernel)
set_option maxRecDepth 20000 in
theorem gX5_turn_X5_put : GoodIn wsX5_turn (va_wsS RX5 117 yX5_put wsX5_put) := goodIn_app (goodIn_sub (List.forall_mem_cons.mpr ⟨List.mem_of_getElem? (i := 23) rfl, List.forall_mem_cons.mpr ⟨List.mem_of_getElem? (i := 24) rfl, List.forall_mem_cons.mpr ⟨List.mem_of_getElem? (i := 16) rfl, fun _ h => absurd h List.not_mem_nil⟩⟩⟩) (by decide +kernel)) ggX5_turn_X5_put
theorem dX5_turn_0 : decode cX5_turn 0 = .ok (.aload_n 0, 1) := by decide +kernel
theorem dX5_turn_1 : decode cX5_turn 1 = .ok (.getfield 10, 3) := by decide +kernel
theorem dX5_turn_4 : decode cX5_turn 4 = .ok (.iload_n 1, 1) := by decide +kernel
theorem dX5_turn_5 : decode cX5_turn 5 = .ok (.invokevirtual 89, 3) := by decide +kernel
theorem dX5_turn_8 : decode cX5_turn 8 = .ok (.ifCond .eq 10, 3) := by decide +kernel
theorem dX5_turn_11 : decode cX5_turn 11 = .ok (.iload_n 2, 1) := by decide +kernel
theorem dX5_turn_12 : decode cX5_turn 12 = .ok (.invokestatic 76, 3) := by decide +kernel
theorem dX5_turn_15 : decode cX5_turn 15 = .ok (.ifCond .ne 9, 3) := by decide +kernel
theorem dX5_turn_18 : decode cX5_turn 18 = .ok (.aload_n 0, 1) := by decide +kernel
theorem dX5_turn_19 : decode cX5_turn 19 = .ok (.iconst 0, 1) := by decide +kernel
theorem dX5_turn_20 : decode cX5_turn 20 = .ok (.invokevirtual 48, 3) := by decide +kernel
theorem dX5_turn_23 : decode cX5_turn 23 = .ok (.ireturn, 1) := by decide +kernel
theorem dX5_turn_24 : decode cX5_turn 24 = .ok (.aload_n 0, 1) := by decide +kernel
theorem dX5_turn_25 : decode cX5_turn 25 = .ok (.getfield 10, 3) := by decide +kernel
theorem dX5_turn_28 : decode cX5_turn 28 = .ok (.getfield 92, 3) := by decide +kernel
theorem dX5_turn_31 : decode cX5_turn 31 = .ok (.iload_n 1, 1) := by decide +kernel
theorem dX5_turn_32 : decode cX5_turn 32 = .ok (.iload_n 2, 1) := by decide +kernel
theorem dX5_turn_33 : decode cX5_turn 33 = .ok (.invokestatic 117, 3) := by decide +kernel
theorem dX5_turn_36 : decode cX5_turn 36 = .ok (.ireturn, 1) := by decide +kernel
set_option maxRecDepth 20000 in
theorem ggX5_as_X0_hasOne : GoodIn wsX5_as wsX0_hasOne := goodIn_sub (List.forall_mem_cons.mpr ⟨List.mem_of_getElem? (i := 8) rfl, (List.forall_mem_append.mpr ⟨(List.forall_mem_cons.mpr ⟨List.mem_of_getElem? (i := 9) rfl, fun _ h => absurd h List.not_mem_nil⟩), (fun _ h => List.mem_cons_of_mem _ (List.mem_append_right _ h))⟩)⟩) (by decide +kernel)
set_option maxRecDepth 20000 in
theorem gX5_as_X0_hasOne : GoodIn wsX5_as (wsV RX5 89 RX0 yX0_hasOne wsX0_hasOne) := goodIn_app (goodIn_sub (List.forall_mem_cons.mpr ⟨List.mem_of_getElem? (i := 4) rfl, List.forall_mem_cons.mpr ⟨List.mem_of_getElem? (i := 5) rfl, List.forall_mem_cons.mpr ⟨List.mem_of_getElem? (i := 6) rfl, List.forall_mem_cons.mpr ⟨List.mem_of_getElem? (i := 7) rfl, fun _ h => absurd h List.not_mem_nil⟩⟩⟩⟩) (by decide +kernel)) ggX5_as_X0_hasOne
set_option maxRecDepth 20000 in
theorem ggX5_as_X2_isOne : GoodIn wsX5_as wsX2_isOne := goodIn_sub (List.forall_mem_cons.mpr ⟨List.mem_of_getElem? (i := 13) rfl, (fun _ h => absurd h List.not_mem_nil)⟩) (by decide +kernel)
set_option maxRecDepth 20000 in
theorem gX5_as_X2_isOne : GoodIn wsX5_as (va_wsS RX5 76 yX2_isOne wsX2_isOne) := goodIn_app (goodIn_sub (List.forall_mem_cons.mpr ⟨List.mem_of_getElem? (i := 10) rfl, List.forall_mem_cons.mpr ⟨List.mem_of_getElem? (i := 11) rfl, List.forall_mem_cons.mpr ⟨List.mem_of_getElem? (i := 12) rfl, fun _ h => absurd h List.not_mem_nil⟩⟩⟩) (by decide +kernel)) ggX5_as_X2_isOne
set_option maxRecDepth 20000 in
theorem ggX5_as_X5_tell : GoodIn wsX5_as wsX5_tell := goodIn_sub (List.forall_mem_cons.mpr ⟨List.mem_of_getElem? (i := 18) rfl, (List.forall_mem_append.mpr ⟨(List.forall_mem_cons.mpr ⟨List.mem_of_getElem? (i := 19) rfl, List.forall_mem_cons.mpr ⟨List.mem_of_getElem? (i := 20) rfl, List.forall_mem_cons.mpr ⟨List.mem_of_getElem? (i := 21) rfl, List.forall_mem_cons.mpr ⟨List.mem_of_getElem? (i := 22) rfl, List.forall_mem_cons.mpr ⟨List.mem_of_getElem? (i := 17) rfl, List.forall_mem_cons.mpr ⟨List.mem_of_getElem? (i := 23) rfl, fun _ h => absurd h List.not_mem_nil⟩⟩⟩⟩⟩⟩), (fun _ h => List.mem_cons_of_mem _ (List.mem_append_left _ (List.mem_append_right _ h)))⟩)⟩) (by decide +kernel)
set_option maxRecDepth 20000 in
theorem gX5_as_X5_tell : GoodIn wsX5_as (wsV RX5 48 RX5 yX5_tell wsX5_tell) := goodIn_app (goodIn_sub (List.forall_mem_cons.mpr ⟨List.mem_of_getElem? (i := 14) rfl, List.forall_mem_cons.mpr ⟨List.mem_of_getElem? (i := 15) rfl, List.forall_mem_cons.mpr ⟨List.mem_of_getElem? (i := 16) rfl, List.forall_mem_cons.mpr ⟨List.mem_of_getElem? (i := 17) rfl, fun _ h => absurd h List.not_mem_nil⟩⟩⟩⟩) (by decide +kernel)) ggX5_as_X5_tell
set_option maxRecDepth 20000 in
theorem ggX5_as_X2_isUnder : GoodIn wsX5_as wsX2_isUnder := goodIn_sub (List.forall_mem_cons.mpr ⟨List.mem_of_getElem? (i := 26) rfl, (List.forall_mem_cons.mpr ⟨List.mem_of_getElem? (i := 27) rfl, List.forall_mem_cons.mpr ⟨List.mem_of_getElem? (i := 28) rfl, List.forall_mem_cons.mpr ⟨List.mem_of_getElem? (i := 11) rfl, List.forall_mem_cons.mpr ⟨List.mem_of_getElem? (i := 12) rfl, List.forall_mem_cons.mpr ⟨List.mem_of_getElem? (i := 13) rfl, fun _ h => absurd h List.not_mem_nil⟩⟩⟩⟩⟩)⟩) (by decide +kernel)
set_option maxRecDepth 20000 in
theorem gX5_as_X2_isUnder : GoodIn wsX5_as (va_wsS RX5 122 yX2_isUnder wsX2_isUnder) := goodIn_app (goodIn_sub (List.forall_mem_cons.mpr ⟨List.mem_of_getElem? (i := 24) rfl, List.forall_mem_cons.mpr ⟨List.mem_of_getElem? (i := 25) rfl, List.forall_mem_cons.mpr ⟨List.mem_of_getElem? (i := 12) rfl, fun _ h => absurd h List.not_mem_nil⟩⟩⟩) (by decide +kernel)) ggX5_as_X2_isUnder
theorem dX5_as_0 : decode cX5_as 0 = .ok (.aload_n 0, 1) := by decide +kernel
theorem dX5_as_1 : decode cX5_as 1 = .ok (.getfield 10, 3) := by decide +kernel
theorem dX5_as_4 : decode cX5_as 4 = .ok (.iload_n 1, 1) := by decide +kernel
theorem dX5_as_5 : decode cX5_as 5 = .ok (.invokevirtual 89, 3) := by decide +kernel
theorem dX5_as_8 : decode cX5_as 8 = .ok (.ifCond .eq 10, 3) := by decide +kernel
theorem dX5_as_11 : decode cX5_as 11 = .ok (.iload_n 2, 1) := by decide +kernel
theorem dX5_as_12 : decode cX5_as 12 = .ok (.invokestatic 76, 3) := by decide +kernel
theorem dX5_as_15 : decode cX5_as 15 = .ok (.ifCond .ne 9, 3) := by decide +kernel
theorem dX5_as_18 : decode cX5_as 18 = .ok (.aload_n 0, 1) := by decide +kernel
theorem dX5_as_19 : decode cX5_as 19 = .ok (.iconst 0, 1) := by decide +kernel
theorem dX5_as_20 : decode cX5_as 20 = .ok (.invokevirtual 48, 3) := by decide +kernel
theorem dX5_as_23 : decode cX5_as 23 = .ok (.ireturn, 1) := by decide +kernel
theorem dX5_as_24 : decode cX5_as 24 = .ok (.aload_n 0, 1) := by decide +kernel
theorem dX5_as_25 : decode cX5_as 25 = .ok (.getfield 10, 3) := by decide +kernel
theorem dX5_as_28 : decode cX5_as 28 = .ok (.getfield 92, 3) := by decide +kernel
theorem dX5_as_31 : decode cX5_as 31 = .ok (.iload_n 1, 1) := by decide +kernel
theorem dX5_as_32 : decode cX5_as 32 = .ok (.iaload, 1) := by decide +kernel
theorem dX5_as_33 : decode cX5_as 33 = .ok (.iload_n 2, 1) := by decide +kernel
theorem dX5_as_34 : decode cX5_as 34 = .ok (.invokestatic 122, 3) := by decide +kernel
theorem dX5_as_37 : decode cX5_as 37 = .ok (.ifCond .ne 9, 3) := by decide +kernel
theorem dX5_as_40 : decode cX5_as 40 = .ok (.aload_n 0, 1) := by decide +kernel
theorem dX5_as_41 : decode cX5_as 41 = .ok (.iconst 2, 1) := by decide +kernel
theorem dX5_as_42 : decode cX5_as 42 = .ok (.invokevirtual 48, 3) := by decide +kernel
theorem dX5_as_45 : decode cX5_as 45 = .ok (.ireturn, 1) := by decide +kernel
theorem dX5_as_46 : decode cX5_as 46 = .ok (.aload_n 0, 1) := by decide +kernel
theorem dX5_as_47 : decode cX5_as 47 = .ok (.getfield 10, 3) := by decide +kernel
theorem dX5_as_50 : decode cX5_as 50 = .ok (.getfield 98, 3) := by decide +kernel
theorem dX5_as_53 : decode cX5_as 53 = .ok (.iload_n 1, 1) := by decide +kernel
theorem dX5_as_54 : decode cX5_as 54 = .ok (.iaload, 1) := by decide +kernel
theorem dX5_as_55 : decode cX5_as 55 = .ok (.ireturn, 1) := by decide +kernel
set_option maxRecDepth 20000 in
theorem ggX5_swap_X0_hasOne : GoodIn wsX5_swap wsX0_hasOne := goodIn_sub (List.forall_mem_cons.mpr ⟨List.mem_of_getElem? (i := 6) rfl, (List.forall_mem_append.mpr ⟨(List.forall_mem_cons.mpr ⟨List.mem_of_getElem? (i := 7) rfl, fun _ h => absurd h List.not_mem_nil⟩), (fun _ h => List.mem_cons_of_mem _ (List.mem_append_right _ h))⟩)⟩) (by decide +kernel)
set_option maxRecDepth 20000 in
theorem gX5_swap_X0_hasOne : GoodIn wsX5_swap (wsV RX5 89 RX0 yX0_hasOne wsX0_hasOne) := goodIn_app (goodIn_sub (List.forall_mem_cons.mpr ⟨List.mem_of_getElem? (i := 2) rfl, List.forall_mem_cons.mpr ⟨List.mem_of_getElem? (i := 3) rfl, List.forall_mem_cons.mpr ⟨List.mem_of_getElem? (i := 4) rfl, List.forall_mem_cons.mpr ⟨List.mem_of_getElem? (i := 5) rfl, fun _ h => absurd h List.not_mem_nil⟩⟩⟩⟩) (by decide +kernel)) ggX5_swap_X0_hasOne
set_option maxRecDepth 20000 in
theorem ggX5_swap_X5_tell : GoodIn wsX5_swap wsX5_tell := goodIn_sub (List.forall_mem_cons.mpr ⟨List.mem_of_getElem? (i := 12) rfl, (List.forall_mem_append.mpr ⟨(List.forall_mem_cons.mpr ⟨List.mem_of_getElem? (i := 13) rfl, List.forall_mem_cons.mpr ⟨List.mem_of_getElem? (i := 14) rfl, List.forall_mem_cons.mpr ⟨List.mem_of_getElem? (i := 15) rfl, List.forall_mem_cons.mpr ⟨List.mem_of_getElem? (i := 16) rfl, List.forall_mem_cons.mpr ⟨List.mem_of_getElem? (i := 11) rfl, List.forall_mem_cons.mpr ⟨List.mem_of_getElem? (i := 17) rfl, fun _ h => absurd h List.not_mem_nil⟩⟩⟩⟩⟩⟩), (fun _ h => List.mem_cons_of_mem _ (List.mem_append_left _ (List.mem_append_right _ h)))⟩)⟩) (by decide +kernel)
set_option maxRecDepth 20000 in
theorem gX5_swap_X5_tell : GoodIn wsX5_swap (wsV RX5 48 RX5 yX5_tell wsX5_tell) := goodIn_app (goodIn_sub (List.forall_mem_cons.mpr ⟨List.mem_of_getElem? (i := 8) rfl, List.forall_mem_cons.mpr ⟨List.mem_of_getElem? (i := 9) rfl, List.forall_mem_cons.mpr ⟨List.mem_of_getElem? (i := 10) rfl, List.forall_mem_cons.mpr ⟨List.mem_of_getElem? (i := 11) rfl, fun _ h => absurd h List.not_mem_nil⟩⟩⟩⟩) (by decide +kernel)) ggX5_swap_X5_tell
set_option maxRecDepth 20000 in
theorem ggX5_swap_X0_changeNumbers : GoodIn wsX5_swap wsX0_changeNumbers := goodIn_sub (List.forall_mem_cons.mpr ⟨List.mem_of_getElem? (i := 21) rfl, (List.forall_mem_append.mpr ⟨(List.forall_mem_cons.mpr ⟨List.mem_of_getElem? (i := 22) rfl, List.forall_mem_cons.mpr ⟨List.mem_of_getElem? (i := 23) rfl, List.forall_mem_cons.mpr ⟨List.mem_of_getElem? (i := 24) rfl, List.forall_mem_cons.mpr ⟨List.mem_of_getElem? (i := 25) rfl, List.forall_mem_cons.mpr ⟨List.mem_of_getElem? (i := 26) rfl, List.forall_mem_cons.mpr ⟨List.mem_of_getElem? (i := 27) rfl, List.forall_mem_cons.mpr ⟨List.mem_of_getElem? (i := 3) rfl, List.forall_mem_cons.mpr ⟨List.mem_of_getElem? (i := 4) rfl, List.forall_mem_cons.mpr ⟨List.mem_of_getElem? (i := 5) rfl, List.forall_mem_cons.mpr ⟨List.mem_of_getElem? (i := 6) rfl, List.forall_mem_cons.mpr ⟨List.mem_of_getElem? (i := 7) rfl, List.forall_mem_cons.mpr ⟨List.mem_of_getElem? (i := 28) rfl, List.forall_mem_cons.mpr ⟨List.mem_of_getElem? (i := 29) rfl, List.forall_mem_cons.mpr ⟨List.mem_of_getElem? (i := 30) rfl, fun _ h => absurd h List.not_mem_nil⟩⟩⟩⟩⟩⟩⟩⟩⟩⟩⟩⟩⟩⟩), (fun _ h => List.mem_cons_of_mem _ (List.mem_append_right _ h))⟩)⟩) (by decide +kernel)
set_option maxRecDepth 20000 in
theorem gX5_swap_X0_changeNumbers : GoodIn wsX5_swap (wsV RX5 126 RX0 yX0_changeNumbers wsX0_changeNumbers) := goodIn_app (goodIn_sub (List.forall_mem_cons.mpr ⟨List.mem_of_getElem? (i := 18) rfl, List.forall_mem_cons.mpr ⟨List.mem_of_getElem? (i := 19) rfl, List.forall_mem_cons.mpr ⟨List.mem_of_getElem? (i := 20) rfl, List.forall_mem_cons.mpr ⟨List.mem_of_getElem? (i := 5) rfl, fun _ h => absurd h List.not_mem_nil⟩⟩⟩⟩) (by decide +kernel)) ggX5_swap_X0_changeNumbers
theorem dX5_swap_0 : decode cX5_swap 0 = .ok (.aload_n 0, 1) := by decide +kernel
theorem dX5_swap_1 : decode cX5_swap 1 = .ok (.getfield 10, 3) := by decide +kernel
theorem dX5_swap_4 : decode cX5_swap 4 = .ok (.iload_n 1, 1) := by decide +kernel
theorem dX5_swap_5 : decode cX5_swap 5 = .ok (.invokevirtual 89, 3) := by decide +kernel
theorem dX5_swap_8 : decode cX5_swap 8 = .ok (.ifCond .eq 19, 3) := by decide +kernel
theorem dX5_swap_11 : decode cX5_swap 11 = .ok (.aload_n 0, 1) := by decide +kernel
theorem dX5_swap_12 : decode cX5_swap 12 = .ok (.getfield 10, 3) := by decide +kernel
theorem dX5_swap_15 : decode cX5_swap 15 = .ok (.iload_n 2, 1) := by decide +kernel
theorem dX5_swap_16 : decode cX5_swap 16 = .ok (.invokevirtual 89, 3) := by decide +kernel
theorem dX5_swap_19 : decode cX5_swap 19 = .ok (.ifCond .eq 8, 3) := by decide +kernel
theorem dX5_swap_22 : decode cX5_swap 22 = .ok (.iload_n 1, 1) := by decide +kernel
theorem dX5_swap_23 : decode cX5_swap 23 = .ok (.iload_n 2, 1) := by decide +kernel
theorem dX5_swap_24 : decode cX5_swap 24 = .ok (.if_icmp .ne 9, 3) := by decide +kernel
theorem dX5_swap_27 : decode cX5_swap 27 = .ok (.aload_n 0, 1) := by decide +kernel
theorem dX5_swap_28 : decode cX5_swap 28 = .ok (.iconst 0, 1) := by decide +kernel
theorem dX5_swap_29 : decode cX5_swap 29 = .ok (.invokevirtual 48, 3) := by decide +kernel
theorem dX5_swap_32 : decode cX5_swap 32 = .ok (.ireturn, 1) := by decide +kernel
theorem dX5_swap_33 : decode cX5_swap 33 = .ok (.aload_n 0, 1) := by decide +kernel
theorem dX5_swap_34 : decode cX5_swap 34 = .ok (.getfield 10, 3) := by decide +kernel
theorem dX5_swap_37 : decode cX5_swap 37 = .ok (.iload_n 1, 1) := by decide +kernel
theorem dX5_swap_38 : decode cX5_swap 38 = .ok (.iload_n 2, 1) := by decide +kernel
theorem dX5_swap_39 : decode cX5_swap 39 = .ok (.invokevirtual 126, 3) := by decide +kernel
theorem dX5_swap_42 : decode cX5_swap 42 = .ok (.iconst 1, 1) := by decide +kernel
theorem dX5_swap_43 : decode cX5_swap 43 = .ok (.ireturn, 1) := by decide +kernel
set_option maxRecDepth 20000 in
theorem ggX5_breaks_X0_hasOne : GoodIn wsX5_breaks wsX0_hasOne := goodIn_sub (List.forall_mem_cons.mpr ⟨List.mem_of_getElem? (i := 9) rfl, (List.forall_mem_append.mpr ⟨(List.forall_mem_cons.mpr ⟨List.mem_of_getElem? (i := 10) rfl, fun _ h => absurd h List.not_mem_nil⟩), (fun _ h => List.mem_cons_of_mem _ (List.mem_append_right _ h))⟩)⟩) (by decide +kernel)
set_option maxRecDepth 20000 in
theorem gX5_breaks_X0_hasOne : GoodIn wsX5_breaks (wsV RX5 89 RX0 yX0_hasOne wsX0_hasOne) := goodIn_app (goodIn_sub (List.forall_mem_cons.mpr ⟨List.mem_of_getElem? (i := 5) rfl, List.forall_mem_cons.mpr ⟨List.mem_of_getElem? (i := 6) rfl, List.forall_mem_cons.mpr ⟨List.mem_of_getElem? (i := 7) rfl, List.forall_mem_cons.mpr ⟨List.mem_of_getElem? (i := 8) rfl, fun _ h => absurd h List.not_mem_nil⟩⟩⟩⟩) (by decide +kernel)) ggX5_breaks_X0_hasOne
set_option maxRecDepth 20000 in
theorem ggX5_breaks_X5_isWithin : GoodIn wsX5_breaks wsX5_isWithin := goodIn_sub (List.forall_mem_cons.mpr ⟨List.mem_of_getElem? (i := 14) rfl, (fun _ h => absurd h List.not_mem_nil)⟩) (by decide +kernel)
set_option maxRecDepth 20000 in
theorem gX5_breaks_X5_isWithin : GoodIn wsX5_breaks (va_wsS RX5 44 yX5_isWithin wsX5_isWithin) := goodIn_app (goodIn_sub (List.forall_mem_cons.mpr ⟨List.mem_of_getElem? (i := 11) rfl, List.forall_mem_cons.mpr ⟨List.mem_of_getElem? (i := 12) rfl, List.forall_mem_cons.mpr ⟨List.mem_of_getElem? (i := 13) rfl, fun _ h => absurd h List.not_mem_nil⟩⟩⟩) (by decide +kernel)) ggX5_breaks_X5_isWithin
set_option maxRecDepth 20000 in
theorem ggX5_breaks_X5_tell : GoodIn wsX5_breaks wsX5_tell := goodIn_sub (List.forall_mem_cons.mpr ⟨List.mem_of_getElem? (i := 18) rfl, (List.forall_mem_append.mpr ⟨(List.forall_mem_cons.mpr ⟨List.mem_of_getElem? (i := 19) rfl, List.forall_mem_cons.mpr ⟨List.mem_of_getElem? (i := 20) rfl, List.forall_mem_cons.mpr ⟨List.mem_of_getElem? (i := 11) rfl, List.forall_mem_cons.mpr ⟨List.mem_of_getElem? (i := 12) rfl, List.forall_mem_cons.mpr ⟨List.mem_of_getElem? (i := 13) rfl, List.forall_mem_cons.mpr ⟨List.mem_of_getElem? (i := 14) rfl, fun _ h => absurd h List.not_mem_nil⟩⟩⟩⟩⟩⟩), (fun _ h => List.mem_cons_of_mem _ (List.mem_append_left _ (List.mem_append_right _ h)))⟩)⟩) (by decide +kernel)
set_option maxRecDepth 20000 in
theorem gX5_breaks_X5_tell : GoodIn wsX5_breaks (wsV RX5 48 RX5 yX5_tell wsX5_tell) := goodIn_app (goodIn_sub (List.forall_mem_cons.mpr ⟨List.mem_of_getElem? (i := 15) rfl, List.forall_mem_cons.mpr ⟨List.mem_of_getElem? (i := 16) rfl, List.forall_mem_cons.mpr ⟨List.mem_of_getElem? (i := 17) rfl, List.forall_mem_cons.mpr ⟨List.mem_of_getElem? (i := 13) rfl, fun _ h => absurd h List.not_mem_nil⟩⟩⟩⟩) (by decide +kernel)) ggX5_breaks_X5_tell
set_option maxRecDepth 20000 in
theorem ggX5_breaks_X0_crack : GoodIn wsX5_breaks wsX0_crack := goodIn_sub (List.forall_mem_cons.mpr ⟨List.mem_of_getElem? (i := 24) rfl, (List.forall_mem_append.mpr ⟨(List.forall_mem_append.mpr ⟨(List.forall_mem_cons.mpr ⟨List.mem_of_getElem? (i := 25) rfl, List.forall_mem_cons.mpr ⟨List.mem_of_getElem? (i := 26) rfl, List.forall_mem_cons.mpr ⟨List.mem_of_getElem? (i := 27) rfl, List.forall_mem_cons.mpr ⟨List.mem_of_getElem? (i := 28) rfl, List.forall_mem_cons.mpr ⟨List.mem_of_getElem? (i := 29) rfl, List.forall_mem_cons.mpr ⟨List.mem_of_getElem? (i := 30) rfl, List.forall_mem_cons.mpr ⟨List.mem_of_getElem? (i := 31) rfl, List.forall_mem_cons.mpr ⟨List.mem_of_getElem? (i := 32) rfl, List.forall_mem_cons.mpr ⟨List.mem_of_getElem? (i := 33) rfl, List.forall_mem_cons.mpr ⟨List.mem_of_getElem? (i := 34) rfl, List.forall_mem_cons.mpr ⟨List.mem_of_getElem? (i := 35) rfl, List.forall_mem_cons.mpr ⟨List.mem_of_getElem? (i := 36) rfl, List.forall_mem_cons.mpr ⟨List.mem_of_getElem? (i := 37) rfl, List.forall_mem_cons.mpr ⟨List.mem_of_getElem? (i := 6) rfl, List.forall_mem_cons.mpr ⟨List.mem_of_getElem? (i := 7) rfl, List.forall_mem_cons.mpr ⟨List.mem_of_getElem? (i := 8) rfl, List.forall_mem_cons.mpr ⟨List.mem_of_getElem? (i := 9) rfl, List.forall_mem_cons.mpr ⟨List.mem_of_getElem? (i := 10) rfl, List.forall_mem_cons.mpr ⟨List.mem_of_getElem? (i := 38) rfl, List.forall_mem_cons.mpr ⟨List.mem_of_getElem? (i := 39) rfl, List.forall_mem_cons.mpr ⟨List.mem_of_getElem? (i := 40) rfl, List.forall_mem_cons.mpr ⟨List.mem_of_getElem? (i := 41) rfl, List.forall_mem_cons.mpr ⟨List.mem_of_getElem? (i := 42) rfl, List.forall_mem_cons.mpr ⟨List.mem_of_getElem? (i := 43) rfl, fun _ h => absurd h List.not_mem_nil⟩⟩⟩⟩⟩⟩⟩⟩⟩⟩⟩⟩⟩⟩⟩⟩⟩⟩⟩⟩⟩⟩⟩⟩), (List.forall_mem_cons.mpr ⟨List.mem_of_getElem? (i := 44) rfl, List.forall_mem_cons.mpr ⟨List.mem_of_getElem? (i := 45) rfl, List.forall_mem_cons.mpr ⟨List.mem_of_getElem? (i := 46) rfl, List.forall_mem_cons.mpr ⟨List.mem_of_getElem? (i := 47) rfl, List.forall_mem_cons.mpr ⟨List.mem_of_getElem? (i := 48) rfl, List.forall_mem_cons.mpr ⟨List.mem_of_getElem? (i := 49) rfl, List.forall_mem_cons.mpr ⟨List.mem_of_getElem? (i := 50) rfl, fun _ h => absurd h List.not_mem_nil⟩⟩⟩⟩⟩⟩⟩)⟩), (fun _ h => List.mem_cons_of_mem _ (List.mem_append_right _ h))⟩)⟩) (by decide +kernel)
set_option maxRecDepth 20000 in
theorem gX5_breaks_X0_crack : GoodIn wsX5_breaks (wsV RX5 130 RX0 yX0_crack wsX0_crack) := goodIn_app (goodIn_sub (List.forall_mem_cons.mpr ⟨List.mem_of_getElem? (i := 21) rfl, List.forall_mem_cons.mpr ⟨List.mem_of_getElem? (i := 22) rfl, List.forall_mem_cons.mpr ⟨List.mem_of_getElem? (i := 23) rfl, List.forall_mem_cons.mpr ⟨List.mem_of_getElem? (i := 8) rfl, fun _ h => absurd h List.not_mem_nil⟩⟩⟩⟩) (by decide +kernel)) ggX5_breaks_X0_crack
theorem dX5_breaks_0 : decode cX5_breaks 0 = .ok (.aload_n 0, 1) := by decide +kernel
theorem dX5_breaks_1 : decode cX5_breaks 1 = .ok (.getfield 10, 3) := by decide +kernel
theorem dX5_breaks_4 : decode cX5_breaks 4 = .ok (.iload_n 1, 1) := by decide +kernel
theorem dX5_breaks_5 : decode cX5_breaks 5 = .ok (.invokevirtual 89, 3) := by decide +kernel
theorem dX5_breaks_8 : decode cX5_breaks 8 = .ok (.ifCond .eq 13, 3) := by decide +kernel
theorem dX5_breaks_11 : decode cX5_breaks 11 = .ok (.iload_n 2, 1) := by decide +kernel
theorem dX5_breaks_12 : decode cX5_breaks 12 = .ok (.iconst 1, 1) := by decide +kernel
theorem dX5_breaks_13 : decode cX5_breaks 13 = .ok (.bipush 99, 2) := by decide +kernel
theorem dX5_breaks_15 : decode cX5_breaks 15 = .ok (.invokestatic 44, 3) := by decide +kernel
theorem dX5_breaks_18 : decode cX5_breaks 18 = .ok (.ifCond .ne 9, 3) := by decide +kernel
theorem dX5_breaks_21 : decode cX5_breaks 21 = .ok (.aload_n 0, 1) := by decide +kernel
theorem dX5_breaks_22 : decode cX5_breaks 22 = .ok (.iconst 0, 1) := by decide +kernel
theorem dX5_breaks_23 : decode cX5_breaks 23 = .ok (.invokevirtual 48, 3) := by decide +kernel
theorem dX5_breaks_26 : decode cX5_breaks 26 = .ok (.ireturn, 1) := by decide +kernel
theorem dX5_breaks_27 : decode cX5_breaks 27 = .ok (.aload_n 0, 1) := by decide +kernel
theorem dX5_breaks_28 : decode cX5_breaks 28 = .ok (.getfield 10, 3) := by decide +kernel
theorem dX5_breaks_31 : decode cX5_breaks 31 = .ok (.getfield 101, 3) := by decide +kernel
theorem dX5_breaks_34 : decode cX5_breaks 34 = .ok (.iload_n 1, 1) := by decide +kernel
theorem dX5_breaks_35 : decode cX5_breaks 35 = .ok (.iaload, 1) := by decide +kernel
theorem dX5_breaks_36 : decode cX5_breaks 36 = .ok (.ifCond .gt 14, 3) := by decide +kernel
theorem dX5_breaks_39 : decode cX5_breaks 39 = .ok (.aload_n 0, 1) := by decide +kernel
theorem dX5_breaks_40 : decode cX5_breaks 40 = .ok (.getfield 10, 3) := by decide +kernel
theorem dX5_breaks_43 : decode cX5_breaks 43 = .ok (.getfield 52, 3) := by decide +kernel
theorem dX5_breaks_46 : decode cX5_breaks 46 = .ok (.iload_n 2, 1) := by decide +kernel
theorem dX5_breaks_47 : decode cX5_breaks 47 = .ok (.if_icmp .ge 9, 3) := by decide +kernel
theorem dX5_breaks_50 : decode cX5_breaks 50 = .ok (.aload_n 0, 1) := by decide +kernel
theorem dX5_breaks_51 : decode cX5_breaks 51 = .ok (.iconst 4, 1) := by decide +kernel
theorem dX5_breaks_52 : decode cX5_breaks 52 = .ok (.invokevirtual 48, 3) := by decide +kernel
theorem dX5_breaks_55 : decode cX5_breaks 55 = .ok (.ireturn, 1) := by decide +kernel
theorem dX5_breaks_56 : decode cX5_breaks 56 = .ok (.aload_n 0, 1) := by decide +kernel
theorem dX5_breaks_57 : decode cX5_breaks 57 = .ok (.getfield 10, 3) := by decide +kernel
theorem dX5_breaks_60 : decode cX5_breaks 60 = .ok (.iload_n 1, 1) := by decide +kernel
theorem dX5_breaks_61 : decode cX5_breaks 61 = .ok (.iload_n 2, 1) := by decide +kernel
theorem dX5_breaks_62 : decode cX5_breaks 62 = .ok (.invokevirtual 130, 3) := by decide +kernel
theorem dX5_breaks_65 : decode cX5_breaks 65 = .ok (.aload_n 0, 1) := by decide +kernel
theorem dX5_breaks_66 : decode cX5_breaks 66 = .ok (.getfield 10, 3) := by decide +kernel
theorem dX5_breaks_69 : decode cX5_breaks 69 = .ok (.getfield 60, 3) := by decide +kernel
theorem dX5_breaks_72 : decode cX5_breaks 72 = .ok (.ireturn, 1) := by decide +kernel
set_option maxRecDepth 20000 in
theorem ggX5_days_X5_isWithin : GoodIn wsX5_days wsX5_isWithin := goodIn_sub (List.forall_mem_cons.mpr ⟨List.mem_of_getElem? (i := 7) rfl, (fun _ h => absurd h List.not_mem_nil)⟩) (by decide +kernel)
set_option maxRecDepth 20000 in
theorem gX5_days_X5_isWithin : GoodIn wsX5_days (va_wsS RX5 44 yX5_isWithin wsX5_isWithin) := goodIn_app (goodIn_sub (List.forall_mem_cons.mpr ⟨List.mem_of_getElem? (i := 4) rfl, List.forall_mem_cons.mpr ⟨List.mem_of_getElem? (i := 5) rfl, List.forall_mem_cons.mpr ⟨List.mem_of_getElem? (i := 6) rfl, fun _ h => absurd h List.not_mem_nil⟩⟩⟩) (by decide +kernel)) ggX5_days_X5_isWithin
set_option maxRecDepth 20000 in
theorem ggX5_days_X5_tell : GoodIn wsX5_days wsX5_tell := goodIn_sub (List.forall_mem_cons.mpr ⟨List.mem_of_getElem? (i := 11) rfl, (List.forall_mem_append.mpr ⟨(List.forall_mem_cons.mpr ⟨List.mem_of_getElem? (i := 12) rfl, List.forall_mem_cons.mpr ⟨List.mem_of_getElem? (i := 13) rfl, List.forall_mem_cons.mpr ⟨List.mem_of_getElem? (i := 4) rfl, List.forall_mem_cons.mpr ⟨List.mem_of_getElem? (i := 5) rfl, List.forall_mem_cons.mpr ⟨List.mem_of_getElem? (i := 6) rfl, List.forall_mem_cons.mpr ⟨List.mem_of_getElem? (i := 7) rfl, fun _ h => absurd h List.not_mem_nil⟩⟩⟩⟩⟩⟩), (fun _ h => List.mem_cons_of_mem _ (List.mem_append_left _ (List.mem_append_right _ h)))⟩)⟩) (by decide +kernel)
set_option maxRecDepth 20000 in
theorem gX5_days_X5_tell : GoodIn wsX5_days (wsV RX5 48 RX5 yX5_tell wsX5_tell) := goodIn_app (goodIn_sub (List.forall_mem_cons.mpr ⟨List.mem_of_getElem? (i := 8) rfl, List.forall_mem_cons.mpr ⟨List.mem_of_getElem? (i := 9) rfl, List.forall_mem_cons.mpr ⟨List.mem_of_getElem? (i := 10) rfl, List.forall_mem_cons.mpr ⟨List.mem_of_getElem? (i := 6) rfl, fun _ h => absurd h List.not_mem_nil⟩⟩⟩⟩) (by decide +kernel)) ggX5_days_X5_tell
set_option maxRecDepth 20000 in
theorem ggX5_days_X0_goOn : GoodIn wsX5_days wsX0_goOn := goodIn_sub (List.forall_mem_cons.mpr ⟨List.mem_of_getElem? (i := 18) rfl, (List.forall_mem_append.mpr ⟨(List.forall_mem_append.mpr ⟨(List.forall_mem_cons.mpr ⟨List.mem_of_getElem? (i := 19) rfl, List.forall_mem_cons.mpr ⟨List.mem_of_getElem? (i := 20) rfl, List.forall_mem_cons.mpr ⟨List.mem_of_getElem? (i := 21) rfl, List.forall_mem_cons.mpr ⟨List.mem_of_getElem? (i := 17) rfl, List.forall_mem_cons.mpr ⟨List.mem_of_getElem? (i := 22) rfl, List.forall_mem_cons.mpr ⟨List.mem_of_getElem? (i := 23) rfl, List.forall_mem_cons.mpr ⟨List.mem_of_getElem? (i := 24) rfl, List.forall_mem_cons.mpr ⟨List.mem_of_getElem? (i := 25) rfl, List.forall_mem_cons.mpr ⟨List.mem_of_getElem? (i := 26) rfl, List.forall_mem_cons.mpr ⟨List.mem_of_getElem? (i := 27) rfl, List.forall_mem_cons.mpr ⟨List.mem_of_getElem? (i := 28) rfl, List.forall_mem_cons.mpr ⟨List.mem_of_getElem? (i := 29) rfl, List.forall_mem_cons.mpr ⟨List.mem_of_getElem? (i := 30) rfl, List.forall_mem_cons.mpr ⟨List.mem_of_getElem? (i := 31) rfl, List.forall_mem_cons.mpr ⟨List.mem_of_getElem? (i := 32) rfl, List.forall_mem_cons.mpr ⟨List.mem_of_getElem? (i := 33) rfl, List.forall_mem_cons.mpr ⟨List.mem_of_getElem? (i := 34) rfl, List.forall_mem_cons.mpr ⟨List.mem_of_getElem? (i := 35) rfl, List.forall_mem_cons.mpr ⟨List.mem_of_getElem? (i := 36) rfl, List.forall_mem_cons.mpr ⟨List.mem_of_getElem? (i := 37) rfl, List.forall_mem_cons.mpr ⟨List.mem_of_getElem? (i := 38) rfl, List.forall_mem_cons.mpr ⟨List.mem_of_getElem? (i := 39) rfl, List.forall_mem_cons.mpr ⟨List.mem_of_getElem? (i := 40) rfl, List.forall_mem_cons.mpr ⟨List.mem_of_getElem? (i := 41) rfl, fun _ h => absurd h List.not_mem_nil⟩⟩⟩⟩⟩⟩⟩⟩⟩⟩⟩⟩⟩⟩⟩⟩⟩⟩⟩⟩⟩⟩⟩⟩), (List.forall_mem_append.mpr ⟨(List.forall_mem_cons.mpr ⟨List.mem_of_getElem? (i := 42) rfl, List.forall_mem_cons.mpr ⟨List.mem_of_getElem? (i := 43) rfl, List.forall_mem_cons.mpr ⟨List.mem_of_getElem? (i := 44) rfl, List.forall_mem_cons.mpr ⟨List.mem_of_getElem? (i := 45) rfl, List.forall_mem_cons.mpr ⟨List.mem_of_getElem? (i := 46) rfl, List.forall_mem_cons.mpr ⟨List.mem_of_getElem? (i := 47) rfl, List.forall_mem_cons.mpr ⟨List.mem_of_getElem? (i := 48) rfl, List.forall_mem_cons.mpr ⟨List.mem_of_getElem? (i := 49) rfl, List.forall_mem_cons.mpr ⟨List.mem_of_getElem? (i := 50) rfl, List.forall_mem_cons.mpr ⟨List.mem_of_getElem? (i := 51) rfl, List.forall_mem_cons.mpr ⟨List.mem_of_getElem? (i := 52) rfl, List.forall_mem_cons.mpr ⟨List.mem_of_getElem? (i := 53) rfl, List.forall_mem_cons.mpr ⟨List.mem_of_getElem? (i := 54) rfl, List.forall_mem_cons.mpr ⟨List.mem_of_getElem? (i := 55) rfl, List.forall_mem_cons.mpr ⟨List.mem_of_getElem? (i := 56) rfl, List.forall_mem_cons.mpr ⟨List.mem_of_getElem? (i := 57) rfl, List.forall_mem_cons.mpr ⟨List.mem_of_getElem? (i := 58) rfl, List.forall_mem_cons.mpr ⟨List.mem_of_getElem? (i := 59) rfl, List.forall_mem_cons.mpr ⟨List.mem_of_getElem? (i := 60) rfl, List.forall_mem_cons.mpr ⟨List.mem_of_getElem? (i := 61) rfl, List.forall_mem_cons.mpr ⟨List.mem_of_getElem? (i := 62) rfl, List.forall_mem_cons.mpr ⟨List.mem_of_getElem? (i := 63) rfl, List.forall_mem_cons.mpr ⟨List.mem_of_getElem? (i := 64) rfl, List.forall_mem_cons.mpr ⟨List.mem_of_getElem? (i := 65) rfl, fun _ h => absurd h List.not_mem_nil⟩⟩⟩⟩⟩⟩⟩⟩⟩⟩⟩⟩⟩⟩⟩⟩⟩⟩⟩⟩⟩⟩⟩⟩), (List.forall_mem_cons.mpr ⟨List.mem_of_getElem? (i := 66) rfl, List.forall_mem_cons.mpr ⟨List.mem_of_getElem? (i := 67) rfl, List.forall_mem_cons.mpr ⟨List.mem_of_getElem? (i := 68) rfl, List.forall_mem_cons.mpr ⟨List.mem_of_getElem? (i := 69) rfl, List.forall_mem_cons.mpr ⟨List.mem_of_getElem? (i := 70) rfl, List.forall_mem_cons.mpr ⟨List.mem_of_getElem? (i := 71) rfl, List.forall_mem_cons.mpr ⟨List.mem_of_getElem? (i := 72) rfl, List.forall_mem_cons.mpr ⟨List.mem_of_getElem? (i := 73) rfl, List.forall_mem_cons.mpr ⟨List.mem_of_getElem? (i := 74) rfl, List.forall_mem_cons.mpr ⟨List.mem_of_getElem? (i := 75) rfl, List.forall_mem_cons.mpr ⟨List.mem_of_getElem? (i := 76) rfl, List.forall_mem_cons.mpr ⟨List.mem_of_getElem? (i := 77) rfl, List.forall_mem_cons.mpr ⟨List.mem_of_getElem? (i := 78) rfl, List.forall_mem_cons.mpr ⟨List.mem_of_getElem? (i := 79) rfl, List.forall_mem_cons.mpr ⟨List.mem_of_getElem? (i := 80) rfl, fun _ h => absurd h List.not_mem_nil⟩⟩⟩⟩⟩⟩⟩⟩⟩⟩⟩⟩⟩⟩⟩)⟩)⟩), (fun _ h => List.mem_cons_of_mem _ (List.mem_append_right _ h))⟩)⟩) (by decide +kernel)
set_option maxRecDepth 20000 in
theorem gX5_days_X0_goOn : GoodIn wsX5_days (wsV RX5 133 RX0 yX0_goOn wsX0_goOn) := goodIn_app (goodIn_sub (List.forall_mem_cons.mpr ⟨List.mem_of_getElem? (i := 14) rfl, List.forall_mem_cons.mpr ⟨List.mem_of_getElem? (i := 15) rfl, List.forall_mem_cons.mpr ⟨List.mem_of_getElem? (i := 16) rfl, List.forall_mem_cons.mpr ⟨List.mem_of_getElem? (i := 17) rfl, fun _ h => absurd h List.not_mem_nil⟩⟩⟩⟩) (by decide +kernel)) ggX5_days_X0_goOn
theorem dX5_days_0 : decode cX5_days 0 = .ok (.iload_n 1, 1) := by decide +kernel
theorem dX5_days_1 : decode cX5_days 1 = .ok (.iconst 1, 1) := by decide +kernel
theorem dX5_days_2 : decode cX5_days 2 = .ok (.bipush 100, 2) := by decide +kernel
theorem dX5_days_4 : decode cX5_days 4 = .ok (.invokestatic 44, 3) := by decide +kernel
theorem dX5_days_7 : decode cX5_days 7 = .ok (.ifCond .ne 9, 3) := by decide +kernel
theorem dX5_days_10 : decode cX5_days 10 = .ok (.aload_n 0, 1) := by decide +kernel
theorem dX5_days_11 : decode cX5_days 11 = .ok (.iconst 0, 1) := by decide +kernel
theorem dX5_days_12 : decode cX5_days 12 = .ok (.invokevirtual 48, 3) := by decide +kernel
theorem dX5_days_15 : decode cX5_days 15 = .ok (.ireturn, 1) := by decide +kernel
theorem dX5_days_16 : decode cX5_days 16 = .ok (.aload_n 0, 1) := by decide +kernel
theorem dX5_days_17 : decode cX5_days 17 = .ok (.getfield 10, 3) := by decide +kernel
theorem dX5_days_20 : decode cX5_days 20 = .ok (.getfield 63, 3) := by decide +kernel
theorem dX5_days_23 : decode cX5_days 23 = .ok (.iload_n 1, 1) := by decide +kernel
theorem dX5_days_24 : decode cX5_days 24 = .ok (.iadd, 1) := by decide +kernel
theorem dX5_days_25 : decode cX5_days 25 = .ok (.sipush 9999, 3) := by decide +kernel
theorem dX5_days_28 : decode cX5_days 28 = .ok (.if_icmp .le 9, 3) := by decide +kernel
theorem dX5_days_31 : decode cX5_days 31 = .ok (.aload_n 0, 1) := by decide +kernel
theorem dX5_days_32 : decode cX5_days 32 = .ok (.iconst 4, 1) := by decide +kernel
theorem dX5_days_33 : decode cX5_days 33 = .ok (.invokevirtual 48, 3) := by decide +kernel
theorem dX5_days_36 : decode cX5_days 36 = .ok (.ireturn, 1) := by decide +kernel
theorem dX5_days_37 : decode cX5_days 37 = .ok (.aload_n 0, 1) := by decide +kernel
theorem dX5_days_38 : decode cX5_days 38 = .ok (.getfield 10, 3) := by decide +kernel
theorem dX5_days_41 : decode cX5_days 41 = .ok (.iload_n 1, 1) := by decide +kernel
theorem dX5_days_42 : decode cX5_days 42 = .ok (.invokevirtual 133, 3) := by decide +kernel
theorem dX5_days_45 : decode cX5_days 45 = .ok (.aload_n 0, 1) := by decide +kernel
theorem dX5_days_46 : decode cX5_days 46 = .ok (.getfield 10, 3) := by decide +kernel
theorem dX5_days_49 : decode cX5_days 49 = .ok (.getfield 52, 3) := by decide +kernel
theorem dX5_days_52 : decode cX5_days 52 = .ok (.ireturn, 1) := by decide +kernel
set_option maxRecDepth 20000 in
theorem ggX5_on_X5_isWithin : GoodIn wsX5_on wsX5_isWithin := goodIn_sub (List.forall_mem_cons.mpr ⟨List.mem_of_getElem? (i := 9) rfl, (fun _ h => absurd h List.not_mem_nil)⟩) (by decide +kernel)
set_option maxRecDepth 20000 in
theorem gX5_on_X5_isWithin : GoodIn wsX5_on (va_wsS RX5 44 yX5_isWithin wsX5_isWithin) := goodIn_app (goodIn_sub (List.forall_mem_cons.mpr ⟨List.mem_of_getElem? (i := 6) rfl, List.forall_mem_cons.mpr ⟨List.mem_of_getElem? (i := 7) rfl, List.forall_mem_cons.mpr ⟨List.mem_of_getElem? (i := 8) rfl, fun _ h => absurd h List.not_mem_nil⟩⟩⟩) (by decide +kernel)) ggX5_on_X5_isWithin
set_option maxRecDepth 20000 in
theorem ggX5_on_X5_tell : GoodIn wsX5_on wsX5_tell := goodIn_sub (List.forall_mem_cons.mpr ⟨List.mem_of_getElem? (i := 13) rfl, (List.forall_mem_append.mpr ⟨(List.forall_mem_cons.mpr ⟨List.mem_of_getElem? (i := 14) rfl, List.forall_mem_cons.mpr ⟨List.mem_of_getElem? (i := 15) rfl, List.forall_mem_cons.mpr ⟨List.mem_of_getElem? (i := 6) rfl, List.forall_mem_cons.mpr ⟨List.mem_of_getElem? (i := 7) rfl, List.forall_mem_cons.mpr ⟨List.mem_of_getElem? (i := 8) rfl, List.forall_mem_cons.mpr ⟨List.mem_of_getElem? (i := 9) rfl, fun _ h => absurd h List.not_mem_nil⟩⟩⟩⟩⟩⟩), (fun _ h => List.mem_cons_of_mem _ (List.mem_append_left _ (List.mem_append_right _ h)))⟩)⟩) (by decide +kernel)
set_option maxRecDepth 20000 in
theorem gX5_on_X5_tell : GoodIn wsX5_on (wsV RX5 48 RX5 yX5_tell wsX5_tell) := goodIn_app (goodIn_sub (List.forall_mem_cons.mpr ⟨List.mem_of_getElem? (i := 10) rfl, List.forall_mem_cons.mpr ⟨List.mem_of_getElem? (i := 11) rfl, List.forall_mem_cons.mpr ⟨List.mem_of_getElem? (i := 12) rfl, List.forall_mem_cons.mpr ⟨List.mem_of_getElem? (i := 8) rfl, fun _ h => absurd h List.not_mem_nil⟩⟩⟩⟩) (by decide +kernel)) ggX5_on_X5_tell
set_option maxRecDepth 20000 in
theorem ggX5_on_X5_tryAsItIs : GoodIn wsX5_on wsX5_tryAsItIs := goodIn_sub (List.forall_mem_cons.mpr ⟨List.mem_of_getElem? (i := 19) rfl, (List.forall_mem_append.mpr ⟨(List.forall_mem_append.mpr ⟨(List.forall_mem_append.mpr ⟨(List.forall_mem_cons.mpr ⟨List.mem_of_getElem? (i := 1) rfl, List.forall_mem_cons.mpr ⟨List.mem_of_getElem? (i := 20) rfl, List.forall_mem_cons.mpr ⟨List.mem_of_getElem? (i := 21) rfl, List.forall_mem_cons.mpr ⟨List.mem_of_getElem? (i := 22) rfl, List.forall_mem_cons.mpr ⟨List.mem_of_getElem? (i := 23) rfl, List.forall_mem_cons.mpr ⟨List.mem_of_getElem? (i := 24) rfl, List.forall_mem_cons.mpr ⟨List.mem_of_getElem? (i := 25) rfl, List.forall_mem_cons.mpr ⟨List.mem_of_getElem? (i := 26) rfl, List.forall_mem_cons.mpr ⟨List.mem_of_getElem? (i := 27) rfl, List.forall_mem_cons.mpr ⟨List.mem_of_getElem? (i := 28) rfl, List.forall_mem_cons.mpr ⟨List.mem_of_getElem? (i := 29) rfl, List.forall_mem_cons.mpr ⟨List.mem_of_getElem? (i := 30) rfl, List.forall_mem_cons.mpr ⟨List.mem_of_getElem? (i := 31) rfl, List.forall_mem_cons.mpr ⟨List.mem_of_getElem? (i := 32) rfl, List.forall_mem_cons.mpr ⟨List.mem_of_getElem? (i := 33) rfl, List.forall_mem_cons.mpr ⟨List.mem_of_getElem? (i := 34) rfl, List.forall_mem_cons.mpr ⟨List.mem_of_getElem? (i := 35) rfl, List.forall_mem_cons.mpr ⟨List.mem_of_getElem? (i := 36) rfl, List.forall_mem_cons.mpr ⟨List.mem_of_getElem? (i := 37) rfl, List.forall_mem_cons.mpr ⟨List.mem_of_getElem? (i := 38) rfl, List.forall_mem_cons.mpr ⟨List.mem_of_getElem? (i := 39) rfl, List.forall_mem_cons.mpr ⟨List.mem_of_getElem? (i := 40) rfl, List.forall_mem_cons.mpr ⟨List.mem_of_getElem? (i := 41) rfl, List.forall_mem_cons.mpr ⟨List.mem_of_getElem? (i := 42) rfl, fun _ h => absurd h List.not_mem_nil⟩⟩⟩⟩⟩⟩⟩⟩⟩⟩⟩⟩⟩⟩⟩⟩⟩⟩⟩⟩⟩⟩⟩⟩), (List.forall_mem_append.mpr ⟨(List.forall_mem_cons.mpr ⟨List.mem_of_getElem? (i := 43) rfl, List.forall_mem_cons.mpr ⟨List.mem_of_getElem? (i := 44) rfl, List.forall_mem_cons.mpr ⟨List.mem_of_getElem? (i := 45) rfl, List.forall_mem_cons.mpr ⟨List.mem_of_getElem? (i := 46) rfl, List.forall_mem_cons.mpr ⟨List.mem_of_getElem? (i := 47) rfl, List.forall_mem_cons.mpr ⟨List.mem_of_getElem? (i := 48) rfl, List.forall_mem_cons.mpr ⟨List.mem_of_getElem? (i := 49) rfl, List.forall_mem_cons.mpr ⟨List.mem_of_getElem? (i := 50) rfl, List.forall_mem_cons.mpr ⟨List.mem_of_getElem? (i := 51) rfl, List.forall_mem_cons.mpr ⟨List.mem_of_getElem? (i := 52) rfl, List.forall_mem_cons.mpr ⟨List.mem_of_getElem? (i := 53) rfl, List.forall_mem_cons.mpr ⟨List.mem_of_getElem? (i := 54) rfl, List.forall_mem_cons.mpr ⟨List.mem_of_getElem? (i := 55) rfl, List.forall_mem_cons.mpr ⟨List.mem_of_getElem? (i := 56) rfl, List.forall_mem_cons.mpr ⟨List.mem_of_getElem? (i := 57) rfl, List.forall_mem_cons.mpr ⟨List.mem_of_getElem? (i := 58) rfl, List.forall_mem_cons.mpr ⟨List.mem_of_getElem? (i := 59) rfl, List.forall_mem_cons.mpr ⟨List.mem_of_getElem? (i := 60) rfl, List.forall_mem_cons.mpr ⟨List.mem_of_getElem? (i := 61) rfl, List.forall_mem_cons.mpr ⟨List.mem_of_getElem? (i := 62) rfl, List.forall_mem_cons.mpr ⟨List.mem_of_getElem? (i := 63) rfl, List.forall_mem_cons.mpr ⟨List.mem_of_getElem? (i := 64) rfl, List.forall_mem_cons.mpr ⟨List.mem_of_getElem? (i := 65) rfl, List.forall_mem_cons.mpr ⟨List.mem_of_getElem? (i := 66) rfl, fun _ h => absurd h List.not_mem_nil⟩⟩⟩⟩⟩⟩⟩⟩⟩⟩⟩⟩⟩⟩⟩⟩⟩⟩⟩⟩⟩⟩⟩⟩), (List.forall_mem_append.mpr ⟨(List.forall_mem_cons.mpr ⟨List.mem_of_getElem? (i := 67) rfl, List.forall_mem_cons.mpr ⟨List.mem_of_getElem? (i := 68) rfl, List.forall_mem_cons.mpr ⟨List.mem_of_getElem? (i := 69) rfl, List.forall_mem_cons.mpr ⟨List.mem_of_getElem? (i := 70) rfl, List.forall_mem_cons.mpr ⟨List.mem_of_getElem? (i := 71) rfl, List.forall_mem_cons.mpr ⟨List.mem_of_getElem? (i := 72) rfl, List.forall_mem_cons.mpr ⟨List.mem_of_getElem? (i := 73) rfl, List.forall_mem_cons.mpr ⟨List.mem_of_getElem? (i := 74) rfl, List.forall_mem_cons.mpr ⟨List.mem_of_getElem? (i := 75) rfl, List.forall_mem_cons.mpr ⟨List.mem_of_getElem? (i := 76) rfl, List.forall_mem_cons.mpr ⟨List.mem_of_getElem? (i := 77) rfl, List.forall_mem_cons.mpr ⟨List.mem_of_getElem? (i := 78) rfl, List.forall_mem_cons.mpr ⟨List.mem_of_getElem? (i := 79) rfl, List.forall_mem_cons.mpr ⟨List.mem_of_getElem? (i := 80) rfl, List.forall_mem_cons.mpr ⟨List.mem_of_getElem? (i := 81) rfl, List.forall_mem_cons.mpr ⟨List.mem_of_getElem? (i := 82) rfl, List.forall_mem_cons.mpr ⟨List.mem_of_getElem? (i := 83) rfl, List.forall_mem_cons.mpr ⟨List.mem_of_getElem? (i := 84) rfl, List.forall_mem_cons.mpr ⟨List.mem_of_getElem? (i := 85) rfl, List.forall_mem_cons.mpr ⟨List.mem_of_getElem? (i := 86) rfl, List.forall_mem_cons.mpr ⟨List.mem_of_getElem? (i := 87) rfl, List.forall_mem_cons.mpr ⟨List.mem_of_getElem? (i := 88) rfl, List.forall_mem_cons.mpr ⟨List.mem_of_getElem? (i := 89) rfl, List.forall_mem_cons.mpr ⟨List.mem_of_getElem? (i := 90) rfl, fun _ h => absurd h List.not_mem_nil⟩⟩⟩⟩⟩⟩⟩⟩⟩⟩⟩⟩⟩⟩⟩⟩⟩⟩⟩⟩⟩⟩⟩⟩), (List.forall_mem_cons.mpr ⟨List.mem_of_getElem? (i := 91) rfl, fun _ h => absurd h List.not_mem_nil⟩)⟩)⟩)⟩), (fun _ h => List.mem_cons_of_mem _ (List.mem_append_left _ (List.mem_append_right _ h)))⟩), (fun _ h => List.mem_cons_of_mem _ (List.mem_append_right _ h))⟩)⟩) (by decide +kernel)
set_option maxRecDepth 20000 in
theorem gX5_on_X5_tryAsItIs : GoodIn wsX5_on (wsV RX5 137 RX5 yX5_tryAsItIs wsX5_tryAsItIs) := goodIn_app (goodIn_sub (List.forall_mem_cons.mpr ⟨List.mem_of_getElem? (i := 16) rfl, List.forall_mem_cons.mpr ⟨List.mem_of_getElem? (i := 17) rfl, List.forall_mem_cons.mpr ⟨List.mem_of_getElem? (i := 18) rfl, List.forall_mem_cons.mpr ⟨List.mem_of_getElem? (i := 8) rfl, fun _ h => absurd h List.not_mem_nil⟩⟩⟩⟩) (by decide +kernel)) ggX5_on_X5_tryAsItIs
theorem dX5_on_0 : decode cX5_on 0 = .ok (.iload_n 1, 1) := by decide +kernel
theorem dX5_on_1 : decode cX5_on 1 = .ok (.iconst 0, 1) := by decide +kernel
theorem dX5_on_2 : decode cX5_on 2 = .ok (.bipush 100, 2) := by decide +kernel
theorem dX5_on_4 : decode cX5_on 4 = .ok (.invokestatic 44, 3) := by decide +kernel
theorem dX5_on_7 : decode cX5_on 7 = .ok (.ifCond .eq 12, 3) := by decide +kernel
theorem dX5_on_10 : decode cX5_on 10 = .ok (.iload_n 2, 1) := by decide +kernel
theorem dX5_on_11 : decode cX5_on 11 = .ok (.iconst 0, 1) := by decide +kernel
theorem dX5_on_12 : decode cX5_on 12 = .ok (.iconst 3, 1) := by decide +kernel
theorem dX5_on_13 : decode cX5_on 13 = .ok (.invokestatic 44, 3) := by decide +kernel
theorem dX5_on_16 : decode cX5_on 16 = .ok (.ifCond .ne 9, 3) := by decide +kernel
theorem dX5_on_19 : decode cX5_on 19 = .ok (.aload_n 0, 1) := by decide +kernel
theorem dX5_on_20 : decode cX5_on 20 = .ok (.iconst 0, 1) := by decide +kernel
theorem dX5_on_21 : decode cX5_on 21 = .ok (.invokevirtual 48, 3) := by decide +kernel
theorem dX5_on_24 : decode cX5_on 24 = .ok (.ireturn, 1) := by decide +kernel
theorem dX5_on_25 : decode cX5_on 25 = .ok (.aload_n 0, 1) := by decide +kernel
theorem dX5_on_26 : decode cX5_on 26 = .ok (.iload_n 1, 1) := by decide +kernel
theorem dX5_on_27 : decode cX5_on 27 = .ok (.invokevirtual 137, 3) := by decide +kernel
theorem dX5_on_30 : decode cX5_on 30 = .ok (.iload_n 2, 1) := by decide +kernel
theorem dX5_on_31 : decode cX5_on 31 = .ok (.tableswitch 49 0 2 #[25, 33, 41], 25) := by decide +kernel
theorem dX5_on_56 : decode cX5_on 56 = .ok (.aload_n 0, 1) := by decide +kernel
theorem dX5_on_57 : decode cX5_on 57 = .ok (.getfield 19, 3) := by decide +kernel
theorem dX5_on_60 : decode cX5_on 60 = .ok (.getfield 52, 3) := by decide +kernel
theorem dX5_on_63 : decode cX5_on 63 = .ok (.ireturn, 1) := by decide +kernel
theorem dX5_on_64 : decode cX5_on 64 = .ok (.aload_n 0, 1) := by decide +kernel
theorem dX5_on_65 : decode cX5_on 65 = .ok (.getfield 19, 3) := by decide +kernel
theorem dX5_on_68 : decode cX5_on 68 = .ok (.getfield 56, 3) := by decide +kernel
theorem dX5_on_71 : decode cX5_on 71 = .ok (.ireturn, 1) := by decide +kernel
theorem dX5_on_72 : decode cX5_on 72 = .ok (.aload_n 0, 1) := by decide +kernel
theorem dX5_on_73 : decode cX5_on 73 = .ok (.getfield 19, 3) := by decide +kernel
theorem dX5_on_76 : decode cX5_on 76 = .ok (.getfield 60, 3) := by decide +kernel
theorem dX5_on_79 : decode cX5_on 79 = .ok (.ireturn, 1) := by decide +kernel
theorem dX5_on_80 : decode cX5_on 80 = .ok (.aload_n 0, 1) := by decide +kernel
theorem dX5_on_81 : decode cX5_on 81 = .ok (.getfield 19, 3) := by decide +kernel
theorem dX5_on_84 : decode cX5_on 84 = .ok (.getfield 66, 3) := by decide +kernel
theorem dX5_on_87 : decode cX5_on 87 = .ok (.ireturn, 1) := by decide +kernel
set_option maxRecDepth 20000 in
theorem ggX5_then_X0_hasOne : GoodIn wsX5_then wsX0_hasOne := goodIn_sub (List.forall_mem_cons.mpr ⟨List.mem_of_getElem? (i := 9) rfl, (List.forall_mem_append.mpr ⟨(List.forall_mem_cons.mpr ⟨List.mem_of_getElem? (i := 10) rfl, fun _ h => absurd h List.not_mem_nil⟩), (fun _ h => List.mem_cons_of_mem _ (List.mem_append_right _ h))⟩)⟩) (by decide +kernel)
set_option maxRecDepth 20000 in
theorem gX5_then_X0_hasOne : GoodIn wsX5_then (wsV RX5 89 RX0 yX0_hasOne wsX0_hasOne) := goodIn_app (goodIn_sub (List.forall_mem_cons.mpr ⟨List.mem_of_getElem? (i := 5) rfl, List.forall_mem_cons.mpr ⟨List.mem_of_getElem? (i := 6) rfl, List.forall_mem_cons.mpr ⟨List.mem_of_getElem? (i := 7) rfl, List.forall_mem_cons.mpr ⟨List.mem_of_getElem? (i := 8) rfl, fun _ h => absurd h List.not_mem_nil⟩⟩⟩⟩) (by decide +kernel)) ggX5_then_X0_hasOne
set_option maxRecDepth 20000 in
theorem ggX5_then_X5_tell : GoodIn wsX5_then wsX5_tell := goodIn_sub (List.forall_mem_cons.mpr ⟨List.mem_of_getElem? (i := 15) rfl, (List.forall_mem_append.mpr ⟨(List.forall_mem_cons.mpr ⟨List.mem_of_getElem? (i := 16) rfl, List.forall_mem_cons.mpr ⟨List.mem_of_getElem? (i := 17) rfl, List.forall_mem_cons.mpr ⟨List.mem_of_getElem? (i := 18) rfl, List.forall_mem_cons.mpr ⟨List.mem_of_getElem? (i := 19) rfl, List.forall_mem_cons.mpr ⟨List.mem_of_getElem? (i := 14) rfl, List.forall_mem_cons.mpr ⟨List.mem_of_getElem? (i := 20) rfl, fun _ h => absurd h List.not_mem_nil⟩⟩⟩⟩⟩⟩), (fun _ h => List.mem_cons_of_mem _ (List.mem_append_left _ (List.mem_append_right _ h)))⟩)⟩) (by decide +kernel)
set_option maxRecDepth 20000 in
theorem gX5_then_X5_tell : GoodIn wsX5_then (wsV RX5 48 RX5 yX5_tell wsX5_tell) := goodIn_app (goodIn_sub (List.forall_mem_cons.mpr ⟨List.mem_of_getElem? (i := 11) rfl, List.forall_mem_cons.mpr ⟨List.mem_of_getElem? (i := 12) rfl, List.forall_mem_cons.mpr ⟨List.mem_of_getElem? (i := 13) rfl, List.forall_mem_cons.mpr ⟨List.mem_of_getElem? (i := 14) rfl, fun _ h => absurd h List.not_mem_nil⟩⟩⟩⟩) (by decide +kernel)) ggX5_then_X5_tell
set_option maxRecDepth 20000 in
theorem ggX5_then_X5_isWithin : GoodIn wsX5_then wsX5_isWithin := goodIn_sub (List.forall_mem_cons.mpr ⟨List.mem_of_getElem? (i := 20) rfl, (fun _ h => absurd h List.not_mem_nil)⟩) (by decide +kernel)
set_option maxRecDepth 20000 in
theorem gX5_then_X5_isWithin : GoodIn wsX5_then (va_wsS RX5 44 yX5_isWithin wsX5_isWithin) := goodIn_app (goodIn_sub (List.forall_mem_cons.mpr ⟨List.mem_of_getElem? (i := 18) rfl, List.forall_mem_cons.mpr ⟨List.mem_of_getElem? (i := 19) rfl, List.forall_mem_cons.mpr ⟨List.mem_of_getElem? (i := 14) rfl, fun _ h => absurd h List.not_mem_nil⟩⟩⟩) (by decide +kernel)) ggX5_then_X5_isWithin
set_option maxRecDepth 20000 in
theorem ggX5_then_X5_tryAsItIs : GoodIn wsX5_then wsX5_tryAsItIs := goodIn_sub (List.forall_mem_cons.mpr ⟨List.mem_of_getElem? (i := 24) rfl, (List.forall_mem_append.mpr ⟨(List.forall_mem_append.mpr ⟨(List.forall_mem_append.mpr ⟨(List.forall_mem_cons.mpr ⟨List.mem_of_getElem? (i := 2) rfl, List.forall_mem_cons.mpr ⟨List.mem_of_getElem? (i := 1) rfl, List.forall_mem_cons.mpr ⟨List.mem_of_getElem? (i := 25) rfl, List.forall_mem_cons.mpr ⟨List.mem_of_getElem? (i := 26) rfl, List.forall_mem_cons.mpr ⟨List.mem_of_getElem? (i := 27) rfl, List.forall_mem_cons.mpr ⟨List.mem_of_getElem? (i := 8) rfl, List.forall_mem_cons.mpr ⟨List.mem_of_getElem? (i := 28) rfl, List.forall_mem_cons.mpr ⟨List.mem_of_getElem? (i := 29) rfl, List.forall_mem_cons.mpr ⟨List.mem_of_getElem? (i := 30) rfl, List.forall_mem_cons.mpr ⟨List.mem_of_getElem? (i := 31) rfl, List.forall_mem_cons.mpr ⟨List.mem_of_getElem? (i := 32) rfl, List.forall_mem_cons.mpr ⟨List.mem_of_getElem? (i := 33) rfl, List.forall_mem_cons.mpr ⟨List.mem_of_getElem? (i := 10) rfl, List.forall_mem_cons.mpr ⟨List.mem_of_getElem? (i := 34) rfl, List.forall_mem_cons.mpr ⟨List.mem_of_getElem? (i := 35) rfl, List.forall_mem_cons.mpr ⟨List.mem_of_getElem? (i := 36) rfl, List.forall_mem_cons.mpr ⟨List.mem_of_getElem? (i := 37) rfl, List.forall_mem_cons.mpr ⟨List.mem_of_getElem? (i := 38) rfl, List.forall_mem_cons.mpr ⟨List.mem_of_getElem? (i := 39) rfl, List.forall_mem_cons.mpr ⟨List.mem_of_getElem? (i := 40) rfl, List.forall_mem_cons.mpr ⟨List.mem_of_getElem? (i := 41) rfl, List.forall_mem_cons.mpr ⟨List.mem_of_getElem? (i := 42) rfl, List.forall_mem_cons.mpr ⟨List.mem_of_getElem? (i := 43) rfl, List.forall_mem_cons.mpr ⟨List.mem_of_getElem? (i := 44) rfl, fun _ h => absurd h List.not_mem_nil⟩⟩⟩⟩⟩⟩⟩⟩⟩⟩⟩⟩⟩⟩⟩⟩⟩⟩⟩⟩⟩⟩⟩⟩), (List.forall_mem_append.mpr ⟨(List.forall_mem_cons.mpr ⟨List.mem_of_getElem? (i := 45) rfl, List.forall_mem_cons.mpr ⟨List.mem_of_getElem? (i := 46) rfl, List.forall_mem_cons.mpr ⟨List.mem_of_getElem? (i := 47) rfl, List.forall_mem_cons.mpr ⟨List.mem_of_getElem? (i := 48) rfl, List.forall_mem_cons.mpr ⟨List.mem_of_getElem? (i := 49) rfl, List.forall_mem_cons.mpr ⟨List.mem_of_getElem? (i := 50) rfl, List.forall_mem_cons.mpr ⟨List.mem_of_getElem? (i := 51) rfl, List.forall_mem_cons.mpr ⟨List.mem_of_getElem? (i := 52) rfl, List.forall_mem_cons.mpr ⟨List.mem_of_getElem? (i := 53) rfl, List.forall_mem_cons.mpr ⟨List.mem_of_getElem? (i := 54) rfl, List.forall_mem_cons.mpr ⟨List.mem_of_getElem? (i := 55) rfl, List.forall_mem_cons.mpr ⟨List.mem_of_getElem? (i := 6) rfl, List.forall_mem_cons.mpr ⟨List.mem_of_getElem? (i := 7) rfl, List.forall_mem_cons.mpr ⟨List.mem_of_getElem? (i := 9) rfl, List.forall_mem_cons.mpr ⟨List.mem_of_getElem? (i := 56) rfl, List.forall_mem_cons.mpr ⟨List.mem_of_getElem? (i := 57) rfl, List.forall_mem_cons.mpr ⟨List.mem_of_getElem? (i := 58) rfl, List.forall_mem_cons.mpr ⟨List.mem_of_getElem? (i := 59) rfl, List.forall_mem_cons.mpr ⟨List.mem_of_getElem? (i := 60) rfl, List.forall_mem_cons.mpr ⟨List.mem_of_getElem? (i := 61) rfl, List.forall_mem_cons.mpr ⟨List.mem_of_getElem? (i := 62) rfl, List.forall_mem_cons.mpr ⟨List.mem_of_getElem? (i := 63) rfl, List.forall_mem_cons.mpr ⟨List.mem_of_getElem? (i := 64) rfl, List.forall_mem_cons.mpr ⟨List.mem_of_getElem? (i := 65) rfl, fun _ h => absurd h List.not_mem_nil⟩⟩⟩⟩⟩⟩⟩⟩⟩⟩⟩⟩⟩⟩⟩⟩⟩⟩⟩⟩⟩⟩⟩⟩), (List.forall_mem_append.mpr ⟨(List.forall_mem_cons.mpr ⟨List.mem_of_getElem? (i := 66) rfl, List.forall_mem_cons.mpr ⟨List.mem_of_getElem? (i := 67) rfl, List.forall_mem_cons.mpr ⟨List.mem_of_getElem? (i := 68) rfl, List.forall_mem_cons.mpr ⟨List.mem_of_getElem? (i := 69) rfl, List.forall_mem_cons.mpr ⟨List.mem_of_getElem? (i := 70) rfl, List.forall_mem_cons.mpr ⟨List.mem_of_getElem? (i := 71) rfl, List.forall_mem_cons.mpr ⟨List.mem_of_getElem? (i := 72) rfl, List.forall_mem_cons.mpr ⟨List.mem_of_getElem? (i := 73) rfl, List.forall_mem_cons.mpr ⟨List.mem_of_getElem? (i := 74) rfl, List.forall_mem_cons.mpr ⟨List.mem_of_getElem? (i := 75) rfl, List.forall_mem_cons.mpr ⟨List.mem_of_getElem? (i := 76) rfl, List.forall_mem_cons.mpr ⟨List.mem_of_getElem? (i := 77) rfl, List.forall_mem_cons.mpr ⟨List.mem_of_getElem? (i := 78) rfl, List.forall_mem_cons.mpr ⟨List.mem_of_getElem? (i := 79) rfl, List.forall_mem_cons.mpr ⟨List.mem_of_getElem? (i := 80) rfl, List.forall_mem_cons.mpr ⟨List.mem_of_getElem? (i := 81) rfl, List.forall_mem_cons.mpr ⟨List.mem_of_getElem? (i := 82) rfl, List.forall_mem_cons.mpr ⟨List.mem_of_getElem? (i := 83) rfl, List.forall_mem_cons.mpr ⟨List.mem_of_getElem? (i := 84) rfl, List.forall_mem_cons.mpr ⟨List.mem_of_getElem? (i := 85) rfl, List.forall_mem_cons.mpr ⟨List.mem_of_getElem? (i := 86) rfl, List.forall_mem_cons.mpr ⟨List.mem_of_getElem? (i := 87) rfl, List.forall_mem_cons.mpr ⟨List.mem_of_getElem? (i := 88) rfl, List.forall_mem_cons.mpr ⟨List.mem_of_getElem? (i := 89) rfl, fun _ h => absurd h List.not_mem_nil⟩⟩⟩⟩⟩⟩⟩⟩⟩⟩⟩⟩⟩⟩⟩⟩⟩⟩⟩⟩⟩⟩⟩⟩), (List.forall_mem_cons.mpr ⟨List.mem_of_getElem? (i := 90) rfl, fun _ h => absurd h List.not_mem_nil⟩)⟩)⟩)⟩), (fun _ h => List.mem_cons_of_mem _ (List.mem_append_left _ (List.mem_append_right _ h)))⟩), (fun _ h => List.mem_cons_of_mem _ (List.mem_append_right _ h))⟩)⟩) (by decide +kernel)
set_option maxRecDepth 20000 in
theorem gX5_then_X5_tryAsItIs : GoodIn wsX5_then (wsV RX5 137 RX5 yX5_tryAsItIs wsX5_tryAsItIs) := goodIn_app (goodIn_sub (List.forall_mem_cons.mpr ⟨List.mem_of_getElem? (i := 21) rfl, List.forall_mem_cons.mpr ⟨List.mem_of_getElem? (i := 22) rfl, List.forall_mem_cons.mpr ⟨List.mem_of_getElem? (i := 23) rfl, List.forall_mem_cons.mpr ⟨List.mem_of_getElem? (i := 14) rfl, fun _ h => absurd h List.not_mem_nil⟩⟩⟩⟩) (by decide +kernel)) ggX5_then_X5_tryAsItIs
theorem dX5_then_0 : decode cX5_then 0 = .ok (.aload_n 0, 1) := by decide +kernel
theorem dX5_then_1 : decode cX5_then 1 = .ok (.getfield 10, 3) := by decide +kernel
theorem dX5_then_4 : decode cX5_then 4 = .ok (.iload_n 1, 1) := by decide +kernel
theorem dX5_then_5 : decode cX5_then 5 = .ok (.invokevirtual 89, 3) := by decide +kernel
theorem dX5_then_8 : decode cX5_then 8 = .ok (.ifCond .ne 9, 3) := by decide +kernel
theorem dX5_then_11 : decode cX5_then 11 = .ok (.aload_n 0, 1) := by decide +kernel
theorem dX5_then_12 : decode cX5_then 12 = .ok (.iconst 0, 1) := by decide +kernel
theorem dX5_then_13 : decode cX5_then 13 = .ok (.invokevirtual 48, 3) := by decide +kernel
theorem dX5_then_16 : decode cX5_then 16 = .ok (.ireturn, 1) := by decide +kernel
theorem dX5_then_17 : decode cX5_then 17 = .ok (.iload_n 2, 1) := by decide +kernel
theorem dX5_then_18 : decode cX5_then 18 = .ok (.iconst 0, 1) := by decide +kernel
theorem dX5_then_19 : decode cX5_then 19 = .ok (.bipush 100, 2) := by decide +kernel
theorem dX5_then_21 : decode cX5_then 21 = .ok (.invokestatic 44, 3) := by decide +kernel
theorem dX5_then_24 : decode cX5_then 24 = .ok (.ifCond .eq 12, 3) := by decide +kernel
theorem dX5_then_27 : decode cX5_then 27 = .ok (.iload_n 3, 1) := by decide +kernel
theorem dX5_then_28 : decode cX5_then 28 = .ok (.iconst 0, 1) := by decide +kernel
theorem dX5_then_29 : decode cX5_then 29 = .ok (.iconst 1, 1) := by decide +kernel
theorem dX5_then_30 : decode cX5_then 30 = .ok (.invokestatic 44, 3) := by decide +kernel
theorem dX5_then_33 : decode cX5_then 33 = .ok (.ifCond .ne 9, 3) := by decide +kernel
theorem dX5_then_36 : decode cX5_then 36 = .ok (.aload_n 0, 1) := by decide +kernel
theorem dX5_then_37 : decode cX5_then 37 = .ok (.iconst 0, 1) := by decide +kernel
theorem dX5_then_38 : decode cX5_then 38 = .ok (.invokevirtual 48, 3) := by decide +kernel
theorem dX5_then_41 : decode cX5_then 41 = .ok (.ireturn, 1) := by decide +kernel
theorem dX5_then_42 : decode cX5_then 42 = .ok (.aload_n 0, 1) := by decide +kernel
theorem dX5_then_43 : decode cX5_then 43 = .ok (.iload_n 2, 1) := by decide +kernel
theorem dX5_then_44 : decode cX5_then 44 = .ok (.invokevirtual 137, 3) := by decide +kernel
theorem dX5_then_47 : decode cX5_then 47 = .ok (.iload_n 3, 1) := by decide +kernel
theorem dX5_then_48 : decode cX5_then 48 = .ok (.ifCond .ne 15, 3) := by decide +kernel
theorem dX5_then_51 : decode cX5_then 51 = .ok (.aload_n 0, 1) := by decide +kernel
theorem dX5_then_52 : decode cX5_then 52 = .ok (.getfield 19, 3) := by decide +kernel
theorem dX5_then_55 : decode cX5_then 55 = .ok (.getfield 101, 3) := by decide +kernel
theorem dX5_then_58 : decode cX5_then 58 = .ok (.iload_n 1, 1) := by decide +kernel
theorem dX5_then_59 : decode cX5_then 59 = .ok (.iaload, 1) := by decide +kernel
theorem dX5_then_60 : decode cX5_then 60 = .ok (.goto 12, 3) := by decide +kernel
theorem dX5_then_63 : decode cX5_then 63 = .ok (.aload_n 0, 1) := by decide +kernel
theorem dX5_then_64 : decode cX5_then 64 = .ok (.getfield 19, 3) := by decide +kernel
theorem dX5_then_67 : decode cX5_then 67 = .ok (.getfield 104, 3) := by decide +kernel
theorem dX5_then_70 : decode cX5_then 70 = .ok (.iload_n 1, 1) := by decide +kernel
theorem dX5_then_71 : decode cX5_then 71 = .ok (.iaload, 1) := by decide +kernel
theorem dX5_then_72 : decode cX5_then 72 = .ok (.ireturn, 1) := by decide +kernel
set_option maxRecDepth 20000 in
theorem ggX5_hunger_X0_become : GoodIn wsX5_hunger wsX0_become := goodIn_sub (List.forall_mem_cons.mpr ⟨List.mem_of_getElem? (i := 8) rfl, (List.forall_mem_append.mpr ⟨(List.forall_mem_cons.mpr ⟨List.mem_of_getElem? (i := 9) rfl, List.forall_mem_cons.mpr ⟨List.mem_of_getElem? (i := 10) rfl, List.forall_mem_cons.mpr ⟨List.mem_of_getElem? (i := 11) rfl, List.forall_mem_cons.mpr ⟨List.mem_of_getElem? (i := 12) rfl, List.forall_mem_cons.mpr ⟨List.mem_of_getElem? (i := 13) rfl, List.forall_mem_cons.mpr ⟨List.mem_of_getElem? (i := 14) rfl, List.forall_mem_cons.mpr ⟨List.mem_of_getElem? (i := 15) rfl, List.forall_mem_cons.mpr ⟨List.mem_of_getElem? (i := 16) rfl, List.forall_mem_cons.mpr ⟨List.mem_of_getElem? (i := 17) rfl, List.forall_mem_cons.mpr ⟨List.mem_of_getElem? (i := 18) rfl, List.forall_mem_cons.mpr ⟨List.mem_of_getElem? (i := 19) rfl, fun _ h => absurd h List.not_mem_nil⟩⟩⟩⟩⟩⟩⟩⟩⟩⟩⟩), (fun _ h => List.mem_cons_of_mem _ (List.mem_append_right _ h))⟩)⟩) (by decide +kernel)
set_option maxRecDepth 20000 in
theorem gX5_hunger_X0_become : GoodIn wsX5_hunger (wsV RX5 140 RX0 yX0_become wsX0_become) := goodIn_app (goodIn_sub (List.forall_mem_cons.mpr ⟨List.mem_of_getElem? (i := 4) rfl, List.forall_mem_cons.mpr ⟨List.mem_of_getElem? (i := 5) rfl, List.forall_mem_cons.mpr ⟨List.mem_of_getElem? (i := 6) rfl, List.forall_mem_cons.mpr ⟨List.mem_of_getElem? (i := 7) rfl, fun _ h => absurd h List.not_mem_nil⟩⟩⟩⟩) (by decide +kernel)) ggX5_hunger_X0_become
set_option maxRecDepth 20000 in
theorem ggX5_hunger_X0_goOneDay : GoodIn wsX5_hunger wsX0_goOneDay := goodIn_sub (List.forall_mem_cons.mpr ⟨List.mem_of_getElem? (i := 23) rfl, (List.forall_mem_append.mpr ⟨(List.forall_mem_append.mpr ⟨(List.forall_mem_cons.mpr ⟨List.mem_of_getElem? (i := 10) rfl, List.forall_mem_cons.mpr ⟨List.mem_of_getElem? (i := 11) rfl, List.forall_mem_cons.mpr ⟨List.mem_of_getElem? (i := 24) rfl, List.forall_mem_cons.mpr ⟨List.mem_of_getElem? (i := 25) rfl, List.forall_mem_cons.mpr ⟨List.mem_of_getElem? (i := 26) rfl, List.forall_mem_cons.mpr ⟨List.mem_of_getElem? (i := 27) rfl, List.forall_mem_cons.mpr ⟨List.mem_of_getElem? (i := 14) rfl, List.forall_mem_cons.mpr ⟨List.mem_of_getElem? (i := 18) rfl, List.forall_mem_cons.mpr ⟨List.mem_of_getElem? (i := 13) rfl, List.forall_mem_cons.mpr ⟨List.mem_of_getElem? (i := 9) rfl, List.forall_mem_cons.mpr ⟨List.mem_of_getElem? (i := 28) rfl, List.forall_mem_cons.mpr ⟨List.mem_of_getElem? (i := 29) rfl, List.forall_mem_cons.mpr ⟨List.mem_of_getElem? (i := 30) rfl, List.forall_mem_cons.mpr ⟨List.mem_of_getElem? (i := 7) rfl, List.forall_mem_cons.mpr ⟨List.mem_of_getElem? (i := 31) rfl, List.forall_mem_cons.mpr ⟨List.mem_of_getElem? (i := 15) rfl, List.forall_mem_cons.mpr ⟨List.mem_of_getElem? (i := 16) rfl, List.forall_mem_cons.mpr ⟨List.mem_of_getElem? (i := 12) rfl, List.forall_mem_cons.mpr ⟨List.mem_of_getElem? (i := 32) rfl, List.forall_mem_cons.mpr ⟨List.mem_of_getElem? (i := 33) rfl, List.forall_mem_cons.mpr ⟨List.mem_of_getElem? (i := 34) rfl, List.forall_mem_cons.mpr ⟨List.mem_of_getElem? (i := 35) rfl, List.forall_mem_cons.mpr ⟨List.mem_of_getElem? (i := 36) rfl, List.forall_mem_cons.mpr ⟨List.mem_of_getElem? (i := 37) rfl, fun _ h => absurd h List.not_mem_nil⟩⟩⟩⟩⟩⟩⟩⟩⟩⟩⟩⟩⟩⟩⟩⟩⟩⟩⟩⟩⟩⟩⟩⟩), (List.forall_mem_append.mpr ⟨(List.forall_mem_cons.mpr ⟨List.mem_of_getElem? (i := 38) rfl, List.forall_mem_cons.mpr ⟨List.mem_of_getElem? (i := 39) rfl, List.forall_mem_cons.mpr ⟨List.mem_of_getElem? (i := 40) rfl, List.forall_mem_cons.mpr ⟨List.mem_of_getElem? (i := 41) rfl, List.forall_mem_cons.mpr ⟨List.mem_of_getElem? (i := 42) rfl, List.forall_mem_cons.mpr ⟨List.mem_of_getElem? (i := 43) rfl, List.forall_mem_cons.mpr ⟨List.mem_of_getElem? (i := 44) rfl, List.forall_mem_cons.mpr ⟨List.mem_of_getElem? (i := 45) rfl, List.forall_mem_cons.mpr ⟨List.mem_of_getElem? (i := 46) rfl, List.forall_mem_cons.mpr ⟨List.mem_of_getElem? (i := 47) rfl, List.forall_mem_cons.mpr ⟨List.mem_of_getElem? (i := 48) rfl, List.forall_mem_cons.mpr ⟨List.mem_of_getElem? (i := 49) rfl, List.forall_mem_cons.mpr ⟨List.mem_of_getElem? (i := 17) rfl, List.forall_mem_cons.mpr ⟨List.mem_of_getElem? (i := 19) rfl, List.forall_mem_cons.mpr ⟨List.mem_of_getElem? (i := 50) rfl, List.forall_mem_cons.mpr ⟨List.mem_of_getElem? (i := 51) rfl, List.forall_mem_cons.mpr ⟨List.mem_of_getElem? (i := 52) rfl, List.forall_mem_cons.mpr ⟨List.mem_of_getElem? (i := 53) rfl, List.forall_mem_cons.mpr ⟨List.mem_of_getElem? (i := 54) rfl, List.forall_mem_cons.mpr ⟨List.mem_of_getElem? (i := 55) rfl, List.forall_mem_cons.mpr ⟨List.mem_of_getElem? (i := 56) rfl, List.forall_mem_cons.mpr ⟨List.mem_of_getElem? (i := 57) rfl, List.forall_mem_cons.mpr ⟨List.mem_of_getElem? (i := 58) rfl, List.forall_mem_cons.mpr ⟨List.mem_of_getElem? (i := 59) rfl, fun _ h => absurd h List.not_mem_nil⟩⟩⟩⟩⟩⟩⟩⟩⟩⟩⟩⟩⟩⟩⟩⟩⟩⟩⟩⟩⟩⟩⟩⟩), (List.forall_mem_cons.mpr ⟨List.mem_of_getElem? (i := 60) rfl, List.forall_mem_cons.mpr ⟨List.mem_of_getElem? (i := 61) rfl, List.forall_mem_cons.mpr ⟨List.mem_of_getElem? (i := 62) rfl, List.forall_mem_cons.mpr ⟨List.mem_of_getElem? (i := 63) rfl, List.forall_mem_cons.mpr ⟨List.mem_of_getElem? (i := 64) rfl, List.forall_mem_cons.mpr ⟨List.mem_of_getElem? (i := 65) rfl, List.forall_mem_cons.mpr ⟨List.mem_of_getElem? (i := 66) rfl, List.forall_mem_cons.mpr ⟨List.mem_of_getElem? (i := 67) rfl, List.forall_mem_cons.mpr ⟨List.mem_of_getElem? (i := 68) rfl, List.forall_mem_cons.mpr ⟨List.mem_of_getElem? (i := 69) rfl, List.forall_mem_cons.mpr ⟨List.mem_of_getElem? (i := 70) rfl, fun _ h => absurd h List.not_mem_nil⟩⟩⟩⟩⟩⟩⟩⟩⟩⟩⟩)⟩)⟩), (fun _ h => List.mem_cons_of_mem _ (List.mem_append_right _ h))⟩)⟩) (by decide +kernel)
set_option maxRecDepth 20000 in
theorem gX5_hunger_X0_goOneDay : GoodIn wsX5_hunger (wsV RX5 144 RX0 yX0_goOneDay wsX0_goOneDay) := goodIn_app (goodIn_sub (List.forall_mem_cons.mpr ⟨List.mem_of_getElem? (i := 20) rfl, List.forall_mem_cons.mpr ⟨List.mem_of_getElem? (i := 21) rfl, List.forall_mem_cons.mpr ⟨List.mem_of_getElem? (i := 22) rfl, List.forall_mem_cons.mpr ⟨List.mem_of_getElem? (i := 7) rfl, fun _ h => absurd h List.not_mem_nil⟩⟩⟩⟩) (by decide +kernel)) ggX5_hunger_X0_goOneDay
set_option maxRecDepth 20000 in
theorem ggX5_hunger_X5_tell : GoodIn wsX5_hunger wsX5_tell := goodIn_sub (List.forall_mem_cons.mpr ⟨List.mem_of_getElem? (i := 75) rfl, (List.forall_mem_append.mpr ⟨(List.forall_mem_cons.mpr ⟨List.mem_of_getElem? (i := 76) rfl, List.forall_mem_cons.mpr ⟨List.mem_of_getElem? (i := 77) rfl, List.forall_mem_cons.mpr ⟨List.mem_of_getElem? (i := 78) rfl, List.forall_mem_cons.mpr ⟨List.mem_of_getElem? (i := 79) rfl, List.forall_mem_cons.mpr ⟨List.mem_of_getElem? (i := 74) rfl, List.forall_mem_cons.mpr ⟨List.mem_of_getElem? (i := 80) rfl, fun _ h => absurd h List.not_mem_nil⟩⟩⟩⟩⟩⟩), (fun _ h => List.mem_cons_of_mem _ (List.mem_append_left _ (List.mem_append_right _ h)))⟩)⟩) (by decide +kernel)
set_option maxRecDepth 20000 in
theorem gX5_hunger_X5_tell : GoodIn wsX5_hunger (wsV RX5 48 RX5 yX5_tell wsX5_tell) := goodIn_app (goodIn_sub (List.forall_mem_cons.mpr ⟨List.mem_of_getElem? (i := 71) rfl, List.forall_mem_cons.mpr ⟨List.mem_of_getElem? (i := 72) rfl, List.forall_mem_cons.mpr ⟨List.mem_of_getElem? (i := 73) rfl, List.forall_mem_cons.mpr ⟨List.mem_of_getElem? (i := 74) rfl, fun _ h => absurd h List.not_mem_nil⟩⟩⟩⟩) (by decide +kernel)) ggX5_hunger_X5_tell
theorem dX5_hunger_0 : decode cX5_hunger 0 = .ok (.aload_n 0, 1) := by decide +kernel
theorem dX5_hunger_1 : decode cX5_hunger 1 = .ok (.getfield 19, 3) := by decide +kernel
theorem dX5_hunger_4 : decode cX5_hunger 4 = .ok (.aload_n 0, 1) := by decide +kernel
theorem dX5_hunger_5 : decode cX5_hunger 5 = .ok (.getfield 10, 3) := by decide +kernel
theorem dX5_hunger_8 : decode cX5_hunger 8 = .ok (.invokevirtual 140, 3) := by decide +kernel
theorem dX5_hunger_11 : decode cX5_hunger 11 = .ok (.iconst 1, 1) := by decide +kernel
theorem dX5_hunger_12 : decode cX5_hunger 12 = .ok (.istore_n 1, 1) := by decide +kernel
theorem dX5_hunger_13 : decode cX5_hunger 13 = .ok (.iload_n 1, 1) := by decide +kernel
theorem dX5_hunger_14 : decode cX5_hunger 14 = .ok (.bipush 100, 2) := by decide +kernel
theorem dX5_hunger_16 : decode cX5_hunger 16 = .ok (.if_icmp .gt 35, 3) := by decide +kernel
theorem dX5_hunger_19 : decode cX5_hunger 19 = .ok (.aload_n 0, 1) := by decide +kernel
theorem dX5_hunger_20 : decode cX5_hunger 20 = .ok (.getfield 19, 3) := by decide +kernel
theorem dX5_hunger_23 : decode cX5_hunger 23 = .ok (.invokevirtual 144, 3) := by decide +kernel
theorem dX5_hunger_26 : decode cX5_hunger 26 = .ok (.aload_n 0, 1) := by decide +kernel
theorem dX5_hunger_27 : decode cX5_hunger 27 = .ok (.getfield 19, 3) := by decide +kernel
theorem dX5_hunger_30 : decode cX5_hunger 30 = .ok (.getfield 66, 3) := by decide +kernel
theorem dX5_hunger_33 : decode cX5_hunger 33 = .ok (.aload_n 0, 1) := by decide +kernel
theorem dX5_hunger_34 : decode cX5_hunger 34 = .ok (.getfield 10, 3) := by decide +kernel
theorem dX5_hunger_37 : decode cX5_hunger 37 = .ok (.getfield 66, 3) := by decide +kernel
theorem dX5_hunger_40 : decode cX5_hunger 40 = .ok (.if_icmp .le 5, 3) := by decide +kernel
theorem dX5_hunger_43 : decode cX5_hunger 43 = .ok (.iload_n 1, 1) := by decide +kernel
theorem dX5_hunger_44 : decode cX5_hunger 44 = .ok (.ireturn, 1) := by decide +kernel
theorem dX5_hunger_45 : decode cX5_hunger 45 = .ok (.iinc 1 1, 3) := by decide +kernel
theorem dX5_hunger_48 : decode cX5_hunger 48 = .ok (.goto (-35), 3) := by decide +kernel
theorem dX5_hunger_51 : decode cX5_hunger 51 = .ok (.aload_n 0, 1) := by decide +kernel
theorem dX5_hunger_52 : decode cX5_hunger 52 = .ok (.iconst 3, 1) := by decide +kernel
theorem dX5_hunger_53 : decode cX5_hunger 53 = .ok (.invokevirtual 48, 3) := by decide +kernel
theorem dX5_hunger_56 : decode cX5_hunger 56 = .ok (.ireturn, 1) := by decide +kernel
set_option maxRecDepth 20000 in
theorem ggX5_comes_X5_isWithin : GoodIn wsX5_comes wsX5_isWithin := goodIn_sub (List.forall_mem_cons.mpr ⟨List.mem_of_getElem? (i := 8) rfl, (fun _ h => absurd h List.not_mem_nil)⟩) (by decide +kernel)
set_option maxRecDepth 20000 in
theorem gX5_comes_X5_isWithin : GoodIn wsX5_comes (va_wsS RX5 44 yX5_isWithin wsX5_isWithin) := goodIn_app (goodIn_sub (List.forall_mem_cons.mpr ⟨List.mem_of_getElem? (i := 5) rfl, List.forall_mem_cons.mpr ⟨List.mem_of_getElem? (i := 6) rfl, List.forall_mem_cons.mpr ⟨List.mem_of_getElem? (i := 7) rfl, fun _ h => absurd h List.not_mem_nil⟩⟩⟩) (by decide +kernel)) ggX5_comes_X5_isWithin
set_option maxRecDepth 20000 in
theorem ggX5_comes_X5_tell : GoodIn wsX5_comes wsX5_tell := goodIn_sub (List.forall_mem_cons.mpr ⟨List.mem_of_getElem? (i := 12) rfl, (List.forall_mem_append.mpr ⟨(List.forall_mem_cons.mpr ⟨List.mem_of_getElem? (i := 13) rfl, List.forall_mem_cons.mpr ⟨List.mem_of_getElem? (i := 14) rfl, List.forall_mem_cons.mpr ⟨List.mem_of_getElem? (i := 5) rfl, List.forall_mem_cons.mpr ⟨List.mem_of_getElem? (i := 6) rfl, List.forall_mem_cons.mpr ⟨List.mem_of_getElem? (i := 7) rfl, List.forall_mem_cons.mpr ⟨List.mem_of_getElem? (i := 8) rfl, fun _ h => absurd h List.not_mem_nil⟩⟩⟩⟩⟩⟩), (fun _ h => List.mem_cons_of_mem _ (List.mem_append_left _ (List.mem_append_right _ h)))⟩)⟩) (by decide +kernel)
set_option maxRecDepth 20000 in
theorem gX5_comes_X5_tell : GoodIn wsX5_comes (wsV RX5 48 RX5 yX5_tell wsX5_tell) := goodIn_app (goodIn_sub (List.forall_mem_cons.mpr ⟨List.mem_of_getElem? (i := 9) rfl, List.forall_mem_cons.mpr ⟨List.mem_of_getElem? (i := 10) rfl, List.forall_mem_cons.mpr ⟨List.mem_of_getElem? (i := 11) rfl, List.forall_mem_cons.mpr ⟨List.mem_of_getElem? (i := 7) rfl, fun _ h => absurd h List.not_mem_nil⟩⟩⟩⟩) (by decide +kernel)) ggX5_comes_X5_tell
set_option maxRecDepth 20000 in
theorem ggX5_comes_X0_become : GoodIn wsX5_comes wsX0_become := goodIn_sub (List.forall_mem_cons.mpr ⟨List.mem_of_getElem? (i := 19) rfl, (List.forall_mem_append.mpr ⟨(List.forall_mem_cons.mpr ⟨List.mem_of_getElem? (i := 20) rfl, List.forall_mem_cons.mpr ⟨List.mem_of_getElem? (i := 21) rfl, List.forall_mem_cons.mpr ⟨List.mem_of_getElem? (i := 22) rfl, List.forall_mem_cons.mpr ⟨List.mem_of_getElem? (i := 23) rfl, List.forall_mem_cons.mpr ⟨List.mem_of_getElem? (i := 24) rfl, List.forall_mem_cons.mpr ⟨List.mem_of_getElem? (i := 25) rfl, List.forall_mem_cons.mpr ⟨List.mem_of_getElem? (i := 26) rfl, List.forall_mem_cons.mpr ⟨List.mem_of_getElem? (i := 27) rfl, List.forall_mem_cons.mpr ⟨List.mem_of_getElem? (i := 28) rfl, List.forall_mem_cons.mpr ⟨List.mem_of_getElem? (i := 29) rfl, List.forall_mem_cons.mpr ⟨List.mem_of_getElem? (i := 30) rfl, fun _ h => absurd h List.not_mem_nil⟩⟩⟩⟩⟩⟩⟩⟩⟩⟩⟩), (fun _ h => List.mem_cons_of_mem _ (List.mem_append_right _ h))⟩)⟩) (by decide +kernel)
set_option maxRecDepth 20000 in
theorem gX5_comes_X0_become : GoodIn wsX5_comes (wsV RX5 140 RX0 yX0_become wsX0_become) := goodIn_app (goodIn_sub (List.forall_mem_cons.mpr ⟨List.mem_of_getElem? (i := 15) rfl, List.forall_mem_cons.mpr ⟨List.mem_of_getElem? (i := 16) rfl, List.forall_mem_cons.mpr ⟨List.mem_of_getElem? (i := 17) rfl, List.forall_mem_cons.mpr ⟨List.mem_of_getElem? (i := 18) rfl, fun _ h => absurd h List.not_mem_nil⟩⟩⟩⟩) (by decide +kernel)) ggX5_comes_X0_become
set_option maxRecDepth 20000 in
theorem ggX5_comes_X0_goOneDay : GoodIn wsX5_comes wsX0_goOneDay := goodIn_sub (List.forall_mem_cons.mpr ⟨List.mem_of_getElem? (i := 34) rfl, (List.forall_mem_append.mpr ⟨(List.forall_mem_append.mpr ⟨(List.forall_mem_cons.mpr ⟨List.mem_of_getElem? (i := 21) rfl, List.forall_mem_cons.mpr ⟨List.mem_of_getElem? (i := 22) rfl, List.forall_mem_cons.mpr ⟨List.mem_of_getElem? (i := 35) rfl, List.forall_mem_cons.mpr ⟨List.mem_of_getElem? (i := 36) rfl, List.forall_mem_cons.mpr ⟨List.mem_of_getElem? (i := 37) rfl, List.forall_mem_cons.mpr ⟨List.mem_of_getElem? (i := 38) rfl, List.forall_mem_cons.mpr ⟨List.mem_of_getElem? (i := 25) rfl, List.forall_mem_cons.mpr ⟨List.mem_of_getElem? (i := 29) rfl, List.forall_mem_cons.mpr ⟨List.mem_of_getElem? (i := 24) rfl, List.forall_mem_cons.mpr ⟨List.mem_of_getElem? (i := 20) rfl, List.forall_mem_cons.mpr ⟨List.mem_of_getElem? (i := 39) rfl, List.forall_mem_cons.mpr ⟨List.mem_of_getElem? (i := 40) rfl, List.forall_mem_cons.mpr ⟨List.mem_of_getElem? (i := 41) rfl, List.forall_mem_cons.mpr ⟨List.mem_of_getElem? (i := 18) rfl, List.forall_mem_cons.mpr ⟨List.mem_of_getElem? (i := 42) rfl, List.forall_mem_cons.mpr ⟨List.mem_of_getElem? (i := 26) rfl, List.forall_mem_cons.mpr ⟨List.mem_of_getElem? (i := 27) rfl, List.forall_mem_cons.mpr ⟨List.mem_of_getElem? (i := 23) rfl, List.forall_mem_cons.mpr ⟨List.mem_of_getElem? (i := 43) rfl, List.forall_mem_cons.mpr ⟨List.mem_of_getElem? (i := 44) rfl, List.forall_mem_cons.mpr ⟨List.mem_of_getElem? (i := 45) rfl, List.forall_mem_cons.mpr ⟨List.mem_of_getElem? (i := 46) rfl, List.forall_mem_cons.mpr ⟨List.mem_of_getElem? (i := 47) rfl, List.forall_mem_cons.mpr ⟨List.mem_of_getElem? (i := 48) rfl, fun _ h => absurd h List.not_mem_nil⟩⟩⟩⟩⟩⟩⟩⟩⟩⟩⟩⟩⟩⟩⟩⟩⟩⟩⟩⟩⟩⟩⟩⟩), (List.forall_mem_append.mpr ⟨(List.forall_mem_cons.mpr ⟨List.mem_of_getElem? (i := 49) rfl, List.forall_mem_cons.mpr ⟨List.mem_of_getElem? (i := 50) rfl, List.forall_mem_cons.mpr ⟨List.mem_of_getElem? (i := 51) rfl, List.forall_mem_cons.mpr ⟨List.mem_of_getElem? (i := 52) rfl, List.forall_mem_cons.mpr ⟨List.mem_of_getElem? (i := 53) rfl, List.forall_mem_cons.mpr ⟨List.mem_of_getElem? (i := 54) rfl, List.forall_mem_cons.mpr ⟨List.mem_of_getElem? (i := 55) rfl, List.forall_mem_cons.mpr ⟨List.mem_of_getElem? (i := 56) rfl, List.forall_mem_cons.mpr ⟨List.mem_of_getElem? (i := 57) rfl, List.forall_mem_cons.mpr ⟨List.mem_of_getElem? (i := 58) rfl, List.forall_mem_cons.mpr ⟨List.mem_of_getElem? (i := 59) rfl, List.forall_mem_cons.mpr ⟨List.mem_of_getElem? (i := 60) rfl, List.forall_mem_cons.mpr ⟨List.mem_of_getElem? (i := 28) rfl, List.forall_mem_cons.mpr ⟨List.mem_of_getElem? (i := 30) rfl, List.forall_mem_cons.mpr ⟨List.mem_of_getElem? (i := 61) rfl, List.forall_mem_cons.mpr ⟨List.mem_of_getElem? (i := 62) rfl, List.forall_mem_cons.mpr ⟨List.mem_of_getElem? (i := 63) rfl, List.forall_mem_cons.mpr ⟨List.mem_of_getElem? (i := 64) rfl, List.forall_mem_cons.mpr ⟨List.mem_of_getElem? (i := 65) rfl, List.forall_mem_cons.mpr ⟨List.mem_of_getElem? (i := 66) rfl, List.forall_mem_cons.mpr ⟨List.mem_of_getElem? (i := 67) rfl, List.forall_mem_cons.mpr ⟨List.mem_of_getElem? (i := 68) rfl, List.forall_mem_cons.mpr ⟨List.mem_of_getElem? (i := 69) rfl, List.forall_mem_cons.mpr ⟨List.mem_of_getElem? (i := 70) rfl, fun _ h => absurd h List.not_mem_nil⟩⟩⟩⟩⟩⟩⟩⟩⟩⟩⟩⟩⟩⟩⟩⟩⟩⟩⟩⟩⟩⟩⟩⟩), (List.forall_mem_cons.mpr ⟨List.mem_of_getElem? (i := 71) rfl, List.forall_mem_cons.mpr ⟨List.mem_of_getElem? (i := 72) rfl, List.forall_mem_cons.mpr ⟨List.mem_of_getElem? (i := 73) rfl, List.forall_mem_cons.mpr ⟨List.mem_of_getElem? (i := 74) rfl, List.forall_mem_cons.mpr ⟨List.mem_of_getElem? (i := 75) rfl, List.forall_mem_cons.mpr ⟨List.mem_of_getElem? (i := 76) rfl, List.forall_mem_cons.mpr ⟨List.mem_of_getElem? (i := 77) rfl, List.forall_mem_cons.mpr ⟨List.mem_of_getElem? (i := 78) rfl, List.forall_mem_cons.mpr ⟨List.mem_of_getElem? (i := 79) rfl, List.forall_mem_cons.mpr ⟨List.mem_of_getElem? (i := 80) rfl, List.forall_mem_cons.mpr ⟨List.mem_of_getElem? (i := 81) rfl, fun _ h => absurd h List.not_mem_nil⟩⟩⟩⟩⟩⟩⟩⟩⟩⟩⟩)⟩)⟩), (fun _ h => List.mem_cons_of_mem _ (List.mem_append_right _ h))⟩)⟩) (by decide +kernel)
set_option maxRecDepth 20000 in
theorem gX5_comes_X0_goOneDay : GoodIn wsX5_comes (wsV RX5 144 RX0 yX0_goOneDay wsX0_goOneDay) := goodIn_app (goodIn_sub (List.forall_mem_cons.mpr ⟨List.mem_of_getElem? (i := 31) rfl, List.forall_mem_cons.mpr ⟨List.mem_of_getElem? (i := 32) rfl, List.forall_mem_cons.mpr ⟨List.mem_of_getElem? (i := 33) rfl, List.forall_mem_cons.mpr ⟨List.mem_of_getElem? (i := 18) rfl, fun _ h => absurd h List.not_mem_nil⟩⟩⟩⟩) (by decide +kernel)) ggX5_comes_X0_goOneDay
theorem dX5_comes_0 : decode cX5_comes 0 = .ok (.iload_n 1, 1) := by decide +kernel
theorem dX5_comes_1 : decode cX5_comes 1 = .ok (.iconst 0, 1) := by decide +kernel
theorem dX5_comes_2 : decode cX5_comes 2 = .ok (.ldc 59, 2) := by decide +kernel
theorem dX5_comes_4 : decode cX5_comes 4 = .ok (.invokestatic 44, 3) := by decide +kernel
theorem dX5_comes_7 : decode cX5_comes 7 = .ok (.ifCond .ne 9, 3) := by decide +kernel
theorem dX5_comes_10 : decode cX5_comes 10 = .ok (.aload_n 0, 1) := by decide +kernel
theorem dX5_comes_11 : decode cX5_comes 11 = .ok (.iconst 0, 1) := by decide +kernel
theorem dX5_comes_12 : decode cX5_comes 12 = .ok (.invokevirtual 48, 3) := by decide +kernel
theorem dX5_comes_15 : decode cX5_comes 15 = .ok (.ireturn, 1) := by decide +kernel
theorem dX5_comes_16 : decode cX5_comes 16 = .ok (.aload_n 0, 1) := by decide +kernel
theorem dX5_comes_17 : decode cX5_comes 17 = .ok (.getfield 19, 3) := by decide +kernel
theorem dX5_comes_20 : decode cX5_comes 20 = .ok (.aload_n 0, 1) := by decide +kernel
theorem dX5_comes_21 : decode cX5_comes 21 = .ok (.getfield 10, 3) := by decide +kernel
theorem dX5_comes_24 : decode cX5_comes 24 = .ok (.invokevirtual 140, 3) := by decide +kernel
theorem dX5_comes_27 : decode cX5_comes 27 = .ok (.iconst 0, 1) := by decide +kernel
theorem dX5_comes_28 : decode cX5_comes 28 = .ok (.istore_n 2, 1) := by decide +kernel
theorem dX5_comes_29 : decode cX5_comes 29 = .ok (.iload_n 2, 1) := by decide +kernel
theorem dX5_comes_30 : decode cX5_comes 30 = .ok (.bipush 100, 2) := by decide +kernel
theorem dX5_comes_32 : decode cX5_comes 32 = .ok (.if_icmp .gt 29, 3) := by decide +kernel
theorem dX5_comes_35 : decode cX5_comes 35 = .ok (.aload_n 0, 1) := by decide +kernel
theorem dX5_comes_36 : decode cX5_comes 36 = .ok (.getfield 19, 3) := by decide +kernel
theorem dX5_comes_39 : decode cX5_comes 39 = .ok (.getfield 60, 3) := by decide +kernel
theorem dX5_comes_42 : decode cX5_comes 42 = .ok (.iload_n 1, 1) := by decide +kernel
theorem dX5_comes_43 : decode cX5_comes 43 = .ok (.if_icmp .lt 5, 3) := by decide +kernel
theorem dX5_comes_46 : decode cX5_comes 46 = .ok (.iload_n 2, 1) := by decide +kernel
theorem dX5_comes_47 : decode cX5_comes 47 = .ok (.ireturn, 1) := by decide +kernel
theorem dX5_comes_48 : decode cX5_comes 48 = .ok (.aload_n 0, 1) := by decide +kernel
theorem dX5_comes_49 : decode cX5_comes 49 = .ok (.getfield 19, 3) := by decide +kernel
theorem dX5_comes_52 : decode cX5_comes 52 = .ok (.invokevirtual 144, 3) := by decide +kernel
theorem dX5_comes_55 : decode cX5_comes 55 = .ok (.iinc 2 1, 3) := by decide +kernel
theorem dX5_comes_58 : decode cX5_comes 58 = .ok (.goto (-29), 3) := by decide +kernel
theorem dX5_comes_61 : decode cX5_comes 61 = .ok (.aload_n 0, 1) := by decide +kernel
theorem dX5_comes_62 : decode cX5_comes 62 = .ok (.iconst 3, 1) := by decide +kernel
theorem dX5_comes_63 : decode cX5_comes 63 = .ok (.invokevirtual 48, 3) := by decide +kernel
theorem dX5_comes_66 : decode cX5_comes 66 = .ok (.ireturn, 1) := by decide +kernel
set_option maxRecDepth 20000 in
theorem ggX5_watched_X0_hasOne : GoodIn wsX5_watched wsX0_hasOne := goodIn_sub (List.forall_mem_cons.mpr ⟨List.mem_of_getElem? (i := 8) rfl, (List.forall_mem_append.mpr ⟨(List.forall_mem_cons.mpr ⟨List.mem_of_getElem? (i := 9) rfl, fun _ h => absurd h List.not_mem_nil⟩), (fun _ h => List.mem_cons_of_mem _ (List.mem_append_right _ h))⟩)⟩) (by decide +kernel)
set_option maxRecDepth 20000 in
theorem gX5_watched_X0_hasOne : GoodIn wsX5_watched (wsV RX5 89 RX0 yX0_hasOne wsX0_hasOne) := goodIn_app (goodIn_sub (List.forall_mem_cons.mpr ⟨List.mem_of_getElem? (i := 4) rfl, List.forall_mem_cons.mpr ⟨List.mem_of_getElem? (i := 5) rfl, List.forall_mem_cons.mpr ⟨List.mem_of_getElem? (i := 6) rfl, List.forall_mem_cons.mpr ⟨List.mem_of_getElem? (i := 7) rfl, fun _ h => absurd h List.not_mem_nil⟩⟩⟩⟩) (by decide +kernel)) ggX5_watched_X0_hasOne
set_option maxRecDepth 20000 in
theorem ggX5_watched_X5_tell : GoodIn wsX5_watched wsX5_tell := goodIn_sub (List.forall_mem_cons.mpr ⟨List.mem_of_getElem? (i := 14) rfl, (List.forall_mem_append.mpr ⟨(List.forall_mem_cons.mpr ⟨List.mem_of_getElem? (i := 15) rfl, List.forall_mem_cons.mpr ⟨List.mem_of_getElem? (i := 16) rfl, List.forall_mem_cons.mpr ⟨List.mem_of_getElem? (i := 17) rfl, List.forall_mem_cons.mpr ⟨List.mem_of_getElem? (i := 18) rfl, List.forall_mem_cons.mpr ⟨List.mem_of_getElem? (i := 13) rfl, List.forall_mem_cons.mpr ⟨List.mem_of_getElem? (i := 19) rfl, fun _ h => absurd h List.not_mem_nil⟩⟩⟩⟩⟩⟩), (fun _ h => List.mem_cons_of_mem _ (List.mem_append_left _ (List.mem_append_right _ h)))⟩)⟩) (by decide +kernel)
set_option maxRecDepth 20000 in
theorem gX5_watched_X5_tell : GoodIn wsX5_watched (wsV RX5 48 RX5 yX5_tell wsX5_tell) := goodIn_app (goodIn_sub (List.forall_mem_cons.mpr ⟨List.mem_of_getElem? (i := 10) rfl, List.forall_mem_cons.mpr ⟨List.mem_of_getElem? (i := 11) rfl, List.forall_mem_cons.mpr ⟨List.mem_of_getElem? (i := 12) rfl, List.forall_mem_cons.mpr ⟨List.mem_of_getElem? (i := 13) rfl, fun _ h => absurd h List.not_mem_nil⟩⟩⟩⟩) (by decide +kernel)) ggX5_watched_X5_tell
set_option maxRecDepth 20000 in
theorem ggX5_watched_X0_become : GoodIn wsX5_watched wsX0_become := goodIn_sub (List.forall_mem_cons.mpr ⟨List.mem_of_getElem? (i := 23) rfl, (List.forall_mem_append.mpr ⟨(List.forall_mem_cons.mpr ⟨List.mem_of_getElem? (i := 24) rfl, List.forall_mem_cons.mpr ⟨List.mem_of_getElem? (i := 25) rfl, List.forall_mem_cons.mpr ⟨List.mem_of_getElem? (i := 26) rfl, List.forall_mem_cons.mpr ⟨List.mem_of_getElem? (i := 27) rfl, List.forall_mem_cons.mpr ⟨List.mem_of_getElem? (i := 28) rfl, List.forall_mem_cons.mpr ⟨List.mem_of_getElem? (i := 9) rfl, List.forall_mem_cons.mpr ⟨List.mem_of_getElem? (i := 29) rfl, List.forall_mem_cons.mpr ⟨List.mem_of_getElem? (i := 30) rfl, List.forall_mem_cons.mpr ⟨List.mem_of_getElem? (i := 31) rfl, List.forall_mem_cons.mpr ⟨List.mem_of_getElem? (i := 32) rfl, List.forall_mem_cons.mpr ⟨List.mem_of_getElem? (i := 33) rfl, fun _ h => absurd h List.not_mem_nil⟩⟩⟩⟩⟩⟩⟩⟩⟩⟩⟩), (fun _ h => List.mem_cons_of_mem _ (List.mem_append_right _ h))⟩)⟩) (by decide +kernel)
set_option maxRecDepth 20000 in
theorem gX5_watched_X0_become : GoodIn wsX5_watched (wsV RX5 140 RX0 yX0_become wsX0_become) := goodIn_app (goodIn_sub (List.forall_mem_cons.mpr ⟨List.mem_of_getElem? (i := 20) rfl, List.forall_mem_cons.mpr ⟨List.mem_of_getElem? (i := 21) rfl, List.forall_mem_cons.mpr ⟨List.mem_of_getElem? (i := 22) rfl, List.forall_mem_cons.mpr ⟨List.mem_of_getElem? (i := 7) rfl, fun _ h => absurd h List.not_mem_nil⟩⟩⟩⟩) (by decide +kernel)) ggX5_watched_X0_become
set_option maxRecDepth 20000 in
theorem ggX5_watched_X0_goOneDay : GoodIn wsX5_watched wsX0_goOneDay := goodIn_sub (List.forall_mem_cons.mpr ⟨List.mem_of_getElem? (i := 37) rfl, (List.forall_mem_append.mpr ⟨(List.forall_mem_append.mpr ⟨(List.forall_mem_cons.mpr ⟨List.mem_of_getElem? (i := 25) rfl, List.forall_mem_cons.mpr ⟨List.mem_of_getElem? (i := 26) rfl, List.forall_mem_cons.mpr ⟨List.mem_of_getElem? (i := 38) rfl, List.forall_mem_cons.mpr ⟨List.mem_of_getElem? (i := 39) rfl, List.forall_mem_cons.mpr ⟨List.mem_of_getElem? (i := 40) rfl, List.forall_mem_cons.mpr ⟨List.mem_of_getElem? (i := 41) rfl, List.forall_mem_cons.mpr ⟨List.mem_of_getElem? (i := 9) rfl, List.forall_mem_cons.mpr ⟨List.mem_of_getElem? (i := 32) rfl, List.forall_mem_cons.mpr ⟨List.mem_of_getElem? (i := 28) rfl, List.forall_mem_cons.mpr ⟨List.mem_of_getElem? (i := 24) rfl, List.forall_mem_cons.mpr ⟨List.mem_of_getElem? (i := 42) rfl, List.forall_mem_cons.mpr ⟨List.mem_of_getElem? (i := 43) rfl, List.forall_mem_cons.mpr ⟨List.mem_of_getElem? (i := 44) rfl, List.forall_mem_cons.mpr ⟨List.mem_of_getElem? (i := 7) rfl, List.forall_mem_cons.mpr ⟨List.mem_of_getElem? (i := 45) rfl, List.forall_mem_cons.mpr ⟨List.mem_of_getElem? (i := 29) rfl, List.forall_mem_cons.mpr ⟨List.mem_of_getElem? (i := 30) rfl, List.forall_mem_cons.mpr ⟨List.mem_of_getElem? (i := 27) rfl, List.forall_mem_cons.mpr ⟨List.mem_of_getElem? (i := 46) rfl, List.forall_mem_cons.mpr ⟨List.mem_of_getElem? (i := 5) rfl, List.forall_mem_cons.mpr ⟨List.mem_of_getElem? (i := 6) rfl, List.forall_mem_cons.mpr ⟨List.mem_of_getElem? (i := 8) rfl, List.forall_mem_cons.mpr ⟨List.mem_of_getElem? (i := 47) rfl, List.forall_mem_cons.mpr ⟨List.mem_of_getElem? (i := 48) rfl, fun _ h => absurd h List.not_mem_nil⟩⟩⟩⟩⟩⟩⟩⟩⟩⟩⟩⟩⟩⟩⟩⟩⟩⟩⟩⟩⟩⟩⟩⟩), (List.forall_mem_append.mpr ⟨(List.forall_mem_cons.mpr ⟨List.mem_of_getElem? (i := 49) rfl, List.forall_mem_cons.mpr ⟨List.mem_of_getElem? (i := 50) rfl, List.forall_mem_cons.mpr ⟨List.mem_of_getElem? (i := 51) rfl, List.forall_mem_cons.mpr ⟨List.mem_of_getElem? (i := 52) rfl, List.forall_mem_cons.mpr ⟨List.mem_of_getElem? (i := 53) rfl, List.forall_mem_cons.mpr ⟨List.mem_of_getElem? (i := 54) rfl, List.forall_mem_cons.mpr ⟨List.mem_of_getElem? (i := 55) rfl, List.forall_mem_cons.mpr ⟨List.mem_of_getElem? (i := 56) rfl, List.forall_mem_cons.mpr ⟨List.mem_of_getElem? (i := 57) rfl, List.forall_mem_cons.mpr ⟨List.mem_of_getElem? (i := 58) rfl, List.forall_mem_cons.mpr ⟨List.mem_of_getElem? (i := 59) rfl, List.forall_mem_cons.mpr ⟨List.mem_of_getElem? (i := 60) rfl, List.forall_mem_cons.mpr ⟨List.mem_of_getElem? (i := 31) rfl, List.forall_mem_cons.mpr ⟨List.mem_of_getElem? (i := 33) rfl, List.forall_mem_cons.mpr ⟨List.mem_of_getElem? (i := 61) rfl, List.forall_mem_cons.mpr ⟨List.mem_of_getElem? (i := 62) rfl, List.forall_mem_cons.mpr ⟨List.mem_of_getElem? (i := 63) rfl, List.forall_mem_cons.mpr ⟨List.mem_of_getElem? (i := 64) rfl, List.forall_mem_cons.mpr ⟨List.mem_of_getElem? (i := 65) rfl, List.forall_mem_cons.mpr ⟨List.mem_of_getElem? (i := 66) rfl, List.forall_mem_cons.mpr ⟨List.mem_of_getElem? (i := 67) rfl, List.forall_mem_cons.mpr ⟨List.mem_of_getElem? (i := 68) rfl, List.forall_mem_cons.mpr ⟨List.mem_of_getElem? (i := 69) rfl, List.forall_mem_cons.mpr ⟨List.mem_of_getElem? (i := 70) rfl, fun _ h => absurd h List.not_mem_nil⟩⟩⟩⟩⟩⟩⟩⟩⟩⟩⟩⟩⟩⟩⟩⟩⟩⟩⟩⟩⟩⟩⟩⟩), (List.forall_mem_cons.mpr ⟨List.mem_of_getElem? (i := 71) rfl, List.forall_mem_cons.mpr ⟨List.mem_of_getElem? (i := 72) rfl, List.forall_mem_cons.mpr ⟨List.mem_of_getElem? (i := 73) rfl, List.forall_mem_cons.mpr ⟨List.mem_of_getElem? (i := 74) rfl, List.forall_mem_cons.mpr ⟨List.mem_of_getElem? (i := 75) rfl, List.forall_mem_cons.mpr ⟨List.mem_of_getElem? (i := 76) rfl, List.forall_mem_cons.mpr ⟨List.mem_of_getElem? (i := 77) rfl, List.forall_mem_cons.mpr ⟨List.mem_of_getElem? (i := 78) rfl, List.forall_mem_cons.mpr ⟨List.mem_of_getElem? (i := 79) rfl, List.forall_mem_cons.mpr ⟨List.mem_of_getElem? (i := 80) rfl, List.forall_mem_cons.mpr ⟨List.mem_of_getElem? (i := 81) rfl, fun _ h => absurd h List.not_mem_nil⟩⟩⟩⟩⟩⟩⟩⟩⟩⟩⟩)⟩)⟩), (fun _ h => List.mem_cons_of_mem _ (List.mem_append_right _ h))⟩)⟩) (by decide +kernel)
set_option maxRecDepth 20000 in
theorem gX5_watched_X0_goOneDay : GoodIn wsX5_watched (wsV RX5 144 RX0 yX0_goOneDay wsX0_goOneDay) := goodIn_app (goodIn_sub (List.forall_mem_cons.mpr ⟨List.mem_of_getElem? (i := 34) rfl, List.forall_mem_cons.mpr ⟨List.mem_of_getElem? (i := 35) rfl, List.forall_mem_cons.mpr ⟨List.mem_of_getElem? (i := 36) rfl, List.forall_mem_cons.mpr ⟨List.mem_of_getElem? (i := 7) rfl, fun _ h => absurd h List.not_mem_nil⟩⟩⟩⟩) (by decide +kernel)) ggX5_watched_X0_goOneDay
theorem dX5_watched_0 : decode cX5_watched 0 = .ok (.aload_n 0, 1) := by decide +kernel
theorem dX5_watched_1 : decode cX5_watched 1 = .ok (.getfield 10, 3) := by decide +kernel
theorem dX5_watched_4 : decode cX5_watched 4 = .ok (.iload_n 1, 1) := by decide +kernel
theorem dX5_watched_5 : decode cX5_watched 5 = .ok (.invokevirtual 89, 3) := by decide +kernel
theorem dX5_watched_8 : decode cX5_watched 8 = .ok (.ifCond .ne 9, 3) := by decide +kernel
theorem dX5_watched_11 : decode cX5_watched 11 = .ok (.aload_n 0, 1) := by decide +kernel
theorem dX5_watched_12 : decode cX5_watched 12 = .ok (.iconst 0, 1) := by decide +kernel
theorem dX5_watched_13 : decode cX5_watched 13 = .ok (.invokevirtual 48, 3) := by decide +kernel
theorem dX5_watched_16 : decode cX5_watched 16 = .ok (.ireturn, 1) := by decide +kernel
theorem dX5_watched_17 : decode cX5_watched 17 = .ok (.aload_n 0, 1) := by decide +kernel
theorem dX5_watched_18 : decode cX5_watched 18 = .ok (.getfield 19, 3) := by decide +kernel
theorem dX5_watched_21 : decode cX5_watched 21 = .ok (.aload_n 0, 1) := by decide +kernel
theorem dX5_watched_22 : decode cX5_watched 22 = .ok (.getfield 10, 3) := by decide +kernel
theorem dX5_watched_25 : decode cX5_watched 25 = .ok (.invokevirtual 140, 3) := by decide +kernel
theorem dX5_watched_28 : decode cX5_watched 28 = .ok (.iconst 0, 1) := by decide +kernel
theorem dX5_watched_29 : decode cX5_watched 29 = .ok (.istore_n 2, 1) := by decide +kernel
theorem dX5_watched_30 : decode cX5_watched 30 = .ok (.iload_n 2, 1) := by decide +kernel
theorem dX5_watched_31 : decode cX5_watched 31 = .ok (.bipush 100, 2) := by decide +kernel
theorem dX5_watched_33 : decode cX5_watched 33 = .ok (.if_icmp .gt 30, 3) := by decide +kernel
theorem dX5_watched_36 : decode cX5_watched 36 = .ok (.aload_n 0, 1) := by decide +kernel
theorem dX5_watched_37 : decode cX5_watched 37 = .ok (.getfield 19, 3) := by decide +kernel
theorem dX5_watched_40 : decode cX5_watched 40 = .ok (.getfield 101, 3) := by decide +kernel
theorem dX5_watched_43 : decode cX5_watched 43 = .ok (.iload_n 1, 1) := by decide +kernel
theorem dX5_watched_44 : decode cX5_watched 44 = .ok (.iaload, 1) := by decide +kernel
theorem dX5_watched_45 : decode cX5_watched 45 = .ok (.ifCond .le 5, 3) := by decide +kernel
theorem dX5_watched_48 : decode cX5_watched 48 = .ok (.iload_n 2, 1) := by decide +kernel
theorem dX5_watched_49 : decode cX5_watched 49 = .ok (.ireturn, 1) := by decide +kernel
theorem dX5_watched_50 : decode cX5_watched 50 = .ok (.aload_n 0, 1) := by decide +kernel
theorem dX5_watched_51 : decode cX5_watched 51 = .ok (.getfield 19, 3) := by decide +kernel
theorem dX5_watched_54 : decode cX5_watched 54 = .ok (.invokevirtual 144, 3) := by decide +kernel
theorem dX5_watched_57 : decode cX5_watched 57 = .ok (.iinc 2 1, 3) := by decide +kernel
theorem dX5_watched_60 : decode cX5_watched 60 = .ok (.goto (-30), 3) := by decide +kernel
theorem dX5_watched_63 : decode cX5_watched 63 = .ok (.aload_n 0, 1) := by decide +kernel
theorem dX5_watched_64 : decode cX5_watched 64 = .ok (.iconst 3, 1) := by decide +kernel
theorem dX5_watched_65 : decode cX5_watched 65 = .ok (.invokevirtual 48, 3) := by decide +kernel
theorem dX5_watched_68 : decode cX5_watched 68 = .ok (.ireturn, 1) := by decide +kernel
set_option maxRecDepth 20000 in
theorem ggX5_turns_X5_isWithin : GoodIn wsX5_turns wsX5_isWithin := goodIn_sub (List.forall_mem_cons.mpr ⟨List.mem_of_getElem? (i := 8) rfl, (fun _ h => absurd h List.not_mem_nil)⟩) (by decide +kernel)
set_option maxRecDepth 20000 in
theorem gX5_turns_X5_isWithin : GoodIn wsX5_turns (va_wsS RX5 44 yX5_isWithin wsX5_isWithin) := goodIn_app (goodIn_sub (List.forall_mem_cons.mpr ⟨List.mem_of_getElem? (i := 5) rfl, List.forall_mem_cons.mpr ⟨List.mem_of_getElem? (i := 6) rfl, List.forall_mem_cons.mpr ⟨List.mem_of_getElem? (i := 7) rfl, fun _ h => absurd h List.not_mem_nil⟩⟩⟩) (by decide +kernel)) ggX5_turns_X5_isWithin
set_option maxRecDepth 20000 in
theorem ggX5_turns_X5_tell : GoodIn wsX5_turns wsX5_tell := goodIn_sub (List.forall_mem_cons.mpr ⟨List.mem_of_getElem? (i := 12) rfl, (List.forall_mem_append.mpr ⟨(List.forall_mem_cons.mpr ⟨List.mem_of_getElem? (i := 13) rfl, List.forall_mem_cons.mpr ⟨List.mem_of_getElem? (i := 14) rfl, List.forall_mem_cons.mpr ⟨List.mem_of_getElem? (i := 5) rfl, List.forall_mem_cons.mpr ⟨List.mem_of_getElem? (i := 6) rfl, List.forall_mem_cons.mpr ⟨List.mem_of_getElem? (i := 7) rfl, List.forall_mem_cons.mpr ⟨List.mem_of_getElem? (i := 8) rfl, fun _ h => absurd h List.not_mem_nil⟩⟩⟩⟩⟩⟩), (fun _ h => List.mem_cons_of_mem _ (List.mem_append_left _ (List.mem_append_right _ h)))⟩)⟩) (by decide +kernel)
set_option maxRecDepth 20000 in
theorem gX5_turns_X5_tell : GoodIn wsX5_turns (wsV RX5 48 RX5 yX5_tell wsX5_tell) := goodIn_app (goodIn_sub (List.forall_mem_cons.mpr ⟨List.mem_of_getElem? (i := 9) rfl, List.forall_mem_cons.mpr ⟨List.mem_of_getElem? (i := 10) rfl, List.forall_mem_cons.mpr ⟨List.mem_of_getElem? (i := 11) rfl, List.forall_mem_cons.mpr ⟨List.mem_of_getElem? (i := 7) rfl, fun _ h => absurd h List.not_mem_nil⟩⟩⟩⟩) (by decide +kernel)) ggX5_turns_X5_tell
set_option maxRecDepth 20000 in
theorem ggX5_turns_X5_tryAsItIs : GoodIn wsX5_turns wsX5_tryAsItIs := goodIn_sub (List.forall_mem_cons.mpr ⟨List.mem_of_getElem? (i := 18) rfl, (List.forall_mem_append.mpr ⟨(List.forall_mem_append.mpr ⟨(List.forall_mem_append.mpr ⟨(List.forall_mem_cons.mpr ⟨List.mem_of_getElem? (i := 1) rfl, List.forall_mem_cons.mpr ⟨List.mem_of_getElem? (i := 3) rfl, List.forall_mem_cons.mpr ⟨List.mem_of_getElem? (i := 19) rfl, List.forall_mem_cons.mpr ⟨List.mem_of_getElem? (i := 20) rfl, List.forall_mem_cons.mpr ⟨List.mem_of_getElem? (i := 21) rfl, List.forall_mem_cons.mpr ⟨List.mem_of_getElem? (i := 22) rfl, List.forall_mem_cons.mpr ⟨List.mem_of_getElem? (i := 23) rfl, List.forall_mem_cons.mpr ⟨List.mem_of_getElem? (i := 24) rfl, List.forall_mem_cons.mpr ⟨List.mem_of_getElem? (i := 25) rfl, List.forall_mem_cons.mpr ⟨List.mem_of_getElem? (i := 26) rfl, List.forall_mem_cons.mpr ⟨List.mem_of_getElem? (i := 27) rfl, List.forall_mem_cons.mpr ⟨List.mem_of_getElem? (i := 28) rfl, List.forall_mem_cons.mpr ⟨List.mem_of_getElem? (i := 29) rfl, List.forall_mem_cons.mpr ⟨List.mem_of_getElem? (i := 30) rfl, List.forall_mem_cons.mpr ⟨List.mem_of_getElem? (i := 31) rfl, List.forall_mem_cons.mpr ⟨List.mem_of_getElem? (i := 32) rfl, List.forall_mem_cons.mpr ⟨List.mem_of_getElem? (i := 33) rfl, List.forall_mem_cons.mpr ⟨List.mem_of_getElem? (i := 34) rfl, List.forall_mem_cons.mpr ⟨List.mem_of_getElem? (i := 35) rfl, List.forall_mem_cons.mpr ⟨List.mem_of_getElem? (i := 36) rfl, List.forall_mem_cons.mpr ⟨List.mem_of_getElem? (i := 37) rfl, List.forall_mem_cons.mpr ⟨List.mem_of_getElem? (i := 38) rfl, List.forall_mem_cons.mpr ⟨List.mem_of_getElem? (i := 39) rfl, List.forall_mem_cons.mpr ⟨List.mem_of_getElem? (i := 40) rfl, fun _ h => absurd h List.not_mem_nil⟩⟩⟩⟩⟩⟩⟩⟩⟩⟩⟩⟩⟩⟩⟩⟩⟩⟩⟩⟩⟩⟩⟩⟩), (List.forall_mem_append.mpr ⟨(List.forall_mem_cons.mpr ⟨List.mem_of_getElem? (i := 41) rfl, List.forall_mem_cons.mpr ⟨List.mem_of_getElem? (i := 42) rfl, List.forall_mem_cons.mpr ⟨List.mem_of_getElem? (i := 43) rfl, List.forall_mem_cons.mpr ⟨List.mem_of_getElem? (i := 44) rfl, List.forall_mem_cons.mpr ⟨List.mem_of_getElem? (i := 45) rfl, List.forall_mem_cons.mpr ⟨List.mem_of_getElem? (i := 46) rfl, List.forall_mem_cons.mpr ⟨List.mem_of_getElem? (i := 47) rfl, List.forall_mem_cons.mpr ⟨List.mem_of_getElem? (i := 48) rfl, List.forall_mem_cons.mpr ⟨List.mem_of_getElem? (i := 49) rfl, List.forall_mem_cons.mpr ⟨List.mem_of_getElem? (i := 50) rfl, List.forall_mem_cons.mpr ⟨List.mem_of_getElem? (i := 51) rfl, List.forall_mem_cons.mpr ⟨List.mem_of_getElem? (i := 52) rfl, List.forall_mem_cons.mpr ⟨List.mem_of_getElem? (i := 53) rfl, List.forall_mem_cons.mpr ⟨List.mem_of_getElem? (i := 54) rfl, List.forall_mem_cons.mpr ⟨List.mem_of_getElem? (i := 55) rfl, List.forall_mem_cons.mpr ⟨List.mem_of_getElem? (i := 56) rfl, List.forall_mem_cons.mpr ⟨List.mem_of_getElem? (i := 57) rfl, List.forall_mem_cons.mpr ⟨List.mem_of_getElem? (i := 58) rfl, List.forall_mem_cons.mpr ⟨List.mem_of_getElem? (i := 59) rfl, List.forall_mem_cons.mpr ⟨List.mem_of_getElem? (i := 60) rfl, List.forall_mem_cons.mpr ⟨List.mem_of_getElem? (i := 61) rfl, List.forall_mem_cons.mpr ⟨List.mem_of_getElem? (i := 62) rfl, List.forall_mem_cons.mpr ⟨List.mem_of_getElem? (i := 63) rfl, List.forall_mem_cons.mpr ⟨List.mem_of_getElem? (i := 64) rfl, fun _ h => absurd h List.not_mem_nil⟩⟩⟩⟩⟩⟩⟩⟩⟩⟩⟩⟩⟩⟩⟩⟩⟩⟩⟩⟩⟩⟩⟩⟩), (List.forall_mem_append.mpr ⟨(List.forall_mem_cons.mpr ⟨List.mem_of_getElem? (i := 65) rfl, List.forall_mem_cons.mpr ⟨List.mem_of_getElem? (i := 66) rfl, List.forall_mem_cons.mpr ⟨List.mem_of_getElem? (i := 67) rfl, List.forall_mem_cons.mpr ⟨List.mem_of_getElem? (i := 68) rfl, List.forall_mem_cons.mpr ⟨List.mem_of_getElem? (i := 69) rfl, List.forall_mem_cons.mpr ⟨List.mem_of_getElem? (i := 70) rfl, List.forall_mem_cons.mpr ⟨List.mem_of_getElem? (i := 71) rfl, List.forall_mem_cons.mpr ⟨List.mem_of_getElem? (i := 72) rfl, List.forall_mem_cons.mpr ⟨List.mem_of_getElem? (i := 73) rfl, List.forall_mem_cons.mpr ⟨List.mem_of_getElem? (i := 74) rfl, List.forall_mem_cons.mpr ⟨List.mem_of_getElem? (i := 75) rfl, List.forall_mem_cons.mpr ⟨List.mem_of_getElem? (i := 76) rfl, List.forall_mem_cons.mpr ⟨List.mem_of_getElem? (i := 77) rfl, List.forall_mem_cons.mpr ⟨List.mem_of_getElem? (i := 78) rfl, List.forall_mem_cons.mpr ⟨List.mem_of_getElem? (i := 79) rfl, List.forall_mem_cons.mpr ⟨List.mem_of_getElem? (i := 80) rfl, List.forall_mem_cons.mpr ⟨List.mem_of_getElem? (i := 81) rfl, List.forall_mem_cons.mpr ⟨List.mem_of_getElem? (i := 82) rfl, List.forall_mem_cons.mpr ⟨List.mem_of_getElem? (i := 83) rfl, List.forall_mem_cons.mpr ⟨List.mem_of_getElem? (i := 84) rfl, List.forall_mem_cons.mpr ⟨List.mem_of_getElem? (i := 85) rfl, List.forall_mem_cons.mpr ⟨List.mem_of_getElem? (i := 86) rfl, List.forall_mem_cons.mpr ⟨List.mem_of_getElem? (i := 87) rfl, List.forall_mem_cons.mpr ⟨List.mem_of_getElem? (i := 88) rfl, fun _ h => absurd h List.not_mem_nil⟩⟩⟩⟩⟩⟩⟩⟩⟩⟩⟩⟩⟩⟩⟩⟩⟩⟩⟩⟩⟩⟩⟩⟩), (List.forall_mem_cons.mpr ⟨List.mem_of_getElem? (i := 89) rfl, fun _ h => absurd h List.not_mem_nil⟩)⟩)⟩)⟩), (fun _ h => List.mem_cons_of_mem _ (List.mem_append_left _ (List.mem_append_right _ h)))⟩), (fun _ h => List.mem_cons_of_mem _ (List.mem_append_right _ h))⟩)⟩) (by decide +kernel)
set_option maxRecDepth 20000 in
theorem gX5_turns_X5_tryAsItIs : GoodIn wsX5_turns (wsV RX5 137 RX5 yX5_tryAsItIs wsX5_tryAsItIs) := goodIn_app (goodIn_sub (List.forall_mem_cons.mpr ⟨List.mem_of_getElem? (i := 15) rfl, List.forall_mem_cons.mpr ⟨List.mem_of_getElem? (i := 16) rfl, List.forall_mem_cons.mpr ⟨List.mem_of_getElem? (i := 17) rfl, List.forall_mem_cons.mpr ⟨List.mem_of_getElem? (i := 7) rfl, fun _ h => absurd h List.not_mem_nil⟩⟩⟩⟩) (by decide +kernel)) ggX5_turns_X5_tryAsItIs
set_option maxRecDepth 20000 in
theorem ggX5_turns_X0_become : GoodIn wsX5_turns wsX0_become := goodIn_sub (List.forall_mem_cons.mpr ⟨List.mem_of_getElem? (i := 23) rfl, (List.forall_mem_append.mpr ⟨(List.forall_mem_cons.mpr ⟨List.mem_of_getElem? (i := 24) rfl, List.forall_mem_cons.mpr ⟨List.mem_of_getElem? (i := 25) rfl, List.forall_mem_cons.mpr ⟨List.mem_of_getElem? (i := 26) rfl, List.forall_mem_cons.mpr ⟨List.mem_of_getElem? (i := 27) rfl, List.forall_mem_cons.mpr ⟨List.mem_of_getElem? (i := 28) rfl, List.forall_mem_cons.mpr ⟨List.mem_of_getElem? (i := 29) rfl, List.forall_mem_cons.mpr ⟨List.mem_of_getElem? (i := 30) rfl, List.forall_mem_cons.mpr ⟨List.mem_of_getElem? (i := 31) rfl, List.forall_mem_cons.mpr ⟨List.mem_of_getElem? (i := 32) rfl, List.forall_mem_cons.mpr ⟨List.mem_of_getElem? (i := 33) rfl, List.forall_mem_cons.mpr ⟨List.mem_of_getElem? (i := 34) rfl, fun _ h => absurd h List.not_mem_nil⟩⟩⟩⟩⟩⟩⟩⟩⟩⟩⟩), (fun _ h => List.mem_cons_of_mem _ (List.mem_append_right _ h))⟩)⟩) (by decide +kernel)
set_option maxRecDepth 20000 in
theorem gX5_turns_X0_become : GoodIn wsX5_turns (wsV RX5 140 RX0 yX0_become wsX0_become) := goodIn_app (goodIn_sub (List.forall_mem_cons.mpr ⟨List.mem_of_getElem? (i := 19) rfl, List.forall_mem_cons.mpr ⟨List.mem_of_getElem? (i := 20) rfl, List.forall_mem_cons.mpr ⟨List.mem_of_getElem? (i := 21) rfl, List.forall_mem_cons.mpr ⟨List.mem_of_getElem? (i := 22) rfl, fun _ h => absurd h List.not_mem_nil⟩⟩⟩⟩) (by decide +kernel)) ggX5_turns_X0_become
set_option maxRecDepth 20000 in
theorem ggX5_turns_X0_changeNumbers : GoodIn wsX5_turns wsX0_changeNumbers := goodIn_sub (List.forall_mem_cons.mpr ⟨List.mem_of_getElem? (i := 93) rfl, (List.forall_mem_append.mpr ⟨(List.forall_mem_cons.mpr ⟨List.mem_of_getElem? (i := 30) rfl, List.forall_mem_cons.mpr ⟨List.mem_of_getElem? (i := 31) rfl, List.forall_mem_cons.mpr ⟨List.mem_of_getElem? (i := 32) rfl, List.forall_mem_cons.mpr ⟨List.mem_of_getElem? (i := 33) rfl, List.forall_mem_cons.mpr ⟨List.mem_of_getElem? (i := 34) rfl, List.forall_mem_cons.mpr ⟨List.mem_of_getElem? (i := 51) rfl, List.forall_mem_cons.mpr ⟨List.mem_of_getElem? (i := 52) rfl, List.forall_mem_cons.mpr ⟨List.mem_of_getElem? (i := 53) rfl, List.forall_mem_cons.mpr ⟨List.mem_of_getElem? (i := 22) rfl, List.forall_mem_cons.mpr ⟨List.mem_of_getElem? (i := 54) rfl, List.forall_mem_cons.mpr ⟨List.mem_of_getElem? (i := 29) rfl, List.forall_mem_cons.mpr ⟨List.mem_of_getElem? (i := 94) rfl, List.forall_mem_cons.mpr ⟨List.mem_of_getElem? (i := 95) rfl, List.forall_mem_cons.mpr ⟨List.mem_of_getElem? (i := 96) rfl, fun _ h => absurd h List.not_mem_nil⟩⟩⟩⟩⟩⟩⟩⟩⟩⟩⟩⟩⟩⟩), (fun _ h => List.mem_cons_of_mem _ (List.mem_append_right _ h))⟩)⟩) (by decide +kernel)
set_option maxRecDepth 20000 in
theorem gX5_turns_X0_changeNumbers : GoodIn wsX5_turns (wsV RX5 126 RX0 yX0_changeNumbers wsX0_changeNumbers) := goodIn_app (goodIn_sub (List.forall_mem_cons.mpr ⟨List.mem_of_getElem? (i := 90) rfl, List.forall_mem_cons.mpr ⟨List.mem_of_getElem? (i := 91) rfl, List.forall_mem_cons.mpr ⟨List.mem_of_getElem? (i := 92) rfl, List.forall_mem_cons.mpr ⟨List.mem_of_getElem? (i := 22) rfl, fun _ h => absurd h List.not_mem_nil⟩⟩⟩⟩) (by decide +kernel)) ggX5_turns_X0_changeNumbers
set_option maxRecDepth 20000 in
theorem ggX5_turns_X0_goOn : GoodIn wsX5_turns wsX0_goOn := goodIn_sub (List.forall_mem_cons.mpr ⟨List.mem_of_getElem? (i := 38) rfl, (List.forall_mem_append.mpr ⟨(List.forall_mem_append.mpr ⟨(List.forall_mem_cons.mpr ⟨List.mem_of_getElem? (i := 39) rfl, List.forall_mem_cons.mpr ⟨List.mem_of_getElem? (i := 40) rfl, List.forall_mem_cons.mpr ⟨List.mem_of_getElem? (i := 41) rfl, List.forall_mem_cons.mpr ⟨List.mem_of_getElem? (i := 22) rfl, List.forall_mem_cons.mpr ⟨List.mem_of_getElem? (i := 42) rfl, List.forall_mem_cons.mpr ⟨List.mem_of_getElem? (i := 25) rfl, List.forall_mem_cons.mpr ⟨List.mem_of_getElem? (i := 26) rfl, List.forall_mem_cons.mpr ⟨List.mem_of_getElem? (i := 43) rfl, List.forall_mem_cons.mpr ⟨List.mem_of_getElem? (i := 44) rfl, List.forall_mem_cons.mpr ⟨List.mem_of_getElem? (i := 45) rfl, List.forall_mem_cons.mpr ⟨List.mem_of_getElem? (i := 46) rfl, List.forall_mem_cons.mpr ⟨List.mem_of_getElem? (i := 29) rfl, List.forall_mem_cons.mpr ⟨List.mem_of_getElem? (i := 33) rfl, List.forall_mem_cons.mpr ⟨List.mem_of_getElem? (i := 28) rfl, List.forall_mem_cons.mpr ⟨List.mem_of_getElem? (i := 24) rfl, List.forall_mem_cons.mpr ⟨List.mem_of_getElem? (i := 47) rfl, List.forall_mem_cons.mpr ⟨List.mem_of_getElem? (i := 48) rfl, List.forall_mem_cons.mpr ⟨List.mem_of_getElem? (i := 49) rfl, List.forall_mem_cons.mpr ⟨List.mem_of_getElem? (i := 50) rfl, List.forall_mem_cons.mpr ⟨List.mem_of_getElem? (i := 30) rfl, List.forall_mem_cons.mpr ⟨List.mem_of_getElem? (i := 31) rfl, List.forall_mem_cons.mpr ⟨List.mem_of_getElem? (i := 27) rfl, List.forall_mem_cons.mpr ⟨List.mem_of_getElem? (i := 51) rfl, List.forall_mem_cons.mpr ⟨List.mem_of_getElem? (i := 52) rfl, fun _ h => absurd h List.not_mem_nil⟩⟩⟩⟩⟩⟩⟩⟩⟩⟩⟩⟩⟩⟩⟩⟩⟩⟩⟩⟩⟩⟩⟩⟩), (List.forall_mem_append.mpr ⟨(List.forall_mem_cons.mpr ⟨List.mem_of_getElem? (i := 53) rfl, List.forall_mem_cons.mpr ⟨List.mem_of_getElem? (i := 54) rfl, List.forall_mem_cons.mpr ⟨List.mem_of_getElem? (i := 55) rfl, List.forall_mem_cons.mpr ⟨List.mem_of_getElem? (i := 56) rfl, List.forall_mem_cons.mpr ⟨List.mem_of_getElem? (i := 57) rfl, List.forall_mem_cons.mpr ⟨List.mem_of_getElem? (i := 58) rfl, List.forall_mem_cons.mpr ⟨List.mem_of_getElem? (i := 59) rfl, List.forall_mem_cons.mpr ⟨List.mem_of_getElem? (i := 60) rfl, List.forall_mem_cons.mpr ⟨List.mem_of_getElem? (i := 61) rfl, List.forall_mem_cons.mpr ⟨List.mem_of_getElem? (i := 62) rfl, List.forall_mem_cons.mpr ⟨List.mem_of_getElem? (i := 63) rfl, List.forall_mem_cons.mpr ⟨List.mem_of_getElem? (i := 64) rfl, List.forall_mem_cons.mpr ⟨List.mem_of_getElem? (i := 65) rfl, List.forall_mem_cons.mpr ⟨List.mem_of_getElem? (i := 66) rfl, List.forall_mem_cons.mpr ⟨List.mem_of_getElem? (i := 67) rfl, List.forall_mem_cons.mpr ⟨List.mem_of_getElem? (i := 68) rfl, List.forall_mem_cons.mpr ⟨List.mem_of_getElem? (i := 32) rfl, List.forall_mem_cons.mpr ⟨List.mem_of_getElem? (i := 34) rfl, List.forall_mem_cons.mpr ⟨List.mem_of_getElem? (i := 69) rfl, List.forall_mem_cons.mpr ⟨List.mem_of_getElem? (i := 70) rfl, List.forall_mem_cons.mpr ⟨List.mem_of_getElem? (i := 71) rfl, List.forall_mem_cons.mpr ⟨List.mem_of_getElem? (i := 72) rfl, List.forall_mem_cons.mpr ⟨List.mem_of_getElem? (i := 73) rfl, List.forall_mem_cons.mpr ⟨List.mem_of_getElem? (i := 74) rfl, fun _ h => absurd h List.not_mem_nil⟩⟩⟩⟩⟩⟩⟩⟩⟩⟩⟩⟩⟩⟩⟩⟩⟩⟩⟩⟩⟩⟩⟩⟩), (List.forall_mem_cons.mpr ⟨List.mem_of_getElem? (i := 75) rfl, List.forall_mem_cons.mpr ⟨List.mem_of_getElem? (i := 76) rfl, List.forall_mem_cons.mpr ⟨List.mem_of_getElem? (i := 77) rfl, List.forall_mem_cons.mpr ⟨List.mem_of_getElem? (i := 78) rfl, List.forall_mem_cons.mpr ⟨List.mem_of_getElem? (i := 79) rfl, List.forall_mem_cons.mpr ⟨List.mem_of_getElem? (i := 80) rfl, List.forall_mem_cons.mpr ⟨List.mem_of_getElem? (i := 81) rfl, List.forall_mem_cons.mpr ⟨List.mem_of_getElem? (i := 82) rfl, List.forall_mem_cons.mpr ⟨List.mem_of_getElem? (i := 83) rfl, List.forall_mem_cons.mpr ⟨List.mem_of_getElem? (i := 84) rfl, List.forall_mem_cons.mpr ⟨List.mem_of_getElem? (i := 85) rfl, List.forall_mem_cons.mpr ⟨List.mem_of_getElem? (i := 86) rfl, List.forall_mem_cons.mpr ⟨List.mem_of_getElem? (i := 87) rfl, List.forall_mem_cons.mpr ⟨List.mem_of_getElem? (i := 88) rfl, List.forall_mem_cons.mpr ⟨List.mem_of_getElem? (i := 89) rfl, fun _ h => absurd h List.not_mem_nil⟩⟩⟩⟩⟩⟩⟩⟩⟩⟩⟩⟩⟩⟩⟩)⟩)⟩), (fun _ h => List.mem_cons_of_mem _ (List.mem_append_right _ h))⟩)⟩) (by decide +kernel)
set_option maxRecDepth 20000 in
theorem gX5_turns_X0_goOn : GoodIn wsX5_turns (wsV RX5 133 RX0 yX0_goOn wsX0_goOn) := goodIn_app (goodIn_sub (List.forall_mem_cons.mpr ⟨List.mem_of_getElem? (i := 35) rfl, List.forall_mem_cons.mpr ⟨List.mem_of_getElem? (i := 36) rfl, List.forall_mem_cons.mpr ⟨List.mem_of_getElem? (i := 37) rfl, List.forall_mem_cons.mpr ⟨List.mem_of_getElem? (i := 22) rfl, fun _ h => absurd h List.not_mem_nil⟩⟩⟩⟩) (by decide +kernel)) ggX5_turns_X0_goOn
theorem dX5_turns_0 : decode cX5_turns 0 = .ok (.iload_n 1, 1) := by decide +kernel
theorem dX5_turns_1 : decode cX5_turns 1 = .ok (.iconst 1, 1) := by decide +kernel
theorem dX5_turns_2 : decode cX5_turns 2 = .ok (.bipush 60, 2) := by decide +kernel
theorem dX5_turns_4 : decode cX5_turns 4 = .ok (.invokestatic 44, 3) := by decide +kernel
theorem dX5_turns_7 : decode cX5_turns 7 = .ok (.ifCond .ne 9, 3) := by decide +kernel
theorem dX5_turns_10 : decode cX5_turns 10 = .ok (.aload_n 0, 1) := by decide +kernel
theorem dX5_turns_11 : decode cX5_turns 11 = .ok (.iconst 0, 1) := by decide +kernel
theorem dX5_turns_12 : decode cX5_turns 12 = .ok (.invokevirtual 48, 3) := by decide +kernel
theorem dX5_turns_15 : decode cX5_turns 15 = .ok (.ireturn, 1) := by decide +kernel
theorem dX5_turns_16 : decode cX5_turns 16 = .ok (.aload_n 0, 1) := by decide +kernel
theorem dX5_turns_17 : decode cX5_turns 17 = .ok (.iload_n 1, 1) := by decide +kernel
theorem dX5_turns_18 : decode cX5_turns 18 = .ok (.invokevirtual 137, 3) := by decide +kernel
theorem dX5_turns_21 : decode cX5_turns 21 = .ok (.aload_n 0, 1) := by decide +kernel
theorem dX5_turns_22 : decode cX5_turns 22 = .ok (.getfield 19, 3) := by decide +kernel
theorem dX5_turns_25 : decode cX5_turns 25 = .ok (.getfield 60, 3) := by decide +kernel
theorem dX5_turns_28 : decode cX5_turns 28 = .ok (.istore_n 2, 1) := by decide +kernel
theorem dX5_turns_29 : decode cX5_turns 29 = .ok (.iconst (-1), 1) := by decide +kernel
theorem dX5_turns_30 : decode cX5_turns 30 = .ok (.istore_n 3, 1) := by decide +kernel
theorem dX5_turns_31 : decode cX5_turns 31 = .ok (.iconst 0, 1) := by decide +kernel
theorem dX5_turns_32 : decode cX5_turns 32 = .ok (.istore 4, 2) := by decide +kernel
theorem dX5_turns_34 : decode cX5_turns 34 = .ok (.iload 4, 2) := by decide +kernel
theorem dX5_turns_36 : decode cX5_turns 36 = .ok (.aload_n 0, 1) := by decide +kernel
theorem dX5_turns_37 : decode cX5_turns 37 = .ok (.getfield 10, 3) := by decide +kernel
theorem dX5_turns_40 : decode cX5_turns 40 = .ok (.getfield 147, 3) := by decide +kernel
theorem dX5_turns_43 : decode cX5_turns 43 = .ok (.if_icmp .ge 91, 3) := by decide +kernel
theorem dX5_turns_46 : decode cX5_turns 46 = .ok (.iload 4, 2) := by decide +kernel
theorem dX5_turns_48 : decode cX5_turns 48 = .ok (.iconst 1, 1) := by decide +kernel
theorem dX5_turns_49 : decode cX5_turns 49 = .ok (.iadd, 1) := by decide +kernel
theorem dX5_turns_50 : decode cX5_turns 50 = .ok (.istore 5, 2) := by decide +kernel
theorem dX5_turns_52 : decode cX5_turns 52 = .ok (.iload 5, 2) := by decide +kernel
theorem dX5_turns_54 : decode cX5_turns 54 = .ok (.aload_n 0, 1) := by decide +kernel
theorem dX5_turns_55 : decode cX5_turns 55 = .ok (.getfield 10, 3) := by decide +kernel
theorem dX5_turns_58 : decode cX5_turns 58 = .ok (.getfield 147, 3) := by decide +kernel
theorem dX5_turns_61 : decode cX5_turns 61 = .ok (.if_icmp .ge 67, 3) := by decide +kernel
theorem dX5_turns_64 : decode cX5_turns 64 = .ok (.aload_n 0, 1) := by decide +kernel
theorem dX5_turns_65 : decode cX5_turns 65 = .ok (.getfield 19, 3) := by decide +kernel
theorem dX5_turns_68 : decode cX5_turns 68 = .ok (.aload_n 0, 1) := by decide +kernel
theorem dX5_turns_69 : decode cX5_turns 69 = .ok (.getfield 10, 3) := by decide +kernel
theorem dX5_turns_72 : decode cX5_turns 72 = .ok (.invokevirtual 140, 3) := by decide +kernel
theorem dX5_turns_75 : decode cX5_turns 75 = .ok (.aload_n 0, 1) := by decide +kernel
theorem dX5_turns_76 : decode cX5_turns 76 = .ok (.getfield 19, 3) := by decide +kernel
theorem dX5_turns_79 : decode cX5_turns 79 = .ok (.iload 4, 2) := by decide +kernel
theorem dX5_turns_81 : decode cX5_turns 81 = .ok (.iload 5, 2) := by decide +kernel
theorem dX5_turns_83 : decode cX5_turns 83 = .ok (.invokevirtual 126, 3) := by decide +kernel
theorem dX5_turns_86 : decode cX5_turns 86 = .ok (.aload_n 0, 1) := by decide +kernel
theorem dX5_turns_87 : decode cX5_turns 87 = .ok (.getfield 19, 3) := by decide +kernel
theorem dX5_turns_90 : decode cX5_turns 90 = .ok (.iload_n 1, 1) := by decide +kernel
theorem dX5_turns_91 : decode cX5_turns 91 = .ok (.invokevirtual 133, 3) := by decide +kernel
theorem dX5_turns_94 : decode cX5_turns 94 = .ok (.aload_n 0, 1) := by decide +kernel
theorem dX5_turns_95 : decode cX5_turns 95 = .ok (.getfield 19, 3) := by decide +kernel
theorem dX5_turns_98 : decode cX5_turns 98 = .ok (.getfield 60, 3) := by decide +kernel
theorem dX5_turns_101 : decode cX5_turns 101 = .ok (.iload_n 2, 1) := by decide +kernel
theorem dX5_turns_102 : decode cX5_turns 102 = .ok (.if_icmp .le 20, 3) := by decide +kernel
theorem dX5_turns_105 : decode cX5_turns 105 = .ok (.aload_n 0, 1) := by decide +kernel
theorem dX5_turns_106 : decode cX5_turns 106 = .ok (.getfield 19, 3) := by decide +kernel
theorem dX5_turns_109 : decode cX5_turns 109 = .ok (.getfield 60, 3) := by decide +kernel
theorem dX5_turns_112 : decode cX5_turns 112 = .ok (.istore_n 2, 1) := by decide +kernel
theorem dX5_turns_113 : decode cX5_turns 113 = .ok (.bipush 10, 2) := by decide +kernel
theorem dX5_turns_115 : decode cX5_turns 115 = .ok (.iload 4, 2) := by decide +kernel
theorem dX5_turns_117 : decode cX5_turns 117 = .ok (.imul, 1) := by decide +kernel
theorem dX5_turns_118 : decode cX5_turns 118 = .ok (.iload 5, 2) := by decide +kernel
theorem dX5_turns_120 : decode cX5_turns 120 = .ok (.iadd, 1) := by decide +kernel
theorem dX5_turns_121 : decode cX5_turns 121 = .ok (.istore_n 3, 1) := by decide +kernel
theorem dX5_turns_122 : decode cX5_turns 122 = .ok (.iinc 5 1, 3) := by decide +kernel
theorem dX5_turns_125 : decode cX5_turns 125 = .ok (.goto (-73), 3) := by decide +kernel
theorem dX5_turns_128 : decode cX5_turns 128 = .ok (.iinc 4 1, 3) := by decide +kernel
theorem dX5_turns_131 : decode cX5_turns 131 = .ok (.goto (-97), 3) := by decide +kernel
theorem dX5_turns_134 : decode cX5_turns 134 = .ok (.iload_n 3, 1) := by decide +kernel
theorem dX5_turns_135 : decode cX5_turns 135 = .ok (.ifCond .ge 11, 3) := by decide +kernel
theorem dX5_turns_138 : decode cX5_turns 138 = .ok (.aload_n 0, 1) := by decide +kernel
theorem dX5_turns_139 : decode cX5_turns 139 = .ok (.iconst 3, 1) := by decide +kernel
theorem dX5_turns_140 : decode cX5_turns 140 = .ok (.invokevirtual 48, 3) := by decide +kernel
theorem dX5_turns_143 : decode cX5_turns 143 = .ok (.goto 4, 3) := by decide +kernel
theorem dX5_turns_146 : decode cX5_turns 146 = .ok (.iload_n 3, 1) := by decide +kernel
theorem dX5_turns_147 : decode cX5_turns 147 = .ok (.ireturn, 1) := by decide +kernel
set_option maxRecDepth 20000 in
theorem ggX5_reason_X0_hasOne : GoodIn wsX5_reason wsX0_hasOne := goodIn_sub (List.forall_mem_cons.mpr ⟨List.mem_of_getElem? (i := 10) rfl, (List.forall_mem_append.mpr ⟨(List.forall_mem_cons.mpr ⟨List.mem_of_getElem? (i := 11) rfl, fun _ h => absurd h List.not_mem_nil⟩), (fun _ h => List.mem_cons_of_mem _ (List.mem_append_right _ h))⟩)⟩) (by decide +kernel)
set_option maxRecDepth 20000 in
theorem gX5_reason_X0_hasOne : GoodIn wsX5_reason (wsV RX5 89 RX0 yX0_hasOne wsX0_hasOne) := goodIn_app (goodIn_sub (List.forall_mem_cons.mpr ⟨List.mem_of_getElem? (i := 6) rfl, List.forall_mem_cons.mpr ⟨List.mem_of_getElem? (i := 7) rfl, List.forall_mem_cons.mpr ⟨List.mem_of_getElem? (i := 8) rfl, List.forall_mem_cons.mpr ⟨List.mem_of_getElem? (i := 9) rfl, fun _ h => absurd h List.not_mem_nil⟩⟩⟩⟩) (by decide +kernel)) ggX5_reason_X0_hasOne
set_option maxRecDepth 20000 in
theorem ggX5_reason_X5_isWithin : GoodIn wsX5_reason wsX5_isWithin := goodIn_sub (List.forall_mem_cons.mpr ⟨List.mem_of_getElem? (i := 15) rfl, (fun _ h => absurd h List.not_mem_nil)⟩) (by decide +kernel)
set_option maxRecDepth 20000 in
theorem gX5_reason_X5_isWithin : GoodIn wsX5_reason (va_wsS RX5 44 yX5_isWithin wsX5_isWithin) := goodIn_app (goodIn_sub (List.forall_mem_cons.mpr ⟨List.mem_of_getElem? (i := 12) rfl, List.forall_mem_cons.mpr ⟨List.mem_of_getElem? (i := 13) rfl, List.forall_mem_cons.mpr ⟨List.mem_of_getElem? (i := 14) rfl, fun _ h => absurd h List.not_mem_nil⟩⟩⟩) (by decide +kernel)) ggX5_reason_X5_isWithin
set_option maxRecDepth 20000 in
theorem ggX5_reason_X5_tell : GoodIn wsX5_reason wsX5_tell := goodIn_sub (List.forall_mem_cons.mpr ⟨List.mem_of_getElem? (i := 19) rfl, (List.forall_mem_append.mpr ⟨(List.forall_mem_cons.mpr ⟨List.mem_of_getElem? (i := 20) rfl, List.forall_mem_cons.mpr ⟨List.mem_of_getElem? (i := 21) rfl, List.forall_mem_cons.mpr ⟨List.mem_of_getElem? (i := 12) rfl, List.forall_mem_cons.mpr ⟨List.mem_of_getElem? (i := 13) rfl, List.forall_mem_cons.mpr ⟨List.mem_of_getElem? (i := 14) rfl, List.forall_mem_cons.mpr ⟨List.mem_of_getElem? (i := 15) rfl, fun _ h => absurd h List.not_mem_nil⟩⟩⟩⟩⟩⟩), (fun _ h => List.mem_cons_of_mem _ (List.mem_append_left _ (List.mem_append_right _ h)))⟩)⟩) (by decide +kernel)
set_option maxRecDepth 20000 in
theorem gX5_reason_X5_tell : GoodIn wsX5_reason (wsV RX5 48 RX5 yX5_tell wsX5_tell) := goodIn_app (goodIn_sub (List.forall_mem_cons.mpr ⟨List.mem_of_getElem? (i := 16) rfl, List.forall_mem_cons.mpr ⟨List.mem_of_getElem? (i := 17) rfl, List.forall_mem_cons.mpr ⟨List.mem_of_getElem? (i := 18) rfl, List.forall_mem_cons.mpr ⟨List.mem_of_getElem? (i := 14) rfl, fun _ h => absurd h List.not_mem_nil⟩⟩⟩⟩) (by decide +kernel)) ggX5_reason_X5_tell
set_option maxRecDepth 20000 in
theorem ggX5_reason_X0_become : GoodIn wsX5_reason wsX0_become := goodIn_sub (List.forall_mem_cons.mpr ⟨List.mem_of_getElem? (i := 25) rfl, (List.forall_mem_append.mpr ⟨(List.forall_mem_cons.mpr ⟨List.mem_of_getElem? (i := 26) rfl, List.forall_mem_cons.mpr ⟨List.mem_of_getElem? (i := 27) rfl, List.forall_mem_cons.mpr ⟨List.mem_of_getElem? (i := 28) rfl, List.forall_mem_cons.mpr ⟨List.mem_of_getElem? (i := 29) rfl, List.forall_mem_cons.mpr ⟨List.mem_of_getElem? (i := 30) rfl, List.forall_mem_cons.mpr ⟨List.mem_of_getElem? (i := 11) rfl, List.forall_mem_cons.mpr ⟨List.mem_of_getElem? (i := 31) rfl, List.forall_mem_cons.mpr ⟨List.mem_of_getElem? (i := 32) rfl, List.forall_mem_cons.mpr ⟨List.mem_of_getElem? (i := 33) rfl, List.forall_mem_cons.mpr ⟨List.mem_of_getElem? (i := 34) rfl, List.forall_mem_cons.mpr ⟨List.mem_of_getElem? (i := 35) rfl, fun _ h => absurd h List.not_mem_nil⟩⟩⟩⟩⟩⟩⟩⟩⟩⟩⟩), (fun _ h => List.mem_cons_of_mem _ (List.mem_append_right _ h))⟩)⟩) (by decide +kernel)
set_option maxRecDepth 20000 in
theorem gX5_reason_X0_become : GoodIn wsX5_reason (wsV RX5 140 RX0 yX0_become wsX0_become) := goodIn_app (goodIn_sub (List.forall_mem_cons.mpr ⟨List.mem_of_getElem? (i := 22) rfl, List.forall_mem_cons.mpr ⟨List.mem_of_getElem? (i := 23) rfl, List.forall_mem_cons.mpr ⟨List.mem_of_getElem? (i := 24) rfl, List.forall_mem_cons.mpr ⟨List.mem_of_getElem? (i := 9) rfl, fun _ h => absurd h List.not_mem_nil⟩⟩⟩⟩) (by decide +kernel)) ggX5_reason_X0_become
set_option maxRecDepth 20000 in
theorem ggX5_reason_X0_goOn : GoodIn wsX5_reason wsX0_goOn := goodIn_sub (List.forall_mem_cons.mpr ⟨List.mem_of_getElem? (i := 39) rfl, (List.forall_mem_append.mpr ⟨(List.forall_mem_append.mpr ⟨(List.forall_mem_cons.mpr ⟨List.mem_of_getElem? (i := 40) rfl, List.forall_mem_cons.mpr ⟨List.mem_of_getElem? (i := 41) rfl, List.forall_mem_cons.mpr ⟨List.mem_of_getElem? (i := 42) rfl, List.forall_mem_cons.mpr ⟨List.mem_of_getElem? (i := 9) rfl, List.forall_mem_cons.mpr ⟨List.mem_of_getElem? (i := 43) rfl, List.forall_mem_cons.mpr ⟨List.mem_of_getElem? (i := 27) rfl, List.forall_mem_cons.mpr ⟨List.mem_of_getElem? (i := 28) rfl, List.forall_mem_cons.mpr ⟨List.mem_of_getElem? (i := 44) rfl, List.forall_mem_cons.mpr ⟨List.mem_of_getElem? (i := 45) rfl, List.forall_mem_cons.mpr ⟨List.mem_of_getElem? (i := 46) rfl, List.forall_mem_cons.mpr ⟨List.mem_of_getElem? (i := 47) rfl, List.forall_mem_cons.mpr ⟨List.mem_of_getElem? (i := 11) rfl, List.forall_mem_cons.mpr ⟨List.mem_of_getElem? (i := 34) rfl, List.forall_mem_cons.mpr ⟨List.mem_of_getElem? (i := 30) rfl, List.forall_mem_cons.mpr ⟨List.mem_of_getElem? (i := 26) rfl, List.forall_mem_cons.mpr ⟨List.mem_of_getElem? (i := 48) rfl, List.forall_mem_cons.mpr ⟨List.mem_of_getElem? (i := 49) rfl, List.forall_mem_cons.mpr ⟨List.mem_of_getElem? (i := 50) rfl, List.forall_mem_cons.mpr ⟨List.mem_of_getElem? (i := 51) rfl, List.forall_mem_cons.mpr ⟨List.mem_of_getElem? (i := 31) rfl, List.forall_mem_cons.mpr ⟨List.mem_of_getElem? (i := 32) rfl, List.forall_mem_cons.mpr ⟨List.mem_of_getElem? (i := 29) rfl, List.forall_mem_cons.mpr ⟨List.mem_of_getElem? (i := 52) rfl, List.forall_mem_cons.mpr ⟨List.mem_of_getElem? (i := 7) rfl, fun _ h => absurd h List.not_mem_nil⟩⟩⟩⟩⟩⟩⟩⟩⟩⟩⟩⟩⟩⟩⟩⟩⟩⟩⟩⟩⟩⟩⟩⟩), (List.forall_mem_append.mpr ⟨(List.forall_mem_cons.mpr ⟨List.mem_of_getElem? (i := 8) rfl, List.forall_mem_cons.mpr ⟨List.mem_of_getElem? (i := 10) rfl, List.forall_mem_cons.mpr ⟨List.mem_of_getElem? (i := 53) rfl, List.forall_mem_cons.mpr ⟨List.mem_of_getElem? (i := 54) rfl, List.forall_mem_cons.mpr ⟨List.mem_of_getElem? (i := 55) rfl, List.forall_mem_cons.mpr ⟨List.mem_of_getElem? (i := 56) rfl, List.forall_mem_cons.mpr ⟨List.mem_of_getElem? (i := 57) rfl, List.forall_mem_cons.mpr ⟨List.mem_of_getElem? (i := 58) rfl, List.forall_mem_cons.mpr ⟨List.mem_of_getElem? (i := 59) rfl, List.forall_mem_cons.mpr ⟨List.mem_of_getElem? (i := 60) rfl, List.forall_mem_cons.mpr ⟨List.mem_of_getElem? (i := 61) rfl, List.forall_mem_cons.mpr ⟨List.mem_of_getElem? (i := 62) rfl, List.forall_mem_cons.mpr ⟨List.mem_of_getElem? (i := 63) rfl, List.forall_mem_cons.mpr ⟨List.mem_of_getElem? (i := 64) rfl, List.forall_mem_cons.mpr ⟨List.mem_of_getElem? (i := 65) rfl, List.forall_mem_cons.mpr ⟨List.mem_of_getElem? (i := 66) rfl, List.forall_mem_cons.mpr ⟨List.mem_of_getElem? (i := 33) rfl, List.forall_mem_cons.mpr ⟨List.mem_of_getElem? (i := 35) rfl, List.forall_mem_cons.mpr ⟨List.mem_of_getElem? (i := 67) rfl, List.forall_mem_cons.mpr ⟨List.mem_of_getElem? (i := 68) rfl, List.forall_mem_cons.mpr ⟨List.mem_of_getElem? (i := 69) rfl, List.forall_mem_cons.mpr ⟨List.mem_of_getElem? (i := 70) rfl, List.forall_mem_cons.mpr ⟨List.mem_of_getElem? (i := 71) rfl, List.forall_mem_cons.mpr ⟨List.mem_of_getElem? (i := 72) rfl, fun _ h => absurd h List.not_mem_nil⟩⟩⟩⟩⟩⟩⟩⟩⟩⟩⟩⟩⟩⟩⟩⟩⟩⟩⟩⟩⟩⟩⟩⟩), (List.forall_mem_cons.mpr ⟨List.mem_of_getElem? (i := 73) rfl, List.forall_mem_cons.mpr ⟨List.mem_of_getElem? (i := 74) rfl, List.forall_mem_cons.mpr ⟨List.mem_of_getElem? (i := 75) rfl, List.forall_mem_cons.mpr ⟨List.mem_of_getElem? (i := 76) rfl, List.forall_mem_cons.mpr ⟨List.mem_of_getElem? (i := 77) rfl, List.forall_mem_cons.mpr ⟨List.mem_of_getElem? (i := 78) rfl, List.forall_mem_cons.mpr ⟨List.mem_of_getElem? (i := 79) rfl, List.forall_mem_cons.mpr ⟨List.mem_of_getElem? (i := 80) rfl, List.forall_mem_cons.mpr ⟨List.mem_of_getElem? (i := 81) rfl, List.forall_mem_cons.mpr ⟨List.mem_of_getElem? (i := 82) rfl, List.forall_mem_cons.mpr ⟨List.mem_of_getElem? (i := 83) rfl, List.forall_mem_cons.mpr ⟨List.mem_of_getElem? (i := 84) rfl, List.forall_mem_cons.mpr ⟨List.mem_of_getElem? (i := 85) rfl, List.forall_mem_cons.mpr ⟨List.mem_of_getElem? (i := 86) rfl, List.forall_mem_cons.mpr ⟨List.mem_of_getElem? (i := 87) rfl, fun _ h => absurd h List.not_mem_nil⟩⟩⟩⟩⟩⟩⟩⟩⟩⟩⟩⟩⟩⟩⟩)⟩)⟩), (fun _ h => List.mem_cons_of_mem _ (List.mem_append_right _ h))⟩)⟩) (by decide +kernel)
set_option maxRecDepth 20000 in
theorem gX5_reason_X0_goOn : GoodIn wsX5_reason (wsV RX5 133 RX0 yX0_goOn wsX0_goOn) := goodIn_app (goodIn_sub (List.forall_mem_cons.mpr ⟨List.mem_of_getElem? (i := 36) rfl, List.forall_mem_cons.mpr ⟨List.mem_of_getElem? (i := 37) rfl, List.forall_mem_cons.mpr ⟨List.mem_of_getElem? (i := 38) rfl, List.forall_mem_cons.mpr ⟨List.mem_of_getElem? (i := 9) rfl, fun _ h => absurd h List.not_mem_nil⟩⟩⟩⟩) (by decide +kernel)) ggX5_reason_X0_goOn
theorem dX5_reason_0 : decode cX5_reason 0 = .ok (.aload_n 0, 1) := by decide +kernel
theorem dX5_reason_1 : decode cX5_reason 1 = .ok (.getfield 10, 3) := by decide +kernel
theorem dX5_reason_4 : decode cX5_reason 4 = .ok (.iload_n 1, 1) := by decide +kernel
theorem dX5_reason_5 : decode cX5_reason 5 = .ok (.invokevirtual 89, 3) := by decide +kernel
theorem dX5_reason_8 : decode cX5_reason 8 = .ok (.ifCond .eq 13, 3) := by decide +kernel
theorem dX5_reason_11 : decode cX5_reason 11 = .ok (.iload_n 2, 1) := by decide +kernel
theorem dX5_reason_12 : decode cX5_reason 12 = .ok (.iconst 1, 1) := by decide +kernel
theorem dX5_reason_13 : decode cX5_reason 13 = .ok (.bipush 60, 2) := by decide +kernel
theorem dX5_reason_15 : decode cX5_reason 15 = .ok (.invokestatic 44, 3) := by decide +kernel
theorem dX5_reason_18 : decode cX5_reason 18 = .ok (.ifCond .ne 9, 3) := by decide +kernel
theorem dX5_reason_21 : decode cX5_reason 21 = .ok (.aload_n 0, 1) := by decide +kernel
theorem dX5_reason_22 : decode cX5_reason 22 = .ok (.iconst 0, 1) := by decide +kernel
theorem dX5_reason_23 : decode cX5_reason 23 = .ok (.invokevirtual 48, 3) := by decide +kernel
theorem dX5_reason_26 : decode cX5_reason 26 = .ok (.ireturn, 1) := by decide +kernel
theorem dX5_reason_27 : decode cX5_reason 27 = .ok (.iload_n 3, 1) := by decide +kernel
theorem dX5_reason_28 : decode cX5_reason 28 = .ok (.iconst 0, 1) := by decide +kernel
theorem dX5_reason_29 : decode cX5_reason 29 = .ok (.ldc 59, 2) := by decide +kernel
theorem dX5_reason_31 : decode cX5_reason 31 = .ok (.invokestatic 44, 3) := by decide +kernel
theorem dX5_reason_34 : decode cX5_reason 34 = .ok (.ifCond .ne 9, 3) := by decide +kernel
theorem dX5_reason_37 : decode cX5_reason 37 = .ok (.aload_n 0, 1) := by decide +kernel
theorem dX5_reason_38 : decode cX5_reason 38 = .ok (.iconst 0, 1) := by decide +kernel
theorem dX5_reason_39 : decode cX5_reason 39 = .ok (.invokevirtual 48, 3) := by decide +kernel
theorem dX5_reason_42 : decode cX5_reason 42 = .ok (.ireturn, 1) := by decide +kernel
theorem dX5_reason_43 : decode cX5_reason 43 = .ok (.iconst 0, 1) := by decide +kernel
theorem dX5_reason_44 : decode cX5_reason 44 = .ok (.istore 4, 2) := by decide +kernel
theorem dX5_reason_46 : decode cX5_reason 46 = .ok (.iload 4, 2) := by decide +kernel
theorem dX5_reason_48 : decode cX5_reason 48 = .ok (.bipush 99, 2) := by decide +kernel
theorem dX5_reason_50 : decode cX5_reason 50 = .ok (.if_icmp .gt 53, 3) := by decide +kernel
theorem dX5_reason_53 : decode cX5_reason 53 = .ok (.aload_n 0, 1) := by decide +kernel
theorem dX5_reason_54 : decode cX5_reason 54 = .ok (.getfield 19, 3) := by decide +kernel
theorem dX5_reason_57 : decode cX5_reason 57 = .ok (.aload_n 0, 1) := by decide +kernel
theorem dX5_reason_58 : decode cX5_reason 58 = .ok (.getfield 10, 3) := by decide +kernel
theorem dX5_reason_61 : decode cX5_reason 61 = .ok (.invokevirtual 140, 3) := by decide +kernel
theorem dX5_reason_64 : decode cX5_reason 64 = .ok (.aload_n 0, 1) := by decide +kernel
theorem dX5_reason_65 : decode cX5_reason 65 = .ok (.getfield 19, 3) := by decide +kernel
theorem dX5_reason_68 : decode cX5_reason 68 = .ok (.getfield 98, 3) := by decide +kernel
theorem dX5_reason_71 : decode cX5_reason 71 = .ok (.iload_n 1, 1) := by decide +kernel
theorem dX5_reason_72 : decode cX5_reason 72 = .ok (.iload 4, 2) := by decide +kernel
theorem dX5_reason_74 : decode cX5_reason 74 = .ok (.iastore, 1) := by decide +kernel
theorem dX5_reason_75 : decode cX5_reason 75 = .ok (.aload_n 0, 1) := by decide +kernel
theorem dX5_reason_76 : decode cX5_reason 76 = .ok (.getfield 19, 3) := by decide +kernel
theorem dX5_reason_79 : decode cX5_reason 79 = .ok (.iload_n 2, 1) := by decide +kernel
theorem dX5_reason_80 : decode cX5_reason 80 = .ok (.invokevirtual 133, 3) := by decide +kernel
theorem dX5_reason_83 : decode cX5_reason 83 = .ok (.aload_n 0, 1) := by decide +kernel
theorem dX5_reason_84 : decode cX5_reason 84 = .ok (.getfield 19, 3) := by decide +kernel
theorem dX5_reason_87 : decode cX5_reason 87 = .ok (.getfield 60, 3) := by decide +kernel
theorem dX5_reason_90 : decode cX5_reason 90 = .ok (.iload_n 3, 1) := by decide +kernel
theorem dX5_reason_91 : decode cX5_reason 91 = .ok (.if_icmp .lt 6, 3) := by decide +kernel
theorem dX5_reason_94 : decode cX5_reason 94 = .ok (.iload 4, 2) := by decide +kernel
theorem dX5_reason_96 : decode cX5_reason 96 = .ok (.ireturn, 1) := by decide +kernel
theorem dX5_reason_97 : decode cX5_reason 97 = .ok (.iinc 4 1, 3) := by decide +kernel
theorem dX5_reason_100 : decode cX5_reason 100 = .ok (.goto (-54), 3) := by decide +kernel
theorem dX5_reason_103 : decode cX5_reason 103 = .ok (.aload_n 0, 1) := by decide +kernel
theorem dX5_reason_104 : decode cX5_reason 104 = .ok (.iconst 3, 1) := by decide +kernel
theorem dX5_reason_105 : decode cX5_reason 105 = .ok (.invokevirtual 48, 3) := by decide +kernel
theorem dX5_reason_108 : decode cX5_reason 108 = .ok (.ireturn, 1) := by decide +kernel
set_option maxRecDepth 20000 in
theorem ggX5_enough_X5_isWithin : GoodIn wsX5_enough wsX5_isWithin := goodIn_sub (List.forall_mem_cons.mpr ⟨List.mem_of_getElem? (i := 7) rfl, (fun _ h => absurd h List.not_mem_nil)⟩) (by decide +kernel)
set_option maxRecDepth 20000 in
theorem gX5_enough_X5_isWithin : GoodIn wsX5_enough (va_wsS RX5 44 yX5_isWithin wsX5_isWithin) := goodIn_app (goodIn_sub (List.forall_mem_cons.mpr ⟨List.mem_of_getElem? (i := 4) rfl, List.forall_mem_cons.mpr ⟨List.mem_of_getElem? (i := 5) rfl, List.forall_mem_cons.mpr ⟨List.mem_of_getElem? (i := 6) rfl, fun _ h => absurd h List.not_mem_nil⟩⟩⟩) (by decide +kernel)) ggX5_enough_X5_isWithin
set_option maxRecDepth 20000 in
theorem ggX5_enough_X5_tell : GoodIn wsX5_enough wsX5_tell := goodIn_sub (List.forall_mem_cons.mpr ⟨List.mem_of_getElem? (i := 11) rfl, (List.forall_mem_append.mpr ⟨(List.forall_mem_cons.mpr ⟨List.mem_of_getElem? (i := 12) rfl, List.forall_mem_cons.mpr ⟨List.mem_of_getElem? (i := 13) rfl, List.forall_mem_cons.mpr ⟨List.mem_of_getElem? (i := 4) rfl, List.forall_mem_cons.mpr ⟨List.mem_of_getElem? (i := 5) rfl, List.forall_mem_cons.mpr ⟨List.mem_of_getElem? (i := 6) rfl, List.forall_mem_cons.mpr ⟨List.mem_of_getElem? (i := 7) rfl, fun _ h => absurd h List.not_mem_nil⟩⟩⟩⟩⟩⟩), (fun _ h => List.mem_cons_of_mem _ (List.mem_append_left _ (List.mem_append_right _ h)))⟩)⟩) (by decide +kernel)
set_option maxRecDepth 20000 in
theorem gX5_enough_X5_tell : GoodIn wsX5_enough (wsV RX5 48 RX5 yX5_tell wsX5_tell) := goodIn_app (goodIn_sub (List.forall_mem_cons.mpr ⟨List.mem_of_getElem? (i := 8) rfl, List.forall_mem_cons.mpr ⟨List.mem_of_getElem? (i := 9) rfl, List.forall_mem_cons.mpr ⟨List.mem_of_getElem? (i := 10) rfl, List.forall_mem_cons.mpr ⟨List.mem_of_getElem? (i := 6) rfl, fun _ h => absurd h List.not_mem_nil⟩⟩⟩⟩) (by decide +kernel)) ggX5_enough_X5_tell
set_option maxRecDepth 20000 in
theorem ggX5_enough_X0_become : GoodIn wsX5_enough wsX0_become := goodIn_sub (List.forall_mem_cons.mpr ⟨List.mem_of_getElem? (i := 18) rfl, (List.forall_mem_append.mpr ⟨(List.forall_mem_cons.mpr ⟨List.mem_of_getElem? (i := 19) rfl, List.forall_mem_cons.mpr ⟨List.mem_of_getElem? (i := 20) rfl, List.forall_mem_cons.mpr ⟨List.mem_of_getElem? (i := 21) rfl, List.forall_mem_cons.mpr ⟨List.mem_of_getElem? (i := 22) rfl, List.forall_mem_cons.mpr ⟨List.mem_of_getElem? (i := 23) rfl, List.forall_mem_cons.mpr ⟨List.mem_of_getElem? (i := 24) rfl, List.forall_mem_cons.mpr ⟨List.mem_of_getElem? (i := 25) rfl, List.forall_mem_cons.mpr ⟨List.mem_of_getElem? (i := 26) rfl, List.forall_mem_cons.mpr ⟨List.mem_of_getElem? (i := 27) rfl, List.forall_mem_cons.mpr ⟨List.mem_of_getElem? (i := 28) rfl, List.forall_mem_cons.mpr ⟨List.mem_of_getElem? (i := 29) rfl, fun _ h => absurd h List.not_mem_nil⟩⟩⟩⟩⟩⟩⟩⟩⟩⟩⟩), (fun _ h => List.mem_cons_of_mem _ (List.mem_append_right _ h))⟩)⟩) (by decide +kernel)
set_option maxRecDepth 20000 in
theorem gX5_enough_X0_become : GoodIn wsX5_enough (wsV RX5 140 RX0 yX0_become wsX0_become) := goodIn_app (goodIn_sub (List.forall_mem_cons.mpr ⟨List.mem_of_getElem? (i := 14) rfl, List.forall_mem_cons.mpr ⟨List.mem_of_getElem? (i := 15) rfl, List.forall_mem_cons.mpr ⟨List.mem_of_getElem? (i := 16) rfl, List.forall_mem_cons.mpr ⟨List.mem_of_getElem? (i := 17) rfl, fun _ h => absurd h List.not_mem_nil⟩⟩⟩⟩) (by decide +kernel)) ggX5_enough_X0_become
set_option maxRecDepth 20000 in
theorem ggX5_enough_X5_isTrialFed : GoodIn wsX5_enough wsX5_isTrialFed := goodIn_sub (List.forall_mem_cons.mpr ⟨List.mem_of_getElem? (i := 33) rfl, (List.forall_mem_append.mpr ⟨(List.forall_mem_append.mpr ⟨(List.forall_mem_append.mpr ⟨(List.forall_mem_cons.mpr ⟨List.mem_of_getElem? (i := 1) rfl, List.forall_mem_cons.mpr ⟨List.mem_of_getElem? (i := 34) rfl, List.forall_mem_cons.mpr ⟨List.mem_of_getElem? (i := 2) rfl, List.forall_mem_cons.mpr ⟨List.mem_of_getElem? (i := 35) rfl, List.forall_mem_cons.mpr ⟨List.mem_of_getElem? (i := 36) rfl, List.forall_mem_cons.mpr ⟨List.mem_of_getElem? (i := 37) rfl, List.forall_mem_cons.mpr ⟨List.mem_of_getElem? (i := 17) rfl, List.forall_mem_cons.mpr ⟨List.mem_of_getElem? (i := 38) rfl, List.forall_mem_cons.mpr ⟨List.mem_of_getElem? (i := 20) rfl, List.forall_mem_cons.mpr ⟨List.mem_of_getElem? (i := 21) rfl, List.forall_mem_cons.mpr ⟨List.mem_of_getElem? (i := 39) rfl, List.forall_mem_cons.mpr ⟨List.mem_of_getElem? (i := 40) rfl, List.forall_mem_cons.mpr ⟨List.mem_of_getElem? (i := 41) rfl, List.forall_mem_cons.mpr ⟨List.mem_of_getElem? (i := 42) rfl, List.forall_mem_cons.mpr ⟨List.mem_of_getElem? (i := 24) rfl, List.forall_mem_cons.mpr ⟨List.mem_of_getElem? (i := 28) rfl, List.forall_mem_cons.mpr ⟨List.mem_of_getElem? (i := 23) rfl, List.forall_mem_cons.mpr ⟨List.mem_of_getElem? (i := 19) rfl, List.forall_mem_cons.mpr ⟨List.mem_of_getElem? (i := 43) rfl, List.forall_mem_cons.mpr ⟨List.mem_of_getElem? (i := 44) rfl, List.forall_mem_cons.mpr ⟨List.mem_of_getElem? (i := 45) rfl, List.forall_mem_cons.mpr ⟨List.mem_of_getElem? (i := 46) rfl, List.forall_mem_cons.mpr ⟨List.mem_of_getElem? (i := 25) rfl, List.forall_mem_cons.mpr ⟨List.mem_of_getElem? (i := 26) rfl, fun _ h => absurd h List.not_mem_nil⟩⟩⟩⟩⟩⟩⟩⟩⟩⟩⟩⟩⟩⟩⟩⟩⟩⟩⟩⟩⟩⟩⟩⟩), (List.forall_mem_append.mpr ⟨(List.forall_mem_cons.mpr ⟨List.mem_of_getElem? (i := 22) rfl, List.forall_mem_cons.mpr ⟨List.mem_of_getElem? (i := 47) rfl, List.forall_mem_cons.mpr ⟨List.mem_of_getElem? (i := 48) rfl, List.forall_mem_cons.mpr ⟨List.mem_of_getElem? (i := 49) rfl, List.forall_mem_cons.mpr ⟨List.mem_of_getElem? (i := 50) rfl, List.forall_mem_cons.mpr ⟨List.mem_of_getElem? (i := 51) rfl, List.forall_mem_cons.mpr ⟨List.mem_of_getElem? (i := 52) rfl, List.forall_mem_cons.mpr ⟨List.mem_of_getElem? (i := 53) rfl, List.forall_mem_cons.mpr ⟨List.mem_of_getElem? (i := 54) rfl, List.forall_mem_cons.mpr ⟨List.mem_of_getElem? (i := 55) rfl, List.forall_mem_cons.mpr ⟨List.mem_of_getElem? (i := 56) rfl, List.forall_mem_cons.mpr ⟨List.mem_of_getElem? (i := 57) rfl, List.forall_mem_cons.mpr ⟨List.mem_of_getElem? (i := 58) rfl, List.forall_mem_cons.mpr ⟨List.mem_of_getElem? (i := 59) rfl, List.forall_mem_cons.mpr ⟨List.mem_of_getElem? (i := 60) rfl, List.forall_mem_cons.mpr ⟨List.mem_of_getElem? (i := 61) rfl, List.forall_mem_cons.mpr ⟨List.mem_of_getElem? (i := 62) rfl, List.forall_mem_cons.mpr ⟨List.mem_of_getElem? (i := 63) rfl, List.forall_mem_cons.mpr ⟨List.mem_of_getElem? (i := 64) rfl, List.forall_mem_cons.mpr ⟨List.mem_of_getElem? (i := 27) rfl, List.forall_mem_cons.mpr ⟨List.mem_of_getElem? (i := 29) rfl, List.forall_mem_cons.mpr ⟨List.mem_of_getElem? (i := 65) rfl, List.forall_mem_cons.mpr ⟨List.mem_of_getElem? (i := 66) rfl, List.forall_mem_cons.mpr ⟨List.mem_of_getElem? (i := 67) rfl, fun _ h => absurd h List.not_mem_nil⟩⟩⟩⟩⟩⟩⟩⟩⟩⟩⟩⟩⟩⟩⟩⟩⟩⟩⟩⟩⟩⟩⟩⟩), (List.forall_mem_cons.mpr ⟨List.mem_of_getElem? (i := 68) rfl, List.forall_mem_cons.mpr ⟨List.mem_of_getElem? (i := 69) rfl, List.forall_mem_cons.mpr ⟨List.mem_of_getElem? (i := 70) rfl, List.forall_mem_cons.mpr ⟨List.mem_of_getElem? (i := 71) rfl, List.forall_mem_cons.mpr ⟨List.mem_of_getElem? (i := 72) rfl, List.forall_mem_cons.mpr ⟨List.mem_of_getElem? (i := 73) rfl, List.forall_mem_cons.mpr ⟨List.mem_of_getElem? (i := 74) rfl, List.forall_mem_cons.mpr ⟨List.mem_of_getElem? (i := 75) rfl, List.forall_mem_cons.mpr ⟨List.mem_of_getElem? (i := 76) rfl, List.forall_mem_cons.mpr ⟨List.mem_of_getElem? (i := 77) rfl, List.forall_mem_cons.mpr ⟨List.mem_of_getElem? (i := 78) rfl, List.forall_mem_cons.mpr ⟨List.mem_of_getElem? (i := 79) rfl, List.forall_mem_cons.mpr ⟨List.mem_of_getElem? (i := 80) rfl, List.forall_mem_cons.mpr ⟨List.mem_of_getElem? (i := 81) rfl, List.forall_mem_cons.mpr ⟨List.mem_of_getElem? (i := 82) rfl, List.forall_mem_cons.mpr ⟨List.mem_of_getElem? (i := 83) rfl, List.forall_mem_cons.mpr ⟨List.mem_of_getElem? (i := 84) rfl, List.forall_mem_cons.mpr ⟨List.mem_of_getElem? (i := 85) rfl, fun _ h => absurd h List.not_mem_nil⟩⟩⟩⟩⟩⟩⟩⟩⟩⟩⟩⟩⟩⟩⟩⟩⟩⟩)⟩)⟩), (fun _ h => List.mem_cons_of_mem _ (List.mem_append_left _ (List.mem_append_right _ h)))⟩), (fun _ h => List.mem_cons_of_mem _ (List.mem_append_right _ h))⟩)⟩) (by decide +kernel)
set_option maxRecDepth 20000 in
theorem gX5_enough_X5_isTrialFed : GoodIn wsX5_enough (wsV RX5 150 RX5 yX5_isTrialFed wsX5_isTrialFed) := goodIn_app (goodIn_sub (List.forall_mem_cons.mpr ⟨List.mem_of_getElem? (i := 30) rfl, List.forall_mem_cons.mpr ⟨List.mem_of_getElem? (i := 31) rfl, List.forall_mem_cons.mpr ⟨List.mem_of_getElem? (i := 32) rfl, List.forall_mem_cons.mpr ⟨List.mem_of_getElem? (i := 6) rfl, fun _ h => absurd h List.not_mem_nil⟩⟩⟩⟩) (by decide +kernel)) ggX5_enough_X5_isTrialFed
theorem dX5_enough_0 : decode cX5_enough 0 = .ok (.iload_n 1, 1) := by decide +kernel
theorem dX5_enough_1 : decode cX5_enough 1 = .ok (.iconst 1, 1) := by decide +kernel
theorem dX5_enough_2 : decode cX5_enough 2 = .ok (.bipush 60, 2) := by decide +kernel
theorem dX5_enough_4 : decode cX5_enough 4 = .ok (.invokestatic 44, 3) := by decide +kernel
theorem dX5_enough_7 : decode cX5_enough 7 = .ok (.ifCond .ne 9, 3) := by decide +kernel
theorem dX5_enough_10 : decode cX5_enough 10 = .ok (.aload_n 0, 1) := by decide +kernel
theorem dX5_enough_11 : decode cX5_enough 11 = .ok (.iconst 0, 1) := by decide +kernel
theorem dX5_enough_12 : decode cX5_enough 12 = .ok (.invokevirtual 48, 3) := by decide +kernel
theorem dX5_enough_15 : decode cX5_enough 15 = .ok (.ireturn, 1) := by decide +kernel
theorem dX5_enough_16 : decode cX5_enough 16 = .ok (.iconst 0, 1) := by decide +kernel
theorem dX5_enough_17 : decode cX5_enough 17 = .ok (.istore_n 2, 1) := by decide +kernel
theorem dX5_enough_18 : decode cX5_enough 18 = .ok (.iload_n 2, 1) := by decide +kernel
theorem dX5_enough_19 : decode cX5_enough 19 = .ok (.bipush 99, 2) := by decide +kernel
theorem dX5_enough_21 : decode cX5_enough 21 = .ok (.if_icmp .gt 38, 3) := by decide +kernel
theorem dX5_enough_24 : decode cX5_enough 24 = .ok (.aload_n 0, 1) := by decide +kernel
theorem dX5_enough_25 : decode cX5_enough 25 = .ok (.getfield 19, 3) := by decide +kernel
theorem dX5_enough_28 : decode cX5_enough 28 = .ok (.aload_n 0, 1) := by decide +kernel
theorem dX5_enough_29 : decode cX5_enough 29 = .ok (.getfield 10, 3) := by decide +kernel
theorem dX5_enough_32 : decode cX5_enough 32 = .ok (.invokevirtual 140, 3) := by decide +kernel
theorem dX5_enough_35 : decode cX5_enough 35 = .ok (.aload_n 0, 1) := by decide +kernel
theorem dX5_enough_36 : decode cX5_enough 36 = .ok (.getfield 19, 3) := by decide +kernel
theorem dX5_enough_39 : decode cX5_enough 39 = .ok (.iload_n 2, 1) := by decide +kernel
theorem dX5_enough_40 : decode cX5_enough 40 = .ok (.putfield 56, 3) := by decide +kernel
theorem dX5_enough_43 : decode cX5_enough 43 = .ok (.aload_n 0, 1) := by decide +kernel
theorem dX5_enough_44 : decode cX5_enough 44 = .ok (.iload_n 1, 1) := by decide +kernel
theorem dX5_enough_45 : decode cX5_enough 45 = .ok (.invokevirtual 150, 3) := by decide +kernel
theorem dX5_enough_48 : decode cX5_enough 48 = .ok (.ifCond .eq 5, 3) := by decide +kernel
theorem dX5_enough_51 : decode cX5_enough 51 = .ok (.iload_n 2, 1) := by decide +kernel
theorem dX5_enough_52 : decode cX5_enough 52 = .ok (.ireturn, 1) := by decide +kernel
theorem dX5_enough_53 : decode cX5_enough 53 = .ok (.iinc 2 1, 3) := by decide +kernel
theorem dX5_enough_56 : decode cX5_enough 56 = .ok (.goto (-38), 3) := by decide +kernel
theorem dX5_enough_59 : decode cX5_enough 59 = .ok (.aload_n 0, 1) := by decide +kernel
theorem dX5_enough_60 : decode cX5_enough 60 = .ok (.iconst 3, 1) := by decide +kernel
theorem dX5_enough_61 : decode cX5_enough 61 = .ok (.invokevirtual 48, 3) := by decide +kernel
theorem dX5_enough_64 : decode cX5_enough 64 = .ok (.ireturn, 1) := by decide +kernel
set_option maxRecDepth 20000 in
theorem ggX5_kind_X0_hasOne : GoodIn wsX5_kind wsX0_hasOne := goodIn_sub (List.forall_mem_cons.mpr ⟨List.mem_of_getElem? (i := 9) rfl, (List.forall_mem_append.mpr ⟨(List.forall_mem_cons.mpr ⟨List.mem_of_getElem? (i := 10) rfl, fun _ h => absurd h List.not_mem_nil⟩), (fun _ h => List.mem_cons_of_mem _ (List.mem_append_right _ h))⟩)⟩) (by decide +kernel)
set_option maxRecDepth 20000 in
theorem gX5_kind_X0_hasOne : GoodIn wsX5_kind (wsV RX5 89 RX0 yX0_hasOne wsX0_hasOne) := goodIn_app (goodIn_sub (List.forall_mem_cons.mpr ⟨List.mem_of_getElem? (i := 5) rfl, List.forall_mem_cons.mpr ⟨List.mem_of_getElem? (i := 6) rfl, List.forall_mem_cons.mpr ⟨List.mem_of_getElem? (i := 7) rfl, List.forall_mem_cons.mpr ⟨List.mem_of_getElem? (i := 8) rfl, fun _ h => absurd h List.not_mem_nil⟩⟩⟩⟩) (by decide +kernel)) ggX5_kind_X0_hasOne
set_option maxRecDepth 20000 in
theorem ggX5_kind_X5_isWithin : GoodIn wsX5_kind wsX5_isWithin := goodIn_sub (List.forall_mem_cons.mpr ⟨List.mem_of_getElem? (i := 14) rfl, (fun _ h => absurd h List.not_mem_nil)⟩) (by decide +kernel)
set_option maxRecDepth 20000 in
theorem gX5_kind_X5_isWithin : GoodIn wsX5_kind (va_wsS RX5 44 yX5_isWithin wsX5_isWithin) := goodIn_app (goodIn_sub (List.forall_mem_cons.mpr ⟨List.mem_of_getElem? (i := 11) rfl, List.forall_mem_cons.mpr ⟨List.mem_of_getElem? (i := 12) rfl, List.forall_mem_cons.mpr ⟨List.mem_of_getElem? (i := 13) rfl, fun _ h => absurd h List.not_mem_nil⟩⟩⟩) (by decide +kernel)) ggX5_kind_X5_isWithin
set_option maxRecDepth 20000 in
theorem ggX5_kind_X5_tell : GoodIn wsX5_kind wsX5_tell := goodIn_sub (List.forall_mem_cons.mpr ⟨List.mem_of_getElem? (i := 18) rfl, (List.forall_mem_append.mpr ⟨(List.forall_mem_cons.mpr ⟨List.mem_of_getElem? (i := 19) rfl, List.forall_mem_cons.mpr ⟨List.mem_of_getElem? (i := 20) rfl, List.forall_mem_cons.mpr ⟨List.mem_of_getElem? (i := 11) rfl, List.forall_mem_cons.mpr ⟨List.mem_of_getElem? (i := 12) rfl, List.forall_mem_cons.mpr ⟨List.mem_of_getElem? (i := 13) rfl, List.forall_mem_cons.mpr ⟨List.mem_of_getElem? (i := 14) rfl, fun _ h => absurd h List.not_mem_nil⟩⟩⟩⟩⟩⟩), (fun _ h => List.mem_cons_of_mem _ (List.mem_append_left _ (List.mem_append_right _ h)))⟩)⟩) (by decide +kernel)
set_option maxRecDepth 20000 in
theorem gX5_kind_X5_tell : GoodIn wsX5_kind (wsV RX5 48 RX5 yX5_tell wsX5_tell) := goodIn_app (goodIn_sub (List.forall_mem_cons.mpr ⟨List.mem_of_getElem? (i := 15) rfl, List.forall_mem_cons.mpr ⟨List.mem_of_getElem? (i := 16) rfl, List.forall_mem_cons.mpr ⟨List.mem_of_getElem? (i := 17) rfl, List.forall_mem_cons.mpr ⟨List.mem_of_getElem? (i := 13) rfl, fun _ h => absurd h List.not_mem_nil⟩⟩⟩⟩) (by decide +kernel)) ggX5_kind_X5_tell
set_option maxRecDepth 20000 in
theorem ggX5_kind_X0_become : GoodIn wsX5_kind wsX0_become := goodIn_sub (List.forall_mem_cons.mpr ⟨List.mem_of_getElem? (i := 24) rfl, (List.forall_mem_append.mpr ⟨(List.forall_mem_cons.mpr ⟨List.mem_of_getElem? (i := 25) rfl, List.forall_mem_cons.mpr ⟨List.mem_of_getElem? (i := 26) rfl, List.forall_mem_cons.mpr ⟨List.mem_of_getElem? (i := 27) rfl, List.forall_mem_cons.mpr ⟨List.mem_of_getElem? (i := 28) rfl, List.forall_mem_cons.mpr ⟨List.mem_of_getElem? (i := 29) rfl, List.forall_mem_cons.mpr ⟨List.mem_of_getElem? (i := 10) rfl, List.forall_mem_cons.mpr ⟨List.mem_of_getElem? (i := 30) rfl, List.forall_mem_cons.mpr ⟨List.mem_of_getElem? (i := 31) rfl, List.forall_mem_cons.mpr ⟨List.mem_of_getElem? (i := 32) rfl, List.forall_mem_cons.mpr ⟨List.mem_of_getElem? (i := 33) rfl, List.forall_mem_cons.mpr ⟨List.mem_of_getElem? (i := 34) rfl, fun _ h => absurd h List.not_mem_nil⟩⟩⟩⟩⟩⟩⟩⟩⟩⟩⟩), (fun _ h => List.mem_cons_of_mem _ (List.mem_append_right _ h))⟩)⟩) (by decide +kernel)
set_option maxRecDepth 20000 in
theorem gX5_kind_X0_become : GoodIn wsX5_kind (wsV RX5 140 RX0 yX0_become wsX0_become) := goodIn_app (goodIn_sub (List.forall_mem_cons.mpr ⟨List.mem_of_getElem? (i := 21) rfl, List.forall_mem_cons.mpr ⟨List.mem_of_getElem? (i := 22) rfl, List.forall_mem_cons.mpr ⟨List.mem_of_getElem? (i := 23) rfl, List.forall_mem_cons.mpr ⟨List.mem_of_getElem? (i := 8) rfl, fun _ h => absurd h List.not_mem_nil⟩⟩⟩⟩) (by decide +kernel)) ggX5_kind_X0_become
set_option maxRecDepth 20000 in
theorem ggX5_kind_X0_goOn : GoodIn wsX5_kind wsX0_goOn := goodIn_sub (List.forall_mem_cons.mpr ⟨List.mem_of_getElem? (i := 38) rfl, (List.forall_mem_append.mpr ⟨(List.forall_mem_append.mpr ⟨(List.forall_mem_cons.mpr ⟨List.mem_of_getElem? (i := 39) rfl, List.forall_mem_cons.mpr ⟨List.mem_of_getElem? (i := 40) rfl, List.forall_mem_cons.mpr ⟨List.mem_of_getElem? (i := 41) rfl, List.forall_mem_cons.mpr ⟨List.mem_of_getElem? (i := 8) rfl, List.forall_mem_cons.mpr ⟨List.mem_of_getElem? (i := 42) rfl, List.forall_mem_cons.mpr ⟨List.mem_of_getElem? (i := 26) rfl, List.forall_mem_cons.mpr ⟨List.mem_of_getElem? (i := 27) rfl, List.forall_mem_cons.mpr ⟨List.mem_of_getElem? (i := 43) rfl, List.forall_mem_cons.mpr ⟨List.mem_of_getElem? (i := 44) rfl, List.forall_mem_cons.mpr ⟨List.mem_of_getElem? (i := 45) rfl, List.forall_mem_cons.mpr ⟨List.mem_of_getElem? (i := 46) rfl, List.forall_mem_cons.mpr ⟨List.mem_of_getElem? (i := 10) rfl, List.forall_mem_cons.mpr ⟨List.mem_of_getElem? (i := 33) rfl, List.forall_mem_cons.mpr ⟨List.mem_of_getElem? (i := 29) rfl, List.forall_mem_cons.mpr ⟨List.mem_of_getElem? (i := 25) rfl, List.forall_mem_cons.mpr ⟨List.mem_of_getElem? (i := 47) rfl, List.forall_mem_cons.mpr ⟨List.mem_of_getElem? (i := 48) rfl, List.forall_mem_cons.mpr ⟨List.mem_of_getElem? (i := 49) rfl, List.forall_mem_cons.mpr ⟨List.mem_of_getElem? (i := 50) rfl, List.forall_mem_cons.mpr ⟨List.mem_of_getElem? (i := 30) rfl, List.forall_mem_cons.mpr ⟨List.mem_of_getElem? (i := 31) rfl, List.forall_mem_cons.mpr ⟨List.mem_of_getElem? (i := 28) rfl, List.forall_mem_cons.mpr ⟨List.mem_of_getElem? (i := 51) rfl, List.forall_mem_cons.mpr ⟨List.mem_of_getElem? (i := 6) rfl, fun _ h => absurd h List.not_mem_nil⟩⟩⟩⟩⟩⟩⟩⟩⟩⟩⟩⟩⟩⟩⟩⟩⟩⟩⟩⟩⟩⟩⟩⟩), (List.forall_mem_append.mpr ⟨(List.forall_mem_cons.mpr ⟨List.mem_of_getElem? (i := 7) rfl, List.forall_mem_cons.mpr ⟨List.mem_of_getElem? (i := 9) rfl, List.forall_mem_cons.mpr ⟨List.mem_of_getElem? (i := 52) rfl, List.forall_mem_cons.mpr ⟨List.mem_of_getElem? (i := 53) rfl, List.forall_mem_cons.mpr ⟨List.mem_of_getElem? (i := 54) rfl, List.forall_mem_cons.mpr ⟨List.mem_of_getElem? (i := 55) rfl, List.forall_mem_cons.mpr ⟨List.mem_of_getElem? (i := 56) rfl, List.forall_mem_cons.mpr ⟨List.mem_of_getElem? (i := 57) rfl, List.forall_mem_cons.mpr ⟨List.mem_of_getElem? (i := 58) rfl, List.forall_mem_cons.mpr ⟨List.mem_of_getElem? (i := 59) rfl, List.forall_mem_cons.mpr ⟨List.mem_of_getElem? (i := 60) rfl, List.forall_mem_cons.mpr ⟨List.mem_of_getElem? (i := 61) rfl, List.forall_mem_cons.mpr ⟨List.mem_of_getElem? (i := 62) rfl, List.forall_mem_cons.mpr ⟨List.mem_of_getElem? (i := 63) rfl, List.forall_mem_cons.mpr ⟨List.mem_of_getElem? (i := 64) rfl, List.forall_mem_cons.mpr ⟨List.mem_of_getElem? (i := 65) rfl, List.forall_mem_cons.mpr ⟨List.mem_of_getElem? (i := 32) rfl, List.forall_mem_cons.mpr ⟨List.mem_of_getElem? (i := 34) rfl, List.forall_mem_cons.mpr ⟨List.mem_of_getElem? (i := 66) rfl, List.forall_mem_cons.mpr ⟨List.mem_of_getElem? (i := 67) rfl, List.forall_mem_cons.mpr ⟨List.mem_of_getElem? (i := 68) rfl, List.forall_mem_cons.mpr ⟨List.mem_of_getElem? (i := 69) rfl, List.forall_mem_cons.mpr ⟨List.mem_of_getElem? (i := 70) rfl, List.forall_mem_cons.mpr ⟨List.mem_of_getElem? (i := 71) rfl, fun _ h => absurd h List.not_mem_nil⟩⟩⟩⟩⟩⟩⟩⟩⟩⟩⟩⟩⟩⟩⟩⟩⟩⟩⟩⟩⟩⟩⟩⟩), (List.forall_mem_cons.mpr ⟨List.mem_of_getElem? (i := 72) rfl, List.forall_mem_cons.mpr ⟨List.mem_of_getElem? (i := 73) rfl, List.forall_mem_cons.mpr ⟨List.mem_of_getElem? (i := 74) rfl, List.forall_mem_cons.mpr ⟨List.mem_of_getElem? (i := 75) rfl, List.forall_mem_cons.mpr ⟨List.mem_of_getElem? (i := 76) rfl, List.forall_mem_cons.mpr ⟨List.mem_of_getElem? (i := 77) rfl, List.forall_mem_cons.mpr ⟨List.mem_of_getElem? (i := 78) rfl, List.forall_mem_cons.mpr ⟨List.mem_of_getElem? (i := 79) rfl, List.forall_mem_cons.mpr ⟨List.mem_of_getElem? (i := 80) rfl, List.forall_mem_cons.mpr ⟨List.mem_of_getElem? (i := 81) rfl, List.forall_mem_cons.mpr ⟨List.mem_of_getElem? (i := 82) rfl, List.forall_mem_cons.mpr ⟨List.mem_of_getElem? (i := 83) rfl, List.forall_mem_cons.mpr ⟨List.mem_of_getElem? (i := 84) rfl, List.forall_mem_cons.mpr ⟨List.mem_of_getElem? (i := 85) rfl, List.forall_mem_cons.mpr ⟨List.mem_of_getElem? (i := 86) rfl, fun _ h => absurd h List.not_mem_nil⟩⟩⟩⟩⟩⟩⟩⟩⟩⟩⟩⟩⟩⟩⟩)⟩)⟩), (fun _ h => List.mem_cons_of_mem _ (List.mem_append_right _ h))⟩)⟩) (by decide +kernel)
set_option maxRecDepth 20000 in
theorem gX5_kind_X0_goOn : GoodIn wsX5_kind (wsV RX5 133 RX0 yX0_goOn wsX0_goOn) := goodIn_app (goodIn_sub (List.forall_mem_cons.mpr ⟨List.mem_of_getElem? (i := 35) rfl, List.forall_mem_cons.mpr ⟨List.mem_of_getElem? (i := 36) rfl, List.forall_mem_cons.mpr ⟨List.mem_of_getElem? (i := 37) rfl, List.forall_mem_cons.mpr ⟨List.mem_of_getElem? (i := 8) rfl, fun _ h => absurd h List.not_mem_nil⟩⟩⟩⟩) (by decide +kernel)) ggX5_kind_X0_goOn
theorem dX5_kind_0 : decode cX5_kind 0 = .ok (.aload_n 0, 1) := by decide +kernel
theorem dX5_kind_1 : decode cX5_kind 1 = .ok (.getfield 10, 3) := by decide +kernel
theorem dX5_kind_4 : decode cX5_kind 4 = .ok (.iload_n 1, 1) := by decide +kernel
theorem dX5_kind_5 : decode cX5_kind 5 = .ok (.invokevirtual 89, 3) := by decide +kernel
theorem dX5_kind_8 : decode cX5_kind 8 = .ok (.ifCond .eq 13, 3) := by decide +kernel
theorem dX5_kind_11 : decode cX5_kind 11 = .ok (.iload_n 2, 1) := by decide +kernel
theorem dX5_kind_12 : decode cX5_kind 12 = .ok (.iconst 1, 1) := by decide +kernel
theorem dX5_kind_13 : decode cX5_kind 13 = .ok (.bipush 60, 2) := by decide +kernel
theorem dX5_kind_15 : decode cX5_kind 15 = .ok (.invokestatic 44, 3) := by decide +kernel
theorem dX5_kind_18 : decode cX5_kind 18 = .ok (.ifCond .ne 9, 3) := by decide +kernel
theorem dX5_kind_21 : decode cX5_kind 21 = .ok (.aload_n 0, 1) := by decide +kernel
theorem dX5_kind_22 : decode cX5_kind 22 = .ok (.iconst 0, 1) := by decide +kernel
theorem dX5_kind_23 : decode cX5_kind 23 = .ok (.invokevirtual 48, 3) := by decide +kernel
theorem dX5_kind_26 : decode cX5_kind 26 = .ok (.ireturn, 1) := by decide +kernel
theorem dX5_kind_27 : decode cX5_kind 27 = .ok (.iconst (-1), 1) := by decide +kernel
theorem dX5_kind_28 : decode cX5_kind 28 = .ok (.istore_n 3, 1) := by decide +kernel
theorem dX5_kind_29 : decode cX5_kind 29 = .ok (.iconst 0, 1) := by decide +kernel
theorem dX5_kind_30 : decode cX5_kind 30 = .ok (.istore 4, 2) := by decide +kernel
theorem dX5_kind_32 : decode cX5_kind 32 = .ok (.iconst 0, 1) := by decide +kernel
theorem dX5_kind_33 : decode cX5_kind 33 = .ok (.istore 5, 2) := by decide +kernel
theorem dX5_kind_35 : decode cX5_kind 35 = .ok (.iload 5, 2) := by decide +kernel
theorem dX5_kind_37 : decode cX5_kind 37 = .ok (.bipush 6, 2) := by decide +kernel
theorem dX5_kind_39 : decode cX5_kind 39 = .ok (.if_icmp .ge 62, 3) := by decide +kernel
theorem dX5_kind_42 : decode cX5_kind 42 = .ok (.aload_n 0, 1) := by decide +kernel
theorem dX5_kind_43 : decode cX5_kind 43 = .ok (.getfield 19, 3) := by decide +kernel
theorem dX5_kind_46 : decode cX5_kind 46 = .ok (.aload_n 0, 1) := by decide +kernel
theorem dX5_kind_47 : decode cX5_kind 47 = .ok (.getfield 10, 3) := by decide +kernel
theorem dX5_kind_50 : decode cX5_kind 50 = .ok (.invokevirtual 140, 3) := by decide +kernel
theorem dX5_kind_53 : decode cX5_kind 53 = .ok (.aload_n 0, 1) := by decide +kernel
theorem dX5_kind_54 : decode cX5_kind 54 = .ok (.getfield 19, 3) := by decide +kernel
theorem dX5_kind_57 : decode cX5_kind 57 = .ok (.getfield 92, 3) := by decide +kernel
theorem dX5_kind_60 : decode cX5_kind 60 = .ok (.iload_n 1, 1) := by decide +kernel
theorem dX5_kind_61 : decode cX5_kind 61 = .ok (.iload 5, 2) := by decide +kernel
theorem dX5_kind_63 : decode cX5_kind 63 = .ok (.iastore, 1) := by decide +kernel
theorem dX5_kind_64 : decode cX5_kind 64 = .ok (.aload_n 0, 1) := by decide +kernel
theorem dX5_kind_65 : decode cX5_kind 65 = .ok (.getfield 19, 3) := by decide +kernel
theorem dX5_kind_68 : decode cX5_kind 68 = .ok (.iload_n 2, 1) := by decide +kernel
theorem dX5_kind_69 : decode cX5_kind 69 = .ok (.invokevirtual 133, 3) := by decide +kernel
theorem dX5_kind_72 : decode cX5_kind 72 = .ok (.aload_n 0, 1) := by decide +kernel
theorem dX5_kind_73 : decode cX5_kind 73 = .ok (.getfield 19, 3) := by decide +kernel
theorem dX5_kind_76 : decode cX5_kind 76 = .ok (.getfield 60, 3) := by decide +kernel
theorem dX5_kind_79 : decode cX5_kind 79 = .ok (.iload_n 3, 1) := by decide +kernel
theorem dX5_kind_80 : decode cX5_kind 80 = .ok (.if_icmp .le 15, 3) := by decide +kernel
theorem dX5_kind_83 : decode cX5_kind 83 = .ok (.aload_n 0, 1) := by decide +kernel
theorem dX5_kind_84 : decode cX5_kind 84 = .ok (.getfield 19, 3) := by decide +kernel
theorem dX5_kind_87 : decode cX5_kind 87 = .ok (.getfield 60, 3) := by decide +kernel
theorem dX5_kind_90 : decode cX5_kind 90 = .ok (.istore_n 3, 1) := by decide +kernel
theorem dX5_kind_91 : decode cX5_kind 91 = .ok (.iload 5, 2) := by decide +kernel
theorem dX5_kind_93 : decode cX5_kind 93 = .ok (.istore 4, 2) := by decide +kernel
theorem dX5_kind_95 : decode cX5_kind 95 = .ok (.iinc 5 1, 3) := by decide +kernel
theorem dX5_kind_98 : decode cX5_kind 98 = .ok (.goto (-63), 3) := by decide +kernel
theorem dX5_kind_101 : decode cX5_kind 101 = .ok (.iload 4, 2) := by decide +kernel
theorem dX5_kind_103 : decode cX5_kind 103 = .ok (.ireturn, 1) := by decide +kernel
set_option maxRecDepth 20000 in
theorem ggX5_needs_X0_hasOne : GoodIn wsX5_needs wsX0_hasOne := goodIn_sub (List.forall_mem_cons.mpr ⟨List.mem_of_getElem? (i := 9) rfl, (List.forall_mem_append.mpr ⟨(List.forall_mem_cons.mpr ⟨List.mem_of_getElem? (i := 10) rfl, fun _ h => absurd h List.not_mem_nil⟩), (fun _ h => List.mem_cons_of_mem _ (List.mem_append_right _ h))⟩)⟩) (by decide +kernel)
set_option maxRecDepth 20000 in
theorem gX5_needs_X0_hasOne : GoodIn wsX5_needs (wsV RX5 89 RX0 yX0_hasOne wsX0_hasOne) := goodIn_app (goodIn_sub (List.forall_mem_cons.mpr ⟨List.mem_of_getElem? (i := 5) rfl, List.forall_mem_cons.mpr ⟨List.mem_of_getElem? (i := 6) rfl, List.forall_mem_cons.mpr ⟨List.mem_of_getElem? (i := 7) rfl, List.forall_mem_cons.mpr ⟨List.mem_of_getElem? (i := 8) rfl, fun _ h => absurd h List.not_mem_nil⟩⟩⟩⟩) (by decide +kernel)) ggX5_needs_X0_hasOne
set_option maxRecDepth 20000 in
theorem ggX5_needs_X5_isWithin : GoodIn wsX5_needs wsX5_isWithin := goodIn_sub (List.forall_mem_cons.mpr ⟨List.mem_of_getElem? (i := 14) rfl, (fun _ h => absurd h List.not_mem_nil)⟩) (by decide +kernel)
set_option maxRecDepth 20000 in
theorem gX5_needs_X5_isWithin : GoodIn wsX5_needs (va_wsS RX5 44 yX5_isWithin wsX5_isWithin) := goodIn_app (goodIn_sub (List.forall_mem_cons.mpr ⟨List.mem_of_getElem? (i := 11) rfl, List.forall_mem_cons.mpr ⟨List.mem_of_getElem? (i := 12) rfl, List.forall_mem_cons.mpr ⟨List.mem_of_getElem? (i := 13) rfl, fun _ h => absurd h List.not_mem_nil⟩⟩⟩) (by decide +kernel)) ggX5_needs_X5_isWithin
set_option maxRecDepth 20000 in
theorem ggX5_needs_X5_tell : GoodIn wsX5_needs wsX5_tell := goodIn_sub (List.forall_mem_cons.mpr ⟨List.mem_of_getElem? (i := 18) rfl, (List.forall_mem_append.mpr ⟨(List.forall_mem_cons.mpr ⟨List.mem_of_getElem? (i := 19) rfl, List.forall_mem_cons.mpr ⟨List.mem_of_getElem? (i := 20) rfl, List.forall_mem_cons.mpr ⟨List.mem_of_getElem? (i := 11) rfl, List.forall_mem_cons.mpr ⟨List.mem_of_getElem? (i := 12) rfl, List.forall_mem_cons.mpr ⟨List.mem_of_getElem? (i := 13) rfl, List.forall_mem_cons.mpr ⟨List.mem_of_getElem? (i := 14) rfl, fun _ h => absurd h List.not_mem_nil⟩⟩⟩⟩⟩⟩), (fun _ h => List.mem_cons_of_mem _ (List.mem_append_left _ (List.mem_append_right _ h)))⟩)⟩) (by decide +kernel)
set_option maxRecDepth 20000 in
theorem gX5_needs_X5_tell : GoodIn wsX5_needs (wsV RX5 48 RX5 yX5_tell wsX5_tell) := goodIn_app (goodIn_sub (List.forall_mem_cons.mpr ⟨List.mem_of_getElem? (i := 15) rfl, List.forall_mem_cons.mpr ⟨List.mem_of_getElem? (i := 16) rfl, List.forall_mem_cons.mpr ⟨List.mem_of_getElem? (i := 17) rfl, List.forall_mem_cons.mpr ⟨List.mem_of_getElem? (i := 13) rfl, fun _ h => absurd h List.not_mem_nil⟩⟩⟩⟩) (by decide +kernel)) ggX5_needs_X5_tell
set_option maxRecDepth 20000 in
theorem ggX5_needs_X0_become : GoodIn wsX5_needs wsX0_become := goodIn_sub (List.forall_mem_cons.mpr ⟨List.mem_of_getElem? (i := 24) rfl, (List.forall_mem_append.mpr ⟨(List.forall_mem_cons.mpr ⟨List.mem_of_getElem? (i := 25) rfl, List.forall_mem_cons.mpr ⟨List.mem_of_getElem? (i := 26) rfl, List.forall_mem_cons.mpr ⟨List.mem_of_getElem? (i := 27) rfl, List.forall_mem_cons.mpr ⟨List.mem_of_getElem? (i := 28) rfl, List.forall_mem_cons.mpr ⟨List.mem_of_getElem? (i := 29) rfl, List.forall_mem_cons.mpr ⟨List.mem_of_getElem? (i := 10) rfl, List.forall_mem_cons.mpr ⟨List.mem_of_getElem? (i := 30) rfl, List.forall_mem_cons.mpr ⟨List.mem_of_getElem? (i := 31) rfl, List.forall_mem_cons.mpr ⟨List.mem_of_getElem? (i := 32) rfl, List.forall_mem_cons.mpr ⟨List.mem_of_getElem? (i := 33) rfl, List.forall_mem_cons.mpr ⟨List.mem_of_getElem? (i := 34) rfl, fun _ h => absurd h List.not_mem_nil⟩⟩⟩⟩⟩⟩⟩⟩⟩⟩⟩), (fun _ h => List.mem_cons_of_mem _ (List.mem_append_right _ h))⟩)⟩) (by decide +kernel)
set_option maxRecDepth 20000 in
theorem gX5_needs_X0_become : GoodIn wsX5_needs (wsV RX5 140 RX0 yX0_become wsX0_become) := goodIn_app (goodIn_sub (List.forall_mem_cons.mpr ⟨List.mem_of_getElem? (i := 21) rfl, List.forall_mem_cons.mpr ⟨List.mem_of_getElem? (i := 22) rfl, List.forall_mem_cons.mpr ⟨List.mem_of_getElem? (i := 23) rfl, List.forall_mem_cons.mpr ⟨List.mem_of_getElem? (i := 8) rfl, fun _ h => absurd h List.not_mem_nil⟩⟩⟩⟩) (by decide +kernel)) ggX5_needs_X0_become
set_option maxRecDepth 20000 in
theorem ggX5_needs_X0_goOn : GoodIn wsX5_needs wsX0_goOn := goodIn_sub (List.forall_mem_cons.mpr ⟨List.mem_of_getElem? (i := 38) rfl, (List.forall_mem_append.mpr ⟨(List.forall_mem_append.mpr ⟨(List.forall_mem_cons.mpr ⟨List.mem_of_getElem? (i := 39) rfl, List.forall_mem_cons.mpr ⟨List.mem_of_getElem? (i := 40) rfl, List.forall_mem_cons.mpr ⟨List.mem_of_getElem? (i := 41) rfl, List.forall_mem_cons.mpr ⟨List.mem_of_getElem? (i := 8) rfl, List.forall_mem_cons.mpr ⟨List.mem_of_getElem? (i := 42) rfl, List.forall_mem_cons.mpr ⟨List.mem_of_getElem? (i := 26) rfl, List.forall_mem_cons.mpr ⟨List.mem_of_getElem? (i := 27) rfl, List.forall_mem_cons.mpr ⟨List.mem_of_getElem? (i := 43) rfl, List.forall_mem_cons.mpr ⟨List.mem_of_getElem? (i := 44) rfl, List.forall_mem_cons.mpr ⟨List.mem_of_getElem? (i := 45) rfl, List.forall_mem_cons.mpr ⟨List.mem_of_getElem? (i := 46) rfl, List.forall_mem_cons.mpr ⟨List.mem_of_getElem? (i := 10) rfl, List.forall_mem_cons.mpr ⟨List.mem_of_getElem? (i := 33) rfl, List.forall_mem_cons.mpr ⟨List.mem_of_getElem? (i := 29) rfl, List.forall_mem_cons.mpr ⟨List.mem_of_getElem? (i := 25) rfl, List.forall_mem_cons.mpr ⟨List.mem_of_getElem? (i := 47) rfl, List.forall_mem_cons.mpr ⟨List.mem_of_getElem? (i := 48) rfl, List.forall_mem_cons.mpr ⟨List.mem_of_getElem? (i := 49) rfl, List.forall_mem_cons.mpr ⟨List.mem_of_getElem? (i := 50) rfl, List.forall_mem_cons.mpr ⟨List.mem_of_getElem? (i := 30) rfl, List.forall_mem_cons.mpr ⟨List.mem_of_getElem? (i := 31) rfl, List.forall_mem_cons.mpr ⟨List.mem_of_getElem? (i := 28) rfl, List.forall_mem_cons.mpr ⟨List.mem_of_getElem? (i := 51) rfl, List.forall_mem_cons.mpr ⟨List.mem_of_getElem? (i := 6) rfl, fun _ h => absurd h List.not_mem_nil⟩⟩⟩⟩⟩⟩⟩⟩⟩⟩⟩⟩⟩⟩⟩⟩⟩⟩⟩⟩⟩⟩⟩⟩), (List.forall_mem_append.mpr ⟨(List.forall_mem_cons.mpr ⟨List.mem_of_getElem? (i := 7) rfl, List.forall_mem_cons.mpr ⟨List.mem_of_getElem? (i := 9) rfl, List.forall_mem_cons.mpr ⟨List.mem_of_getElem? (i := 52) rfl, List.forall_mem_cons.mpr ⟨List.mem_of_getElem? (i := 53) rfl, List.forall_mem_cons.mpr ⟨List.mem_of_getElem? (i := 54) rfl, List.forall_mem_cons.mpr ⟨List.mem_of_getElem? (i := 55) rfl, List.forall_mem_cons.mpr ⟨List.mem_of_getElem? (i := 56) rfl, List.forall_mem_cons.mpr ⟨List.mem_of_getElem? (i := 57) rfl, List.forall_mem_cons.mpr ⟨List.mem_of_getElem? (i := 58) rfl, List.forall_mem_cons.mpr ⟨List.mem_of_getElem? (i := 59) rfl, List.forall_mem_cons.mpr ⟨List.mem_of_getElem? (i := 60) rfl, List.forall_mem_cons.mpr ⟨List.mem_of_getElem? (i := 61) rfl, List.forall_mem_cons.mpr ⟨List.mem_of_getElem? (i := 62) rfl, List.forall_mem_cons.mpr ⟨List.mem_of_getElem? (i := 63) rfl, List.forall_mem_cons.mpr ⟨List.mem_of_getElem? (i := 64) rfl, List.forall_mem_cons.mpr ⟨List.mem_of_getElem? (i := 65) rfl, List.forall_mem_cons.mpr ⟨List.mem_of_getElem? (i := 32) rfl, List.forall_mem_cons.mpr ⟨List.mem_of_getElem? (i := 34) rfl, List.forall_mem_cons.mpr ⟨List.mem_of_getElem? (i := 66) rfl, List.forall_mem_cons.mpr ⟨List.mem_of_getElem? (i := 67) rfl, List.forall_mem_cons.mpr ⟨List.mem_of_getElem? (i := 68) rfl, List.forall_mem_cons.mpr ⟨List.mem_of_getElem? (i := 69) rfl, List.forall_mem_cons.mpr ⟨List.mem_of_getElem? (i := 70) rfl, List.forall_mem_cons.mpr ⟨List.mem_of_getElem? (i := 71) rfl, fun _ h => absurd h List.not_mem_nil⟩⟩⟩⟩⟩⟩⟩⟩⟩⟩⟩⟩⟩⟩⟩⟩⟩⟩⟩⟩⟩⟩⟩⟩), (List.forall_mem_cons.mpr ⟨List.mem_of_getElem? (i := 72) rfl, List.forall_mem_cons.mpr ⟨List.mem_of_getElem? (i := 73) rfl, List.forall_mem_cons.mpr ⟨List.mem_of_getElem? (i := 74) rfl, List.forall_mem_cons.mpr ⟨List.mem_of_getElem? (i := 75) rfl, List.forall_mem_cons.mpr ⟨List.mem_of_getElem? (i := 76) rfl, List.forall_mem_cons.mpr ⟨List.mem_of_getElem? (i := 77) rfl, List.forall_mem_cons.mpr ⟨List.mem_of_getElem? (i := 78) rfl, List.forall_mem_cons.mpr ⟨List.mem_of_getElem? (i := 79) rfl, List.forall_mem_cons.mpr ⟨List.mem_of_getElem? (i := 80) rfl, List.forall_mem_cons.mpr ⟨List.mem_of_getElem? (i := 81) rfl, List.forall_mem_cons.mpr ⟨List.mem_of_getElem? (i := 82) rfl, List.forall_mem_cons.mpr ⟨List.mem_of_getElem? (i := 83) rfl, List.forall_mem_cons.mpr ⟨List.mem_of_getElem? (i := 84) rfl, List.forall_mem_cons.mpr ⟨List.mem_of_getElem? (i := 85) rfl, List.forall_mem_cons.mpr ⟨List.mem_of_getElem? (i := 86) rfl, fun _ h => absurd h List.not_mem_nil⟩⟩⟩⟩⟩⟩⟩⟩⟩⟩⟩⟩⟩⟩⟩)⟩)⟩), (fun _ h => List.mem_cons_of_mem _ (List.mem_append_right _ h))⟩)⟩) (by decide +kernel)
set_option maxRecDepth 20000 in
theorem gX5_needs_X0_goOn : GoodIn wsX5_needs (wsV RX5 133 RX0 yX0_goOn wsX0_goOn) := goodIn_app (goodIn_sub (List.forall_mem_cons.mpr ⟨List.mem_of_getElem? (i := 35) rfl, List.forall_mem_cons.mpr ⟨List.mem_of_getElem? (i := 36) rfl, List.forall_mem_cons.mpr ⟨List.mem_of_getElem? (i := 37) rfl, List.forall_mem_cons.mpr ⟨List.mem_of_getElem? (i := 8) rfl, fun _ h => absurd h List.not_mem_nil⟩⟩⟩⟩) (by decide +kernel)) ggX5_needs_X0_goOn
theorem dX5_needs_0 : decode cX5_needs 0 = .ok (.aload_n 0, 1) := by decide +kernel
theorem dX5_needs_1 : decode cX5_needs 1 = .ok (.getfield 10, 3) := by decide +kernel
theorem dX5_needs_4 : decode cX5_needs 4 = .ok (.iload_n 1, 1) := by decide +kernel
theorem dX5_needs_5 : decode cX5_needs 5 = .ok (.invokevirtual 89, 3) := by decide +kernel
theorem dX5_needs_8 : decode cX5_needs 8 = .ok (.ifCond .eq 13, 3) := by decide +kernel
theorem dX5_needs_11 : decode cX5_needs 11 = .ok (.iload_n 2, 1) := by decide +kernel
theorem dX5_needs_12 : decode cX5_needs 12 = .ok (.iconst 1, 1) := by decide +kernel
theorem dX5_needs_13 : decode cX5_needs 13 = .ok (.bipush 60, 2) := by decide +kernel
theorem dX5_needs_15 : decode cX5_needs 15 = .ok (.invokestatic 44, 3) := by decide +kernel
theorem dX5_needs_18 : decode cX5_needs 18 = .ok (.ifCond .ne 9, 3) := by decide +kernel
theorem dX5_needs_21 : decode cX5_needs 21 = .ok (.aload_n 0, 1) := by decide +kernel
theorem dX5_needs_22 : decode cX5_needs 22 = .ok (.iconst 0, 1) := by decide +kernel
theorem dX5_needs_23 : decode cX5_needs 23 = .ok (.invokevirtual 48, 3) := by decide +kernel
theorem dX5_needs_26 : decode cX5_needs 26 = .ok (.ireturn, 1) := by decide +kernel
theorem dX5_needs_27 : decode cX5_needs 27 = .ok (.bipush 20, 2) := by decide +kernel
theorem dX5_needs_29 : decode cX5_needs 29 = .ok (.istore_n 3, 1) := by decide +kernel
theorem dX5_needs_30 : decode cX5_needs 30 = .ok (.iload_n 3, 1) := by decide +kernel
theorem dX5_needs_31 : decode cX5_needs 31 = .ok (.ifCond .lt 57, 3) := by decide +kernel
theorem dX5_needs_34 : decode cX5_needs 34 = .ok (.aload_n 0, 1) := by decide +kernel
theorem dX5_needs_35 : decode cX5_needs 35 = .ok (.getfield 19, 3) := by decide +kernel
theorem dX5_needs_38 : decode cX5_needs 38 = .ok (.aload_n 0, 1) := by decide +kernel
theorem dX5_needs_39 : decode cX5_needs 39 = .ok (.getfield 10, 3) := by decide +kernel
theorem dX5_needs_42 : decode cX5_needs 42 = .ok (.invokevirtual 140, 3) := by decide +kernel
theorem dX5_needs_45 : decode cX5_needs 45 = .ok (.aload_n 0, 1) := by decide +kernel
theorem dX5_needs_46 : decode cX5_needs 46 = .ok (.getfield 19, 3) := by decide +kernel
theorem dX5_needs_49 : decode cX5_needs 49 = .ok (.getfield 95, 3) := by decide +kernel
theorem dX5_needs_52 : decode cX5_needs 52 = .ok (.iload_n 1, 1) := by decide +kernel
theorem dX5_needs_53 : decode cX5_needs 53 = .ok (.iload_n 3, 1) := by decide +kernel
theorem dX5_needs_54 : decode cX5_needs 54 = .ok (.iastore, 1) := by decide +kernel
theorem dX5_needs_55 : decode cX5_needs 55 = .ok (.aload_n 0, 1) := by decide +kernel
theorem dX5_needs_56 : decode cX5_needs 56 = .ok (.getfield 19, 3) := by decide +kernel
theorem dX5_needs_59 : decode cX5_needs 59 = .ok (.iload_n 2, 1) := by decide +kernel
theorem dX5_needs_60 : decode cX5_needs 60 = .ok (.invokevirtual 133, 3) := by decide +kernel
theorem dX5_needs_63 : decode cX5_needs 63 = .ok (.aload_n 0, 1) := by decide +kernel
theorem dX5_needs_64 : decode cX5_needs 64 = .ok (.getfield 19, 3) := by decide +kernel
theorem dX5_needs_67 : decode cX5_needs 67 = .ok (.getfield 56, 3) := by decide +kernel
theorem dX5_needs_70 : decode cX5_needs 70 = .ok (.aload_n 0, 1) := by decide +kernel
theorem dX5_needs_71 : decode cX5_needs 71 = .ok (.getfield 10, 3) := by decide +kernel
theorem dX5_needs_74 : decode cX5_needs 74 = .ok (.getfield 56, 3) := by decide +kernel
theorem dX5_needs_77 : decode cX5_needs 77 = .ok (.if_icmp .lt 5, 3) := by decide +kernel
theorem dX5_needs_80 : decode cX5_needs 80 = .ok (.iload_n 3, 1) := by decide +kernel
theorem dX5_needs_81 : decode cX5_needs 81 = .ok (.ireturn, 1) := by decide +kernel
theorem dX5_needs_82 : decode cX5_needs 82 = .ok (.iinc 3 (-1), 3) := by decide +kernel
theorem dX5_needs_85 : decode cX5_needs 85 = .ok (.goto (-55), 3) := by decide +kernel
theorem dX5_needs_88 : decode cX5_needs 88 = .ok (.aload_n 0, 1) := by decide +kernel
theorem dX5_needs_89 : decode cX5_needs 89 = .ok (.iconst 3, 1) := by decide +kernel
theorem dX5_needs_90 : decode cX5_needs 90 = .ok (.invokevirtual 48, 3) := by decide +kernel
theorem dX5_needs_93 : decode cX5_needs 93 = .ok (.ireturn, 1) := by decide +kernel
set_option maxRecDepth 20000 in
theorem ggX5_keep_X5_isWithin : GoodIn wsX5_keep wsX5_isWithin := goodIn_sub (List.forall_mem_cons.mpr ⟨List.mem_of_getElem? (i := 7) rfl, (fun _ h => absurd h List.not_mem_nil)⟩) (by decide +kernel)
set_option maxRecDepth 20000 in
theorem gX5_keep_X5_isWithin : GoodIn wsX5_keep (va_wsS RX5 44 yX5_isWithin wsX5_isWithin) := goodIn_app (goodIn_sub (List.forall_mem_cons.mpr ⟨List.mem_of_getElem? (i := 4) rfl, List.forall_mem_cons.mpr ⟨List.mem_of_getElem? (i := 5) rfl, List.forall_mem_cons.mpr ⟨List.mem_of_getElem? (i := 6) rfl, fun _ h => absurd h List.not_mem_nil⟩⟩⟩) (by decide +kernel)) ggX5_keep_X5_isWithin
set_option maxRecDepth 20000 in
theorem ggX5_keep_X5_tell : GoodIn wsX5_keep wsX5_tell := goodIn_sub (List.forall_mem_cons.mpr ⟨List.mem_of_getElem? (i := 11) rfl, (List.forall_mem_append.mpr ⟨(List.forall_mem_cons.mpr ⟨List.mem_of_getElem? (i := 12) rfl, List.forall_mem_cons.mpr ⟨List.mem_of_getElem? (i := 13) rfl, List.forall_mem_cons.mpr ⟨List.mem_of_getElem? (i := 4) rfl, List.forall_mem_cons.mpr ⟨List.mem_of_getElem? (i := 5) rfl, List.forall_mem_cons.mpr ⟨List.mem_of_getElem? (i := 6) rfl, List.forall_mem_cons.mpr ⟨List.mem_of_getElem? (i := 7) rfl, fun _ h => absurd h List.not_mem_nil⟩⟩⟩⟩⟩⟩), (fun _ h => List.mem_cons_of_mem _ (List.mem_append_left _ (List.mem_append_right _ h)))⟩)⟩) (by decide +kernel)
set_option maxRecDepth 20000 in
theorem gX5_keep_X5_tell : GoodIn wsX5_keep (wsV RX5 48 RX5 yX5_tell wsX5_tell) := goodIn_app (goodIn_sub (List.forall_mem_cons.mpr ⟨List.mem_of_getElem? (i := 8) rfl, List.forall_mem_cons.mpr ⟨List.mem_of_getElem? (i := 9) rfl, List.forall_mem_cons.mpr ⟨List.mem_of_getElem? (i := 10) rfl, List.forall_mem_cons.mpr ⟨List.mem_of_getElem? (i := 6) rfl, fun _ h => absurd h List.not_mem_nil⟩⟩⟩⟩) (by decide +kernel)) ggX5_keep_X5_tell
set_option maxRecDepth 20000 in
theorem ggX5_keep_J6_bitCount_0f7a4 : GoodIn wsX5_keep wsJ6_bitCount_0f7a4 := goodIn_sub (List.forall_mem_cons.mpr ⟨List.mem_of_getElem? (i := 17) rfl, (List.forall_mem_cons.mpr ⟨List.mem_of_getElem? (i := 18) rfl, List.forall_mem_cons.mpr ⟨List.mem_of_getElem? (i := 19) rfl, List.forall_mem_cons.mpr ⟨List.mem_of_getElem? (i := 20) rfl, fun _ h => absurd h List.not_mem_nil⟩⟩⟩)⟩) (by decide +kernel)
set_option maxRecDepth 20000 in
theorem gX5_keep_J6_bitCount_0f7a4 : GoodIn wsX5_keep (va_wsS RX5 153 yJ6_bitCount_0f7a4 wsJ6_bitCount_0f7a4) := goodIn_app (goodIn_sub (List.forall_mem_cons.mpr ⟨List.mem_of_getElem? (i := 14) rfl, List.forall_mem_cons.mpr ⟨List.mem_of_getElem? (i := 15) rfl, List.forall_mem_cons.mpr ⟨List.mem_of_getElem? (i := 16) rfl, fun _ h => absurd h List.not_mem_nil⟩⟩⟩) (by decide +kernel)) ggX5_keep_J6_bitCount_0f7a4
set_option maxRecDepth 20000 in
theorem ggX5_keep_X0_become : GoodIn wsX5_keep wsX0_become := goodIn_sub (List.forall_mem_cons.mpr ⟨List.mem_of_getElem? (i := 25) rfl, (List.forall_mem_append.mpr ⟨(List.forall_mem_cons.mpr ⟨List.mem_of_getElem? (i := 26) rfl, List.forall_mem_cons.mpr ⟨List.mem_of_getElem? (i := 27) rfl, List.forall_mem_cons.mpr ⟨List.mem_of_getElem? (i := 28) rfl, List.forall_mem_cons.mpr ⟨List.mem_of_getElem? (i := 29) rfl, List.forall_mem_cons.mpr ⟨List.mem_of_getElem? (i := 30) rfl, List.forall_mem_cons.mpr ⟨List.mem_of_getElem? (i := 31) rfl, List.forall_mem_cons.mpr ⟨List.mem_of_getElem? (i := 32) rfl, List.forall_mem_cons.mpr ⟨List.mem_of_getElem? (i := 33) rfl, List.forall_mem_cons.mpr ⟨List.mem_of_getElem? (i := 34) rfl, List.forall_mem_cons.mpr ⟨List.mem_of_getElem? (i := 35) rfl, List.forall_mem_cons.mpr ⟨List.mem_of_getElem? (i := 36) rfl, fun _ h => absurd h List.not_mem_nil⟩⟩⟩⟩⟩⟩⟩⟩⟩⟩⟩), (fun _ h => List.mem_cons_of_mem _ (List.mem_append_right _ h))⟩)⟩) (by decide +kernel)
set_option maxRecDepth 20000 in
theorem gX5_keep_X0_become : GoodIn wsX5_keep (wsV RX5 140 RX0 yX0_become wsX0_become) := goodIn_app (goodIn_sub (List.forall_mem_cons.mpr ⟨List.mem_of_getElem? (i := 21) rfl, List.forall_mem_cons.mpr ⟨List.mem_of_getElem? (i := 22) rfl, List.forall_mem_cons.mpr ⟨List.mem_of_getElem? (i := 23) rfl, List.forall_mem_cons.mpr ⟨List.mem_of_getElem? (i := 24) rfl, fun _ h => absurd h List.not_mem_nil⟩⟩⟩⟩) (by decide +kernel)) ggX5_keep_X0_become
set_option maxRecDepth 20000 in
theorem ggX5_keep_X0_watchAll : GoodIn wsX5_keep wsX0_watchAll := goodIn_sub (List.forall_mem_cons.mpr ⟨List.mem_of_getElem? (i := 40) rfl, (List.forall_mem_append.mpr ⟨(List.forall_mem_cons.mpr ⟨List.mem_of_getElem? (i := 31) rfl, List.forall_mem_cons.mpr ⟨List.mem_of_getElem? (i := 35) rfl, fun _ h => absurd h List.not_mem_nil⟩⟩), (fun _ h => List.mem_cons_of_mem _ (List.mem_append_right _ h))⟩)⟩) (by decide +kernel)
set_option maxRecDepth 20000 in
theorem gX5_keep_X0_watchAll : GoodIn wsX5_keep (wsV RX5 158 RX0 yX0_watchAll wsX0_watchAll) := goodIn_app (goodIn_sub (List.forall_mem_cons.mpr ⟨List.mem_of_getElem? (i := 37) rfl, List.forall_mem_cons.mpr ⟨List.mem_of_getElem? (i := 38) rfl, List.forall_mem_cons.mpr ⟨List.mem_of_getElem? (i := 39) rfl, List.forall_mem_cons.mpr ⟨List.mem_of_getElem? (i := 24) rfl, fun _ h => absurd h List.not_mem_nil⟩⟩⟩⟩) (by decide +kernel)) ggX5_keep_X0_watchAll
set_option maxRecDepth 20000 in
theorem ggX5_keep_X5_isTrialFed : GoodIn wsX5_keep wsX5_isTrialFed := goodIn_sub (List.forall_mem_cons.mpr ⟨List.mem_of_getElem? (i := 44) rfl, (List.forall_mem_append.mpr ⟨(List.forall_mem_append.mpr ⟨(List.forall_mem_append.mpr ⟨(List.forall_mem_cons.mpr ⟨List.mem_of_getElem? (i := 3) rfl, List.forall_mem_cons.mpr ⟨List.mem_of_getElem? (i := 45) rfl, List.forall_mem_cons.mpr ⟨List.mem_of_getElem? (i := 1) rfl, List.forall_mem_cons.mpr ⟨List.mem_of_getElem? (i := 46) rfl, List.forall_mem_cons.mpr ⟨List.mem_of_getElem? (i := 47) rfl, List.forall_mem_cons.mpr ⟨List.mem_of_getElem? (i := 48) rfl, List.forall_mem_cons.mpr ⟨List.mem_of_getElem? (i := 24) rfl, List.forall_mem_cons.mpr ⟨List.mem_of_getElem? (i := 49) rfl, List.forall_mem_cons.mpr ⟨List.mem_of_getElem? (i := 27) rfl, List.forall_mem_cons.mpr ⟨List.mem_of_getElem? (i := 28) rfl, List.forall_mem_cons.mpr ⟨List.mem_of_getElem? (i := 50) rfl, List.forall_mem_cons.mpr ⟨List.mem_of_getElem? (i := 51) rfl, List.forall_mem_cons.mpr ⟨List.mem_of_getElem? (i := 52) rfl, List.forall_mem_cons.mpr ⟨List.mem_of_getElem? (i := 53) rfl, List.forall_mem_cons.mpr ⟨List.mem_of_getElem? (i := 31) rfl, List.forall_mem_cons.mpr ⟨List.mem_of_getElem? (i := 35) rfl, List.forall_mem_cons.mpr ⟨List.mem_of_getElem? (i := 30) rfl, List.forall_mem_cons.mpr ⟨List.mem_of_getElem? (i := 26) rfl, List.forall_mem_cons.mpr ⟨List.mem_of_getElem? (i := 54) rfl, List.forall_mem_cons.mpr ⟨List.mem_of_getElem? (i := 55) rfl, List.forall_mem_cons.mpr ⟨List.mem_of_getElem? (i := 56) rfl, List.forall_mem_cons.mpr ⟨List.mem_of_getElem? (i := 57) rfl, List.forall_mem_cons.mpr ⟨List.mem_of_getElem? (i := 32) rfl, List.forall_mem_cons.mpr ⟨List.mem_of_getElem? (i := 33) rfl, fun _ h => absurd h List.not_mem_nil⟩⟩⟩⟩⟩⟩⟩⟩⟩⟩⟩⟩⟩⟩⟩⟩⟩⟩⟩⟩⟩⟩⟩⟩), (List.forall_mem_append.mpr ⟨(List.forall_mem_cons.mpr ⟨List.mem_of_getElem? (i := 29) rfl, List.forall_mem_cons.mpr ⟨List.mem_of_getElem? (i := 58) rfl, List.forall_mem_cons.mpr ⟨List.mem_of_getElem? (i := 59) rfl, List.forall_mem_cons.mpr ⟨List.mem_of_getElem? (i := 60) rfl, List.forall_mem_cons.mpr ⟨List.mem_of_getElem? (i := 61) rfl, List.forall_mem_cons.mpr ⟨List.mem_of_getElem? (i := 62) rfl, List.forall_mem_cons.mpr ⟨List.mem_of_getElem? (i := 63) rfl, List.forall_mem_cons.mpr ⟨List.mem_of_getElem? (i := 64) rfl, List.forall_mem_cons.mpr ⟨List.mem_of_getElem? (i := 65) rfl, List.forall_mem_cons.mpr ⟨List.mem_of_getElem? (i := 66) rfl, List.forall_mem_cons.mpr ⟨List.mem_of_getElem? (i := 67) rfl, List.forall_mem_cons.mpr ⟨List.mem_of_getElem? (i := 68) rfl, List.forall_mem_cons.mpr ⟨List.mem_of_getElem? (i := 69) rfl, List.forall_mem_cons.mpr ⟨List.mem_of_getElem? (i := 70) rfl, List.forall_mem_cons.mpr ⟨List.mem_of_getElem? (i := 71) rfl, List.forall_mem_cons.mpr ⟨List.mem_of_getElem? (i := 72) rfl, List.forall_mem_cons.mpr ⟨List.mem_of_getElem? (i := 73) rfl, List.forall_mem_cons.mpr ⟨List.mem_of_getElem? (i := 74) rfl, List.forall_mem_cons.mpr ⟨List.mem_of_getElem? (i := 75) rfl, List.forall_mem_cons.mpr ⟨List.mem_of_getElem? (i := 34) rfl, List.forall_mem_cons.mpr ⟨List.mem_of_getElem? (i := 36) rfl, List.forall_mem_cons.mpr ⟨List.mem_of_getElem? (i := 76) rfl, List.forall_mem_cons.mpr ⟨List.mem_of_getElem? (i := 77) rfl, List.forall_mem_cons.mpr ⟨List.mem_of_getElem? (i := 78) rfl, fun _ h => absurd h List.not_mem_nil⟩⟩⟩⟩⟩⟩⟩⟩⟩⟩⟩⟩⟩⟩⟩⟩⟩⟩⟩⟩⟩⟩⟩⟩), (List.forall_mem_cons.mpr ⟨List.mem_of_getElem? (i := 79) rfl, List.forall_mem_cons.mpr ⟨List.mem_of_getElem? (i := 80) rfl, List.forall_mem_cons.mpr ⟨List.mem_of_getElem? (i := 81) rfl, List.forall_mem_cons.mpr ⟨List.mem_of_getElem? (i := 82) rfl, List.forall_mem_cons.mpr ⟨List.mem_of_getElem? (i := 83) rfl, List.forall_mem_cons.mpr ⟨List.mem_of_getElem? (i := 84) rfl, List.forall_mem_cons.mpr ⟨List.mem_of_getElem? (i := 85) rfl, List.forall_mem_cons.mpr ⟨List.mem_of_getElem? (i := 86) rfl, List.forall_mem_cons.mpr ⟨List.mem_of_getElem? (i := 87) rfl, List.forall_mem_cons.mpr ⟨List.mem_of_getElem? (i := 88) rfl, List.forall_mem_cons.mpr ⟨List.mem_of_getElem? (i := 89) rfl, List.forall_mem_cons.mpr ⟨List.mem_of_getElem? (i := 90) rfl, List.forall_mem_cons.mpr ⟨List.mem_of_getElem? (i := 91) rfl, List.forall_mem_cons.mpr ⟨List.mem_of_getElem? (i := 92) rfl, List.forall_mem_cons.mpr ⟨List.mem_of_getElem? (i := 93) rfl, List.forall_mem_cons.mpr ⟨List.mem_of_getElem? (i := 94) rfl, List.forall_mem_cons.mpr ⟨List.mem_of_getElem? (i := 95) rfl, List.forall_mem_cons.mpr ⟨List.mem_of_getElem? (i := 96) rfl, fun _ h => absurd h List.not_mem_nil⟩⟩⟩⟩⟩⟩⟩⟩⟩⟩⟩⟩⟩⟩⟩⟩⟩⟩)⟩)⟩), (fun _ h => List.mem_cons_of_mem _ (List.mem_append_left _ (List.mem_append_right _ h)))⟩), (fun _ h => List.mem_cons_of_mem _ (List.mem_append_right _ h))⟩)⟩) (by decide +kernel)
set_option maxRecDepth 20000 in
theorem gX5_keep_X5_isTrialFed : GoodIn wsX5_keep (wsV RX5 150 RX5 yX5_isTrialFed wsX5_isTrialFed) := goodIn_app (goodIn_sub (List.forall_mem_cons.mpr ⟨List.mem_of_getElem? (i := 41) rfl, List.forall_mem_cons.mpr ⟨List.mem_of_getElem? (i := 42) rfl, List.forall_mem_cons.mpr ⟨List.mem_of_getElem? (i := 43) rfl, List.forall_mem_cons.mpr ⟨List.mem_of_getElem? (i := 6) rfl, fun _ h => absurd h List.not_mem_nil⟩⟩⟩⟩) (by decide +kernel)) ggX5_keep_X5_isTrialFed
theorem dX5_keep_0 : decode cX5_keep 0 = .ok (.iload_n 1, 1) := by decide +kernel
theorem dX5_keep_1 : decode cX5_keep 1 = .ok (.iconst 1, 1) := by decide +kernel
theorem dX5_keep_2 : decode cX5_keep 2 = .ok (.bipush 20, 2) := by decide +kernel
theorem dX5_keep_4 : decode cX5_keep 4 = .ok (.invokestatic 44, 3) := by decide +kernel
theorem dX5_keep_7 : decode cX5_keep 7 = .ok (.ifCond .ne 9, 3) := by decide +kernel
theorem dX5_keep_10 : decode cX5_keep 10 = .ok (.aload_n 0, 1) := by decide +kernel
theorem dX5_keep_11 : decode cX5_keep 11 = .ok (.iconst 0, 1) := by decide +kernel
theorem dX5_keep_12 : decode cX5_keep 12 = .ok (.invokevirtual 48, 3) := by decide +kernel
theorem dX5_keep_15 : decode cX5_keep 15 = .ok (.ireturn, 1) := by decide +kernel
theorem dX5_keep_16 : decode cX5_keep 16 = .ok (.iconst (-1), 1) := by decide +kernel
theorem dX5_keep_17 : decode cX5_keep 17 = .ok (.istore_n 2, 1) := by decide +kernel
theorem dX5_keep_18 : decode cX5_keep 18 = .ok (.bipush 9, 2) := by decide +kernel
theorem dX5_keep_20 : decode cX5_keep 20 = .ok (.istore_n 3, 1) := by decide +kernel
theorem dX5_keep_21 : decode cX5_keep 21 = .ok (.iconst 1, 1) := by decide +kernel
theorem dX5_keep_22 : decode cX5_keep 22 = .ok (.aload_n 0, 1) := by decide +kernel
theorem dX5_keep_23 : decode cX5_keep 23 = .ok (.getfield 10, 3) := by decide +kernel
theorem dX5_keep_26 : decode cX5_keep 26 = .ok (.getfield 147, 3) := by decide +kernel
theorem dX5_keep_29 : decode cX5_keep 29 = .ok (.ishl, 1) := by decide +kernel
theorem dX5_keep_30 : decode cX5_keep 30 = .ok (.istore 4, 2) := by decide +kernel
theorem dX5_keep_32 : decode cX5_keep 32 = .ok (.iconst 0, 1) := by decide +kernel
theorem dX5_keep_33 : decode cX5_keep 33 = .ok (.istore 5, 2) := by decide +kernel
theorem dX5_keep_35 : decode cX5_keep 35 = .ok (.iload 5, 2) := by decide +kernel
theorem dX5_keep_37 : decode cX5_keep 37 = .ok (.iload 4, 2) := by decide +kernel
theorem dX5_keep_39 : decode cX5_keep 39 = .ok (.if_icmp .ge 56, 3) := by decide +kernel
theorem dX5_keep_42 : decode cX5_keep 42 = .ok (.iload 5, 2) := by decide +kernel
theorem dX5_keep_44 : decode cX5_keep 44 = .ok (.invokestatic 153, 3) := by decide +kernel
theorem dX5_keep_47 : decode cX5_keep 47 = .ok (.istore 6, 2) := by decide +kernel
theorem dX5_keep_49 : decode cX5_keep 49 = .ok (.iload 6, 2) := by decide +kernel
theorem dX5_keep_51 : decode cX5_keep 51 = .ok (.iload_n 3, 1) := by decide +kernel
theorem dX5_keep_52 : decode cX5_keep 52 = .ok (.if_icmp .ge 37, 3) := by decide +kernel
theorem dX5_keep_55 : decode cX5_keep 55 = .ok (.aload_n 0, 1) := by decide +kernel
theorem dX5_keep_56 : decode cX5_keep 56 = .ok (.getfield 19, 3) := by decide +kernel
theorem dX5_keep_59 : decode cX5_keep 59 = .ok (.aload_n 0, 1) := by decide +kernel
theorem dX5_keep_60 : decode cX5_keep 60 = .ok (.getfield 10, 3) := by decide +kernel
theorem dX5_keep_63 : decode cX5_keep 63 = .ok (.invokevirtual 140, 3) := by decide +kernel
theorem dX5_keep_66 : decode cX5_keep 66 = .ok (.aload_n 0, 1) := by decide +kernel
theorem dX5_keep_67 : decode cX5_keep 67 = .ok (.getfield 19, 3) := by decide +kernel
theorem dX5_keep_70 : decode cX5_keep 70 = .ok (.iload 5, 2) := by decide +kernel
theorem dX5_keep_72 : decode cX5_keep 72 = .ok (.invokevirtual 158, 3) := by decide +kernel
theorem dX5_keep_75 : decode cX5_keep 75 = .ok (.aload_n 0, 1) := by decide +kernel
theorem dX5_keep_76 : decode cX5_keep 76 = .ok (.iload_n 1, 1) := by decide +kernel
theorem dX5_keep_77 : decode cX5_keep 77 = .ok (.invokevirtual 150, 3) := by decide +kernel
theorem dX5_keep_80 : decode cX5_keep 80 = .ok (.ifCond .eq 9, 3) := by decide +kernel
theorem dX5_keep_83 : decode cX5_keep 83 = .ok (.iload 6, 2) := by decide +kernel
theorem dX5_keep_85 : decode cX5_keep 85 = .ok (.istore_n 3, 1) := by decide +kernel
theorem dX5_keep_86 : decode cX5_keep 86 = .ok (.iload 5, 2) := by decide +kernel
theorem dX5_keep_88 : decode cX5_keep 88 = .ok (.istore_n 2, 1) := by decide +kernel
theorem dX5_keep_89 : decode cX5_keep 89 = .ok (.iinc 5 1, 3) := by decide +kernel
theorem dX5_keep_92 : decode cX5_keep 92 = .ok (.goto (-57), 3) := by decide +kernel
theorem dX5_keep_95 : decode cX5_keep 95 = .ok (.iload_n 2, 1) := by decide +kernel
theorem dX5_keep_96 : decode cX5_keep 96 = .ok (.ifCond .ge 11, 3) := by decide +kernel
theorem dX5_keep_99 : decode cX5_keep 99 = .ok (.aload_n 0, 1) := by decide +kernel
theorem dX5_keep_100 : decode cX5_keep 100 = .ok (.iconst 3, 1) := by decide +kernel
theorem dX5_keep_101 : decode cX5_keep 101 = .ok (.invokevirtual 48, 3) := by decide +kernel
theorem dX5_keep_104 : decode cX5_keep 104 = .ok (.goto 4, 3) := by decide +kernel
theorem dX5_keep_107 : decode cX5_keep 107 = .ok (.iload_n 2, 1) := by decide +kernel
theorem dX5_keep_108 : decode cX5_keep 108 = .ok (.ireturn, 1) := by decide +kernel
set_option maxRecDepth 20000 in
theorem ggX5_most_X5_isWithin : GoodIn wsX5_most wsX5_isWithin := goodIn_sub (List.forall_mem_cons.mpr ⟨List.mem_of_getElem? (i := 8) rfl, (fun _ h => absurd h List.not_mem_nil)⟩) (by decide +kernel)
set_option maxRecDepth 20000 in
theorem gX5_most_X5_isWithin : GoodIn wsX5_most (va_wsS RX5 44 yX5_isWithin wsX5_isWithin) := goodIn_app (goodIn_sub (List.forall_mem_cons.mpr ⟨List.mem_of_getElem? (i := 5) rfl, List.forall_mem_cons.mpr ⟨List.mem_of_getElem? (i := 6) rfl, List.forall_mem_cons.mpr ⟨List.mem_of_getElem? (i := 7) rfl, fun _ h => absurd h List.not_mem_nil⟩⟩⟩) (by decide +kernel)) ggX5_most_X5_isWithin
set_option maxRecDepth 20000 in
theorem ggX5_most_X5_tell : GoodIn wsX5_most wsX5_tell := goodIn_sub (List.forall_mem_cons.mpr ⟨List.mem_of_getElem? (i := 12) rfl, (List.forall_mem_append.mpr ⟨(List.forall_mem_cons.mpr ⟨List.mem_of_getElem? (i := 13) rfl, List.forall_mem_cons.mpr ⟨List.mem_of_getElem? (i := 14) rfl, List.forall_mem_cons.mpr ⟨List.mem_of_getElem? (i := 5) rfl, List.forall_mem_cons.mpr ⟨List.mem_of_getElem? (i := 6) rfl, List.forall_mem_cons.mpr ⟨List.mem_of_getElem? (i := 7) rfl, List.forall_mem_cons.mpr ⟨List.mem_of_getElem? (i := 8) rfl, fun _ h => absurd h List.not_mem_nil⟩⟩⟩⟩⟩⟩), (fun _ h => List.mem_cons_of_mem _ (List.mem_append_left _ (List.mem_append_right _ h)))⟩)⟩) (by decide +kernel)
set_option maxRecDepth 20000 in
theorem gX5_most_X5_tell : GoodIn wsX5_most (wsV RX5 48 RX5 yX5_tell wsX5_tell) := goodIn_app (goodIn_sub (List.forall_mem_cons.mpr ⟨List.mem_of_getElem? (i := 9) rfl, List.forall_mem_cons.mpr ⟨List.mem_of_getElem? (i := 10) rfl, List.forall_mem_cons.mpr ⟨List.mem_of_getElem? (i := 11) rfl, List.forall_mem_cons.mpr ⟨List.mem_of_getElem? (i := 7) rfl, fun _ h => absurd h List.not_mem_nil⟩⟩⟩⟩) (by decide +kernel)) ggX5_most_X5_tell
set_option maxRecDepth 20000 in
theorem ggX5_most_X5_tryAsItIs : GoodIn wsX5_most wsX5_tryAsItIs := goodIn_sub (List.forall_mem_cons.mpr ⟨List.mem_of_getElem? (i := 18) rfl, (List.forall_mem_append.mpr ⟨(List.forall_mem_append.mpr ⟨(List.forall_mem_append.mpr ⟨(List.forall_mem_cons.mpr ⟨List.mem_of_getElem? (i := 3) rfl, List.forall_mem_cons.mpr ⟨List.mem_of_getElem? (i := 1) rfl, List.forall_mem_cons.mpr ⟨List.mem_of_getElem? (i := 19) rfl, List.forall_mem_cons.mpr ⟨List.mem_of_getElem? (i := 20) rfl, List.forall_mem_cons.mpr ⟨List.mem_of_getElem? (i := 21) rfl, List.forall_mem_cons.mpr ⟨List.mem_of_getElem? (i := 22) rfl, List.forall_mem_cons.mpr ⟨List.mem_of_getElem? (i := 23) rfl, List.forall_mem_cons.mpr ⟨List.mem_of_getElem? (i := 24) rfl, List.forall_mem_cons.mpr ⟨List.mem_of_getElem? (i := 25) rfl, List.forall_mem_cons.mpr ⟨List.mem_of_getElem? (i := 26) rfl, List.forall_mem_cons.mpr ⟨List.mem_of_getElem? (i := 27) rfl, List.forall_mem_cons.mpr ⟨List.mem_of_getElem? (i := 28) rfl, List.forall_mem_cons.mpr ⟨List.mem_of_getElem? (i := 29) rfl, List.forall_mem_cons.mpr ⟨List.mem_of_getElem? (i := 30) rfl, List.forall_mem_cons.mpr ⟨List.mem_of_getElem? (i := 31) rfl, List.forall_mem_cons.mpr ⟨List.mem_of_getElem? (i := 32) rfl, List.forall_mem_cons.mpr ⟨List.mem_of_getElem? (i := 33) rfl, List.forall_mem_cons.mpr ⟨List.mem_of_getElem? (i := 34) rfl, List.forall_mem_cons.mpr ⟨List.mem_of_getElem? (i := 35) rfl, List.forall_mem_cons.mpr ⟨List.mem_of_getElem? (i := 36) rfl, List.forall_mem_cons.mpr ⟨List.mem_of_getElem? (i := 37) rfl, List.forall_mem_cons.mpr ⟨List.mem_of_getElem? (i := 38) rfl, List.forall_mem_cons.mpr ⟨List.mem_of_getElem? (i := 39) rfl, List.forall_mem_cons.mpr ⟨List.mem_of_getElem? (i := 40) rfl, fun _ h => absurd h List.not_mem_nil⟩⟩⟩⟩⟩⟩⟩⟩⟩⟩⟩⟩⟩⟩⟩⟩⟩⟩⟩⟩⟩⟩⟩⟩), (List.forall_mem_append.mpr ⟨(List.forall_mem_cons.mpr ⟨List.mem_of_getElem? (i := 41) rfl, List.forall_mem_cons.mpr ⟨List.mem_of_getElem? (i := 42) rfl, List.forall_mem_cons.mpr ⟨List.mem_of_getElem? (i := 43) rfl, List.forall_mem_cons.mpr ⟨List.mem_of_getElem? (i := 44) rfl, List.forall_mem_cons.mpr ⟨List.mem_of_getElem? (i := 45) rfl, List.forall_mem_cons.mpr ⟨List.mem_of_getElem? (i := 46) rfl, List.forall_mem_cons.mpr ⟨List.mem_of_getElem? (i := 47) rfl, List.forall_mem_cons.mpr ⟨List.mem_of_getElem? (i := 48) rfl, List.forall_mem_cons.mpr ⟨List.mem_of_getElem? (i := 49) rfl, List.forall_mem_cons.mpr ⟨List.mem_of_getElem? (i := 50) rfl, List.forall_mem_cons.mpr ⟨List.mem_of_getElem? (i := 51) rfl, List.forall_mem_cons.mpr ⟨List.mem_of_getElem? (i := 52) rfl, List.forall_mem_cons.mpr ⟨List.mem_of_getElem? (i := 53) rfl, List.forall_mem_cons.mpr ⟨List.mem_of_getElem? (i := 54) rfl, List.forall_mem_cons.mpr ⟨List.mem_of_getElem? (i := 55) rfl, List.forall_mem_cons.mpr ⟨List.mem_of_getElem? (i := 56) rfl, List.forall_mem_cons.mpr ⟨List.mem_of_getElem? (i := 57) rfl, List.forall_mem_cons.mpr ⟨List.mem_of_getElem? (i := 58) rfl, List.forall_mem_cons.mpr ⟨List.mem_of_getElem? (i := 59) rfl, List.forall_mem_cons.mpr ⟨List.mem_of_getElem? (i := 60) rfl, List.forall_mem_cons.mpr ⟨List.mem_of_getElem? (i := 61) rfl, List.forall_mem_cons.mpr ⟨List.mem_of_getElem? (i := 62) rfl, List.forall_mem_cons.mpr ⟨List.mem_of_getElem? (i := 63) rfl, List.forall_mem_cons.mpr ⟨List.mem_of_getElem? (i := 64) rfl, fun _ h => absurd h List.not_mem_nil⟩⟩⟩⟩⟩⟩⟩⟩⟩⟩⟩⟩⟩⟩⟩⟩⟩⟩⟩⟩⟩⟩⟩⟩), (List.forall_mem_append.mpr ⟨(List.forall_mem_cons.mpr ⟨List.mem_of_getElem? (i := 65) rfl, List.forall_mem_cons.mpr ⟨List.mem_of_getElem? (i := 66) rfl, List.forall_mem_cons.mpr ⟨List.mem_of_getElem? (i := 67) rfl, List.forall_mem_cons.mpr ⟨List.mem_of_getElem? (i := 68) rfl, List.forall_mem_cons.mpr ⟨List.mem_of_getElem? (i := 69) rfl, List.forall_mem_cons.mpr ⟨List.mem_of_getElem? (i := 70) rfl, List.forall_mem_cons.mpr ⟨List.mem_of_getElem? (i := 71) rfl, List.forall_mem_cons.mpr ⟨List.mem_of_getElem? (i := 72) rfl, List.forall_mem_cons.mpr ⟨List.mem_of_getElem? (i := 73) rfl, List.forall_mem_cons.mpr ⟨List.mem_of_getElem? (i := 74) rfl, List.forall_mem_cons.mpr ⟨List.mem_of_getElem? (i := 75) rfl, List.forall_mem_cons.mpr ⟨List.mem_of_getElem? (i := 76) rfl, List.forall_mem_cons.mpr ⟨List.mem_of_getElem? (i := 77) rfl, List.forall_mem_cons.mpr ⟨List.mem_of_getElem? (i := 78) rfl, List.forall_mem_cons.mpr ⟨List.mem_of_getElem? (i := 79) rfl, List.forall_mem_cons.mpr ⟨List.mem_of_getElem? (i := 80) rfl, List.forall_mem_cons.mpr ⟨List.mem_of_getElem? (i := 81) rfl, List.forall_mem_cons.mpr ⟨List.mem_of_getElem? (i := 82) rfl, List.forall_mem_cons.mpr ⟨List.mem_of_getElem? (i := 83) rfl, List.forall_mem_cons.mpr ⟨List.mem_of_getElem? (i := 84) rfl, List.forall_mem_cons.mpr ⟨List.mem_of_getElem? (i := 85) rfl, List.forall_mem_cons.mpr ⟨List.mem_of_getElem? (i := 86) rfl, List.forall_mem_cons.mpr ⟨List.mem_of_getElem? (i := 87) rfl, List.forall_mem_cons.mpr ⟨List.mem_of_getElem? (i := 88) rfl, fun _ h => absurd h List.not_mem_nil⟩⟩⟩⟩⟩⟩⟩⟩⟩⟩⟩⟩⟩⟩⟩⟩⟩⟩⟩⟩⟩⟩⟩⟩), (List.forall_mem_cons.mpr ⟨List.mem_of_getElem? (i := 89) rfl, fun _ h => absurd h List.not_mem_nil⟩)⟩)⟩)⟩), (fun _ h => List.mem_cons_of_mem _ (List.mem_append_left _ (List.mem_append_right _ h)))⟩), (fun _ h => List.mem_cons_of_mem _ (List.mem_append_right _ h))⟩)⟩) (by decide +kernel)
set_option maxRecDepth 20000 in
theorem gX5_most_X5_tryAsItIs : GoodIn wsX5_most (wsV RX5 137 RX5 yX5_tryAsItIs wsX5_tryAsItIs) := goodIn_app (goodIn_sub (List.forall_mem_cons.mpr ⟨List.mem_of_getElem? (i := 15) rfl, List.forall_mem_cons.mpr ⟨List.mem_of_getElem? (i := 16) rfl, List.forall_mem_cons.mpr ⟨List.mem_of_getElem? (i := 17) rfl, List.forall_mem_cons.mpr ⟨List.mem_of_getElem? (i := 7) rfl, fun _ h => absurd h List.not_mem_nil⟩⟩⟩⟩) (by decide +kernel)) ggX5_most_X5_tryAsItIs
theorem dX5_most_0 : decode cX5_most 0 = .ok (.iload_n 1, 1) := by decide +kernel
theorem dX5_most_1 : decode cX5_most 1 = .ok (.iconst 0, 1) := by decide +kernel
theorem dX5_most_2 : decode cX5_most 2 = .ok (.bipush 100, 2) := by decide +kernel
theorem dX5_most_4 : decode cX5_most 4 = .ok (.invokestatic 44, 3) := by decide +kernel
theorem dX5_most_7 : decode cX5_most 7 = .ok (.ifCond .ne 9, 3) := by decide +kernel
theorem dX5_most_10 : decode cX5_most 10 = .ok (.aload_n 0, 1) := by decide +kernel
theorem dX5_most_11 : decode cX5_most 11 = .ok (.iconst 0, 1) := by decide +kernel
theorem dX5_most_12 : decode cX5_most 12 = .ok (.invokevirtual 48, 3) := by decide +kernel
theorem dX5_most_15 : decode cX5_most 15 = .ok (.ireturn, 1) := by decide +kernel
theorem dX5_most_16 : decode cX5_most 16 = .ok (.aload_n 0, 1) := by decide +kernel
theorem dX5_most_17 : decode cX5_most 17 = .ok (.getfield 10, 3) := by decide +kernel
theorem dX5_most_20 : decode cX5_most 20 = .ok (.getfield 147, 3) := by decide +kernel
theorem dX5_most_23 : decode cX5_most 23 = .ok (.ifCond .ne 9, 3) := by decide +kernel
theorem dX5_most_26 : decode cX5_most 26 = .ok (.aload_n 0, 1) := by decide +kernel
theorem dX5_most_27 : decode cX5_most 27 = .ok (.iconst 3, 1) := by decide +kernel
theorem dX5_most_28 : decode cX5_most 28 = .ok (.invokevirtual 48, 3) := by decide +kernel
theorem dX5_most_31 : decode cX5_most 31 = .ok (.ireturn, 1) := by decide +kernel
theorem dX5_most_32 : decode cX5_most 32 = .ok (.aload_n 0, 1) := by decide +kernel
theorem dX5_most_33 : decode cX5_most 33 = .ok (.iload_n 1, 1) := by decide +kernel
theorem dX5_most_34 : decode cX5_most 34 = .ok (.invokevirtual 137, 3) := by decide +kernel
theorem dX5_most_37 : decode cX5_most 37 = .ok (.iconst 0, 1) := by decide +kernel
theorem dX5_most_38 : decode cX5_most 38 = .ok (.istore_n 2, 1) := by decide +kernel
theorem dX5_most_39 : decode cX5_most 39 = .ok (.iconst 1, 1) := by decide +kernel
theorem dX5_most_40 : decode cX5_most 40 = .ok (.istore_n 3, 1) := by decide +kernel
theorem dX5_most_41 : decode cX5_most 41 = .ok (.iload_n 3, 1) := by decide +kernel
theorem dX5_most_42 : decode cX5_most 42 = .ok (.aload_n 0, 1) := by decide +kernel
theorem dX5_most_43 : decode cX5_most 43 = .ok (.getfield 19, 3) := by decide +kernel
theorem dX5_most_46 : decode cX5_most 46 = .ok (.getfield 147, 3) := by decide +kernel
theorem dX5_most_49 : decode cX5_most 49 = .ok (.if_icmp .ge 32, 3) := by decide +kernel
theorem dX5_most_52 : decode cX5_most 52 = .ok (.aload_n 0, 1) := by decide +kernel
theorem dX5_most_53 : decode cX5_most 53 = .ok (.getfield 19, 3) := by decide +kernel
theorem dX5_most_56 : decode cX5_most 56 = .ok (.getfield 104, 3) := by decide +kernel
theorem dX5_most_59 : decode cX5_most 59 = .ok (.iload_n 3, 1) := by decide +kernel
theorem dX5_most_60 : decode cX5_most 60 = .ok (.iaload, 1) := by decide +kernel
theorem dX5_most_61 : decode cX5_most 61 = .ok (.aload_n 0, 1) := by decide +kernel
theorem dX5_most_62 : decode cX5_most 62 = .ok (.getfield 19, 3) := by decide +kernel
theorem dX5_most_65 : decode cX5_most 65 = .ok (.getfield 104, 3) := by decide +kernel
theorem dX5_most_68 : decode cX5_most 68 = .ok (.iload_n 2, 1) := by decide +kernel
theorem dX5_most_69 : decode cX5_most 69 = .ok (.iaload, 1) := by decide +kernel
theorem dX5_most_70 : decode cX5_most 70 = .ok (.if_icmp .le 5, 3) := by decide +kernel
theorem dX5_most_73 : decode cX5_most 73 = .ok (.iload_n 3, 1) := by decide +kernel
theorem dX5_most_74 : decode cX5_most 74 = .ok (.istore_n 2, 1) := by decide +kernel
theorem dX5_most_75 : decode cX5_most 75 = .ok (.iinc 3 1, 3) := by decide +kernel
theorem dX5_most_78 : decode cX5_most 78 = .ok (.goto (-37), 3) := by decide +kernel
theorem dX5_most_81 : decode cX5_most 81 = .ok (.iload_n 2, 1) := by decide +kernel
theorem dX5_most_82 : decode cX5_most 82 = .ok (.ireturn, 1) := by decide +kernel
set_option maxRecDepth 20000 in
theorem ggX5_feed_X5_isWithin : GoodIn wsX5_feed wsX5_isWithin := goodIn_sub (List.forall_mem_cons.mpr ⟨List.mem_of_getElem? (i := 6) rfl, (fun _ h => absurd h List.not_mem_nil)⟩) (by decide +kernel)
set_option maxRecDepth 20000 in
theorem gX5_feed_X5_isWithin : GoodIn wsX5_feed (va_wsS RX5 44 yX5_isWithin wsX5_isWithin) := goodIn_app (goodIn_sub (List.forall_mem_cons.mpr ⟨List.mem_of_getElem? (i := 3) rfl, List.forall_mem_cons.mpr ⟨List.mem_of_getElem? (i := 4) rfl, List.forall_mem_cons.mpr ⟨List.mem_of_getElem? (i := 5) rfl, fun _ h => absurd h List.not_mem_nil⟩⟩⟩) (by decide +kernel)) ggX5_feed_X5_isWithin
set_option maxRecDepth 20000 in
theorem ggX5_feed_X5_tell : GoodIn wsX5_feed wsX5_tell := goodIn_sub (List.forall_mem_cons.mpr ⟨List.mem_of_getElem? (i := 10) rfl, (List.forall_mem_append.mpr ⟨(List.forall_mem_cons.mpr ⟨List.mem_of_getElem? (i := 11) rfl, List.forall_mem_cons.mpr ⟨List.mem_of_getElem? (i := 12) rfl, List.forall_mem_cons.mpr ⟨List.mem_of_getElem? (i := 3) rfl, List.forall_mem_cons.mpr ⟨List.mem_of_getElem? (i := 4) rfl, List.forall_mem_cons.mpr ⟨List.mem_of_getElem? (i := 5) rfl, List.forall_mem_cons.mpr ⟨List.mem_of_getElem? (i := 6) rfl, fun _ h => absurd h List.not_mem_nil⟩⟩⟩⟩⟩⟩), (fun _ h => List.mem_cons_of_mem _ (List.mem_append_left _ (List.mem_append_right _ h)))⟩)⟩) (by decide +kernel)
set_option maxRecDepth 20000 in
theorem gX5_feed_X5_tell : GoodIn wsX5_feed (wsV RX5 48 RX5 yX5_tell wsX5_tell) := goodIn_app (goodIn_sub (List.forall_mem_cons.mpr ⟨List.mem_of_getElem? (i := 7) rfl, List.forall_mem_cons.mpr ⟨List.mem_of_getElem? (i := 8) rfl, List.forall_mem_cons.mpr ⟨List.mem_of_getElem? (i := 9) rfl, List.forall_mem_cons.mpr ⟨List.mem_of_getElem? (i := 5) rfl, fun _ h => absurd h List.not_mem_nil⟩⟩⟩⟩) (by decide +kernel)) ggX5_feed_X5_tell
set_option maxRecDepth 20000 in
theorem ggX5_feed_X4_hasRoomFor : GoodIn wsX5_feed wsX4_hasRoomFor := goodIn_sub (List.forall_mem_cons.mpr ⟨List.mem_of_getElem? (i := 17) rfl, (List.forall_mem_append.mpr ⟨(List.forall_mem_cons.mpr ⟨List.mem_of_getElem? (i := 18) rfl, fun _ h => absurd h List.not_mem_nil⟩), (fun _ h => List.mem_cons_of_mem _ (List.mem_append_right _ h))⟩)⟩) (by decide +kernel)
set_option maxRecDepth 20000 in
theorem gX5_feed_X4_hasRoomFor : GoodIn wsX5_feed (wsV RX5 161 RX4 yX4_hasRoomFor wsX4_hasRoomFor) := goodIn_app (goodIn_sub (List.forall_mem_cons.mpr ⟨List.mem_of_getElem? (i := 13) rfl, List.forall_mem_cons.mpr ⟨List.mem_of_getElem? (i := 14) rfl, List.forall_mem_cons.mpr ⟨List.mem_of_getElem? (i := 15) rfl, List.forall_mem_cons.mpr ⟨List.mem_of_getElem? (i := 16) rfl, fun _ h => absurd h List.not_mem_nil⟩⟩⟩⟩) (by decide +kernel)) ggX5_feed_X4_hasRoomFor
set_option maxRecDepth 20000 in
theorem ggX5_feed_X4_append : GoodIn wsX5_feed wsX4_append := goodIn_sub (List.forall_mem_cons.mpr ⟨List.mem_of_getElem? (i := 22) rfl, (List.forall_mem_append.mpr ⟨(List.forall_mem_cons.mpr ⟨List.mem_of_getElem? (i := 18) rfl, List.forall_mem_cons.mpr ⟨List.mem_of_getElem? (i := 23) rfl, fun _ h => absurd h List.not_mem_nil⟩⟩), (fun _ h => List.mem_cons_of_mem _ (List.mem_append_right _ h))⟩)⟩) (by decide +kernel)
set_option maxRecDepth 20000 in
theorem gX5_feed_X4_append : GoodIn wsX5_feed (wsV RX5 164 RX4 yX4_append wsX4_append) := goodIn_app (goodIn_sub (List.forall_mem_cons.mpr ⟨List.mem_of_getElem? (i := 19) rfl, List.forall_mem_cons.mpr ⟨List.mem_of_getElem? (i := 20) rfl, List.forall_mem_cons.mpr ⟨List.mem_of_getElem? (i := 21) rfl, List.forall_mem_cons.mpr ⟨List.mem_of_getElem? (i := 16) rfl, fun _ h => absurd h List.not_mem_nil⟩⟩⟩⟩) (by decide +kernel)) ggX5_feed_X4_append
theorem dX5_feed_0 : decode cX5_feed 0 = .ok (.iload_n 2, 1) := by decide +kernel
theorem dX5_feed_1 : decode cX5_feed 1 = .ok (.iconst 1, 1) := by decide +kernel
theorem dX5_feed_2 : decode cX5_feed 2 = .ok (.iconst 4, 1) := by decide +kernel
theorem dX5_feed_3 : decode cX5_feed 3 = .ok (.invokestatic 44, 3) := by decide +kernel
theorem dX5_feed_6 : decode cX5_feed 6 = .ok (.ifCond .ne 9, 3) := by decide +kernel
theorem dX5_feed_9 : decode cX5_feed 9 = .ok (.aload_n 0, 1) := by decide +kernel
theorem dX5_feed_10 : decode cX5_feed 10 = .ok (.iconst 0, 1) := by decide +kernel
theorem dX5_feed_11 : decode cX5_feed 11 = .ok (.invokevirtual 48, 3) := by decide +kernel
theorem dX5_feed_14 : decode cX5_feed 14 = .ok (.ireturn, 1) := by decide +kernel
theorem dX5_feed_15 : decode cX5_feed 15 = .ok (.aload_n 0, 1) := by decide +kernel
theorem dX5_feed_16 : decode cX5_feed 16 = .ok (.getfield 25, 3) := by decide +kernel
theorem dX5_feed_19 : decode cX5_feed 19 = .ok (.iload_n 2, 1) := by decide +kernel
theorem dX5_feed_20 : decode cX5_feed 20 = .ok (.invokevirtual 161, 3) := by decide +kernel
theorem dX5_feed_23 : decode cX5_feed 23 = .ok (.ifCond .ne 9, 3) := by decide +kernel
theorem dX5_feed_26 : decode cX5_feed 26 = .ok (.aload_n 0, 1) := by decide +kernel
theorem dX5_feed_27 : decode cX5_feed 27 = .ok (.iconst 1, 1) := by decide +kernel
theorem dX5_feed_28 : decode cX5_feed 28 = .ok (.invokevirtual 48, 3) := by decide +kernel
theorem dX5_feed_31 : decode cX5_feed 31 = .ok (.ireturn, 1) := by decide +kernel
theorem dX5_feed_32 : decode cX5_feed 32 = .ok (.aload_n 0, 1) := by decide +kernel
theorem dX5_feed_33 : decode cX5_feed 33 = .ok (.getfield 25, 3) := by decide +kernel
theorem dX5_feed_36 : decode cX5_feed 36 = .ok (.iload_n 1, 1) := by decide +kernel
theorem dX5_feed_37 : decode cX5_feed 37 = .ok (.iload_n 2, 1) := by decide +kernel
theorem dX5_feed_38 : decode cX5_feed 38 = .ok (.invokevirtual 164, 3) := by decide +kernel
theorem dX5_feed_41 : decode cX5_feed 41 = .ok (.aload_n 0, 1) := by decide +kernel
theorem dX5_feed_42 : decode cX5_feed 42 = .ok (.getfield 25, 3) := by decide +kernel
theorem dX5_feed_45 : decode cX5_feed 45 = .ok (.getfield 167, 3) := by decide +kernel
theorem dX5_feed_48 : decode cX5_feed 48 = .ok (.ireturn, 1) := by decide +kernel
theorem dX5_wipe_0 : decode cX5_wipe 0 = .ok (.aload_n 0, 1) := by decide +kernel
theorem dX5_wipe_1 : decode cX5_wipe 1 = .ok (.getfield 25, 3) := by decide +kernel
theorem dX5_wipe_4 : decode cX5_wipe 4 = .ok (.getfield 167, 3) := by decide +kernel
theorem dX5_wipe_7 : decode cX5_wipe 7 = .ok (.istore_n 1, 1) := by decide +kernel
theorem dX5_wipe_8 : decode cX5_wipe 8 = .ok (.aload_n 0, 1) := by decide +kernel
theorem dX5_wipe_9 : decode cX5_wipe 9 = .ok (.getfield 25, 3) := by decide +kernel
theorem dX5_wipe_12 : decode cX5_wipe 12 = .ok (.iconst 0, 1) := by decide +kernel
theorem dX5_wipe_13 : decode cX5_wipe 13 = .ok (.putfield 167, 3) := by decide +kernel
theorem dX5_wipe_16 : decode cX5_wipe 16 = .ok (.iload_n 1, 1) := by decide +kernel
theorem dX5_wipe_17 : decode cX5_wipe 17 = .ok (.ireturn, 1) := by decide +kernel
set_option maxRecDepth 20000 in
theorem ggX5_text_X0_become : GoodIn wsX5_text wsX0_become := goodIn_sub (List.forall_mem_cons.mpr ⟨List.mem_of_getElem? (i := 12) rfl, (List.forall_mem_append.mpr ⟨(List.forall_mem_cons.mpr ⟨List.mem_of_getElem? (i := 13) rfl, List.forall_mem_cons.mpr ⟨List.mem_of_getElem? (i := 14) rfl, List.forall_mem_cons.mpr ⟨List.mem_of_getElem? (i := 15) rfl, List.forall_mem_cons.mpr ⟨List.mem_of_getElem? (i := 16) rfl, List.forall_mem_cons.mpr ⟨List.mem_of_getElem? (i := 17) rfl, List.forall_mem_cons.mpr ⟨List.mem_of_getElem? (i := 18) rfl, List.forall_mem_cons.mpr ⟨List.mem_of_getElem? (i := 19) rfl, List.forall_mem_cons.mpr ⟨List.mem_of_getElem? (i := 20) rfl, List.forall_mem_cons.mpr ⟨List.mem_of_getElem? (i := 21) rfl, List.forall_mem_cons.mpr ⟨List.mem_of_getElem? (i := 22) rfl, List.forall_mem_cons.mpr ⟨List.mem_of_getElem? (i := 23) rfl, fun _ h => absurd h List.not_mem_nil⟩⟩⟩⟩⟩⟩⟩⟩⟩⟩⟩), (fun _ h => List.mem_cons_of_mem _ (List.mem_append_right _ h))⟩)⟩) (by decide +kernel)
set_option maxRecDepth 20000 in
theorem gX5_text_X0_become : GoodIn wsX5_text (wsV RX5 140 RX0 yX0_become wsX0_become) := goodIn_app (goodIn_sub (List.forall_mem_cons.mpr ⟨List.mem_of_getElem? (i := 8) rfl, List.forall_mem_cons.mpr ⟨List.mem_of_getElem? (i := 9) rfl, List.forall_mem_cons.mpr ⟨List.mem_of_getElem? (i := 10) rfl, List.forall_mem_cons.mpr ⟨List.mem_of_getElem? (i := 11) rfl, fun _ h => absurd h List.not_mem_nil⟩⟩⟩⟩) (by decide +kernel)) ggX5_text_X0_become
set_option maxRecDepth 20000 in
theorem ggX5_text_X1_init : GoodIn wsX5_text wsX1_init := goodIn_sub (List.forall_mem_cons.mpr ⟨List.mem_of_getElem? (i := 26) rfl, (List.forall_mem_append.mpr ⟨(List.forall_mem_cons.mpr ⟨List.mem_of_getElem? (i := 27) rfl, List.forall_mem_cons.mpr ⟨List.mem_of_getElem? (i := 28) rfl, List.forall_mem_cons.mpr ⟨List.mem_of_getElem? (i := 29) rfl, List.forall_mem_cons.mpr ⟨List.mem_of_getElem? (i := 30) rfl, List.forall_mem_cons.mpr ⟨List.mem_of_getElem? (i := 31) rfl, List.forall_mem_cons.mpr ⟨List.mem_of_getElem? (i := 32) rfl, List.forall_mem_cons.mpr ⟨List.mem_of_getElem? (i := 33) rfl, List.forall_mem_cons.mpr ⟨List.mem_of_getElem? (i := 34) rfl, List.forall_mem_cons.mpr ⟨List.mem_of_getElem? (i := 35) rfl, fun _ h => absurd h List.not_mem_nil⟩⟩⟩⟩⟩⟩⟩⟩⟩), (fun _ h => List.mem_cons_of_mem _ (List.mem_append_left _ (List.mem_append_left _ (List.mem_append_right _ h))))⟩)⟩) (by decide +kernel)
set_option maxRecDepth 20000 in
theorem gX5_text_X1_init : GoodIn wsX5_text (wsX1_init) := ggX5_text_X1_init
set_option maxRecDepth 20000 in
theorem ggX5_text_X1_readItems : GoodIn wsX5_text wsX1_readItems := goodIn_sub (List.forall_mem_cons.mpr ⟨List.mem_of_getElem? (i := 39) rfl, (List.forall_mem_append.mpr ⟨(List.forall_mem_append.mpr ⟨(List.forall_mem_append.mpr ⟨(List.forall_mem_append.mpr ⟨(List.forall_mem_cons.mpr ⟨List.mem_of_getElem? (i := 31) rfl, List.forall_mem_cons.mpr ⟨List.mem_of_getElem? (i := 30) rfl, List.forall_mem_cons.mpr ⟨List.mem_of_getElem? (i := 40) rfl, List.forall_mem_cons.mpr ⟨List.mem_of_getElem? (i := 41) rfl, List.forall_mem_cons.mpr ⟨List.mem_of_getElem? (i := 42) rfl, List.forall_mem_cons.mpr ⟨List.mem_of_getElem? (i := 5) rfl, List.forall_mem_cons.mpr ⟨List.mem_of_getElem? (i := 43) rfl, List.forall_mem_cons.mpr ⟨List.mem_of_getElem? (i := 32) rfl, List.forall_mem_cons.mpr ⟨List.mem_of_getElem? (i := 34) rfl, List.forall_mem_cons.mpr ⟨List.mem_of_getElem? (i := 44) rfl, List.forall_mem_cons.mpr ⟨List.mem_of_getElem? (i := 33) rfl, List.forall_mem_cons.mpr ⟨List.mem_of_getElem? (i := 45) rfl, List.forall_mem_cons.mpr ⟨List.mem_of_getElem? (i := 46) rfl, List.forall_mem_cons.mpr ⟨List.mem_of_getElem? (i := 47) rfl, List.forall_mem_cons.mpr ⟨List.mem_of_getElem? (i := 48) rfl, List.forall_mem_cons.mpr ⟨List.mem_of_getElem? (i := 49) rfl, List.forall_mem_cons.mpr ⟨List.mem_of_getElem? (i := 50) rfl, List.forall_mem_cons.mpr ⟨List.mem_of_getElem? (i := 51) rfl, List.forall_mem_cons.mpr ⟨List.mem_of_getElem? (i := 52) rfl, List.forall_mem_cons.mpr ⟨List.mem_of_getElem? (i := 53) rfl, List.forall_mem_cons.mpr ⟨List.mem_of_getElem? (i := 54) rfl, List.forall_mem_cons.mpr ⟨List.mem_of_getElem? (i := 55) rfl, List.forall_mem_cons.mpr ⟨List.mem_of_getElem? (i := 56) rfl, List.forall_mem_cons.mpr ⟨List.mem_of_getElem? (i := 57) rfl, fun _ h => absurd h List.not_mem_nil⟩⟩⟩⟩⟩⟩⟩⟩⟩⟩⟩⟩⟩⟩⟩⟩⟩⟩⟩⟩⟩⟩⟩⟩), (List.forall_mem_append.mpr ⟨(List.forall_mem_cons.mpr ⟨List.mem_of_getElem? (i := 58) rfl, List.forall_mem_cons.mpr ⟨List.mem_of_getElem? (i := 59) rfl, List.forall_mem_cons.mpr ⟨List.mem_of_getElem? (i := 60) rfl, List.forall_mem_cons.mpr ⟨List.mem_of_getElem? (i := 61) rfl, List.forall_mem_cons.mpr ⟨List.mem_of_getElem? (i := 62) rfl, List.forall_mem_cons.mpr ⟨List.mem_of_getElem? (i := 63) rfl, List.forall_mem_cons.mpr ⟨List.mem_of_getElem? (i := 64) rfl, List.forall_mem_cons.mpr ⟨List.mem_of_getElem? (i := 65) rfl, List.forall_mem_cons.mpr ⟨List.mem_of_getElem? (i := 35) rfl, List.forall_mem_cons.mpr ⟨List.mem_of_getElem? (i := 66) rfl, List.forall_mem_cons.mpr ⟨List.mem_of_getElem? (i := 67) rfl, List.forall_mem_cons.mpr ⟨List.mem_of_getElem? (i := 68) rfl, List.forall_mem_cons.mpr ⟨List.mem_of_getElem? (i := 69) rfl, List.forall_mem_cons.mpr ⟨List.mem_of_getElem? (i := 70) rfl, List.forall_mem_cons.mpr ⟨List.mem_of_getElem? (i := 71) rfl, List.forall_mem_cons.mpr ⟨List.mem_of_getElem? (i := 72) rfl, List.forall_mem_cons.mpr ⟨List.mem_of_getElem? (i := 73) rfl, List.forall_mem_cons.mpr ⟨List.mem_of_getElem? (i := 74) rfl, List.forall_mem_cons.mpr ⟨List.mem_of_getElem? (i := 75) rfl, List.forall_mem_cons.mpr ⟨List.mem_of_getElem? (i := 76) rfl, List.forall_mem_cons.mpr ⟨List.mem_of_getElem? (i := 77) rfl, List.forall_mem_cons.mpr ⟨List.mem_of_getElem? (i := 78) rfl, List.forall_mem_cons.mpr ⟨List.mem_of_getElem? (i := 79) rfl, List.forall_mem_cons.mpr ⟨List.mem_of_getElem? (i := 80) rfl, fun _ h => absurd h List.not_mem_nil⟩⟩⟩⟩⟩⟩⟩⟩⟩⟩⟩⟩⟩⟩⟩⟩⟩⟩⟩⟩⟩⟩⟩⟩), (List.forall_mem_append.mpr ⟨(List.forall_mem_cons.mpr ⟨List.mem_of_getElem? (i := 81) rfl, List.forall_mem_cons.mpr ⟨List.mem_of_getElem? (i := 82) rfl, List.forall_mem_cons.mpr ⟨List.mem_of_getElem? (i := 83) rfl, List.forall_mem_cons.mpr ⟨List.mem_of_getElem? (i := 84) rfl, List.forall_mem_cons.mpr ⟨List.mem_of_getElem? (i := 85) rfl, List.forall_mem_cons.mpr ⟨List.mem_of_getElem? (i := 86) rfl, List.forall_mem_cons.mpr ⟨List.mem_of_getElem? (i := 87) rfl, List.forall_mem_cons.mpr ⟨List.mem_of_getElem? (i := 88) rfl, List.forall_mem_cons.mpr ⟨List.mem_of_getElem? (i := 89) rfl, List.forall_mem_cons.mpr ⟨List.mem_of_getElem? (i := 90) rfl, List.forall_mem_cons.mpr ⟨List.mem_of_getElem? (i := 91) rfl, List.forall_mem_cons.mpr ⟨List.mem_of_getElem? (i := 92) rfl, List.forall_mem_cons.mpr ⟨List.mem_of_getElem? (i := 93) rfl, List.forall_mem_cons.mpr ⟨List.mem_of_getElem? (i := 94) rfl, List.forall_mem_cons.mpr ⟨List.mem_of_getElem? (i := 95) rfl, List.forall_mem_cons.mpr ⟨List.mem_of_getElem? (i := 96) rfl, List.forall_mem_cons.mpr ⟨List.mem_of_getElem? (i := 97) rfl, List.forall_mem_cons.mpr ⟨List.mem_of_getElem? (i := 98) rfl, List.forall_mem_cons.mpr ⟨List.mem_of_getElem? (i := 99) rfl, List.forall_mem_cons.mpr ⟨List.mem_of_getElem? (i := 100) rfl, List.forall_mem_cons.mpr ⟨List.mem_of_getElem? (i := 101) rfl, List.forall_mem_cons.mpr ⟨List.mem_of_getElem? (i := 102) rfl, List.forall_mem_cons.mpr ⟨List.mem_of_getElem? (i := 103) rfl, List.forall_mem_cons.mpr ⟨List.mem_of_getElem? (i := 104) rfl, fun _ h => absurd h List.not_mem_nil⟩⟩⟩⟩⟩⟩⟩⟩⟩⟩⟩⟩⟩⟩⟩⟩⟩⟩⟩⟩⟩⟩⟩⟩), (List.forall_mem_append.mpr ⟨(List.forall_mem_cons.mpr ⟨List.mem_of_getElem? (i := 105) rfl, List.forall_mem_cons.mpr ⟨List.mem_of_getElem? (i := 106) rfl, List.forall_mem_cons.mpr ⟨List.mem_of_getElem? (i := 107) rfl, List.forall_mem_cons.mpr ⟨List.mem_of_getElem? (i := 108) rfl, List.forall_mem_cons.mpr ⟨List.mem_of_getElem? (i := 109) rfl, List.forall_mem_cons.mpr ⟨List.mem_of_getElem? (i := 110) rfl, List.forall_mem_cons.mpr ⟨List.mem_of_getElem? (i := 111) rfl, List.forall_mem_cons.mpr ⟨List.mem_of_getElem? (i := 112) rfl, List.forall_mem_cons.mpr ⟨List.mem_of_getElem? (i := 113) rfl, List.forall_mem_cons.mpr ⟨List.mem_of_getElem? (i := 114) rfl, List.forall_mem_cons.mpr ⟨List.mem_of_getElem? (i := 115) rfl, List.forall_mem_cons.mpr ⟨List.mem_of_getElem? (i := 116) rfl, List.forall_mem_cons.mpr ⟨List.mem_of_getElem? (i := 117) rfl, List.forall_mem_cons.mpr ⟨List.mem_of_getElem? (i := 118) rfl, List.forall_mem_cons.mpr ⟨List.mem_of_getElem? (i := 119) rfl, List.forall_mem_cons.mpr ⟨List.mem_of_getElem? (i := 120) rfl, List.forall_mem_cons.mpr ⟨List.mem_of_getElem? (i := 121) rfl, List.forall_mem_cons.mpr ⟨List.mem_of_getElem? (i := 122) rfl, List.forall_mem_cons.mpr ⟨List.mem_of_getElem? (i := 123) rfl, List.forall_mem_cons.mpr ⟨List.mem_of_getElem? (i := 124) rfl, List.forall_mem_cons.mpr ⟨List.mem_of_getElem? (i := 125) rfl, List.forall_mem_cons.mpr ⟨List.mem_of_getElem? (i := 126) rfl, List.forall_mem_cons.mpr ⟨List.mem_of_getElem? (i := 127) rfl, List.forall_mem_cons.mpr ⟨List.mem_of_getElem? (i := 128) rfl, fun _ h => absurd h List.not_mem_nil⟩⟩⟩⟩⟩⟩⟩⟩⟩⟩⟩⟩⟩⟩⟩⟩⟩⟩⟩⟩⟩⟩⟩⟩), (List.forall_mem_append.mpr ⟨(List.forall_mem_cons.mpr ⟨List.mem_of_getElem? (i := 129) rfl, List.forall_mem_cons.mpr ⟨List.mem_of_getElem? (i := 130) rfl, List.forall_mem_cons.mpr ⟨List.mem_of_getElem? (i := 131) rfl, List.forall_mem_cons.mpr ⟨List.mem_of_getElem? (i := 132) rfl, List.forall_mem_cons.mpr ⟨List.mem_of_getElem? (i := 133) rfl, List.forall_mem_cons.mpr ⟨List.mem_of_getElem? (i := 134) rfl, List.forall_mem_cons.mpr ⟨List.mem_of_getElem? (i := 11) rfl, List.forall_mem_cons.mpr ⟨List.mem_of_getElem? (i := 135) rfl, List.forall_mem_cons.mpr ⟨List.mem_of_getElem? (i := 18) rfl, List.forall_mem_cons.mpr ⟨List.mem_of_getElem? (i := 19) rfl, List.forall_mem_cons.mpr ⟨List.mem_of_getElem? (i := 20) rfl, List.forall_mem_cons.mpr ⟨List.mem_of_getElem? (i := 21) rfl, List.forall_mem_cons.mpr ⟨List.mem_of_getElem? (i := 22) rfl, List.forall_mem_cons.mpr ⟨List.mem_of_getElem? (i := 23) rfl, List.forall_mem_cons.mpr ⟨List.mem_of_getElem? (i := 136) rfl, List.forall_mem_cons.mpr ⟨List.mem_of_getElem? (i := 137) rfl, List.forall_mem_cons.mpr ⟨List.mem_of_getElem? (i := 138) rfl, List.forall_mem_cons.mpr ⟨List.mem_of_getElem? (i := 139) rfl, List.forall_mem_cons.mpr ⟨List.mem_of_getElem? (i := 140) rfl, List.forall_mem_cons.mpr ⟨List.mem_of_getElem? (i := 141) rfl, List.forall_mem_cons.mpr ⟨List.mem_of_getElem? (i := 142) rfl, List.forall_mem_cons.mpr ⟨List.mem_of_getElem? (i := 143) rfl, List.forall_mem_cons.mpr ⟨List.mem_of_getElem? (i := 144) rfl, List.forall_mem_cons.mpr ⟨List.mem_of_getElem? (i := 145) rfl, fun _ h => absurd h List.not_mem_nil⟩⟩⟩⟩⟩⟩⟩⟩⟩⟩⟩⟩⟩⟩⟩⟩⟩⟩⟩⟩⟩⟩⟩⟩), (List.forall_mem_cons.mpr ⟨List.mem_of_getElem? (i := 146) rfl, List.forall_mem_cons.mpr ⟨List.mem_of_getElem? (i := 147) rfl, fun _ h => absurd h List.not_mem_nil⟩⟩)⟩)⟩)⟩)⟩)⟩), (fun _ h => List.mem_cons_of_mem _ (List.mem_append_left _ (List.mem_append_left _ (List.mem_append_right _ h))))⟩), (fun _ h => List.mem_cons_of_mem _ (List.mem_append_left _ (List.mem_append_right _ h)))⟩), (fun _ h => List.mem_cons_of_mem _ (List.mem_append_right _ h))⟩)⟩) (by decide +kernel)
set_option maxRecDepth 20000 in
theorem gX5_text_X1_readItems : GoodIn wsX5_text (wsV RX5 175 RX1 yX1_readItems wsX1_readItems) := goodIn_app (goodIn_sub (List.forall_mem_cons.mpr ⟨List.mem_of_getElem? (i := 36) rfl, List.forall_mem_cons.mpr ⟨List.mem_of_getElem? (i := 37) rfl, List.forall_mem_cons.mpr ⟨List.mem_of_getElem? (i := 38) rfl, List.forall_mem_cons.mpr ⟨List.mem_of_getElem? (i := 5) rfl, fun _ h => absurd h List.not_mem_nil⟩⟩⟩⟩) (by decide +kernel)) ggX5_text_X1_readItems
theorem dX5_text_0 : decode cX5_text 0 = .ok (.aload_n 0, 1) := by decide +kernel
theorem dX5_text_1 : decode cX5_text 1 = .ok (.getfield 19, 3) := by decide +kernel
theorem dX5_text_4 : decode cX5_text 4 = .ok (.aload_n 0, 1) := by decide +kernel
theorem dX5_text_5 : decode cX5_text 5 = .ok (.getfield 10, 3) := by decide +kernel
theorem dX5_text_8 : decode cX5_text 8 = .ok (.invokevirtual 140, 3) := by decide +kernel
theorem dX5_text_11 : decode cX5_text 11 = .ok (.new 170, 3) := by decide +kernel
theorem dX5_text_14 : decode cX5_text 14 = .ok (.dup, 1) := by decide +kernel
theorem dX5_text_15 : decode cX5_text 15 = .ok (.aload_n 0, 1) := by decide +kernel
theorem dX5_text_16 : decode cX5_text 16 = .ok (.getfield 25, 3) := by decide +kernel
theorem dX5_text_19 : decode cX5_text 19 = .ok (.aload_n 0, 1) := by decide +kernel
theorem dX5_text_20 : decode cX5_text 20 = .ok (.getfield 19, 3) := by decide +kernel
theorem dX5_text_23 : decode cX5_text 23 = .ok (.invokespecial 172, 3) := by decide +kernel
theorem dX5_text_26 : decode cX5_text 26 = .ok (.invokevirtual 175, 3) := by decide +kernel
theorem dX5_text_29 : decode cX5_text 29 = .ok (.istore_n 1, 1) := by decide +kernel
theorem dX5_text_30 : decode cX5_text 30 = .ok (.aload_n 0, 1) := by decide +kernel
theorem dX5_text_31 : decode cX5_text 31 = .ok (.getfield 25, 3) := by decide +kernel
theorem dX5_text_34 : decode cX5_text 34 = .ok (.iconst 0, 1) := by decide +kernel
theorem dX5_text_35 : decode cX5_text 35 = .ok (.putfield 167, 3) := by decide +kernel
theorem dX5_text_38 : decode cX5_text 38 = .ok (.iload_n 1, 1) := by decide +kernel
theorem dX5_text_39 : decode cX5_text 39 = .ok (.ifCond .lt 14, 3) := by decide +kernel
theorem dX5_text_42 : decode cX5_text 42 = .ok (.aload_n 0, 1) := by decide +kernel
theorem dX5_text_43 : decode cX5_text 43 = .ok (.getfield 10, 3) := by decide +kernel
theorem dX5_text_46 : decode cX5_text 46 = .ok (.aload_n 0, 1) := by decide +kernel
theorem dX5_text_47 : decode cX5_text 47 = .ok (.getfield 19, 3) := by decide +kernel
theorem dX5_text_50 : decode cX5_text 50 = .ok (.invokevirtual 140, 3) := by decide +kernel
theorem dX5_text_53 : decode cX5_text 53 = .ok (.iload_n 1, 1) := by decide +kernel
theorem dX5_text_54 : decode cX5_text 54 = .ok (.ireturn, 1) := by decide +kernel
set_option maxRecDepth 20000 in
theorem ggX5_sheet_X3_isOne : GoodIn wsX5_sheet wsX3_isOne := goodIn_sub (List.forall_mem_cons.mpr ⟨List.mem_of_getElem? (i := 6) rfl, (fun _ h => absurd h List.not_mem_nil)⟩) (by decide +kernel)
set_option maxRecDepth 20000 in
theorem gX5_sheet_X3_isOne : GoodIn wsX5_sheet (va_wsS RX5 178 yX3_isOne wsX3_isOne) := goodIn_app (goodIn_sub (List.forall_mem_cons.mpr ⟨List.mem_of_getElem? (i := 3) rfl, List.forall_mem_cons.mpr ⟨List.mem_of_getElem? (i := 4) rfl, List.forall_mem_cons.mpr ⟨List.mem_of_getElem? (i := 5) rfl, fun _ h => absurd h List.not_mem_nil⟩⟩⟩) (by decide +kernel)) ggX5_sheet_X3_isOne
set_option maxRecDepth 20000 in
theorem ggX5_sheet_X3_mayHave : GoodIn wsX5_sheet wsX3_mayHave := goodIn_sub (List.forall_mem_cons.mpr ⟨List.mem_of_getElem? (i := 9) rfl, (fun _ h => absurd h List.not_mem_nil)⟩) (by decide +kernel)
set_option maxRecDepth 20000 in
theorem gX5_sheet_X3_mayHave : GoodIn wsX5_sheet (va_wsS RX5 179 yX3_mayHave wsX3_mayHave) := goodIn_app (goodIn_sub (List.forall_mem_cons.mpr ⟨List.mem_of_getElem? (i := 7) rfl, List.forall_mem_cons.mpr ⟨List.mem_of_getElem? (i := 8) rfl, List.forall_mem_cons.mpr ⟨List.mem_of_getElem? (i := 5) rfl, fun _ h => absurd h List.not_mem_nil⟩⟩⟩) (by decide +kernel)) ggX5_sheet_X3_mayHave
set_option maxRecDepth 20000 in
theorem ggX5_sheet_X5_tell : GoodIn wsX5_sheet wsX5_tell := goodIn_sub (List.forall_mem_cons.mpr ⟨List.mem_of_getElem? (i := 14) rfl, (List.forall_mem_append.mpr ⟨(List.forall_mem_cons.mpr ⟨List.mem_of_getElem? (i := 15) rfl, List.forall_mem_cons.mpr ⟨List.mem_of_getElem? (i := 16) rfl, List.forall_mem_cons.mpr ⟨List.mem_of_getElem? (i := 17) rfl, List.forall_mem_cons.mpr ⟨List.mem_of_getElem? (i := 18) rfl, List.forall_mem_cons.mpr ⟨List.mem_of_getElem? (i := 13) rfl, List.forall_mem_cons.mpr ⟨List.mem_of_getElem? (i := 19) rfl, fun _ h => absurd h List.not_mem_nil⟩⟩⟩⟩⟩⟩), (fun _ h => List.mem_cons_of_mem _ (List.mem_append_left _ (List.mem_append_right _ h)))⟩)⟩) (by decide +kernel)
set_option maxRecDepth 20000 in
theorem gX5_sheet_X5_tell : GoodIn wsX5_sheet (wsV RX5 48 RX5 yX5_tell wsX5_tell) := goodIn_app (goodIn_sub (List.forall_mem_cons.mpr ⟨List.mem_of_getElem? (i := 10) rfl, List.forall_mem_cons.mpr ⟨List.mem_of_getElem? (i := 11) rfl, List.forall_mem_cons.mpr ⟨List.mem_of_getElem? (i := 12) rfl, List.forall_mem_cons.mpr ⟨List.mem_of_getElem? (i := 13) rfl, fun _ h => absurd h List.not_mem_nil⟩⟩⟩⟩) (by decide +kernel)) ggX5_sheet_X5_tell
set_option maxRecDepth 20000 in
theorem ggX5_sheet_X3_layOut : GoodIn wsX5_sheet wsX3_layOut := goodIn_sub (List.forall_mem_cons.mpr ⟨List.mem_of_getElem? (i := 23) rfl, (List.forall_mem_append.mpr ⟨(List.forall_mem_cons.mpr ⟨List.mem_of_getElem? (i := 24) rfl, List.forall_mem_cons.mpr ⟨List.mem_of_getElem? (i := 25) rfl, List.forall_mem_cons.mpr ⟨List.mem_of_getElem? (i := 26) rfl, List.forall_mem_cons.mpr ⟨List.mem_of_getElem? (i := 27) rfl, List.forall_mem_cons.mpr ⟨List.mem_of_getElem? (i := 4) rfl, List.forall_mem_cons.mpr ⟨List.mem_of_getElem? (i := 5) rfl, List.forall_mem_cons.mpr ⟨List.mem_of_getElem? (i := 6) rfl, fun _ h => absurd h List.not_mem_nil⟩⟩⟩⟩⟩⟩⟩), (fun _ h => List.mem_cons_of_mem _ (List.mem_append_right _ h))⟩)⟩) (by decide +kernel)
set_option maxRecDepth 20000 in
theorem gX5_sheet_X3_layOut : GoodIn wsX5_sheet (wsV RX5 182 RX3 yX3_layOut wsX3_layOut) := goodIn_app (goodIn_sub (List.forall_mem_cons.mpr ⟨List.mem_of_getElem? (i := 20) rfl, List.forall_mem_cons.mpr ⟨List.mem_of_getElem? (i := 21) rfl, List.forall_mem_cons.mpr ⟨List.mem_of_getElem? (i := 22) rfl, List.forall_mem_cons.mpr ⟨List.mem_of_getElem? (i := 5) rfl, fun _ h => absurd h List.not_mem_nil⟩⟩⟩⟩) (by decide +kernel)) ggX5_sheet_X3_layOut
theorem dX5_sheet_0 : decode cX5_sheet 0 = .ok (.iload_n 1, 1) := by decide +kernel
theorem dX5_sheet_1 : decode cX5_sheet 1 = .ok (.invokestatic 178, 3) := by decide +kernel
theorem dX5_sheet_4 : decode cX5_sheet 4 = .ok (.ifCond .eq 10, 3) := by decide +kernel
theorem dX5_sheet_7 : decode cX5_sheet 7 = .ok (.iload_n 2, 1) := by decide +kernel
theorem dX5_sheet_8 : decode cX5_sheet 8 = .ok (.invokestatic 179, 3) := by decide +kernel
theorem dX5_sheet_11 : decode cX5_sheet 11 = .ok (.ifCond .ne 9, 3) := by decide +kernel
theorem dX5_sheet_14 : decode cX5_sheet 14 = .ok (.aload_n 0, 1) := by decide +kernel
theorem dX5_sheet_15 : decode cX5_sheet 15 = .ok (.iconst 0, 1) := by decide +kernel
theorem dX5_sheet_16 : decode cX5_sheet 16 = .ok (.invokevirtual 48, 3) := by decide +kernel
theorem dX5_sheet_19 : decode cX5_sheet 19 = .ok (.ireturn, 1) := by decide +kernel
theorem dX5_sheet_20 : decode cX5_sheet 20 = .ok (.iload_n 3, 1) := by decide +kernel
theorem dX5_sheet_21 : decode cX5_sheet 21 = .ok (.ifCond .ge 10, 3) := by decide +kernel
theorem dX5_sheet_24 : decode cX5_sheet 24 = .ok (.aload_n 0, 1) := by decide +kernel
theorem dX5_sheet_25 : decode cX5_sheet 25 = .ok (.bipush 6, 2) := by decide +kernel
theorem dX5_sheet_27 : decode cX5_sheet 27 = .ok (.invokevirtual 48, 3) := by decide +kernel
theorem dX5_sheet_30 : decode cX5_sheet 30 = .ok (.ireturn, 1) := by decide +kernel
theorem dX5_sheet_31 : decode cX5_sheet 31 = .ok (.iload_n 3, 1) := by decide +kernel
theorem dX5_sheet_32 : decode cX5_sheet 32 = .ok (.bipush 40, 2) := by decide +kernel
theorem dX5_sheet_34 : decode cX5_sheet 34 = .ok (.if_icmp .le 9, 3) := by decide +kernel
theorem dX5_sheet_37 : decode cX5_sheet 37 = .ok (.aload_n 0, 1) := by decide +kernel
theorem dX5_sheet_38 : decode cX5_sheet 38 = .ok (.iconst 0, 1) := by decide +kernel
theorem dX5_sheet_39 : decode cX5_sheet 39 = .ok (.invokevirtual 48, 3) := by decide +kernel
theorem dX5_sheet_42 : decode cX5_sheet 42 = .ok (.ireturn, 1) := by decide +kernel
theorem dX5_sheet_43 : decode cX5_sheet 43 = .ok (.aload_n 0, 1) := by decide +kernel
theorem dX5_sheet_44 : decode cX5_sheet 44 = .ok (.getfield 32, 3) := by decide +kernel
theorem dX5_sheet_47 : decode cX5_sheet 47 = .ok (.iload_n 1, 1) := by decide +kernel
theorem dX5_sheet_48 : decode cX5_sheet 48 = .ok (.iload_n 2, 1) := by decide +kernel
theorem dX5_sheet_49 : decode cX5_sheet 49 = .ok (.iload_n 3, 1) := by decide +kernel
theorem dX5_sheet_50 : decode cX5_sheet 50 = .ok (.invokevirtual 182, 3) := by decide +kernel
theorem dX5_sheet_53 : decode cX5_sheet 53 = .ok (.aload_n 0, 1) := by decide +kernel
theorem dX5_sheet_54 : decode cX5_sheet 54 = .ok (.getfield 32, 3) := by decide +kernel
theorem dX5_sheet_57 : decode cX5_sheet 57 = .ok (.getfield 186, 3) := by decide +kernel
theorem dX5_sheet_60 : decode cX5_sheet 60 = .ok (.iload_n 1, 1) := by decide +kernel
theorem dX5_sheet_61 : decode cX5_sheet 61 = .ok (.iaload, 1) := by decide +kernel
theorem dX5_sheet_62 : decode cX5_sheet 62 = .ok (.ireturn, 1) := by decide +kernel
set_option maxRecDepth 20000 in
theorem ggX5_write_X3_isOne : GoodIn wsX5_write wsX3_isOne := goodIn_sub (List.forall_mem_cons.mpr ⟨List.mem_of_getElem? (i := 6) rfl, (fun _ h => absurd h List.not_mem_nil)⟩) (by decide +kernel)
set_option maxRecDepth 20000 in
theorem gX5_write_X3_isOne : GoodIn wsX5_write (va_wsS RX5 178 yX3_isOne wsX3_isOne) := goodIn_app (goodIn_sub (List.forall_mem_cons.mpr ⟨List.mem_of_getElem? (i := 3) rfl, List.forall_mem_cons.mpr ⟨List.mem_of_getElem? (i := 4) rfl, List.forall_mem_cons.mpr ⟨List.mem_of_getElem? (i := 5) rfl, fun _ h => absurd h List.not_mem_nil⟩⟩⟩) (by decide +kernel)) ggX5_write_X3_isOne
set_option maxRecDepth 20000 in
theorem ggX5_write_X5_tell : GoodIn wsX5_write wsX5_tell := goodIn_sub (List.forall_mem_cons.mpr ⟨List.mem_of_getElem? (i := 11) rfl, (List.forall_mem_append.mpr ⟨(List.forall_mem_cons.mpr ⟨List.mem_of_getElem? (i := 12) rfl, List.forall_mem_cons.mpr ⟨List.mem_of_getElem? (i := 13) rfl, List.forall_mem_cons.mpr ⟨List.mem_of_getElem? (i := 14) rfl, List.forall_mem_cons.mpr ⟨List.mem_of_getElem? (i := 15) rfl, List.forall_mem_cons.mpr ⟨List.mem_of_getElem? (i := 10) rfl, List.forall_mem_cons.mpr ⟨List.mem_of_getElem? (i := 16) rfl, fun _ h => absurd h List.not_mem_nil⟩⟩⟩⟩⟩⟩), (fun _ h => List.mem_cons_of_mem _ (List.mem_append_left _ (List.mem_append_right _ h)))⟩)⟩) (by decide +kernel)
set_option maxRecDepth 20000 in
theorem gX5_write_X5_tell : GoodIn wsX5_write (wsV RX5 48 RX5 yX5_tell wsX5_tell) := goodIn_app (goodIn_sub (List.forall_mem_cons.mpr ⟨List.mem_of_getElem? (i := 7) rfl, List.forall_mem_cons.mpr ⟨List.mem_of_getElem? (i := 8) rfl, List.forall_mem_cons.mpr ⟨List.mem_of_getElem? (i := 9) rfl, List.forall_mem_cons.mpr ⟨List.mem_of_getElem? (i := 10) rfl, fun _ h => absurd h List.not_mem_nil⟩⟩⟩⟩) (by decide +kernel)) ggX5_write_X5_tell
set_option maxRecDepth 20000 in
theorem ggX5_write_X3_isMissing : GoodIn wsX5_write wsX3_isMissing := goodIn_sub (List.forall_mem_cons.mpr ⟨List.mem_of_getElem? (i := 20) rfl, (List.forall_mem_append.mpr ⟨(List.forall_mem_cons.mpr ⟨List.mem_of_getElem? (i := 21) rfl, List.forall_mem_cons.mpr ⟨List.mem_of_getElem? (i := 22) rfl, List.forall_mem_cons.mpr ⟨List.mem_of_getElem? (i := 4) rfl, List.forall_mem_cons.mpr ⟨List.mem_of_getElem? (i := 5) rfl, List.forall_mem_cons.mpr ⟨List.mem_of_getElem? (i := 6) rfl, fun _ h => absurd h List.not_mem_nil⟩⟩⟩⟩⟩), (fun _ h => List.mem_cons_of_mem _ (List.mem_append_right _ h))⟩)⟩) (by decide +kernel)
set_option maxRecDepth 20000 in
theorem gX5_write_X3_isMissing : GoodIn wsX5_write (wsV RX5 189 RX3 yX3_isMissing wsX3_isMissing) := goodIn_app (goodIn_sub (List.forall_mem_cons.mpr ⟨List.mem_of_getElem? (i := 17) rfl, List.forall_mem_cons.mpr ⟨List.mem_of_getElem? (i := 18) rfl, List.forall_mem_cons.mpr ⟨List.mem_of_getElem? (i := 19) rfl, List.forall_mem_cons.mpr ⟨List.mem_of_getElem? (i := 5) rfl, fun _ h => absurd h List.not_mem_nil⟩⟩⟩⟩) (by decide +kernel)) ggX5_write_X3_isMissing
set_option maxRecDepth 20000 in
theorem ggX5_write_X5_isWithin : GoodIn wsX5_write wsX5_isWithin := goodIn_sub (List.forall_mem_cons.mpr ⟨List.mem_of_getElem? (i := 16) rfl, (fun _ h => absurd h List.not_mem_nil)⟩) (by decide +kernel)
set_option maxRecDepth 20000 in
theorem gX5_write_X5_isWithin : GoodIn wsX5_write (va_wsS RX5 44 yX5_isWithin wsX5_isWithin) := goodIn_app (goodIn_sub (List.forall_mem_cons.mpr ⟨List.mem_of_getElem? (i := 14) rfl, List.forall_mem_cons.mpr ⟨List.mem_of_getElem? (i := 15) rfl, List.forall_mem_cons.mpr ⟨List.mem_of_getElem? (i := 10) rfl, fun _ h => absurd h List.not_mem_nil⟩⟩⟩) (by decide +kernel)) ggX5_write_X5_isWithin
set_option maxRecDepth 20000 in
theorem ggX5_write_X3_numberAt : GoodIn wsX5_write wsX3_numberAt := goodIn_sub (List.forall_mem_cons.mpr ⟨List.mem_of_getElem? (i := 26) rfl, (List.forall_mem_append.mpr ⟨(List.forall_mem_cons.mpr ⟨List.mem_of_getElem? (i := 27) rfl, List.forall_mem_cons.mpr ⟨List.mem_of_getElem? (i := 28) rfl, List.forall_mem_cons.mpr ⟨List.mem_of_getElem? (i := 29) rfl, List.forall_mem_cons.mpr ⟨List.mem_of_getElem? (i := 30) rfl, List.forall_mem_cons.mpr ⟨List.mem_of_getElem? (i := 5) rfl, List.forall_mem_cons.mpr ⟨List.mem_of_getElem? (i := 31) rfl, List.forall_mem_cons.mpr ⟨List.mem_of_getElem? (i := 32) rfl, List.forall_mem_cons.mpr ⟨List.mem_of_getElem? (i := 22) rfl, List.forall_mem_cons.mpr ⟨List.mem_of_getElem? (i := 4) rfl, List.forall_mem_cons.mpr ⟨List.mem_of_getElem? (i := 6) rfl, fun _ h => absurd h List.not_mem_nil⟩⟩⟩⟩⟩⟩⟩⟩⟩⟩), (fun _ h => List.mem_cons_of_mem _ (List.mem_append_right _ h))⟩)⟩) (by decide +kernel)
set_option maxRecDepth 20000 in
theorem gX5_write_X3_numberAt : GoodIn wsX5_write (wsV RX5 192 RX3 yX3_numberAt wsX3_numberAt) := goodIn_app (goodIn_sub (List.forall_mem_cons.mpr ⟨List.mem_of_getElem? (i := 23) rfl, List.forall_mem_cons.mpr ⟨List.mem_of_getElem? (i := 24) rfl, List.forall_mem_cons.mpr ⟨List.mem_of_getElem? (i := 25) rfl, List.forall_mem_cons.mpr ⟨List.mem_of_getElem? (i := 5) rfl, fun _ h => absurd h List.not_mem_nil⟩⟩⟩⟩) (by decide +kernel)) ggX5_write_X3_numberAt
set_option maxRecDepth 20000 in
theorem ggX5_write_X3_putNumber : GoodIn wsX5_write wsX3_putNumber := goodIn_sub (List.forall_mem_cons.mpr ⟨List.mem_of_getElem? (i := 36) rfl, (List.forall_mem_append.mpr ⟨(List.forall_mem_cons.mpr ⟨List.mem_of_getElem? (i := 27) rfl, List.forall_mem_cons.mpr ⟨List.mem_of_getElem? (i := 21) rfl, List.forall_mem_cons.mpr ⟨List.mem_of_getElem? (i := 28) rfl, List.forall_mem_cons.mpr ⟨List.mem_of_getElem? (i := 29) rfl, List.forall_mem_cons.mpr ⟨List.mem_of_getElem? (i := 30) rfl, List.forall_mem_cons.mpr ⟨List.mem_of_getElem? (i := 5) rfl, List.forall_mem_cons.mpr ⟨List.mem_of_getElem? (i := 31) rfl, List.forall_mem_cons.mpr ⟨List.mem_of_getElem? (i := 32) rfl, List.forall_mem_cons.mpr ⟨List.mem_of_getElem? (i := 22) rfl, List.forall_mem_cons.mpr ⟨List.mem_of_getElem? (i := 4) rfl, List.forall_mem_cons.mpr ⟨List.mem_of_getElem? (i := 6) rfl, List.forall_mem_cons.mpr ⟨List.mem_of_getElem? (i := 37) rfl, List.forall_mem_cons.mpr ⟨List.mem_of_getElem? (i := 38) rfl, List.forall_mem_cons.mpr ⟨List.mem_of_getElem? (i := 39) rfl, fun _ h => absurd h List.not_mem_nil⟩⟩⟩⟩⟩⟩⟩⟩⟩⟩⟩⟩⟩⟩), (fun _ h => List.mem_cons_of_mem _ (List.mem_append_right _ h))⟩)⟩) (by decide +kernel)
set_option maxRecDepth 20000 in
theorem gX5_write_X3_putNumber : GoodIn wsX5_write (wsV RX5 196 RX3 yX3_putNumber wsX3_putNumber) := goodIn_app (goodIn_sub (List.forall_mem_cons.mpr ⟨List.mem_of_getElem? (i := 33) rfl, List.forall_mem_cons.mpr ⟨List.mem_of_getElem? (i := 34) rfl, List.forall_mem_cons.mpr ⟨List.mem_of_getElem? (i := 35) rfl, List.forall_mem_cons.mpr ⟨List.mem_of_getElem? (i := 5) rfl, fun _ h => absurd h List.not_mem_nil⟩⟩⟩⟩) (by decide +kernel)) ggX5_write_X3_putNumber
theorem dX5_write_0 : decode cX5_write 0 = .ok (.iload_n 1, 1) := by decide +kernel
theorem dX5_write_1 : decode cX5_write 1 = .ok (.invokestatic 178, 3) := by decide +kernel
theorem dX5_write_4 : decode cX5_write 4 = .ok (.ifCond .ne 10, 3) := by decide +kernel
theorem dX5_write_7 : decode cX5_write 7 = .ok (.aload_n 0, 1) := by decide +kernel
theorem dX5_write_8 : decode cX5_write 8 = .ok (.iconst 0, 1) := by decide +kernel
theorem dX5_write_9 : decode cX5_write 9 = .ok (.invokevirtual 48, 3) := by decide +kernel
theorem dX5_write_12 : decode cX5_write 12 = .ok (.i2l, 1) := by decide +kernel
theorem dX5_write_13 : decode cX5_write 13 = .ok (.lreturn, 1) := by decide +kernel
theorem dX5_write_14 : decode cX5_write 14 = .ok (.aload_n 0, 1) := by decide +kernel
theorem dX5_write_15 : decode cX5_write 15 = .ok (.getfield 32, 3) := by decide +kernel
theorem dX5_write_18 : decode cX5_write 18 = .ok (.iload_n 1, 1) := by decide +kernel
theorem dX5_write_19 : decode cX5_write 19 = .ok (.invokevirtual 189, 3) := by decide +kernel
theorem dX5_write_22 : decode cX5_write 22 = .ok (.ifCond .eq 10, 3) := by decide +kernel
theorem dX5_write_25 : decode cX5_write 25 = .ok (.aload_n 0, 1) := by decide +kernel
theorem dX5_write_26 : decode cX5_write 26 = .ok (.iconst 5, 1) := by decide +kernel
theorem dX5_write_27 : decode cX5_write 27 = .ok (.invokevirtual 48, 3) := by decide +kernel
theorem dX5_write_30 : decode cX5_write 30 = .ok (.i2l, 1) := by decide +kernel
theorem dX5_write_31 : decode cX5_write 31 = .ok (.lreturn, 1) := by decide +kernel
theorem dX5_write_32 : decode cX5_write 32 = .ok (.iload_n 2, 1) := by decide +kernel
theorem dX5_write_33 : decode cX5_write 33 = .ok (.iconst 0, 1) := by decide +kernel
theorem dX5_write_34 : decode cX5_write 34 = .ok (.aload_n 0, 1) := by decide +kernel
theorem dX5_write_35 : decode cX5_write 35 = .ok (.getfield 32, 3) := by decide +kernel
theorem dX5_write_38 : decode cX5_write 38 = .ok (.getfield 186, 3) := by decide +kernel
theorem dX5_write_41 : decode cX5_write 41 = .ok (.iload_n 1, 1) := by decide +kernel
theorem dX5_write_42 : decode cX5_write 42 = .ok (.iaload, 1) := by decide +kernel
theorem dX5_write_43 : decode cX5_write 43 = .ok (.iconst 1, 1) := by decide +kernel
theorem dX5_write_44 : decode cX5_write 44 = .ok (.isub, 1) := by decide +kernel
theorem dX5_write_45 : decode cX5_write 45 = .ok (.invokestatic 44, 3) := by decide +kernel
theorem dX5_write_48 : decode cX5_write 48 = .ok (.ifCond .ne 10, 3) := by decide +kernel
theorem dX5_write_51 : decode cX5_write 51 = .ok (.aload_n 0, 1) := by decide +kernel
theorem dX5_write_52 : decode cX5_write 52 = .ok (.iconst 0, 1) := by decide +kernel
theorem dX5_write_53 : decode cX5_write 53 = .ok (.invokevirtual 48, 3) := by decide +kernel
theorem dX5_write_56 : decode cX5_write 56 = .ok (.i2l, 1) := by decide +kernel
theorem dX5_write_57 : decode cX5_write 57 = .ok (.lreturn, 1) := by decide +kernel
theorem dX5_write_58 : decode cX5_write 58 = .ok (.aload_n 0, 1) := by decide +kernel
theorem dX5_write_59 : decode cX5_write 59 = .ok (.getfield 32, 3) := by decide +kernel
theorem dX5_write_62 : decode cX5_write 62 = .ok (.iload_n 1, 1) := by decide +kernel
theorem dX5_write_63 : decode cX5_write 63 = .ok (.iload_n 2, 1) := by decide +kernel
theorem dX5_write_64 : decode cX5_write 64 = .ok (.invokevirtual 192, 3) := by decide +kernel
theorem dX5_write_67 : decode cX5_write 67 = .ok (.lstore 5, 2) := by decide +kernel
theorem dX5_write_69 : decode cX5_write 69 = .ok (.aload_n 0, 1) := by decide +kernel
theorem dX5_write_70 : decode cX5_write 70 = .ok (.getfield 32, 3) := by decide +kernel
theorem dX5_write_73 : decode cX5_write 73 = .ok (.iload_n 1, 1) := by decide +kernel
theorem dX5_write_74 : decode cX5_write 74 = .ok (.iload_n 2, 1) := by decide +kernel
theorem dX5_write_75 : decode cX5_write 75 = .ok (.lload_n 3, 1) := by decide +kernel
theorem dX5_write_76 : decode cX5_write 76 = .ok (.invokevirtual 196, 3) := by decide +kernel
theorem dX5_write_79 : decode cX5_write 79 = .ok (.lload 5, 2) := by decide +kernel
theorem dX5_write_81 : decode cX5_write 81 = .ok (.lreturn, 1) := by decide +kernel
set_option maxRecDepth 20000 in
theorem ggX5_copy_X3_isOne : GoodIn wsX5_copy wsX3_isOne := goodIn_sub (List.forall_mem_cons.mpr ⟨List.mem_of_getElem? (i := 6) rfl, (fun _ h => absurd h List.not_mem_nil)⟩) (by decide +kernel)
set_option maxRecDepth 20000 in
theorem gX5_copy_X3_isOne : GoodIn wsX5_copy (va_wsS RX5 178 yX3_isOne wsX3_isOne) := goodIn_app (goodIn_sub (List.forall_mem_cons.mpr ⟨List.mem_of_getElem? (i := 3) rfl, List.forall_mem_cons.mpr ⟨List.mem_of_getElem? (i := 4) rfl, List.forall_mem_cons.mpr ⟨List.mem_of_getElem? (i := 5) rfl, fun _ h => absurd h List.not_mem_nil⟩⟩⟩) (by decide +kernel)) ggX5_copy_X3_isOne
set_option maxRecDepth 20000 in
theorem ggX5_copy_X5_tell : GoodIn wsX5_copy wsX5_tell := goodIn_sub (List.forall_mem_cons.mpr ⟨List.mem_of_getElem? (i := 11) rfl, (List.forall_mem_append.mpr ⟨(List.forall_mem_cons.mpr ⟨List.mem_of_getElem? (i := 12) rfl, List.forall_mem_cons.mpr ⟨List.mem_of_getElem? (i := 13) rfl, List.forall_mem_cons.mpr ⟨List.mem_of_getElem? (i := 14) rfl, List.forall_mem_cons.mpr ⟨List.mem_of_getElem? (i := 15) rfl, List.forall_mem_cons.mpr ⟨List.mem_of_getElem? (i := 10) rfl, List.forall_mem_cons.mpr ⟨List.mem_of_getElem? (i := 16) rfl, fun _ h => absurd h List.not_mem_nil⟩⟩⟩⟩⟩⟩), (fun _ h => List.mem_cons_of_mem _ (List.mem_append_left _ (List.mem_append_right _ h)))⟩)⟩) (by decide +kernel)
set_option maxRecDepth 20000 in
theorem gX5_copy_X5_tell : GoodIn wsX5_copy (wsV RX5 48 RX5 yX5_tell wsX5_tell) := goodIn_app (goodIn_sub (List.forall_mem_cons.mpr ⟨List.mem_of_getElem? (i := 7) rfl, List.forall_mem_cons.mpr ⟨List.mem_of_getElem? (i := 8) rfl, List.forall_mem_cons.mpr ⟨List.mem_of_getElem? (i := 9) rfl, List.forall_mem_cons.mpr ⟨List.mem_of_getElem? (i := 10) rfl, fun _ h => absurd h List.not_mem_nil⟩⟩⟩⟩) (by decide +kernel)) ggX5_copy_X5_tell
set_option maxRecDepth 20000 in
theorem ggX5_copy_X3_isMissing : GoodIn wsX5_copy wsX3_isMissing := goodIn_sub (List.forall_mem_cons.mpr ⟨List.mem_of_getElem? (i := 20) rfl, (List.forall_mem_append.mpr ⟨(List.forall_mem_cons.mpr ⟨List.mem_of_getElem? (i := 21) rfl, List.forall_mem_cons.mpr ⟨List.mem_of_getElem? (i := 22) rfl, List.forall_mem_cons.mpr ⟨List.mem_of_getElem? (i := 4) rfl, List.forall_mem_cons.mpr ⟨List.mem_of_getElem? (i := 5) rfl, List.forall_mem_cons.mpr ⟨List.mem_of_getElem? (i := 6) rfl, fun _ h => absurd h List.not_mem_nil⟩⟩⟩⟩⟩), (fun _ h => List.mem_cons_of_mem _ (List.mem_append_right _ h))⟩)⟩) (by decide +kernel)
set_option maxRecDepth 20000 in
theorem gX5_copy_X3_isMissing : GoodIn wsX5_copy (wsV RX5 189 RX3 yX3_isMissing wsX3_isMissing) := goodIn_app (goodIn_sub (List.forall_mem_cons.mpr ⟨List.mem_of_getElem? (i := 17) rfl, List.forall_mem_cons.mpr ⟨List.mem_of_getElem? (i := 18) rfl, List.forall_mem_cons.mpr ⟨List.mem_of_getElem? (i := 19) rfl, List.forall_mem_cons.mpr ⟨List.mem_of_getElem? (i := 5) rfl, fun _ h => absurd h List.not_mem_nil⟩⟩⟩⟩) (by decide +kernel)) ggX5_copy_X3_isMissing
set_option maxRecDepth 20000 in
theorem ggX5_copy_X3_hasRun : GoodIn wsX5_copy wsX3_hasRun := goodIn_sub (List.forall_mem_cons.mpr ⟨List.mem_of_getElem? (i := 26) rfl, (List.forall_mem_append.mpr ⟨(List.forall_mem_cons.mpr ⟨List.mem_of_getElem? (i := 27) rfl, List.forall_mem_cons.mpr ⟨List.mem_of_getElem? (i := 22) rfl, List.forall_mem_cons.mpr ⟨List.mem_of_getElem? (i := 4) rfl, List.forall_mem_cons.mpr ⟨List.mem_of_getElem? (i := 5) rfl, List.forall_mem_cons.mpr ⟨List.mem_of_getElem? (i := 6) rfl, fun _ h => absurd h List.not_mem_nil⟩⟩⟩⟩⟩), (fun _ h => List.mem_cons_of_mem _ (List.mem_append_right _ h))⟩)⟩) (by decide +kernel)
set_option maxRecDepth 20000 in
theorem gX5_copy_X3_hasRun : GoodIn wsX5_copy (wsV RX5 203 RX3 yX3_hasRun wsX3_hasRun) := goodIn_app (goodIn_sub (List.forall_mem_cons.mpr ⟨List.mem_of_getElem? (i := 23) rfl, List.forall_mem_cons.mpr ⟨List.mem_of_getElem? (i := 24) rfl, List.forall_mem_cons.mpr ⟨List.mem_of_getElem? (i := 25) rfl, List.forall_mem_cons.mpr ⟨List.mem_of_getElem? (i := 5) rfl, fun _ h => absurd h List.not_mem_nil⟩⟩⟩⟩) (by decide +kernel)) ggX5_copy_X3_hasRun
set_option maxRecDepth 20000 in
theorem ggX5_copy_X3_moveRun : GoodIn wsX5_copy wsX3_moveRun := goodIn_sub (List.forall_mem_cons.mpr ⟨List.mem_of_getElem? (i := 31) rfl, (List.forall_mem_append.mpr ⟨(List.forall_mem_cons.mpr ⟨List.mem_of_getElem? (i := 32) rfl, List.forall_mem_cons.mpr ⟨List.mem_of_getElem? (i := 33) rfl, List.forall_mem_cons.mpr ⟨List.mem_of_getElem? (i := 34) rfl, List.forall_mem_cons.mpr ⟨List.mem_of_getElem? (i := 35) rfl, List.forall_mem_cons.mpr ⟨List.mem_of_getElem? (i := 36) rfl, List.forall_mem_cons.mpr ⟨List.mem_of_getElem? (i := 37) rfl, List.forall_mem_cons.mpr ⟨List.mem_of_getElem? (i := 24) rfl, List.forall_mem_cons.mpr ⟨List.mem_of_getElem? (i := 25) rfl, List.forall_mem_cons.mpr ⟨List.mem_of_getElem? (i := 5) rfl, List.forall_mem_cons.mpr ⟨List.mem_of_getElem? (i := 26) rfl, List.forall_mem_cons.mpr ⟨List.mem_of_getElem? (i := 27) rfl, List.forall_mem_cons.mpr ⟨List.mem_of_getElem? (i := 22) rfl, List.forall_mem_cons.mpr ⟨List.mem_of_getElem? (i := 4) rfl, List.forall_mem_cons.mpr ⟨List.mem_of_getElem? (i := 6) rfl, fun _ h => absurd h List.not_mem_nil⟩⟩⟩⟩⟩⟩⟩⟩⟩⟩⟩⟩⟩⟩), (fun _ h => List.mem_cons_of_mem _ (List.mem_append_right _ h))⟩)⟩) (by decide +kernel)
set_option maxRecDepth 20000 in
theorem gX5_copy_X3_moveRun : GoodIn wsX5_copy (wsV RX5 206 RX3 yX3_moveRun wsX3_moveRun) := goodIn_app (goodIn_sub (List.forall_mem_cons.mpr ⟨List.mem_of_getElem? (i := 28) rfl, List.forall_mem_cons.mpr ⟨List.mem_of_getElem? (i := 29) rfl, List.forall_mem_cons.mpr ⟨List.mem_of_getElem? (i := 30) rfl, List.forall_mem_cons.mpr ⟨List.mem_of_getElem? (i := 5) rfl, fun _ h => absurd h List.not_mem_nil⟩⟩⟩⟩) (by decide +kernel)) ggX5_copy_X3_moveRun
theorem dX5_copy_0 : decode cX5_copy 0 = .ok (.iload_n 1, 1) := by decide +kernel
theorem dX5_copy_1 : decode cX5_copy 1 = .ok (.invokestatic 178, 3) := by decide +kernel
theorem dX5_copy_4 : decode cX5_copy 4 = .ok (.ifCond .eq 10, 3) := by decide +kernel
theorem dX5_copy_7 : decode cX5_copy 7 = .ok (.iload_n 3, 1) := by decide +kernel
theorem dX5_copy_8 : decode cX5_copy 8 = .ok (.invokestatic 178, 3) := by decide +kernel
theorem dX5_copy_11 : decode cX5_copy 11 = .ok (.ifCond .ne 9, 3) := by decide +kernel
theorem dX5_copy_14 : decode cX5_copy 14 = .ok (.aload_n 0, 1) := by decide +kernel
theorem dX5_copy_15 : decode cX5_copy 15 = .ok (.iconst 0, 1) := by decide +kernel
theorem dX5_copy_16 : decode cX5_copy 16 = .ok (.invokevirtual 48, 3) := by decide +kernel
theorem dX5_copy_19 : decode cX5_copy 19 = .ok (.ireturn, 1) := by decide +kernel
theorem dX5_copy_20 : decode cX5_copy 20 = .ok (.aload_n 0, 1) := by decide +kernel
theorem dX5_copy_21 : decode cX5_copy 21 = .ok (.getfield 32, 3) := by decide +kernel
theorem dX5_copy_24 : decode cX5_copy 24 = .ok (.iload_n 1, 1) := by decide +kernel
theorem dX5_copy_25 : decode cX5_copy 25 = .ok (.invokevirtual 189, 3) := by decide +kernel
theorem dX5_copy_28 : decode cX5_copy 28 = .ok (.ifCond .ne 14, 3) := by decide +kernel
theorem dX5_copy_31 : decode cX5_copy 31 = .ok (.aload_n 0, 1) := by decide +kernel
theorem dX5_copy_32 : decode cX5_copy 32 = .ok (.getfield 32, 3) := by decide +kernel
theorem dX5_copy_35 : decode cX5_copy 35 = .ok (.iload_n 3, 1) := by decide +kernel
theorem dX5_copy_36 : decode cX5_copy 36 = .ok (.invokevirtual 189, 3) := by decide +kernel
theorem dX5_copy_39 : decode cX5_copy 39 = .ok (.ifCond .eq 9, 3) := by decide +kernel
theorem dX5_copy_42 : decode cX5_copy 42 = .ok (.aload_n 0, 1) := by decide +kernel
theorem dX5_copy_43 : decode cX5_copy 43 = .ok (.iconst 5, 1) := by decide +kernel
theorem dX5_copy_44 : decode cX5_copy 44 = .ok (.invokevirtual 48, 3) := by decide +kernel
theorem dX5_copy_47 : decode cX5_copy 47 = .ok (.ireturn, 1) := by decide +kernel
theorem dX5_copy_48 : decode cX5_copy 48 = .ok (.aload_n 0, 1) := by decide +kernel
theorem dX5_copy_49 : decode cX5_copy 49 = .ok (.getfield 32, 3) := by decide +kernel
theorem dX5_copy_52 : decode cX5_copy 52 = .ok (.getfield 200, 3) := by decide +kernel
theorem dX5_copy_55 : decode cX5_copy 55 = .ok (.iload_n 1, 1) := by decide +kernel
theorem dX5_copy_56 : decode cX5_copy 56 = .ok (.iaload, 1) := by decide +kernel
theorem dX5_copy_57 : decode cX5_copy 57 = .ok (.aload_n 0, 1) := by decide +kernel
theorem dX5_copy_58 : decode cX5_copy 58 = .ok (.getfield 32, 3) := by decide +kernel
theorem dX5_copy_61 : decode cX5_copy 61 = .ok (.getfield 200, 3) := by decide +kernel
theorem dX5_copy_64 : decode cX5_copy 64 = .ok (.iload_n 3, 1) := by decide +kernel
theorem dX5_copy_65 : decode cX5_copy 65 = .ok (.iaload, 1) := by decide +kernel
theorem dX5_copy_66 : decode cX5_copy 66 = .ok (.if_icmp .eq 9, 3) := by decide +kernel
theorem dX5_copy_69 : decode cX5_copy 69 = .ok (.aload_n 0, 1) := by decide +kernel
theorem dX5_copy_70 : decode cX5_copy 70 = .ok (.iconst 2, 1) := by decide +kernel
theorem dX5_copy_71 : decode cX5_copy 71 = .ok (.invokevirtual 48, 3) := by decide +kernel
theorem dX5_copy_74 : decode cX5_copy 74 = .ok (.ireturn, 1) := by decide +kernel
theorem dX5_copy_75 : decode cX5_copy 75 = .ok (.aload_n 0, 1) := by decide +kernel
theorem dX5_copy_76 : decode cX5_copy 76 = .ok (.getfield 32, 3) := by decide +kernel
theorem dX5_copy_79 : decode cX5_copy 79 = .ok (.iload_n 1, 1) := by decide +kernel
theorem dX5_copy_80 : decode cX5_copy 80 = .ok (.iload_n 2, 1) := by decide +kernel
theorem dX5_copy_81 : decode cX5_copy 81 = .ok (.iload 5, 2) := by decide +kernel
theorem dX5_copy_83 : decode cX5_copy 83 = .ok (.invokevirtual 203, 3) := by decide +kernel
theorem dX5_copy_86 : decode cX5_copy 86 = .ok (.ifCond .eq 18, 3) := by decide +kernel
theorem dX5_copy_89 : decode cX5_copy 89 = .ok (.aload_n 0, 1) := by decide +kernel
theorem dX5_copy_90 : decode cX5_copy 90 = .ok (.getfield 32, 3) := by decide +kernel
theorem dX5_copy_93 : decode cX5_copy 93 = .ok (.iload_n 3, 1) := by decide +kernel
theorem dX5_copy_94 : decode cX5_copy 94 = .ok (.iload 4, 2) := by decide +kernel
theorem dX5_copy_96 : decode cX5_copy 96 = .ok (.iload 5, 2) := by decide +kernel
theorem dX5_copy_98 : decode cX5_copy 98 = .ok (.invokevirtual 203, 3) := by decide +kernel
theorem dX5_copy_101 : decode cX5_copy 101 = .ok (.ifCond .ne 9, 3) := by decide +kernel
theorem dX5_copy_104 : decode cX5_copy 104 = .ok (.aload_n 0, 1) := by decide +kernel
theorem dX5_copy_105 : decode cX5_copy 105 = .ok (.iconst 0, 1) := by decide +kernel
theorem dX5_copy_106 : decode cX5_copy 106 = .ok (.invokevirtual 48, 3) := by decide +kernel
theorem dX5_copy_109 : decode cX5_copy 109 = .ok (.ireturn, 1) := by decide +kernel
theorem dX5_copy_110 : decode cX5_copy 110 = .ok (.aload_n 0, 1) := by decide +kernel
theorem dX5_copy_111 : decode cX5_copy 111 = .ok (.getfield 32, 3) := by decide +kernel
theorem dX5_copy_114 : decode cX5_copy 114 = .ok (.iload_n 1, 1) := by decide +kernel
theorem dX5_copy_115 : decode cX5_copy 115 = .ok (.iload_n 2, 1) := by decide +kernel
theorem dX5_copy_116 : decode cX5_copy 116 = .ok (.iload_n 3, 1) := by decide +kernel
theorem dX5_copy_117 : decode cX5_copy 117 = .ok (.iload 4, 2) := by decide +kernel
theorem dX5_copy_119 : decode cX5_copy 119 = .ok (.iload 5, 2) := by decide +kernel
theorem dX5_copy_121 : decode cX5_copy 121 = .ok (.invokevirtual 206, 3) := by decide +kernel
theorem dX5_copy_124 : decode cX5_copy 124 = .ok (.iload 5, 2) := by decide +kernel
theorem dX5_copy_126 : decode cX5_copy 126 = .ok (.ireturn, 1) := by decide +kernel
set_option maxRecDepth 20000 in
theorem ggX5_lays_X3_isOne : GoodIn wsX5_lays wsX3_isOne := goodIn_sub (List.forall_mem_cons.mpr ⟨List.mem_of_getElem? (i := 10) rfl, (fun _ h => absurd h List.not_mem_nil)⟩) (by decide +kernel)
set_option maxRecDepth 20000 in
theorem gX5_lays_X3_isOne : GoodIn wsX5_lays (va_wsS RX5 178 yX3_isOne wsX3_isOne) := goodIn_app (goodIn_sub (List.forall_mem_cons.mpr ⟨List.mem_of_getElem? (i := 7) rfl, List.forall_mem_cons.mpr ⟨List.mem_of_getElem? (i := 8) rfl, List.forall_mem_cons.mpr ⟨List.mem_of_getElem? (i := 9) rfl, fun _ h => absurd h List.not_mem_nil⟩⟩⟩) (by decide +kernel)) ggX5_lays_X3_isOne
set_option maxRecDepth 20000 in
theorem ggX5_lays_X5_tell : GoodIn wsX5_lays wsX5_tell := goodIn_sub (List.forall_mem_cons.mpr ⟨List.mem_of_getElem? (i := 15) rfl, (List.forall_mem_append.mpr ⟨(List.forall_mem_cons.mpr ⟨List.mem_of_getElem? (i := 16) rfl, List.forall_mem_cons.mpr ⟨List.mem_of_getElem? (i := 17) rfl, List.forall_mem_cons.mpr ⟨List.mem_of_getElem? (i := 18) rfl, List.forall_mem_cons.mpr ⟨List.mem_of_getElem? (i := 19) rfl, List.forall_mem_cons.mpr ⟨List.mem_of_getElem? (i := 14) rfl, List.forall_mem_cons.mpr ⟨List.mem_of_getElem? (i := 20) rfl, fun _ h => absurd h List.not_mem_nil⟩⟩⟩⟩⟩⟩), (fun _ h => List.mem_cons_of_mem _ (List.mem_append_left _ (List.mem_append_left _ (List.mem_append_right _ h))))⟩)⟩) (by decide +kernel)
set_option maxRecDepth 20000 in
theorem gX5_lays_X5_tell : GoodIn wsX5_lays (wsV RX5 48 RX5 yX5_tell wsX5_tell) := goodIn_app (goodIn_sub (List.forall_mem_cons.mpr ⟨List.mem_of_getElem? (i := 11) rfl, List.forall_mem_cons.mpr ⟨List.mem_of_getElem? (i := 12) rfl, List.forall_mem_cons.mpr ⟨List.mem_of_getElem? (i := 13) rfl, List.forall_mem_cons.mpr ⟨List.mem_of_getElem? (i := 14) rfl, fun _ h => absurd h List.not_mem_nil⟩⟩⟩⟩) (by decide +kernel)) ggX5_lays_X5_tell
set_option maxRecDepth 20000 in
theorem ggX5_lays_X3_isMissing : GoodIn wsX5_lays wsX3_isMissing := goodIn_sub (List.forall_mem_cons.mpr ⟨List.mem_of_getElem? (i := 24) rfl, (List.forall_mem_append.mpr ⟨(List.forall_mem_cons.mpr ⟨List.mem_of_getElem? (i := 25) rfl, List.forall_mem_cons.mpr ⟨List.mem_of_getElem? (i := 26) rfl, List.forall_mem_cons.mpr ⟨List.mem_of_getElem? (i := 8) rfl, List.forall_mem_cons.mpr ⟨List.mem_of_getElem? (i := 9) rfl, List.forall_mem_cons.mpr ⟨List.mem_of_getElem? (i := 10) rfl, fun _ h => absurd h List.not_mem_nil⟩⟩⟩⟩⟩), (fun _ h => List.mem_cons_of_mem _ (List.mem_append_left _ (List.mem_append_right _ h)))⟩)⟩) (by decide +kernel)
set_option maxRecDepth 20000 in
theorem gX5_lays_X3_isMissing : GoodIn wsX5_lays (wsV RX5 189 RX3 yX3_isMissing wsX3_isMissing) := goodIn_app (goodIn_sub (List.forall_mem_cons.mpr ⟨List.mem_of_getElem? (i := 21) rfl, List.forall_mem_cons.mpr ⟨List.mem_of_getElem? (i := 22) rfl, List.forall_mem_cons.mpr ⟨List.mem_of_getElem? (i := 23) rfl, List.forall_mem_cons.mpr ⟨List.mem_of_getElem? (i := 9) rfl, fun _ h => absurd h List.not_mem_nil⟩⟩⟩⟩) (by decide +kernel)) ggX5_lays_X3_isMissing
set_option maxRecDepth 20000 in
theorem ggX5_lays_X3_numberAt : GoodIn wsX5_lays wsX3_numberAt := goodIn_sub (List.forall_mem_cons.mpr ⟨List.mem_of_getElem? (i := 30) rfl, (List.forall_mem_append.mpr ⟨(List.forall_mem_cons.mpr ⟨List.mem_of_getElem? (i := 31) rfl, List.forall_mem_cons.mpr ⟨List.mem_of_getElem? (i := 32) rfl, List.forall_mem_cons.mpr ⟨List.mem_of_getElem? (i := 33) rfl, List.forall_mem_cons.mpr ⟨List.mem_of_getElem? (i := 34) rfl, List.forall_mem_cons.mpr ⟨List.mem_of_getElem? (i := 9) rfl, List.forall_mem_cons.mpr ⟨List.mem_of_getElem? (i := 35) rfl, List.forall_mem_cons.mpr ⟨List.mem_of_getElem? (i := 36) rfl, List.forall_mem_cons.mpr ⟨List.mem_of_getElem? (i := 26) rfl, List.forall_mem_cons.mpr ⟨List.mem_of_getElem? (i := 8) rfl, List.forall_mem_cons.mpr ⟨List.mem_of_getElem? (i := 10) rfl, fun _ h => absurd h List.not_mem_nil⟩⟩⟩⟩⟩⟩⟩⟩⟩⟩), (fun _ h => List.mem_cons_of_mem _ (List.mem_append_left _ (List.mem_append_right _ h)))⟩)⟩) (by decide +kernel)
set_option maxRecDepth 20000 in
theorem gX5_lays_X3_numberAt : GoodIn wsX5_lays (wsV RX5 192 RX3 yX3_numberAt wsX3_numberAt) := goodIn_app (goodIn_sub (List.forall_mem_cons.mpr ⟨List.mem_of_getElem? (i := 27) rfl, List.forall_mem_cons.mpr ⟨List.mem_of_getElem? (i := 28) rfl, List.forall_mem_cons.mpr ⟨List.mem_of_getElem? (i := 29) rfl, List.forall_mem_cons.mpr ⟨List.mem_of_getElem? (i := 9) rfl, fun _ h => absurd h List.not_mem_nil⟩⟩⟩⟩) (by decide +kernel)) ggX5_lays_X3_numberAt
theorem dX5_lays_0 : decode cX5_lays 0 = .ok (.iload_n 1, 1) := by decide +kernel
theorem dX5_lays_1 : decode cX5_lays 1 = .ok (.invokestatic 178, 3) := by decide +kernel
theorem dX5_lays_4 : decode cX5_lays 4 = .ok (.ifCond .ne 9, 3) := by decide +kernel
theorem dX5_lays_7 : decode cX5_lays 7 = .ok (.aload_n 0, 1) := by decide +kernel
theorem dX5_lays_8 : decode cX5_lays 8 = .ok (.iconst 0, 1) := by decide +kernel
theorem dX5_lays_9 : decode cX5_lays 9 = .ok (.invokevirtual 48, 3) := by decide +kernel
theorem dX5_lays_12 : decode cX5_lays 12 = .ok (.ireturn, 1) := by decide +kernel
theorem dX5_lays_13 : decode cX5_lays 13 = .ok (.aload_n 0, 1) := by decide +kernel
theorem dX5_lays_14 : decode cX5_lays 14 = .ok (.getfield 32, 3) := by decide +kernel
theorem dX5_lays_17 : decode cX5_lays 17 = .ok (.iload_n 1, 1) := by decide +kernel
theorem dX5_lays_18 : decode cX5_lays 18 = .ok (.invokevirtual 189, 3) := by decide +kernel
theorem dX5_lays_21 : decode cX5_lays 21 = .ok (.ifCond .eq 9, 3) := by decide +kernel
theorem dX5_lays_24 : decode cX5_lays 24 = .ok (.aload_n 0, 1) := by decide +kernel
theorem dX5_lays_25 : decode cX5_lays 25 = .ok (.iconst 5, 1) := by decide +kernel
theorem dX5_lays_26 : decode cX5_lays 26 = .ok (.invokevirtual 48, 3) := by decide +kernel
theorem dX5_lays_29 : decode cX5_lays 29 = .ok (.ireturn, 1) := by decide +kernel
theorem dX5_lays_30 : decode cX5_lays 30 = .ok (.iconst 0, 1) := by decide +kernel
theorem dX5_lays_31 : decode cX5_lays 31 = .ok (.istore_n 2, 1) := by decide +kernel
theorem dX5_lays_32 : decode cX5_lays 32 = .ok (.iconst 0, 1) := by decide +kernel
theorem dX5_lays_33 : decode cX5_lays 33 = .ok (.istore_n 3, 1) := by decide +kernel
theorem dX5_lays_34 : decode cX5_lays 34 = .ok (.iload_n 3, 1) := by decide +kernel
theorem dX5_lays_35 : decode cX5_lays 35 = .ok (.aload_n 0, 1) := by decide +kernel
theorem dX5_lays_36 : decode cX5_lays 36 = .ok (.getfield 32, 3) := by decide +kernel
theorem dX5_lays_39 : decode cX5_lays 39 = .ok (.getfield 186, 3) := by decide +kernel
theorem dX5_lays_42 : decode cX5_lays 42 = .ok (.iload_n 1, 1) := by decide +kernel
theorem dX5_lays_43 : decode cX5_lays 43 = .ok (.iaload, 1) := by decide +kernel
theorem dX5_lays_44 : decode cX5_lays 44 = .ok (.if_icmp .ge 62, 3) := by decide +kernel
theorem dX5_lays_47 : decode cX5_lays 47 = .ok (.iload_n 3, 1) := by decide +kernel
theorem dX5_lays_48 : decode cX5_lays 48 = .ok (.aload_n 0, 1) := by decide +kernel
theorem dX5_lays_49 : decode cX5_lays 49 = .ok (.getfield 10, 3) := by decide +kernel
theorem dX5_lays_52 : decode cX5_lays 52 = .ok (.getfield 147, 3) := by decide +kernel
theorem dX5_lays_55 : decode cX5_lays 55 = .ok (.if_icmp .ge 51, 3) := by decide +kernel
theorem dX5_lays_58 : decode cX5_lays 58 = .ok (.aload_n 0, 1) := by decide +kernel
theorem dX5_lays_59 : decode cX5_lays 59 = .ok (.getfield 32, 3) := by decide +kernel
theorem dX5_lays_62 : decode cX5_lays 62 = .ok (.iload_n 1, 1) := by decide +kernel
theorem dX5_lays_63 : decode cX5_lays 63 = .ok (.iload_n 3, 1) := by decide +kernel
theorem dX5_lays_64 : decode cX5_lays 64 = .ok (.invokevirtual 192, 3) := by decide +kernel
theorem dX5_lays_67 : decode cX5_lays 67 = .ok (.lstore 4, 2) := by decide +kernel
theorem dX5_lays_69 : decode cX5_lays 69 = .ok (.lload 4, 2) := by decide +kernel
theorem dX5_lays_71 : decode cX5_lays 71 = .ok (.lconst 0, 1) := by decide +kernel
theorem dX5_lays_72 : decode cX5_lays 72 = .ok (.lcmp, 1) := by decide +kernel
theorem dX5_lays_73 : decode cX5_lays 73 = .ok (.ifCond .lt 27, 3) := by decide +kernel
theorem dX5_lays_76 : decode cX5_lays 76 = .ok (.lload 4, 2) := by decide +kernel
theorem dX5_lays_78 : decode cX5_lays 78 = .ok (.ldc2_w 210, 3) := by decide +kernel
theorem dX5_lays_81 : decode cX5_lays 81 = .ok (.lcmp, 1) := by decide +kernel
theorem dX5_lays_82 : decode cX5_lays 82 = .ok (.ifCond .gt 18, 3) := by decide +kernel
theorem dX5_lays_85 : decode cX5_lays 85 = .ok (.aload_n 0, 1) := by decide +kernel
theorem dX5_lays_86 : decode cX5_lays 86 = .ok (.getfield 10, 3) := by decide +kernel
theorem dX5_lays_89 : decode cX5_lays 89 = .ok (.getfield 98, 3) := by decide +kernel
theorem dX5_lays_92 : decode cX5_lays 92 = .ok (.iload_n 3, 1) := by decide +kernel
theorem dX5_lays_93 : decode cX5_lays 93 = .ok (.lload 4, 2) := by decide +kernel
theorem dX5_lays_95 : decode cX5_lays 95 = .ok (.l2i, 1) := by decide +kernel
theorem dX5_lays_96 : decode cX5_lays 96 = .ok (.iastore, 1) := by decide +kernel
theorem dX5_lays_97 : decode cX5_lays 97 = .ok (.iinc 2 1, 3) := by decide +kernel
theorem dX5_lays_100 : decode cX5_lays 100 = .ok (.iinc 3 1, 3) := by decide +kernel
theorem dX5_lays_103 : decode cX5_lays 103 = .ok (.goto (-69), 3) := by decide +kernel
theorem dX5_lays_106 : decode cX5_lays 106 = .ok (.iload_n 2, 1) := by decide +kernel
theorem dX5_lays_107 : decode cX5_lays 107 = .ok (.ireturn, 1) := by decide +kernel
set_option maxRecDepth 20000 in
theorem ggX5_book_X3_isOne : GoodIn wsX5_book wsX3_isOne := goodIn_sub (List.forall_mem_cons.mpr ⟨List.mem_of_getElem? (i := 9) rfl, (fun _ h => absurd h List.not_mem_nil)⟩) (by decide +kernel)
set_option maxRecDepth 20000 in
theorem gX5_book_X3_isOne : GoodIn wsX5_book (va_wsS RX5 178 yX3_isOne wsX3_isOne) := goodIn_app (goodIn_sub (List.forall_mem_cons.mpr ⟨List.mem_of_getElem? (i := 6) rfl, List.forall_mem_cons.mpr ⟨List.mem_of_getElem? (i := 7) rfl, List.forall_mem_cons.mpr ⟨List.mem_of_getElem? (i := 8) rfl, fun _ h => absurd h List.not_mem_nil⟩⟩⟩) (by decide +kernel)) ggX5_book_X3_isOne
set_option maxRecDepth 20000 in
theorem ggX5_book_X5_tell : GoodIn wsX5_book wsX5_tell := goodIn_sub (List.forall_mem_cons.mpr ⟨List.mem_of_getElem? (i := 14) rfl, (List.forall_mem_append.mpr ⟨(List.forall_mem_cons.mpr ⟨List.mem_of_getElem? (i := 15) rfl, List.forall_mem_cons.mpr ⟨List.mem_of_getElem? (i := 16) rfl, List.forall_mem_cons.mpr ⟨List.mem_of_getElem? (i := 17) rfl, List.forall_mem_cons.mpr ⟨List.mem_of_getElem? (i := 18) rfl, List.forall_mem_cons.mpr ⟨List.mem_of_getElem? (i := 13) rfl, List.forall_mem_cons.mpr ⟨List.mem_of_getElem? (i := 19) rfl, fun _ h => absurd h List.not_mem_nil⟩⟩⟩⟩⟩⟩), (fun _ h => List.mem_cons_of_mem _ (List.mem_append_left _ (List.mem_append_left _ (List.mem_append_right _ h))))⟩)⟩) (by decide +kernel)
set_option maxRecDepth 20000 in
theorem gX5_book_X5_tell : GoodIn wsX5_book (wsV RX5 48 RX5 yX5_tell wsX5_tell) := goodIn_app (goodIn_sub (List.forall_mem_cons.mpr ⟨List.mem_of_getElem? (i := 10) rfl, List.forall_mem_cons.mpr ⟨List.mem_of_getElem? (i := 11) rfl, List.forall_mem_cons.mpr ⟨List.mem_of_getElem? (i := 12) rfl, List.forall_mem_cons.mpr ⟨List.mem_of_getElem? (i := 13) rfl, fun _ h => absurd h List.not_mem_nil⟩⟩⟩⟩) (by decide +kernel)) ggX5_book_X5_tell
set_option maxRecDepth 20000 in
theorem ggX5_book_X3_isMissing : GoodIn wsX5_book wsX3_isMissing := goodIn_sub (List.forall_mem_cons.mpr ⟨List.mem_of_getElem? (i := 23) rfl, (List.forall_mem_append.mpr ⟨(List.forall_mem_cons.mpr ⟨List.mem_of_getElem? (i := 24) rfl, List.forall_mem_cons.mpr ⟨List.mem_of_getElem? (i := 25) rfl, List.forall_mem_cons.mpr ⟨List.mem_of_getElem? (i := 7) rfl, List.forall_mem_cons.mpr ⟨List.mem_of_getElem? (i := 8) rfl, List.forall_mem_cons.mpr ⟨List.mem_of_getElem? (i := 9) rfl, fun _ h => absurd h List.not_mem_nil⟩⟩⟩⟩⟩), (fun _ h => List.mem_cons_of_mem _ (List.mem_append_left _ (List.mem_append_right _ h)))⟩)⟩) (by decide +kernel)
set_option maxRecDepth 20000 in
theorem gX5_book_X3_isMissing : GoodIn wsX5_book (wsV RX5 189 RX3 yX3_isMissing wsX3_isMissing) := goodIn_app (goodIn_sub (List.forall_mem_cons.mpr ⟨List.mem_of_getElem? (i := 20) rfl, List.forall_mem_cons.mpr ⟨List.mem_of_getElem? (i := 21) rfl, List.forall_mem_cons.mpr ⟨List.mem_of_getElem? (i := 22) rfl, List.forall_mem_cons.mpr ⟨List.mem_of_getElem? (i := 8) rfl, fun _ h => absurd h List.not_mem_nil⟩⟩⟩⟩) (by decide +kernel)) ggX5_book_X3_isMissing
set_option maxRecDepth 20000 in
theorem ggX5_book_X0_become : GoodIn wsX5_book wsX0_become := goodIn_sub (List.forall_mem_cons.mpr ⟨List.mem_of_getElem? (i := 30) rfl, (List.forall_mem_append.mpr ⟨(List.forall_mem_cons.mpr ⟨List.mem_of_getElem? (i := 31) rfl, List.forall_mem_cons.mpr ⟨List.mem_of_getElem? (i := 32) rfl, List.forall_mem_cons.mpr ⟨List.mem_of_getElem? (i := 33) rfl, List.forall_mem_cons.mpr ⟨List.mem_of_getElem? (i := 34) rfl, List.forall_mem_cons.mpr ⟨List.mem_of_getElem? (i := 35) rfl, List.forall_mem_cons.mpr ⟨List.mem_of_getElem? (i := 36) rfl, List.forall_mem_cons.mpr ⟨List.mem_of_getElem? (i := 37) rfl, List.forall_mem_cons.mpr ⟨List.mem_of_getElem? (i := 38) rfl, List.forall_mem_cons.mpr ⟨List.mem_of_getElem? (i := 39) rfl, List.forall_mem_cons.mpr ⟨List.mem_of_getElem? (i := 40) rfl, List.forall_mem_cons.mpr ⟨List.mem_of_getElem? (i := 41) rfl, fun _ h => absurd h List.not_mem_nil⟩⟩⟩⟩⟩⟩⟩⟩⟩⟩⟩), (fun _ h => List.mem_cons_of_mem _ (List.mem_append_right _ h))⟩)⟩) (by decide +kernel)
set_option maxRecDepth 20000 in
theorem gX5_book_X0_become : GoodIn wsX5_book (wsV RX5 140 RX0 yX0_become wsX0_become) := goodIn_app (goodIn_sub (List.forall_mem_cons.mpr ⟨List.mem_of_getElem? (i := 26) rfl, List.forall_mem_cons.mpr ⟨List.mem_of_getElem? (i := 27) rfl, List.forall_mem_cons.mpr ⟨List.mem_of_getElem? (i := 28) rfl, List.forall_mem_cons.mpr ⟨List.mem_of_getElem? (i := 29) rfl, fun _ h => absurd h List.not_mem_nil⟩⟩⟩⟩) (by decide +kernel)) ggX5_book_X0_become
set_option maxRecDepth 20000 in
theorem ggX5_book_X3_putNumber : GoodIn wsX5_book wsX3_putNumber := goodIn_sub (List.forall_mem_cons.mpr ⟨List.mem_of_getElem? (i := 45) rfl, (List.forall_mem_append.mpr ⟨(List.forall_mem_cons.mpr ⟨List.mem_of_getElem? (i := 46) rfl, List.forall_mem_cons.mpr ⟨List.mem_of_getElem? (i := 24) rfl, List.forall_mem_cons.mpr ⟨List.mem_of_getElem? (i := 47) rfl, List.forall_mem_cons.mpr ⟨List.mem_of_getElem? (i := 48) rfl, List.forall_mem_cons.mpr ⟨List.mem_of_getElem? (i := 49) rfl, List.forall_mem_cons.mpr ⟨List.mem_of_getElem? (i := 8) rfl, List.forall_mem_cons.mpr ⟨List.mem_of_getElem? (i := 50) rfl, List.forall_mem_cons.mpr ⟨List.mem_of_getElem? (i := 51) rfl, List.forall_mem_cons.mpr ⟨List.mem_of_getElem? (i := 25) rfl, List.forall_mem_cons.mpr ⟨List.mem_of_getElem? (i := 7) rfl, List.forall_mem_cons.mpr ⟨List.mem_of_getElem? (i := 9) rfl, List.forall_mem_cons.mpr ⟨List.mem_of_getElem? (i := 52) rfl, List.forall_mem_cons.mpr ⟨List.mem_of_getElem? (i := 53) rfl, List.forall_mem_cons.mpr ⟨List.mem_of_getElem? (i := 54) rfl, fun _ h => absurd h List.not_mem_nil⟩⟩⟩⟩⟩⟩⟩⟩⟩⟩⟩⟩⟩⟩), (fun _ h => List.mem_cons_of_mem _ (List.mem_append_left _ (List.mem_append_right _ h)))⟩)⟩) (by decide +kernel)
set_option maxRecDepth 20000 in
theorem gX5_book_X3_putNumber : GoodIn wsX5_book (wsV RX5 196 RX3 yX3_putNumber wsX3_putNumber) := goodIn_app (goodIn_sub (List.forall_mem_cons.mpr ⟨List.mem_of_getElem? (i := 42) rfl, List.forall_mem_cons.mpr ⟨List.mem_of_getElem? (i := 43) rfl, List.forall_mem_cons.mpr ⟨List.mem_of_getElem? (i := 44) rfl, List.forall_mem_cons.mpr ⟨List.mem_of_getElem? (i := 8) rfl, fun _ h => absurd h List.not_mem_nil⟩⟩⟩⟩) (by decide +kernel)) ggX5_book_X3_putNumber
set_option maxRecDepth 20000 in
theorem ggX5_book_X0_goOneDay : GoodIn wsX5_book wsX0_goOneDay := goodIn_sub (List.forall_mem_cons.mpr ⟨List.mem_of_getElem? (i := 58) rfl, (List.forall_mem_append.mpr ⟨(List.forall_mem_append.mpr ⟨(List.forall_mem_cons.mpr ⟨List.mem_of_getElem? (i := 32) rfl, List.forall_mem_cons.mpr ⟨List.mem_of_getElem? (i := 33) rfl, List.forall_mem_cons.mpr ⟨List.mem_of_getElem? (i := 59) rfl, List.forall_mem_cons.mpr ⟨List.mem_of_getElem? (i := 60) rfl, List.forall_mem_cons.mpr ⟨List.mem_of_getElem? (i := 61) rfl, List.forall_mem_cons.mpr ⟨List.mem_of_getElem? (i := 62) rfl, List.forall_mem_cons.mpr ⟨List.mem_of_getElem? (i := 36) rfl, List.forall_mem_cons.mpr ⟨List.mem_of_getElem? (i := 40) rfl, List.forall_mem_cons.mpr ⟨List.mem_of_getElem? (i := 35) rfl, List.forall_mem_cons.mpr ⟨List.mem_of_getElem? (i := 31) rfl, List.forall_mem_cons.mpr ⟨List.mem_of_getElem? (i := 63) rfl, List.forall_mem_cons.mpr ⟨List.mem_of_getElem? (i := 64) rfl, List.forall_mem_cons.mpr ⟨List.mem_of_getElem? (i := 65) rfl, List.forall_mem_cons.mpr ⟨List.mem_of_getElem? (i := 29) rfl, List.forall_mem_cons.mpr ⟨List.mem_of_getElem? (i := 66) rfl, List.forall_mem_cons.mpr ⟨List.mem_of_getElem? (i := 37) rfl, List.forall_mem_cons.mpr ⟨List.mem_of_getElem? (i := 38) rfl, List.forall_mem_cons.mpr ⟨List.mem_of_getElem? (i := 34) rfl, List.forall_mem_cons.mpr ⟨List.mem_of_getElem? (i := 67) rfl, List.forall_mem_cons.mpr ⟨List.mem_of_getElem? (i := 68) rfl, List.forall_mem_cons.mpr ⟨List.mem_of_getElem? (i := 69) rfl, List.forall_mem_cons.mpr ⟨List.mem_of_getElem? (i := 70) rfl, List.forall_mem_cons.mpr ⟨List.mem_of_getElem? (i := 71) rfl, List.forall_mem_cons.mpr ⟨List.mem_of_getElem? (i := 72) rfl, fun _ h => absurd h List.not_mem_nil⟩⟩⟩⟩⟩⟩⟩⟩⟩⟩⟩⟩⟩⟩⟩⟩⟩⟩⟩⟩⟩⟩⟩⟩), (List.forall_mem_append.mpr ⟨(List.forall_mem_cons.mpr ⟨List.mem_of_getElem? (i := 73) rfl, List.forall_mem_cons.mpr ⟨List.mem_of_getElem? (i := 74) rfl, List.forall_mem_cons.mpr ⟨List.mem_of_getElem? (i := 75) rfl, List.forall_mem_cons.mpr ⟨List.mem_of_getElem? (i := 76) rfl, List.forall_mem_cons.mpr ⟨List.mem_of_getElem? (i := 77) rfl, List.forall_mem_cons.mpr ⟨List.mem_of_getElem? (i := 78) rfl, List.forall_mem_cons.mpr ⟨List.mem_of_getElem? (i := 79) rfl, List.forall_mem_cons.mpr ⟨List.mem_of_getElem? (i := 80) rfl, List.forall_mem_cons.mpr ⟨List.mem_of_getElem? (i := 81) rfl, List.forall_mem_cons.mpr ⟨List.mem_of_getElem? (i := 82) rfl, List.forall_mem_cons.mpr ⟨List.mem_of_getElem? (i := 83) rfl, List.forall_mem_cons.mpr ⟨List.mem_of_getElem? (i := 84) rfl, List.forall_mem_cons.mpr ⟨List.mem_of_getElem? (i := 39) rfl, List.forall_mem_cons.mpr ⟨List.mem_of_getElem? (i := 41) rfl, List.forall_mem_cons.mpr ⟨List.mem_of_getElem? (i := 85) rfl, List.forall_mem_cons.mpr ⟨List.mem_of_getElem? (i := 86) rfl, List.forall_mem_cons.mpr ⟨List.mem_of_getElem? (i := 87) rfl, List.forall_mem_cons.mpr ⟨List.mem_of_getElem? (i := 88) rfl, List.forall_mem_cons.mpr ⟨List.mem_of_getElem? (i := 89) rfl, List.forall_mem_cons.mpr ⟨List.mem_of_getElem? (i := 90) rfl, List.forall_mem_cons.mpr ⟨List.mem_of_getElem? (i := 91) rfl, List.forall_mem_cons.mpr ⟨List.mem_of_getElem? (i := 92) rfl, List.forall_mem_cons.mpr ⟨List.mem_of_getElem? (i := 93) rfl, List.forall_mem_cons.mpr ⟨List.mem_of_getElem? (i := 94) rfl, fun _ h => absurd h List.not_mem_nil⟩⟩⟩⟩⟩⟩⟩⟩⟩⟩⟩⟩⟩⟩⟩⟩⟩⟩⟩⟩⟩⟩⟩⟩), (List.forall_mem_cons.mpr ⟨List.mem_of_getElem? (i := 95) rfl, List.forall_mem_cons.mpr ⟨List.mem_of_getElem? (i := 96) rfl, List.forall_mem_cons.mpr ⟨List.mem_of_getElem? (i := 97) rfl, List.forall_mem_cons.mpr ⟨List.mem_of_getElem? (i := 98) rfl, List.forall_mem_cons.mpr ⟨List.mem_of_getElem? (i := 99) rfl, List.forall_mem_cons.mpr ⟨List.mem_of_getElem? (i := 100) rfl, List.forall_mem_cons.mpr ⟨List.mem_of_getElem? (i := 101) rfl, List.forall_mem_cons.mpr ⟨List.mem_of_getElem? (i := 102) rfl, List.forall_mem_cons.mpr ⟨List.mem_of_getElem? (i := 103) rfl, List.forall_mem_cons.mpr ⟨List.mem_of_getElem? (i := 104) rfl, List.forall_mem_cons.mpr ⟨List.mem_of_getElem? (i := 105) rfl, fun _ h => absurd h List.not_mem_nil⟩⟩⟩⟩⟩⟩⟩⟩⟩⟩⟩)⟩)⟩), (fun _ h => List.mem_cons_of_mem _ (List.mem_append_right _ h))⟩)⟩) (by decide +kernel)
set_option maxRecDepth 20000 in
theorem gX5_book_X0_goOneDay : GoodIn wsX5_book (wsV RX5 144 RX0 yX0_goOneDay wsX0_goOneDay) := goodIn_app (goodIn_sub (List.forall_mem_cons.mpr ⟨List.mem_of_getElem? (i := 55) rfl, List.forall_mem_cons.mpr ⟨List.mem_of_getElem? (i := 56) rfl, List.forall_mem_cons.mpr ⟨List.mem_of_getElem? (i := 57) rfl, List.forall_mem_cons.mpr ⟨List.mem_of_getElem? (i := 29) rfl, fun _ h => absurd h List.not_mem_nil⟩⟩⟩⟩) (by decide +kernel)) ggX5_book_X0_goOneDay
theorem dX5_book_0 : decode cX5_book 0 = .ok (.iload_n 1, 1) := by decide +kernel
theorem dX5_book_1 : decode cX5_book 1 = .ok (.invokestatic 178, 3) := by decide +kernel
theorem dX5_book_4 : decode cX5_book 4 = .ok (.ifCond .ne 9, 3) := by decide +kernel
theorem dX5_book_7 : decode cX5_book 7 = .ok (.aload_n 0, 1) := by decide +kernel
theorem dX5_book_8 : decode cX5_book 8 = .ok (.iconst 0, 1) := by decide +kernel
theorem dX5_book_9 : decode cX5_book 9 = .ok (.invokevirtual 48, 3) := by decide +kernel
theorem dX5_book_12 : decode cX5_book 12 = .ok (.ireturn, 1) := by decide +kernel
theorem dX5_book_13 : decode cX5_book 13 = .ok (.aload_n 0, 1) := by decide +kernel
theorem dX5_book_14 : decode cX5_book 14 = .ok (.getfield 32, 3) := by decide +kernel
theorem dX5_book_17 : decode cX5_book 17 = .ok (.iload_n 1, 1) := by decide +kernel
theorem dX5_book_18 : decode cX5_book 18 = .ok (.invokevirtual 189, 3) := by decide +kernel
theorem dX5_book_21 : decode cX5_book 21 = .ok (.ifCond .eq 9, 3) := by decide +kernel
theorem dX5_book_24 : decode cX5_book 24 = .ok (.aload_n 0, 1) := by decide +kernel
theorem dX5_book_25 : decode cX5_book 25 = .ok (.iconst 5, 1) := by decide +kernel
theorem dX5_book_26 : decode cX5_book 26 = .ok (.invokevirtual 48, 3) := by decide +kernel
theorem dX5_book_29 : decode cX5_book 29 = .ok (.ireturn, 1) := by decide +kernel
theorem dX5_book_30 : decode cX5_book 30 = .ok (.aload_n 0, 1) := by decide +kernel
theorem dX5_book_31 : decode cX5_book 31 = .ok (.getfield 19, 3) := by decide +kernel
theorem dX5_book_34 : decode cX5_book 34 = .ok (.aload_n 0, 1) := by decide +kernel
theorem dX5_book_35 : decode cX5_book 35 = .ok (.getfield 10, 3) := by decide +kernel
theorem dX5_book_38 : decode cX5_book 38 = .ok (.invokevirtual 140, 3) := by decide +kernel
theorem dX5_book_41 : decode cX5_book 41 = .ok (.iconst 0, 1) := by decide +kernel
theorem dX5_book_42 : decode cX5_book 42 = .ok (.istore_n 2, 1) := by decide +kernel
theorem dX5_book_43 : decode cX5_book 43 = .ok (.iload_n 2, 1) := by decide +kernel
theorem dX5_book_44 : decode cX5_book 44 = .ok (.aload_n 0, 1) := by decide +kernel
theorem dX5_book_45 : decode cX5_book 45 = .ok (.getfield 32, 3) := by decide +kernel
theorem dX5_book_48 : decode cX5_book 48 = .ok (.getfield 186, 3) := by decide +kernel
theorem dX5_book_51 : decode cX5_book 51 = .ok (.iload_n 1, 1) := by decide +kernel
theorem dX5_book_52 : decode cX5_book 52 = .ok (.iaload, 1) := by decide +kernel
theorem dX5_book_53 : decode cX5_book 53 = .ok (.if_icmp .ge 33, 3) := by decide +kernel
theorem dX5_book_56 : decode cX5_book 56 = .ok (.aload_n 0, 1) := by decide +kernel
theorem dX5_book_57 : decode cX5_book 57 = .ok (.getfield 32, 3) := by decide +kernel
theorem dX5_book_60 : decode cX5_book 60 = .ok (.iload_n 1, 1) := by decide +kernel
theorem dX5_book_61 : decode cX5_book 61 = .ok (.iload_n 2, 1) := by decide +kernel
theorem dX5_book_62 : decode cX5_book 62 = .ok (.aload_n 0, 1) := by decide +kernel
theorem dX5_book_63 : decode cX5_book 63 = .ok (.getfield 19, 3) := by decide +kernel
theorem dX5_book_66 : decode cX5_book 66 = .ok (.getfield 52, 3) := by decide +kernel
theorem dX5_book_69 : decode cX5_book 69 = .ok (.i2l, 1) := by decide +kernel
theorem dX5_book_70 : decode cX5_book 70 = .ok (.invokevirtual 196, 3) := by decide +kernel
theorem dX5_book_73 : decode cX5_book 73 = .ok (.aload_n 0, 1) := by decide +kernel
theorem dX5_book_74 : decode cX5_book 74 = .ok (.getfield 19, 3) := by decide +kernel
theorem dX5_book_77 : decode cX5_book 77 = .ok (.invokevirtual 144, 3) := by decide +kernel
theorem dX5_book_80 : decode cX5_book 80 = .ok (.iinc 2 1, 3) := by decide +kernel
theorem dX5_book_83 : decode cX5_book 83 = .ok (.goto (-40), 3) := by decide +kernel
theorem dX5_book_86 : decode cX5_book 86 = .ok (.aload_n 0, 1) := by decide +kernel
theorem dX5_book_87 : decode cX5_book 87 = .ok (.getfield 32, 3) := by decide +kernel
theorem dX5_book_90 : decode cX5_book 90 = .ok (.getfield 186, 3) := by decide +kernel
theorem dX5_book_93 : decode cX5_book 93 = .ok (.iload_n 1, 1) := by decide +kernel
theorem dX5_book_94 : decode cX5_book 94 = .ok (.iaload, 1) := by decide +kernel
theorem dX5_book_95 : decode cX5_book 95 = .ok (.ireturn, 1) := by decide +kernel
set_option maxRecDepth 20000 in
theorem ggX5_read_X3_isOne : GoodIn wsX5_read wsX3_isOne := goodIn_sub (List.forall_mem_cons.mpr ⟨List.mem_of_getElem? (i := 9) rfl, (fun _ h => absurd h List.not_mem_nil)⟩) (by decide +kernel)
set_option maxRecDepth 20000 in
theorem gX5_read_X3_isOne : GoodIn wsX5_read (va_wsS RX5 178 yX3_isOne wsX3_isOne) := goodIn_app (goodIn_sub (List.forall_mem_cons.mpr ⟨List.mem_of_getElem? (i := 6) rfl, List.forall_mem_cons.mpr ⟨List.mem_of_getElem? (i := 7) rfl, List.forall_mem_cons.mpr ⟨List.mem_of_getElem? (i := 8) rfl, fun _ h => absurd h List.not_mem_nil⟩⟩⟩) (by decide +kernel)) ggX5_read_X3_isOne
set_option maxRecDepth 20000 in
theorem ggX5_read_X5_tell : GoodIn wsX5_read wsX5_tell := goodIn_sub (List.forall_mem_cons.mpr ⟨List.mem_of_getElem? (i := 14) rfl, (List.forall_mem_append.mpr ⟨(List.forall_mem_cons.mpr ⟨List.mem_of_getElem? (i := 15) rfl, List.forall_mem_cons.mpr ⟨List.mem_of_getElem? (i := 16) rfl, List.forall_mem_cons.mpr ⟨List.mem_of_getElem? (i := 17) rfl, List.forall_mem_cons.mpr ⟨List.mem_of_getElem? (i := 18) rfl, List.forall_mem_cons.mpr ⟨List.mem_of_getElem? (i := 13) rfl, List.forall_mem_cons.mpr ⟨List.mem_of_getElem? (i := 19) rfl, fun _ h => absurd h List.not_mem_nil⟩⟩⟩⟩⟩⟩), (fun _ h => List.mem_cons_of_mem _ (List.mem_append_left _ (List.mem_append_left _ (List.mem_append_right _ h))))⟩)⟩) (by decide +kernel)
set_option maxRecDepth 20000 in
theorem gX5_read_X5_tell : GoodIn wsX5_read (wsV RX5 48 RX5 yX5_tell wsX5_tell) := goodIn_app (goodIn_sub (List.forall_mem_cons.mpr ⟨List.mem_of_getElem? (i := 10) rfl, List.forall_mem_cons.mpr ⟨List.mem_of_getElem? (i := 11) rfl, List.forall_mem_cons.mpr ⟨List.mem_of_getElem? (i := 12) rfl, List.forall_mem_cons.mpr ⟨List.mem_of_getElem? (i := 13) rfl, fun _ h => absurd h List.not_mem_nil⟩⟩⟩⟩) (by decide +kernel)) ggX5_read_X5_tell
set_option maxRecDepth 20000 in
theorem ggX5_read_X3_isMissing : GoodIn wsX5_read wsX3_isMissing := goodIn_sub (List.forall_mem_cons.mpr ⟨List.mem_of_getElem? (i := 23) rfl, (List.forall_mem_append.mpr ⟨(List.forall_mem_cons.mpr ⟨List.mem_of_getElem? (i := 24) rfl, List.forall_mem_cons.mpr ⟨List.mem_of_getElem? (i := 25) rfl, List.forall_mem_cons.mpr ⟨List.mem_of_getElem? (i := 7) rfl, List.forall_mem_cons.mpr ⟨List.mem_of_getElem? (i := 8) rfl, List.forall_mem_cons.mpr ⟨List.mem_of_getElem? (i := 9) rfl, fun _ h => absurd h List.not_mem_nil⟩⟩⟩⟩⟩), (fun _ h => List.mem_cons_of_mem _ (List.mem_append_right _ h))⟩)⟩) (by decide +kernel)
set_option maxRecDepth 20000 in
theorem gX5_read_X3_isMissing : GoodIn wsX5_read (wsV RX5 189 RX3 yX3_isMissing wsX3_isMissing) := goodIn_app (goodIn_sub (List.forall_mem_cons.mpr ⟨List.mem_of_getElem? (i := 20) rfl, List.forall_mem_cons.mpr ⟨List.mem_of_getElem? (i := 21) rfl, List.forall_mem_cons.mpr ⟨List.mem_of_getElem? (i := 22) rfl, List.forall_mem_cons.mpr ⟨List.mem_of_getElem? (i := 8) rfl, fun _ h => absurd h List.not_mem_nil⟩⟩⟩⟩) (by decide +kernel)) ggX5_read_X3_isMissing
set_option maxRecDepth 20000 in
theorem ggX5_read_X0_hasOne : GoodIn wsX5_read wsX0_hasOne := goodIn_sub (List.forall_mem_cons.mpr ⟨List.mem_of_getElem? (i := 30) rfl, (List.forall_mem_append.mpr ⟨(List.forall_mem_cons.mpr ⟨List.mem_of_getElem? (i := 31) rfl, fun _ h => absurd h List.not_mem_nil⟩), (fun _ h => List.mem_cons_of_mem _ (List.mem_append_left _ (List.mem_append_right _ h)))⟩)⟩) (by decide +kernel)
set_option maxRecDepth 20000 in
theorem gX5_read_X0_hasOne : GoodIn wsX5_read (wsV RX5 89 RX0 yX0_hasOne wsX0_hasOne) := goodIn_app (goodIn_sub (List.forall_mem_cons.mpr ⟨List.mem_of_getElem? (i := 26) rfl, List.forall_mem_cons.mpr ⟨List.mem_of_getElem? (i := 27) rfl, List.forall_mem_cons.mpr ⟨List.mem_of_getElem? (i := 28) rfl, List.forall_mem_cons.mpr ⟨List.mem_of_getElem? (i := 29) rfl, fun _ h => absurd h List.not_mem_nil⟩⟩⟩⟩) (by decide +kernel)) ggX5_read_X0_hasOne
set_option maxRecDepth 20000 in
theorem ggX5_read_X0_become : GoodIn wsX5_read wsX0_become := goodIn_sub (List.forall_mem_cons.mpr ⟨List.mem_of_getElem? (i := 35) rfl, (List.forall_mem_append.mpr ⟨(List.forall_mem_cons.mpr ⟨List.mem_of_getElem? (i := 36) rfl, List.forall_mem_cons.mpr ⟨List.mem_of_getElem? (i := 37) rfl, List.forall_mem_cons.mpr ⟨List.mem_of_getElem? (i := 38) rfl, List.forall_mem_cons.mpr ⟨List.mem_of_getElem? (i := 39) rfl, List.forall_mem_cons.mpr ⟨List.mem_of_getElem? (i := 40) rfl, List.forall_mem_cons.mpr ⟨List.mem_of_getElem? (i := 31) rfl, List.forall_mem_cons.mpr ⟨List.mem_of_getElem? (i := 41) rfl, List.forall_mem_cons.mpr ⟨List.mem_of_getElem? (i := 42) rfl, List.forall_mem_cons.mpr ⟨List.mem_of_getElem? (i := 43) rfl, List.forall_mem_cons.mpr ⟨List.mem_of_getElem? (i := 44) rfl, List.forall_mem_cons.mpr ⟨List.mem_of_getElem? (i := 45) rfl, fun _ h => absurd h List.not_mem_nil⟩⟩⟩⟩⟩⟩⟩⟩⟩⟩⟩), (fun _ h => List.mem_cons_of_mem _ (List.mem_append_left _ (List.mem_append_right _ h)))⟩)⟩) (by decide +kernel)
set_option maxRecDepth 20000 in
theorem gX5_read_X0_become : GoodIn wsX5_read (wsV RX5 140 RX0 yX0_become wsX0_become) := goodIn_app (goodIn_sub (List.forall_mem_cons.mpr ⟨List.mem_of_getElem? (i := 32) rfl, List.forall_mem_cons.mpr ⟨List.mem_of_getElem? (i := 33) rfl, List.forall_mem_cons.mpr ⟨List.mem_of_getElem? (i := 34) rfl, List.forall_mem_cons.mpr ⟨List.mem_of_getElem? (i := 29) rfl, fun _ h => absurd h List.not_mem_nil⟩⟩⟩⟩) (by decide +kernel)) ggX5_read_X0_become
set_option maxRecDepth 20000 in
theorem ggX5_read_X5_isTrialAsTold : GoodIn wsX5_read wsX5_isTrialAsTold := goodIn_sub (List.forall_mem_cons.mpr ⟨List.mem_of_getElem? (i := 49) rfl, (List.forall_mem_append.mpr ⟨(List.forall_mem_append.mpr ⟨(List.forall_mem_append.mpr ⟨(List.forall_mem_append.mpr ⟨(List.forall_mem_cons.mpr ⟨List.mem_of_getElem? (i := 1) rfl, List.forall_mem_cons.mpr ⟨List.mem_of_getElem? (i := 50) rfl, List.forall_mem_cons.mpr ⟨List.mem_of_getElem? (i := 3) rfl, List.forall_mem_cons.mpr ⟨List.mem_of_getElem? (i := 51) rfl, List.forall_mem_cons.mpr ⟨List.mem_of_getElem? (i := 52) rfl, List.forall_mem_cons.mpr ⟨List.mem_of_getElem? (i := 53) rfl, List.forall_mem_cons.mpr ⟨List.mem_of_getElem? (i := 54) rfl, List.forall_mem_cons.mpr ⟨List.mem_of_getElem? (i := 8) rfl, List.forall_mem_cons.mpr ⟨List.mem_of_getElem? (i := 55) rfl, List.forall_mem_cons.mpr ⟨List.mem_of_getElem? (i := 56) rfl, List.forall_mem_cons.mpr ⟨List.mem_of_getElem? (i := 57) rfl, List.forall_mem_cons.mpr ⟨List.mem_of_getElem? (i := 58) rfl, List.forall_mem_cons.mpr ⟨List.mem_of_getElem? (i := 59) rfl, List.forall_mem_cons.mpr ⟨List.mem_of_getElem? (i := 60) rfl, List.forall_mem_cons.mpr ⟨List.mem_of_getElem? (i := 61) rfl, List.forall_mem_cons.mpr ⟨List.mem_of_getElem? (i := 25) rfl, List.forall_mem_cons.mpr ⟨List.mem_of_getElem? (i := 7) rfl, List.forall_mem_cons.mpr ⟨List.mem_of_getElem? (i := 9) rfl, List.forall_mem_cons.mpr ⟨List.mem_of_getElem? (i := 62) rfl, List.forall_mem_cons.mpr ⟨List.mem_of_getElem? (i := 63) rfl, List.forall_mem_cons.mpr ⟨List.mem_of_getElem? (i := 64) rfl, List.forall_mem_cons.mpr ⟨List.mem_of_getElem? (i := 29) rfl, List.forall_mem_cons.mpr ⟨List.mem_of_getElem? (i := 65) rfl, List.forall_mem_cons.mpr ⟨List.mem_of_getElem? (i := 37) rfl, fun _ h => absurd h List.not_mem_nil⟩⟩⟩⟩⟩⟩⟩⟩⟩⟩⟩⟩⟩⟩⟩⟩⟩⟩⟩⟩⟩⟩⟩⟩), (List.forall_mem_append.mpr ⟨(List.forall_mem_cons.mpr ⟨List.mem_of_getElem? (i := 38) rfl, List.forall_mem_cons.mpr ⟨List.mem_of_getElem? (i := 66) rfl, List.forall_mem_cons.mpr ⟨List.mem_of_getElem? (i := 67) rfl, List.forall_mem_cons.mpr ⟨List.mem_of_getElem? (i := 68) rfl, List.forall_mem_cons.mpr ⟨List.mem_of_getElem? (i := 69) rfl, List.forall_mem_cons.mpr ⟨List.mem_of_getElem? (i := 31) rfl, List.forall_mem_cons.mpr ⟨List.mem_of_getElem? (i := 44) rfl, List.forall_mem_cons.mpr ⟨List.mem_of_getElem? (i := 40) rfl, List.forall_mem_cons.mpr ⟨List.mem_of_getElem? (i := 36) rfl, List.forall_mem_cons.mpr ⟨List.mem_of_getElem? (i := 70) rfl, List.forall_mem_cons.mpr ⟨List.mem_of_getElem? (i := 71) rfl, List.forall_mem_cons.mpr ⟨List.mem_of_getElem? (i := 72) rfl, List.forall_mem_cons.mpr ⟨List.mem_of_getElem? (i := 73) rfl, List.forall_mem_cons.mpr ⟨List.mem_of_getElem? (i := 41) rfl, List.forall_mem_cons.mpr ⟨List.mem_of_getElem? (i := 42) rfl, List.forall_mem_cons.mpr ⟨List.mem_of_getElem? (i := 39) rfl, List.forall_mem_cons.mpr ⟨List.mem_of_getElem? (i := 74) rfl, List.forall_mem_cons.mpr ⟨List.mem_of_getElem? (i := 27) rfl, List.forall_mem_cons.mpr ⟨List.mem_of_getElem? (i := 28) rfl, List.forall_mem_cons.mpr ⟨List.mem_of_getElem? (i := 30) rfl, List.forall_mem_cons.mpr ⟨List.mem_of_getElem? (i := 75) rfl, List.forall_mem_cons.mpr ⟨List.mem_of_getElem? (i := 76) rfl, List.forall_mem_cons.mpr ⟨List.mem_of_getElem? (i := 77) rfl, List.forall_mem_cons.mpr ⟨List.mem_of_getElem? (i := 78) rfl, fun _ h => absurd h List.not_mem_nil⟩⟩⟩⟩⟩⟩⟩⟩⟩⟩⟩⟩⟩⟩⟩⟩⟩⟩⟩⟩⟩⟩⟩⟩), (List.forall_mem_append.mpr ⟨(List.forall_mem_cons.mpr ⟨List.mem_of_getElem? (i := 79) rfl, List.forall_mem_cons.mpr ⟨List.mem_of_getElem? (i := 80) rfl, List.forall_mem_cons.mpr ⟨List.mem_of_getElem? (i := 81) rfl, List.forall_mem_cons.mpr ⟨List.mem_of_getElem? (i := 82) rfl, List.forall_mem_cons.mpr ⟨List.mem_of_getElem? (i := 83) rfl, List.forall_mem_cons.mpr ⟨List.mem_of_getElem? (i := 84) rfl, List.forall_mem_cons.mpr ⟨List.mem_of_getElem? (i := 85) rfl, List.forall_mem_cons.mpr ⟨List.mem_of_getElem? (i := 86) rfl, List.forall_mem_cons.mpr ⟨List.mem_of_getElem? (i := 87) rfl, List.forall_mem_cons.mpr ⟨List.mem_of_getElem? (i := 88) rfl, List.forall_mem_cons.mpr ⟨List.mem_of_getElem? (i := 43) rfl, List.forall_mem_cons.mpr ⟨List.mem_of_getElem? (i := 45) rfl, List.forall_mem_cons.mpr ⟨List.mem_of_getElem? (i := 89) rfl, List.forall_mem_cons.mpr ⟨List.mem_of_getElem? (i := 90) rfl, List.forall_mem_cons.mpr ⟨List.mem_of_getElem? (i := 91) rfl, List.forall_mem_cons.mpr ⟨List.mem_of_getElem? (i := 92) rfl, List.forall_mem_cons.mpr ⟨List.mem_of_getElem? (i := 93) rfl, List.forall_mem_cons.mpr ⟨List.mem_of_getElem? (i := 94) rfl, List.forall_mem_cons.mpr ⟨List.mem_of_getElem? (i := 95) rfl, List.forall_mem_cons.mpr ⟨List.mem_of_getElem? (i := 96) rfl, List.forall_mem_cons.mpr ⟨List.mem_of_getElem? (i := 97) rfl, List.forall_mem_cons.mpr ⟨List.mem_of_getElem? (i := 98) rfl, List.forall_mem_cons.mpr ⟨List.mem_of_getElem? (i := 99) rfl, List.forall_mem_cons.mpr ⟨List.mem_of_getElem? (i := 100) rfl, fun _ h => absurd h List.not_mem_nil⟩⟩⟩⟩⟩⟩⟩⟩⟩⟩⟩⟩⟩⟩⟩⟩⟩⟩⟩⟩⟩⟩⟩⟩), (List.forall_mem_cons.mpr ⟨List.mem_of_getElem? (i := 101) rfl, List.forall_mem_cons.mpr ⟨List.mem_of_getElem? (i := 102) rfl, List.forall_mem_cons.mpr ⟨List.mem_of_getElem? (i := 103) rfl, List.forall_mem_cons.mpr ⟨List.mem_of_getElem? (i := 104) rfl, List.forall_mem_cons.mpr ⟨List.mem_of_getElem? (i := 105) rfl, List.forall_mem_cons.mpr ⟨List.mem_of_getElem? (i := 106) rfl, List.forall_mem_cons.mpr ⟨List.mem_of_getElem? (i := 107) rfl, List.forall_mem_cons.mpr ⟨List.mem_of_getElem? (i := 108) rfl, List.forall_mem_cons.mpr ⟨List.mem_of_getElem? (i := 109) rfl, fun _ h => absurd h List.not_mem_nil⟩⟩⟩⟩⟩⟩⟩⟩⟩)⟩)⟩)⟩), (fun _ h => List.mem_cons_of_mem _ (List.mem_append_left _ (List.mem_append_left _ (List.mem_append_right _ h))))⟩), (fun _ h => List.mem_cons_of_mem _ (List.mem_append_right _ h))⟩), (fun _ h => List.mem_cons_of_mem _ (List.mem_append_left _ (List.mem_append_right _ h)))⟩)⟩) (by decide +kernel)
set_option maxRecDepth 20000 in
theorem gX5_read_X5_isTrialAsTold : GoodIn wsX5_read (wsV RX5 212 RX5 yX5_isTrialAsTold wsX5_isTrialAsTold) := goodIn_app (goodIn_sub (List.forall_mem_cons.mpr ⟨List.mem_of_getElem? (i := 46) rfl, List.forall_mem_cons.mpr ⟨List.mem_of_getElem? (i := 47) rfl, List.forall_mem_cons.mpr ⟨List.mem_of_getElem? (i := 48) rfl, List.forall_mem_cons.mpr ⟨List.mem_of_getElem? (i := 13) rfl, fun _ h => absurd h List.not_mem_nil⟩⟩⟩⟩) (by decide +kernel)) ggX5_read_X5_isTrialAsTold
theorem dX5_read_0 : decode cX5_read 0 = .ok (.iload_n 1, 1) := by decide +kernel
theorem dX5_read_1 : decode cX5_read 1 = .ok (.invokestatic 178, 3) := by decide +kernel
theorem dX5_read_4 : decode cX5_read 4 = .ok (.ifCond .ne 9, 3) := by decide +kernel
theorem dX5_read_7 : decode cX5_read 7 = .ok (.aload_n 0, 1) := by decide +kernel
theorem dX5_read_8 : decode cX5_read 8 = .ok (.iconst 0, 1) := by decide +kernel
theorem dX5_read_9 : decode cX5_read 9 = .ok (.invokevirtual 48, 3) := by decide +kernel
theorem dX5_read_12 : decode cX5_read 12 = .ok (.ireturn, 1) := by decide +kernel
theorem dX5_read_13 : decode cX5_read 13 = .ok (.aload_n 0, 1) := by decide +kernel
theorem dX5_read_14 : decode cX5_read 14 = .ok (.getfield 32, 3) := by decide +kernel
theorem dX5_read_17 : decode cX5_read 17 = .ok (.iload_n 1, 1) := by decide +kernel
theorem dX5_read_18 : decode cX5_read 18 = .ok (.invokevirtual 189, 3) := by decide +kernel
theorem dX5_read_21 : decode cX5_read 21 = .ok (.ifCond .eq 9, 3) := by decide +kernel
theorem dX5_read_24 : decode cX5_read 24 = .ok (.aload_n 0, 1) := by decide +kernel
theorem dX5_read_25 : decode cX5_read 25 = .ok (.iconst 5, 1) := by decide +kernel
theorem dX5_read_26 : decode cX5_read 26 = .ok (.invokevirtual 48, 3) := by decide +kernel
theorem dX5_read_29 : decode cX5_read 29 = .ok (.ireturn, 1) := by decide +kernel
theorem dX5_read_30 : decode cX5_read 30 = .ok (.aload_n 0, 1) := by decide +kernel
theorem dX5_read_31 : decode cX5_read 31 = .ok (.getfield 10, 3) := by decide +kernel
theorem dX5_read_34 : decode cX5_read 34 = .ok (.iload_n 2, 1) := by decide +kernel
theorem dX5_read_35 : decode cX5_read 35 = .ok (.invokevirtual 89, 3) := by decide +kernel
theorem dX5_read_38 : decode cX5_read 38 = .ok (.ifCond .ne 9, 3) := by decide +kernel
theorem dX5_read_41 : decode cX5_read 41 = .ok (.aload_n 0, 1) := by decide +kernel
theorem dX5_read_42 : decode cX5_read 42 = .ok (.iconst 0, 1) := by decide +kernel
theorem dX5_read_43 : decode cX5_read 43 = .ok (.invokevirtual 48, 3) := by decide +kernel
theorem dX5_read_46 : decode cX5_read 46 = .ok (.ireturn, 1) := by decide +kernel
theorem dX5_read_47 : decode cX5_read 47 = .ok (.iconst 0, 1) := by decide +kernel
theorem dX5_read_48 : decode cX5_read 48 = .ok (.istore_n 3, 1) := by decide +kernel
theorem dX5_read_49 : decode cX5_read 49 = .ok (.iconst 0, 1) := by decide +kernel
theorem dX5_read_50 : decode cX5_read 50 = .ok (.istore 4, 2) := by decide +kernel
theorem dX5_read_52 : decode cX5_read 52 = .ok (.iload 4, 2) := by decide +kernel
theorem dX5_read_54 : decode cX5_read 54 = .ok (.bipush 6, 2) := by decide +kernel
theorem dX5_read_56 : decode cX5_read 56 = .ok (.if_icmp .ge 69, 3) := by decide +kernel
theorem dX5_read_59 : decode cX5_read 59 = .ok (.iconst 0, 1) := by decide +kernel
theorem dX5_read_60 : decode cX5_read 60 = .ok (.istore 5, 2) := by decide +kernel
theorem dX5_read_62 : decode cX5_read 62 = .ok (.iload 5, 2) := by decide +kernel
theorem dX5_read_64 : decode cX5_read 64 = .ok (.bipush 20, 2) := by decide +kernel
theorem dX5_read_66 : decode cX5_read 66 = .ok (.if_icmp .gt 53, 3) := by decide +kernel
theorem dX5_read_69 : decode cX5_read 69 = .ok (.aload_n 0, 1) := by decide +kernel
theorem dX5_read_70 : decode cX5_read 70 = .ok (.getfield 19, 3) := by decide +kernel
theorem dX5_read_73 : decode cX5_read 73 = .ok (.aload_n 0, 1) := by decide +kernel
theorem dX5_read_74 : decode cX5_read 74 = .ok (.getfield 10, 3) := by decide +kernel
theorem dX5_read_77 : decode cX5_read 77 = .ok (.invokevirtual 140, 3) := by decide +kernel
theorem dX5_read_80 : decode cX5_read 80 = .ok (.aload_n 0, 1) := by decide +kernel
theorem dX5_read_81 : decode cX5_read 81 = .ok (.getfield 19, 3) := by decide +kernel
theorem dX5_read_84 : decode cX5_read 84 = .ok (.getfield 92, 3) := by decide +kernel
theorem dX5_read_87 : decode cX5_read 87 = .ok (.iload_n 2, 1) := by decide +kernel
theorem dX5_read_88 : decode cX5_read 88 = .ok (.iload 4, 2) := by decide +kernel
theorem dX5_read_90 : decode cX5_read 90 = .ok (.iastore, 1) := by decide +kernel
theorem dX5_read_91 : decode cX5_read 91 = .ok (.aload_n 0, 1) := by decide +kernel
theorem dX5_read_92 : decode cX5_read 92 = .ok (.getfield 19, 3) := by decide +kernel
theorem dX5_read_95 : decode cX5_read 95 = .ok (.getfield 95, 3) := by decide +kernel
theorem dX5_read_98 : decode cX5_read 98 = .ok (.iload_n 2, 1) := by decide +kernel
theorem dX5_read_99 : decode cX5_read 99 = .ok (.iload 5, 2) := by decide +kernel
theorem dX5_read_101 : decode cX5_read 101 = .ok (.iastore, 1) := by decide +kernel
theorem dX5_read_102 : decode cX5_read 102 = .ok (.aload_n 0, 1) := by decide +kernel
theorem dX5_read_103 : decode cX5_read 103 = .ok (.iload_n 1, 1) := by decide +kernel
theorem dX5_read_104 : decode cX5_read 104 = .ok (.invokevirtual 212, 3) := by decide +kernel
theorem dX5_read_107 : decode cX5_read 107 = .ok (.ifCond .eq 6, 3) := by decide +kernel
theorem dX5_read_110 : decode cX5_read 110 = .ok (.iinc 3 1, 3) := by decide +kernel
theorem dX5_read_113 : decode cX5_read 113 = .ok (.iinc 5 1, 3) := by decide +kernel
theorem dX5_read_116 : decode cX5_read 116 = .ok (.goto (-54), 3) := by decide +kernel
theorem dX5_read_119 : decode cX5_read 119 = .ok (.iinc 4 1, 3) := by decide +kernel
theorem dX5_read_122 : decode cX5_read 122 = .ok (.goto (-70), 3) := by decide +kernel
theorem dX5_read_125 : decode cX5_read 125 = .ok (.iload_n 3, 1) := by decide +kernel
theorem dX5_read_126 : decode cX5_read 126 = .ok (.ireturn, 1) := by decide +kernel
set_option maxRecDepth 20000 in
theorem ggX5_image_X0_become : GoodIn wsX5_image wsX0_become := goodIn_sub (List.forall_mem_cons.mpr ⟨List.mem_of_getElem? (i := 8) rfl, (List.forall_mem_append.mpr ⟨(List.forall_mem_cons.mpr ⟨List.mem_of_getElem? (i := 9) rfl, List.forall_mem_cons.mpr ⟨List.mem_of_getElem? (i := 10) rfl, List.forall_mem_cons.mpr ⟨List.mem_of_getElem? (i := 11) rfl, List.forall_mem_cons.mpr ⟨List.mem_of_getElem? (i := 12) rfl, List.forall_mem_cons.mpr ⟨List.mem_of_getElem? (i := 13) rfl, List.forall_mem_cons.mpr ⟨List.mem_of_getElem? (i := 14) rfl, List.forall_mem_cons.mpr ⟨List.mem_of_getElem? (i := 15) rfl, List.forall_mem_cons.mpr ⟨List.mem_of_getElem? (i := 16) rfl, List.forall_mem_cons.mpr ⟨List.mem_of_getElem? (i := 17) rfl, List.forall_mem_cons.mpr ⟨List.mem_of_getElem? (i := 18) rfl, List.forall_mem_cons.mpr ⟨List.mem_of_getElem? (i := 19) rfl, fun _ h => absurd h List.not_mem_nil⟩⟩⟩⟩⟩⟩⟩⟩⟩⟩⟩), (fun _ h => List.mem_cons_of_mem _ (List.mem_append_right _ h))⟩)⟩) (by decide +kernel)
set_option maxRecDepth 20000 in
theorem gX5_image_X0_become : GoodIn wsX5_image (wsV RX5 140 RX0 yX0_become wsX0_become) := goodIn_app (goodIn_sub (List.forall_mem_cons.mpr ⟨List.mem_of_getElem? (i := 4) rfl, List.forall_mem_cons.mpr ⟨List.mem_of_getElem? (i := 5) rfl, List.forall_mem_cons.mpr ⟨List.mem_of_getElem? (i := 6) rfl, List.forall_mem_cons.mpr ⟨List.mem_of_getElem? (i := 7) rfl, fun _ h => absurd h List.not_mem_nil⟩⟩⟩⟩) (by decide +kernel)) ggX5_image_X0_become
theorem dX5_image_0 : decode cX5_image 0 = .ok (.aload_n 0, 1) := by decide +kernel
theorem dX5_image_1 : decode cX5_image 1 = .ok (.getfield 16, 3) := by decide +kernel
theorem dX5_image_4 : decode cX5_image 4 = .ok (.aload_n 0, 1) := by decide +kernel
theorem dX5_image_5 : decode cX5_image 5 = .ok (.getfield 10, 3) := by decide +kernel
theorem dX5_image_8 : decode cX5_image 8 = .ok (.invokevirtual 140, 3) := by decide +kernel
theorem dX5_image_11 : decode cX5_image 11 = .ok (.aload_n 0, 1) := by decide +kernel
theorem dX5_image_12 : decode cX5_image 12 = .ok (.iconst 1, 1) := by decide +kernel
theorem dX5_image_13 : decode cX5_image 13 = .ok (.putfield 40, 3) := by decide +kernel
theorem dX5_image_16 : decode cX5_image 16 = .ok (.iconst 1, 1) := by decide +kernel
theorem dX5_image_17 : decode cX5_image 17 = .ok (.ireturn, 1) := by decide +kernel
set_option maxRecDepth 20000 in
theorem ggX5_undo_X5_tell : GoodIn wsX5_undo wsX5_tell := goodIn_sub (List.forall_mem_cons.mpr ⟨List.mem_of_getElem? (i := 9) rfl, (List.forall_mem_append.mpr ⟨(List.forall_mem_cons.mpr ⟨List.mem_of_getElem? (i := 10) rfl, List.forall_mem_cons.mpr ⟨List.mem_of_getElem? (i := 11) rfl, List.forall_mem_cons.mpr ⟨List.mem_of_getElem? (i := 12) rfl, List.forall_mem_cons.mpr ⟨List.mem_of_getElem? (i := 13) rfl, List.forall_mem_cons.mpr ⟨List.mem_of_getElem? (i := 8) rfl, List.forall_mem_cons.mpr ⟨List.mem_of_getElem? (i := 14) rfl, fun _ h => absurd h List.not_mem_nil⟩⟩⟩⟩⟩⟩), (fun _ h => List.mem_cons_of_mem _ (List.mem_append_left _ (List.mem_append_right _ h)))⟩)⟩) (by decide +kernel)
set_option maxRecDepth 20000 in
theorem gX5_undo_X5_tell : GoodIn wsX5_undo (wsV RX5 48 RX5 yX5_tell wsX5_tell) := goodIn_app (goodIn_sub (List.forall_mem_cons.mpr ⟨List.mem_of_getElem? (i := 5) rfl, List.forall_mem_cons.mpr ⟨List.mem_of_getElem? (i := 6) rfl, List.forall_mem_cons.mpr ⟨List.mem_of_getElem? (i := 7) rfl, List.forall_mem_cons.mpr ⟨List.mem_of_getElem? (i := 8) rfl, fun _ h => absurd h List.not_mem_nil⟩⟩⟩⟩) (by decide +kernel)) ggX5_undo_X5_tell
set_option maxRecDepth 20000 in
theorem ggX5_undo_X0_become : GoodIn wsX5_undo wsX0_become := goodIn_sub (List.forall_mem_cons.mpr ⟨List.mem_of_getElem? (i := 19) rfl, (List.forall_mem_append.mpr ⟨(List.forall_mem_cons.mpr ⟨List.mem_of_getElem? (i := 20) rfl, List.forall_mem_cons.mpr ⟨List.mem_of_getElem? (i := 21) rfl, List.forall_mem_cons.mpr ⟨List.mem_of_getElem? (i := 22) rfl, List.forall_mem_cons.mpr ⟨List.mem_of_getElem? (i := 23) rfl, List.forall_mem_cons.mpr ⟨List.mem_of_getElem? (i := 24) rfl, List.forall_mem_cons.mpr ⟨List.mem_of_getElem? (i := 25) rfl, List.forall_mem_cons.mpr ⟨List.mem_of_getElem? (i := 26) rfl, List.forall_mem_cons.mpr ⟨List.mem_of_getElem? (i := 27) rfl, List.forall_mem_cons.mpr ⟨List.mem_of_getElem? (i := 28) rfl, List.forall_mem_cons.mpr ⟨List.mem_of_getElem? (i := 29) rfl, List.forall_mem_cons.mpr ⟨List.mem_of_getElem? (i := 30) rfl, fun _ h => absurd h List.not_mem_nil⟩⟩⟩⟩⟩⟩⟩⟩⟩⟩⟩), (fun _ h => List.mem_cons_of_mem _ (List.mem_append_right _ h))⟩)⟩) (by decide +kernel)
set_option maxRecDepth 20000 in
theorem gX5_undo_X0_become : GoodIn wsX5_undo (wsV RX5 140 RX0 yX0_become wsX0_become) := goodIn_app (goodIn_sub (List.forall_mem_cons.mpr ⟨List.mem_of_getElem? (i := 15) rfl, List.forall_mem_cons.mpr ⟨List.mem_of_getElem? (i := 16) rfl, List.forall_mem_cons.mpr ⟨List.mem_of_getElem? (i := 17) rfl, List.forall_mem_cons.mpr ⟨List.mem_of_getElem? (i := 18) rfl, fun _ h => absurd h List.not_mem_nil⟩⟩⟩⟩) (by decide +kernel)) ggX5_undo_X0_become
theorem dX5_undo_0 : decode cX5_undo 0 = .ok (.aload_n 0, 1) := by decide +kernel
theorem dX5_undo_1 : decode cX5_undo 1 = .ok (.getfield 40, 3) := by decide +kernel
theorem dX5_undo_4 : decode cX5_undo 4 = .ok (.ifCond .ne 9, 3) := by decide +kernel
theorem dX5_undo_7 : decode cX5_undo 7 = .ok (.aload_n 0, 1) := by decide +kernel
theorem dX5_undo_8 : decode cX5_undo 8 = .ok (.iconst 3, 1) := by decide +kernel
theorem dX5_undo_9 : decode cX5_undo 9 = .ok (.invokevirtual 48, 3) := by decide +kernel
theorem dX5_undo_12 : decode cX5_undo 12 = .ok (.ireturn, 1) := by decide +kernel
theorem dX5_undo_13 : decode cX5_undo 13 = .ok (.aload_n 0, 1) := by decide +kernel
theorem dX5_undo_14 : decode cX5_undo 14 = .ok (.getfield 10, 3) := by decide +kernel
theorem dX5_undo_17 : decode cX5_undo 17 = .ok (.aload_n 0, 1) := by decide +kernel
theorem dX5_undo_18 : decode cX5_undo 18 = .ok (.getfield 16, 3) := by decide +kernel
theorem dX5_undo_21 : decode cX5_undo 21 = .ok (.invokevirtual 140, 3) := by decide +kernel
theorem dX5_undo_24 : decode cX5_undo 24 = .ok (.aload_n 0, 1) := by decide +kernel
theorem dX5_undo_25 : decode cX5_undo 25 = .ok (.getfield 10, 3) := by decide +kernel
theorem dX5_undo_28 : decode cX5_undo 28 = .ok (.getfield 147, 3) := by decide +kernel
theorem dX5_undo_31 : decode cX5_undo 31 = .ok (.ireturn, 1) := by decide +kernel
theorem dX5_tear_0 : decode cX5_tear 0 = .ok (.aload_n 0, 1) := by decide +kernel
theorem dX5_tear_1 : decode cX5_tear 1 = .ok (.getfield 40, 3) := by decide +kernel
theorem dX5_tear_4 : decode cX5_tear 4 = .ok (.ifCond .eq 7, 3) := by decide +kernel
theorem dX5_tear_7 : decode cX5_tear 7 = .ok (.iconst 1, 1) := by decide +kernel
theorem dX5_tear_8 : decode cX5_tear 8 = .ok (.goto 4, 3) := by decide +kernel
theorem dX5_tear_11 : decode cX5_tear 11 = .ok (.iconst 0, 1) := by decide +kernel
theorem dX5_tear_12 : decode cX5_tear 12 = .ok (.istore_n 1, 1) := by decide +kernel
theorem dX5_tear_13 : decode cX5_tear 13 = .ok (.aload_n 0, 1) := by decide +kernel
theorem dX5_tear_14 : decode cX5_tear 14 = .ok (.iconst 0, 1) := by decide +kernel
theorem dX5_tear_15 : decode cX5_tear 15 = .ok (.putfield 40, 3) := by decide +kernel
theorem dX5_tear_18 : decode cX5_tear 18 = .ok (.iload_n 1, 1) := by decide +kernel
theorem dX5_tear_19 : decode cX5_tear 19 = .ok (.ireturn, 1) := by decide +kernel
set_option maxRecDepth 20000 in
theorem ggX5_count_X0_watchedSet : GoodIn wsX5_count wsX0_watchedSet := goodIn_sub (List.forall_mem_cons.mpr ⟨List.mem_of_getElem? (i := 9) rfl, (List.forall_mem_append.mpr ⟨(List.forall_mem_cons.mpr ⟨List.mem_of_getElem? (i := 10) rfl, List.forall_mem_cons.mpr ⟨List.mem_of_getElem? (i := 11) rfl, fun _ h => absurd h List.not_mem_nil⟩⟩), (fun _ h => List.mem_cons_of_mem _ (List.mem_append_left _ (List.mem_append_right _ h)))⟩)⟩) (by decide +kernel)
set_option maxRecDepth 20000 in
theorem gX5_count_X0_watchedSet : GoodIn wsX5_count (wsV RX5 69 RX0 yX0_watchedSet wsX0_watchedSet) := goodIn_app (goodIn_sub (List.forall_mem_cons.mpr ⟨List.mem_of_getElem? (i := 5) rfl, List.forall_mem_cons.mpr ⟨List.mem_of_getElem? (i := 6) rfl, List.forall_mem_cons.mpr ⟨List.mem_of_getElem? (i := 7) rfl, List.forall_mem_cons.mpr ⟨List.mem_of_getElem? (i := 8) rfl, fun _ h => absurd h List.not_mem_nil⟩⟩⟩⟩) (by decide +kernel)) ggX5_count_X0_watchedSet
set_option maxRecDepth 20000 in
theorem ggX5_count_J6_bitCount_0f7a4 : GoodIn wsX5_count wsJ6_bitCount_0f7a4 := goodIn_sub (List.forall_mem_cons.mpr ⟨List.mem_of_getElem? (i := 15) rfl, (List.forall_mem_cons.mpr ⟨List.mem_of_getElem? (i := 16) rfl, List.forall_mem_cons.mpr ⟨List.mem_of_getElem? (i := 17) rfl, List.forall_mem_cons.mpr ⟨List.mem_of_getElem? (i := 18) rfl, fun _ h => absurd h List.not_mem_nil⟩⟩⟩)⟩) (by decide +kernel)
set_option maxRecDepth 20000 in
theorem gX5_count_J6_bitCount_0f7a4 : GoodIn wsX5_count (va_wsS RX5 153 yJ6_bitCount_0f7a4 wsJ6_bitCount_0f7a4) := goodIn_app (goodIn_sub (List.forall_mem_cons.mpr ⟨List.mem_of_getElem? (i := 12) rfl, List.forall_mem_cons.mpr ⟨List.mem_of_getElem? (i := 13) rfl, List.forall_mem_cons.mpr ⟨List.mem_of_getElem? (i := 14) rfl, fun _ h => absurd h List.not_mem_nil⟩⟩⟩) (by decide +kernel)) ggX5_count_J6_bitCount_0f7a4
set_option maxRecDepth 20000 in
theorem ggX5_count_X0_reasonsTogether : GoodIn wsX5_count wsX0_reasonsTogether := goodIn_sub (List.forall_mem_cons.mpr ⟨List.mem_of_getElem? (i := 22) rfl, (List.forall_mem_append.mpr ⟨(List.forall_mem_cons.mpr ⟨List.mem_of_getElem? (i := 10) rfl, List.forall_mem_cons.mpr ⟨List.mem_of_getElem? (i := 23) rfl, fun _ h => absurd h List.not_mem_nil⟩⟩), (fun _ h => List.mem_cons_of_mem _ (List.mem_append_left _ (List.mem_append_right _ h)))⟩)⟩) (by decide +kernel)
set_option maxRecDepth 20000 in
theorem gX5_count_X0_reasonsTogether : GoodIn wsX5_count (wsV RX5 215 RX0 yX0_reasonsTogether wsX0_reasonsTogether) := goodIn_app (goodIn_sub (List.forall_mem_cons.mpr ⟨List.mem_of_getElem? (i := 19) rfl, List.forall_mem_cons.mpr ⟨List.mem_of_getElem? (i := 20) rfl, List.forall_mem_cons.mpr ⟨List.mem_of_getElem? (i := 21) rfl, List.forall_mem_cons.mpr ⟨List.mem_of_getElem? (i := 8) rfl, fun _ h => absurd h List.not_mem_nil⟩⟩⟩⟩) (by decide +kernel)) ggX5_count_X0_reasonsTogether
set_option maxRecDepth 20000 in
theorem ggX5_count_X5_tell : GoodIn wsX5_count wsX5_tell := goodIn_sub (List.forall_mem_cons.mpr ⟨List.mem_of_getElem? (i := 28) rfl, (List.forall_mem_append.mpr ⟨(List.forall_mem_cons.mpr ⟨List.mem_of_getElem? (i := 29) rfl, List.forall_mem_cons.mpr ⟨List.mem_of_getElem? (i := 30) rfl, List.forall_mem_cons.mpr ⟨List.mem_of_getElem? (i := 31) rfl, List.forall_mem_cons.mpr ⟨List.mem_of_getElem? (i := 32) rfl, List.forall_mem_cons.mpr ⟨List.mem_of_getElem? (i := 27) rfl, List.forall_mem_cons.mpr ⟨List.mem_of_getElem? (i := 33) rfl, fun _ h => absurd h List.not_mem_nil⟩⟩⟩⟩⟩⟩), (fun _ h => List.mem_cons_of_mem _ (List.mem_append_left _ (List.mem_append_left _ (List.mem_append_right _ h))))⟩)⟩) (by decide +kernel)
set_option maxRecDepth 20000 in
theorem gX5_count_X5_tell : GoodIn wsX5_count (wsV RX5 48 RX5 yX5_tell wsX5_tell) := goodIn_app (goodIn_sub (List.forall_mem_cons.mpr ⟨List.mem_of_getElem? (i := 24) rfl, List.forall_mem_cons.mpr ⟨List.mem_of_getElem? (i := 25) rfl, List.forall_mem_cons.mpr ⟨List.mem_of_getElem? (i := 26) rfl, List.forall_mem_cons.mpr ⟨List.mem_of_getElem? (i := 27) rfl, fun _ h => absurd h List.not_mem_nil⟩⟩⟩⟩) (by decide +kernel)) ggX5_count_X5_tell
theorem dX5_count_0 : decode cX5_count 0 = .ok (.iload_n 1, 1) := by decide +kernel
theorem dX5_count_1 : decode cX5_count 1 = .ok (.tableswitch 66 0 3 #[31, 39, 47, 58], 31) := by decide +kernel
theorem dX5_count_32 : decode cX5_count 32 = .ok (.aload_n 0, 1) := by decide +kernel
theorem dX5_count_33 : decode cX5_count 33 = .ok (.getfield 10, 3) := by decide +kernel
theorem dX5_count_36 : decode cX5_count 36 = .ok (.getfield 147, 3) := by decide +kernel
theorem dX5_count_39 : decode cX5_count 39 = .ok (.ireturn, 1) := by decide +kernel
theorem dX5_count_40 : decode cX5_count 40 = .ok (.aload_n 0, 1) := by decide +kernel
theorem dX5_count_41 : decode cX5_count 41 = .ok (.getfield 25, 3) := by decide +kernel
theorem dX5_count_44 : decode cX5_count 44 = .ok (.getfield 167, 3) := by decide +kernel
theorem dX5_count_47 : decode cX5_count 47 = .ok (.ireturn, 1) := by decide +kernel
theorem dX5_count_48 : decode cX5_count 48 = .ok (.aload_n 0, 1) := by decide +kernel
theorem dX5_count_49 : decode cX5_count 49 = .ok (.getfield 10, 3) := by decide +kernel
theorem dX5_count_52 : decode cX5_count 52 = .ok (.invokevirtual 69, 3) := by decide +kernel
theorem dX5_count_55 : decode cX5_count 55 = .ok (.invokestatic 153, 3) := by decide +kernel
theorem dX5_count_58 : decode cX5_count 58 = .ok (.ireturn, 1) := by decide +kernel
theorem dX5_count_59 : decode cX5_count 59 = .ok (.aload_n 0, 1) := by decide +kernel
theorem dX5_count_60 : decode cX5_count 60 = .ok (.getfield 10, 3) := by decide +kernel
theorem dX5_count_63 : decode cX5_count 63 = .ok (.invokevirtual 215, 3) := by decide +kernel
theorem dX5_count_66 : decode cX5_count 66 = .ok (.ireturn, 1) := by decide +kernel
theorem dX5_count_67 : decode cX5_count 67 = .ok (.aload_n 0, 1) := by decide +kernel
theorem dX5_count_68 : decode cX5_count 68 = .ok (.iconst 0, 1) := by decide +kernel
