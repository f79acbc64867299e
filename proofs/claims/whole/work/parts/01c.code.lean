theorem dX0_init_0 : decode cX0_init 0 = .ok (.aload_n 0, 1) := by decide +kernel
theorem dX0_init_1 : decode cX0_init 1 = .ok (.invokespecial 1, 3) := by decide +kernel
theorem dX0_init_4 : decode cX0_init 4 = .ok (.aload_n 0, 1) := by decide +kernel
theorem dX0_init_5 : decode cX0_init 5 = .ok (.iconst 0, 1) := by decide +kernel
theorem dX0_init_6 : decode cX0_init 6 = .ok (.putfield 7, 3) := by decide +kernel
theorem dX0_init_9 : decode cX0_init 9 = .ok (.aload_n 0, 1) := by decide +kernel
theorem dX0_init_10 : decode cX0_init 10 = .ok (.bipush 50, 2) := by decide +kernel
theorem dX0_init_12 : decode cX0_init 12 = .ok (.putfield 13, 3) := by decide +kernel
theorem dX0_init_15 : decode cX0_init 15 = .ok (.aload_n 0, 1) := by decide +kernel
theorem dX0_init_16 : decode cX0_init 16 = .ok (.bipush 12, 2) := by decide +kernel
theorem dX0_init_18 : decode cX0_init 18 = .ok (.putfield 16, 3) := by decide +kernel
theorem dX0_init_21 : decode cX0_init 21 = .ok (.aload_n 0, 1) := by decide +kernel
theorem dX0_init_22 : decode cX0_init 22 = .ok (.iconst 0, 1) := by decide +kernel
theorem dX0_init_23 : decode cX0_init 23 = .ok (.putfield 19, 3) := by decide +kernel
theorem dX0_init_26 : decode cX0_init 26 = .ok (.aload_n 0, 1) := by decide +kernel
theorem dX0_init_27 : decode cX0_init 27 = .ok (.iconst 0, 1) := by decide +kernel
theorem dX0_init_28 : decode cX0_init 28 = .ok (.putfield 22, 3) := by decide +kernel
theorem dX0_init_31 : decode cX0_init 31 = .ok (.aload_n 0, 1) := by decide +kernel
theorem dX0_init_32 : decode cX0_init 32 = .ok (.iconst 0, 1) := by decide +kernel
theorem dX0_init_33 : decode cX0_init 33 = .ok (.putfield 25, 3) := by decide +kernel
theorem dX0_init_36 : decode cX0_init 36 = .ok (.aload_n 0, 1) := by decide +kernel
theorem dX0_init_37 : decode cX0_init 37 = .ok (.bipush 8, 2) := by decide +kernel
theorem dX0_init_39 : decode cX0_init 39 = .ok (.newarray .int, 2) := by decide +kernel
theorem dX0_init_41 : decode cX0_init 41 = .ok (.putfield 28, 3) := by decide +kernel
theorem dX0_init_44 : decode cX0_init 44 = .ok (.aload_n 0, 1) := by decide +kernel
theorem dX0_init_45 : decode cX0_init 45 = .ok (.bipush 8, 2) := by decide +kernel
theorem dX0_init_47 : decode cX0_init 47 = .ok (.newarray .int, 2) := by decide +kernel
theorem dX0_init_49 : decode cX0_init 49 = .ok (.putfield 32, 3) := by decide +kernel
theorem dX0_init_52 : decode cX0_init 52 = .ok (.aload_n 0, 1) := by decide +kernel
theorem dX0_init_53 : decode cX0_init 53 = .ok (.bipush 8, 2) := by decide +kernel
theorem dX0_init_55 : decode cX0_init 55 = .ok (.newarray .int, 2) := by decide +kernel
theorem dX0_init_57 : decode cX0_init 57 = .ok (.putfield 35, 3) := by decide +kernel
theorem dX0_init_60 : decode cX0_init 60 = .ok (.aload_n 0, 1) := by decide +kernel
theorem dX0_init_61 : decode cX0_init 61 = .ok (.bipush 8, 2) := by decide +kernel
theorem dX0_init_63 : decode cX0_init 63 = .ok (.newarray .int, 2) := by decide +kernel
theorem dX0_init_65 : decode cX0_init 65 = .ok (.putfield 38, 3) := by decide +kernel
theorem dX0_init_68 : decode cX0_init 68 = .ok (.aload_n 0, 1) := by decide +kernel
theorem dX0_init_69 : decode cX0_init 69 = .ok (.bipush 8, 2) := by decide +kernel
theorem dX0_init_71 : decode cX0_init 71 = .ok (.newarray .int, 2) := by decide +kernel
theorem dX0_init_73 : decode cX0_init 73 = .ok (.putfield 41, 3) := by decide +kernel
theorem dX0_init_76 : decode cX0_init 76 = .ok (.return_, 1) := by decide +kernel
theorem dX0_become_0 : decode cX0_become 0 = .ok (.aload_n 0, 1) := by decide +kernel
theorem dX0_become_1 : decode cX0_become 1 = .ok (.aload_n 1, 1) := by decide +kernel
theorem dX0_become_2 : decode cX0_become 2 = .ok (.getfield 7, 3) := by decide +kernel
theorem dX0_become_5 : decode cX0_become 5 = .ok (.putfield 7, 3) := by decide +kernel
theorem dX0_become_8 : decode cX0_become 8 = .ok (.aload_n 0, 1) := by decide +kernel
theorem dX0_become_9 : decode cX0_become 9 = .ok (.aload_n 1, 1) := by decide +kernel
theorem dX0_become_10 : decode cX0_become 10 = .ok (.getfield 13, 3) := by decide +kernel
theorem dX0_become_13 : decode cX0_become 13 = .ok (.putfield 13, 3) := by decide +kernel
theorem dX0_become_16 : decode cX0_become 16 = .ok (.aload_n 0, 1) := by decide +kernel
theorem dX0_become_17 : decode cX0_become 17 = .ok (.aload_n 1, 1) := by decide +kernel
theorem dX0_become_18 : decode cX0_become 18 = .ok (.getfield 16, 3) := by decide +kernel
theorem dX0_become_21 : decode cX0_become 21 = .ok (.putfield 16, 3) := by decide +kernel
theorem dX0_become_24 : decode cX0_become 24 = .ok (.aload_n 0, 1) := by decide +kernel
theorem dX0_become_25 : decode cX0_become 25 = .ok (.aload_n 1, 1) := by decide +kernel
theorem dX0_become_26 : decode cX0_become 26 = .ok (.getfield 19, 3) := by decide +kernel
theorem dX0_become_29 : decode cX0_become 29 = .ok (.putfield 19, 3) := by decide +kernel
theorem dX0_become_32 : decode cX0_become 32 = .ok (.aload_n 0, 1) := by decide +kernel
theorem dX0_become_33 : decode cX0_become 33 = .ok (.aload_n 1, 1) := by decide +kernel
theorem dX0_become_34 : decode cX0_become 34 = .ok (.getfield 22, 3) := by decide +kernel
theorem dX0_become_37 : decode cX0_become 37 = .ok (.putfield 22, 3) := by decide +kernel
theorem dX0_become_40 : decode cX0_become 40 = .ok (.aload_n 0, 1) := by decide +kernel
theorem dX0_become_41 : decode cX0_become 41 = .ok (.aload_n 1, 1) := by decide +kernel
theorem dX0_become_42 : decode cX0_become 42 = .ok (.getfield 25, 3) := by decide +kernel
theorem dX0_become_45 : decode cX0_become 45 = .ok (.putfield 25, 3) := by decide +kernel
theorem dX0_become_48 : decode cX0_become 48 = .ok (.iconst 0, 1) := by decide +kernel
theorem dX0_become_49 : decode cX0_become 49 = .ok (.istore_n 2, 1) := by decide +kernel
theorem dX0_become_50 : decode cX0_become 50 = .ok (.iload_n 2, 1) := by decide +kernel
theorem dX0_become_51 : decode cX0_become 51 = .ok (.bipush 8, 2) := by decide +kernel
theorem dX0_become_53 : decode cX0_become 53 = .ok (.if_icmp .ge 69, 3) := by decide +kernel
theorem dX0_become_56 : decode cX0_become 56 = .ok (.aload_n 0, 1) := by decide +kernel
theorem dX0_become_57 : decode cX0_become 57 = .ok (.getfield 28, 3) := by decide +kernel
theorem dX0_become_60 : decode cX0_become 60 = .ok (.iload_n 2, 1) := by decide +kernel
theorem dX0_become_61 : decode cX0_become 61 = .ok (.aload_n 1, 1) := by decide +kernel
theorem dX0_become_62 : decode cX0_become 62 = .ok (.getfield 28, 3) := by decide +kernel
theorem dX0_become_65 : decode cX0_become 65 = .ok (.iload_n 2, 1) := by decide +kernel
theorem dX0_become_66 : decode cX0_become 66 = .ok (.iaload, 1) := by decide +kernel
theorem dX0_become_67 : decode cX0_become 67 = .ok (.iastore, 1) := by decide +kernel
theorem dX0_become_68 : decode cX0_become 68 = .ok (.aload_n 0, 1) := by decide +kernel
theorem dX0_become_69 : decode cX0_become 69 = .ok (.getfield 32, 3) := by decide +kernel
theorem dX0_become_72 : decode cX0_become 72 = .ok (.iload_n 2, 1) := by decide +kernel
theorem dX0_become_73 : decode cX0_become 73 = .ok (.aload_n 1, 1) := by decide +kernel
theorem dX0_become_74 : decode cX0_become 74 = .ok (.getfield 32, 3) := by decide +kernel
theorem dX0_become_77 : decode cX0_become 77 = .ok (.iload_n 2, 1) := by decide +kernel
theorem dX0_become_78 : decode cX0_become 78 = .ok (.iaload, 1) := by decide +kernel
theorem dX0_become_79 : decode cX0_become 79 = .ok (.iastore, 1) := by decide +kernel
theorem dX0_become_80 : decode cX0_become 80 = .ok (.aload_n 0, 1) := by decide +kernel
theorem dX0_become_81 : decode cX0_become 81 = .ok (.getfield 35, 3) := by decide +kernel
theorem dX0_become_84 : decode cX0_become 84 = .ok (.iload_n 2, 1) := by decide +kernel
theorem dX0_become_85 : decode cX0_become 85 = .ok (.aload_n 1, 1) := by decide +kernel
theorem dX0_become_86 : decode cX0_become 86 = .ok (.getfield 35, 3) := by decide +kernel
theorem dX0_become_89 : decode cX0_become 89 = .ok (.iload_n 2, 1) := by decide +kernel
theorem dX0_become_90 : decode cX0_become 90 = .ok (.iaload, 1) := by decide +kernel
theorem dX0_become_91 : decode cX0_become 91 = .ok (.iastore, 1) := by decide +kernel
theorem dX0_become_92 : decode cX0_become 92 = .ok (.aload_n 0, 1) := by decide +kernel
theorem dX0_become_93 : decode cX0_become 93 = .ok (.getfield 38, 3) := by decide +kernel
theorem dX0_become_96 : decode cX0_become 96 = .ok (.iload_n 2, 1) := by decide +kernel
theorem dX0_become_97 : decode cX0_become 97 = .ok (.aload_n 1, 1) := by decide +kernel
theorem dX0_become_98 : decode cX0_become 98 = .ok (.getfield 38, 3) := by decide +kernel
theorem dX0_become_101 : decode cX0_become 101 = .ok (.iload_n 2, 1) := by decide +kernel
theorem dX0_become_102 : decode cX0_become 102 = .ok (.iaload, 1) := by decide +kernel
theorem dX0_become_103 : decode cX0_become 103 = .ok (.iastore, 1) := by decide +kernel
theorem dX0_become_104 : decode cX0_become 104 = .ok (.aload_n 0, 1) := by decide +kernel
theorem dX0_become_105 : decode cX0_become 105 = .ok (.getfield 41, 3) := by decide +kernel
theorem dX0_become_108 : decode cX0_become 108 = .ok (.iload_n 2, 1) := by decide +kernel
theorem dX0_become_109 : decode cX0_become 109 = .ok (.aload_n 1, 1) := by decide +kernel
theorem dX0_become_110 : decode cX0_become 110 = .ok (.getfield 41, 3) := by decide +kernel
theorem dX0_become_113 : decode cX0_become 113 = .ok (.iload_n 2, 1) := by decide +kernel
theorem dX0_become_114 : decode cX0_become 114 = .ok (.iaload, 1) := by decide +kernel
theorem dX0_become_115 : decode cX0_become 115 = .ok (.iastore, 1) := by decide +kernel
theorem dX0_become_116 : decode cX0_become 116 = .ok (.iinc 2 1, 3) := by decide +kernel
theorem dX0_become_119 : decode cX0_become 119 = .ok (.goto (-69), 3) := by decide +kernel
theorem dX0_become_122 : decode cX0_become 122 = .ok (.return_, 1) := by decide +kernel
theorem dX0_hasOne_0 : decode cX0_hasOne 0 = .ok (.iload_n 1, 1) := by decide +kernel
theorem dX0_hasOne_1 : decode cX0_hasOne 1 = .ok (.ifCond .lt 15, 3) := by decide +kernel
theorem dX0_hasOne_4 : decode cX0_hasOne 4 = .ok (.iload_n 1, 1) := by decide +kernel
theorem dX0_hasOne_5 : decode cX0_hasOne 5 = .ok (.aload_n 0, 1) := by decide +kernel
theorem dX0_hasOne_6 : decode cX0_hasOne 6 = .ok (.getfield 25, 3) := by decide +kernel
theorem dX0_hasOne_9 : decode cX0_hasOne 9 = .ok (.if_icmp .ge 7, 3) := by decide +kernel
theorem dX0_hasOne_12 : decode cX0_hasOne 12 = .ok (.iconst 1, 1) := by decide +kernel
theorem dX0_hasOne_13 : decode cX0_hasOne 13 = .ok (.goto 4, 3) := by decide +kernel
theorem dX0_hasOne_16 : decode cX0_hasOne 16 = .ok (.iconst 0, 1) := by decide +kernel
theorem dX0_hasOne_17 : decode cX0_hasOne 17 = .ok (.ireturn, 1) := by decide +kernel
theorem dX0_isFull_0 : decode cX0_isFull 0 = .ok (.aload_n 0, 1) := by decide +kernel
theorem dX0_isFull_1 : decode cX0_isFull 1 = .ok (.getfield 25, 3) := by decide +kernel
theorem dX0_isFull_4 : decode cX0_isFull 4 = .ok (.bipush 8, 2) := by decide +kernel
theorem dX0_isFull_6 : decode cX0_isFull 6 = .ok (.if_icmp .lt 7, 3) := by decide +kernel
theorem dX0_isFull_9 : decode cX0_isFull 9 = .ok (.iconst 1, 1) := by decide +kernel
theorem dX0_isFull_10 : decode cX0_isFull 10 = .ok (.goto 4, 3) := by decide +kernel
theorem dX0_isFull_13 : decode cX0_isFull 13 = .ok (.iconst 0, 1) := by decide +kernel
theorem dX0_isFull_14 : decode cX0_isFull 14 = .ok (.ireturn, 1) := by decide +kernel
set_option maxRecDepth 20000 in
theorem ggX0_addOne_X0_isFull : GoodIn wsX0_addOne wsX0_isFull := goodIn_sub (List.forall_mem_cons.mpr ⟨List.mem_of_getElem? (i := 11) rfl, (List.forall_mem_append.mpr ⟨(List.forall_mem_cons.mpr ⟨List.mem_of_getElem? (i := 1) rfl, fun _ h => absurd h List.not_mem_nil⟩), (fun _ h => List.mem_cons_of_mem _ (List.mem_append_right _ h))⟩)⟩) (by decide +kernel)
set_option maxRecDepth 20000 in
theorem gX0_addOne_X0_isFull : GoodIn wsX0_addOne (wsV RX0 44 RX0 yX0_isFull wsX0_isFull) := goodIn_app (goodIn_sub (List.forall_mem_cons.mpr ⟨List.mem_of_getElem? (i := 7) rfl, List.forall_mem_cons.mpr ⟨List.mem_of_getElem? (i := 8) rfl, List.forall_mem_cons.mpr ⟨List.mem_of_getElem? (i := 9) rfl, List.forall_mem_cons.mpr ⟨List.mem_of_getElem? (i := 10) rfl, fun _ h => absurd h List.not_mem_nil⟩⟩⟩⟩) (by decide +kernel)) ggX0_addOne_X0_isFull
theorem dX0_addOne_0 : decode cX0_addOne 0 = .ok (.aload_n 0, 1) := by decide +kernel
theorem dX0_addOne_1 : decode cX0_addOne 1 = .ok (.invokevirtual 44, 3) := by decide +kernel
theorem dX0_addOne_4 : decode cX0_addOne 4 = .ok (.ifCond .eq 5, 3) := by decide +kernel
theorem dX0_addOne_7 : decode cX0_addOne 7 = .ok (.iconst (-1), 1) := by decide +kernel
theorem dX0_addOne_8 : decode cX0_addOne 8 = .ok (.ireturn, 1) := by decide +kernel
theorem dX0_addOne_9 : decode cX0_addOne 9 = .ok (.aload_n 0, 1) := by decide +kernel
theorem dX0_addOne_10 : decode cX0_addOne 10 = .ok (.getfield 25, 3) := by decide +kernel
theorem dX0_addOne_13 : decode cX0_addOne 13 = .ok (.istore_n 2, 1) := by decide +kernel
theorem dX0_addOne_14 : decode cX0_addOne 14 = .ok (.aload_n 0, 1) := by decide +kernel
theorem dX0_addOne_15 : decode cX0_addOne 15 = .ok (.getfield 28, 3) := by decide +kernel
theorem dX0_addOne_18 : decode cX0_addOne 18 = .ok (.iload_n 2, 1) := by decide +kernel
theorem dX0_addOne_19 : decode cX0_addOne 19 = .ok (.iload_n 1, 1) := by decide +kernel
theorem dX0_addOne_20 : decode cX0_addOne 20 = .ok (.iastore, 1) := by decide +kernel
theorem dX0_addOne_21 : decode cX0_addOne 21 = .ok (.aload_n 0, 1) := by decide +kernel
theorem dX0_addOne_22 : decode cX0_addOne 22 = .ok (.getfield 32, 3) := by decide +kernel
theorem dX0_addOne_25 : decode cX0_addOne 25 = .ok (.iload_n 2, 1) := by decide +kernel
theorem dX0_addOne_26 : decode cX0_addOne 26 = .ok (.iconst 3, 1) := by decide +kernel
theorem dX0_addOne_27 : decode cX0_addOne 27 = .ok (.iastore, 1) := by decide +kernel
theorem dX0_addOne_28 : decode cX0_addOne 28 = .ok (.aload_n 0, 1) := by decide +kernel
theorem dX0_addOne_29 : decode cX0_addOne 29 = .ok (.getfield 35, 3) := by decide +kernel
theorem dX0_addOne_32 : decode cX0_addOne 32 = .ok (.iload_n 2, 1) := by decide +kernel
theorem dX0_addOne_33 : decode cX0_addOne 33 = .ok (.iconst 5, 1) := by decide +kernel
theorem dX0_addOne_34 : decode cX0_addOne 34 = .ok (.iastore, 1) := by decide +kernel
theorem dX0_addOne_35 : decode cX0_addOne 35 = .ok (.aload_n 0, 1) := by decide +kernel
theorem dX0_addOne_36 : decode cX0_addOne 36 = .ok (.getfield 38, 3) := by decide +kernel
theorem dX0_addOne_39 : decode cX0_addOne 39 = .ok (.iload_n 2, 1) := by decide +kernel
theorem dX0_addOne_40 : decode cX0_addOne 40 = .ok (.iconst 0, 1) := by decide +kernel
theorem dX0_addOne_41 : decode cX0_addOne 41 = .ok (.iastore, 1) := by decide +kernel
theorem dX0_addOne_42 : decode cX0_addOne 42 = .ok (.aload_n 0, 1) := by decide +kernel
theorem dX0_addOne_43 : decode cX0_addOne 43 = .ok (.getfield 41, 3) := by decide +kernel
theorem dX0_addOne_46 : decode cX0_addOne 46 = .ok (.iload_n 2, 1) := by decide +kernel
theorem dX0_addOne_47 : decode cX0_addOne 47 = .ok (.iconst 0, 1) := by decide +kernel
theorem dX0_addOne_48 : decode cX0_addOne 48 = .ok (.iastore, 1) := by decide +kernel
theorem dX0_addOne_49 : decode cX0_addOne 49 = .ok (.aload_n 0, 1) := by decide +kernel
theorem dX0_addOne_50 : decode cX0_addOne 50 = .ok (.dup, 1) := by decide +kernel
theorem dX0_addOne_51 : decode cX0_addOne 51 = .ok (.getfield 25, 3) := by decide +kernel
theorem dX0_addOne_54 : decode cX0_addOne 54 = .ok (.iconst 1, 1) := by decide +kernel
theorem dX0_addOne_55 : decode cX0_addOne 55 = .ok (.iadd, 1) := by decide +kernel
theorem dX0_addOne_56 : decode cX0_addOne 56 = .ok (.putfield 25, 3) := by decide +kernel
theorem dX0_addOne_59 : decode cX0_addOne 59 = .ok (.iload_n 2, 1) := by decide +kernel
theorem dX0_addOne_60 : decode cX0_addOne 60 = .ok (.ireturn, 1) := by decide +kernel
set_option maxRecDepth 20000 in
theorem ggX0_changeNumbers_X0_hasOne : GoodIn wsX0_changeNumbers wsX0_hasOne := goodIn_sub (List.forall_mem_cons.mpr ⟨List.mem_of_getElem? (i := 10) rfl, (List.forall_mem_append.mpr ⟨(List.forall_mem_cons.mpr ⟨List.mem_of_getElem? (i := 11) rfl, fun _ h => absurd h List.not_mem_nil⟩), (fun _ h => List.mem_cons_of_mem _ (List.mem_append_right _ h))⟩)⟩) (by decide +kernel)
set_option maxRecDepth 20000 in
theorem gX0_changeNumbers_X0_hasOne : GoodIn wsX0_changeNumbers (wsV RX0 48 RX0 yX0_hasOne wsX0_hasOne) := goodIn_app (goodIn_sub (List.forall_mem_cons.mpr ⟨List.mem_of_getElem? (i := 6) rfl, List.forall_mem_cons.mpr ⟨List.mem_of_getElem? (i := 7) rfl, List.forall_mem_cons.mpr ⟨List.mem_of_getElem? (i := 8) rfl, List.forall_mem_cons.mpr ⟨List.mem_of_getElem? (i := 9) rfl, fun _ h => absurd h List.not_mem_nil⟩⟩⟩⟩) (by decide +kernel)) ggX0_changeNumbers_X0_hasOne
set_option maxRecDepth 20000 in
theorem ggX0_changeNumbers_X0_exchange : GoodIn wsX0_changeNumbers wsX0_exchange := goodIn_sub (List.forall_mem_cons.mpr ⟨List.mem_of_getElem? (i := 14) rfl, (fun _ h => absurd h List.not_mem_nil)⟩) (by decide +kernel)
set_option maxRecDepth 20000 in
theorem gX0_changeNumbers_X0_exchange : GoodIn wsX0_changeNumbers (va_wsS RX0 52 yX0_exchange wsX0_exchange) := goodIn_app (goodIn_sub (List.forall_mem_cons.mpr ⟨List.mem_of_getElem? (i := 12) rfl, List.forall_mem_cons.mpr ⟨List.mem_of_getElem? (i := 13) rfl, List.forall_mem_cons.mpr ⟨List.mem_of_getElem? (i := 9) rfl, fun _ h => absurd h List.not_mem_nil⟩⟩⟩) (by decide +kernel)) ggX0_changeNumbers_X0_exchange
theorem dX0_changeNumbers_0 : decode cX0_changeNumbers 0 = .ok (.aload_n 0, 1) := by decide +kernel
theorem dX0_changeNumbers_1 : decode cX0_changeNumbers 1 = .ok (.iload_n 1, 1) := by decide +kernel
theorem dX0_changeNumbers_2 : decode cX0_changeNumbers 2 = .ok (.invokevirtual 48, 3) := by decide +kernel
theorem dX0_changeNumbers_5 : decode cX0_changeNumbers 5 = .ok (.ifCond .eq 11, 3) := by decide +kernel
theorem dX0_changeNumbers_8 : decode cX0_changeNumbers 8 = .ok (.aload_n 0, 1) := by decide +kernel
theorem dX0_changeNumbers_9 : decode cX0_changeNumbers 9 = .ok (.iload_n 2, 1) := by decide +kernel
theorem dX0_changeNumbers_10 : decode cX0_changeNumbers 10 = .ok (.invokevirtual 48, 3) := by decide +kernel
theorem dX0_changeNumbers_13 : decode cX0_changeNumbers 13 = .ok (.ifCond .ne 4, 3) := by decide +kernel
theorem dX0_changeNumbers_16 : decode cX0_changeNumbers 16 = .ok (.return_, 1) := by decide +kernel
theorem dX0_changeNumbers_17 : decode cX0_changeNumbers 17 = .ok (.aload_n 0, 1) := by decide +kernel
theorem dX0_changeNumbers_18 : decode cX0_changeNumbers 18 = .ok (.getfield 28, 3) := by decide +kernel
theorem dX0_changeNumbers_21 : decode cX0_changeNumbers 21 = .ok (.iload_n 1, 1) := by decide +kernel
theorem dX0_changeNumbers_22 : decode cX0_changeNumbers 22 = .ok (.iload_n 2, 1) := by decide +kernel
theorem dX0_changeNumbers_23 : decode cX0_changeNumbers 23 = .ok (.invokestatic 52, 3) := by decide +kernel
theorem dX0_changeNumbers_26 : decode cX0_changeNumbers 26 = .ok (.aload_n 0, 1) := by decide +kernel
theorem dX0_changeNumbers_27 : decode cX0_changeNumbers 27 = .ok (.getfield 32, 3) := by decide +kernel
theorem dX0_changeNumbers_30 : decode cX0_changeNumbers 30 = .ok (.iload_n 1, 1) := by decide +kernel
theorem dX0_changeNumbers_31 : decode cX0_changeNumbers 31 = .ok (.iload_n 2, 1) := by decide +kernel
theorem dX0_changeNumbers_32 : decode cX0_changeNumbers 32 = .ok (.invokestatic 52, 3) := by decide +kernel
theorem dX0_changeNumbers_35 : decode cX0_changeNumbers 35 = .ok (.aload_n 0, 1) := by decide +kernel
theorem dX0_changeNumbers_36 : decode cX0_changeNumbers 36 = .ok (.getfield 35, 3) := by decide +kernel
theorem dX0_changeNumbers_39 : decode cX0_changeNumbers 39 = .ok (.iload_n 1, 1) := by decide +kernel
theorem dX0_changeNumbers_40 : decode cX0_changeNumbers 40 = .ok (.iload_n 2, 1) := by decide +kernel
theorem dX0_changeNumbers_41 : decode cX0_changeNumbers 41 = .ok (.invokestatic 52, 3) := by decide +kernel
theorem dX0_changeNumbers_44 : decode cX0_changeNumbers 44 = .ok (.aload_n 0, 1) := by decide +kernel
theorem dX0_changeNumbers_45 : decode cX0_changeNumbers 45 = .ok (.getfield 38, 3) := by decide +kernel
theorem dX0_changeNumbers_48 : decode cX0_changeNumbers 48 = .ok (.iload_n 1, 1) := by decide +kernel
theorem dX0_changeNumbers_49 : decode cX0_changeNumbers 49 = .ok (.iload_n 2, 1) := by decide +kernel
theorem dX0_changeNumbers_50 : decode cX0_changeNumbers 50 = .ok (.invokestatic 52, 3) := by decide +kernel
theorem dX0_changeNumbers_53 : decode cX0_changeNumbers 53 = .ok (.aload_n 0, 1) := by decide +kernel
theorem dX0_changeNumbers_54 : decode cX0_changeNumbers 54 = .ok (.getfield 41, 3) := by decide +kernel
theorem dX0_changeNumbers_57 : decode cX0_changeNumbers 57 = .ok (.iload_n 1, 1) := by decide +kernel
theorem dX0_changeNumbers_58 : decode cX0_changeNumbers 58 = .ok (.iload_n 2, 1) := by decide +kernel
theorem dX0_changeNumbers_59 : decode cX0_changeNumbers 59 = .ok (.invokestatic 52, 3) := by decide +kernel
theorem dX0_changeNumbers_62 : decode cX0_changeNumbers 62 = .ok (.return_, 1) := by decide +kernel
theorem dX0_exchange_0 : decode cX0_exchange 0 = .ok (.aload_n 0, 1) := by decide +kernel
theorem dX0_exchange_1 : decode cX0_exchange 1 = .ok (.iload_n 1, 1) := by decide +kernel
theorem dX0_exchange_2 : decode cX0_exchange 2 = .ok (.iaload, 1) := by decide +kernel
theorem dX0_exchange_3 : decode cX0_exchange 3 = .ok (.istore_n 3, 1) := by decide +kernel
theorem dX0_exchange_4 : decode cX0_exchange 4 = .ok (.aload_n 0, 1) := by decide +kernel
theorem dX0_exchange_5 : decode cX0_exchange 5 = .ok (.iload_n 1, 1) := by decide +kernel
theorem dX0_exchange_6 : decode cX0_exchange 6 = .ok (.aload_n 0, 1) := by decide +kernel
theorem dX0_exchange_7 : decode cX0_exchange 7 = .ok (.iload_n 2, 1) := by decide +kernel
theorem dX0_exchange_8 : decode cX0_exchange 8 = .ok (.iaload, 1) := by decide +kernel
theorem dX0_exchange_9 : decode cX0_exchange 9 = .ok (.iastore, 1) := by decide +kernel
theorem dX0_exchange_10 : decode cX0_exchange 10 = .ok (.aload_n 0, 1) := by decide +kernel
theorem dX0_exchange_11 : decode cX0_exchange 11 = .ok (.iload_n 2, 1) := by decide +kernel
theorem dX0_exchange_12 : decode cX0_exchange 12 = .ok (.iload_n 3, 1) := by decide +kernel
theorem dX0_exchange_13 : decode cX0_exchange 13 = .ok (.iastore, 1) := by decide +kernel
theorem dX0_exchange_14 : decode cX0_exchange 14 = .ok (.return_, 1) := by decide +kernel
theorem dX0_watchAll_0 : decode cX0_watchAll 0 = .ok (.iconst 0, 1) := by decide +kernel
theorem dX0_watchAll_1 : decode cX0_watchAll 1 = .ok (.istore_n 2, 1) := by decide +kernel
theorem dX0_watchAll_2 : decode cX0_watchAll 2 = .ok (.iload_n 2, 1) := by decide +kernel
theorem dX0_watchAll_3 : decode cX0_watchAll 3 = .ok (.aload_n 0, 1) := by decide +kernel
theorem dX0_watchAll_4 : decode cX0_watchAll 4 = .ok (.getfield 25, 3) := by decide +kernel
theorem dX0_watchAll_7 : decode cX0_watchAll 7 = .ok (.if_icmp .ge 25, 3) := by decide +kernel
theorem dX0_watchAll_10 : decode cX0_watchAll 10 = .ok (.iload_n 1, 1) := by decide +kernel
theorem dX0_watchAll_11 : decode cX0_watchAll 11 = .ok (.iload_n 2, 1) := by decide +kernel
theorem dX0_watchAll_12 : decode cX0_watchAll 12 = .ok (.ishr, 1) := by decide +kernel
theorem dX0_watchAll_13 : decode cX0_watchAll 13 = .ok (.iconst 1, 1) := by decide +kernel
theorem dX0_watchAll_14 : decode cX0_watchAll 14 = .ok (.iand, 1) := by decide +kernel
theorem dX0_watchAll_15 : decode cX0_watchAll 15 = .ok (.ifCond .eq 11, 3) := by decide +kernel
theorem dX0_watchAll_18 : decode cX0_watchAll 18 = .ok (.aload_n 0, 1) := by decide +kernel
theorem dX0_watchAll_19 : decode cX0_watchAll 19 = .ok (.getfield 38, 3) := by decide +kernel
theorem dX0_watchAll_22 : decode cX0_watchAll 22 = .ok (.iload_n 2, 1) := by decide +kernel
theorem dX0_watchAll_23 : decode cX0_watchAll 23 = .ok (.bipush 99, 2) := by decide +kernel
theorem dX0_watchAll_25 : decode cX0_watchAll 25 = .ok (.iastore, 1) := by decide +kernel
theorem dX0_watchAll_26 : decode cX0_watchAll 26 = .ok (.iinc 2 1, 3) := by decide +kernel
theorem dX0_watchAll_29 : decode cX0_watchAll 29 = .ok (.goto (-27), 3) := by decide +kernel
theorem dX0_watchAll_32 : decode cX0_watchAll 32 = .ok (.return_, 1) := by decide +kernel
theorem dX0_watchedSet_0 : decode cX0_watchedSet 0 = .ok (.iconst 0, 1) := by decide +kernel
theorem dX0_watchedSet_1 : decode cX0_watchedSet 1 = .ok (.istore_n 1, 1) := by decide +kernel
theorem dX0_watchedSet_2 : decode cX0_watchedSet 2 = .ok (.iconst 0, 1) := by decide +kernel
theorem dX0_watchedSet_3 : decode cX0_watchedSet 3 = .ok (.istore_n 2, 1) := by decide +kernel
theorem dX0_watchedSet_4 : decode cX0_watchedSet 4 = .ok (.iload_n 2, 1) := by decide +kernel
theorem dX0_watchedSet_5 : decode cX0_watchedSet 5 = .ok (.aload_n 0, 1) := by decide +kernel
theorem dX0_watchedSet_6 : decode cX0_watchedSet 6 = .ok (.getfield 25, 3) := by decide +kernel
theorem dX0_watchedSet_9 : decode cX0_watchedSet 9 = .ok (.if_icmp .ge 24, 3) := by decide +kernel
theorem dX0_watchedSet_12 : decode cX0_watchedSet 12 = .ok (.aload_n 0, 1) := by decide +kernel
theorem dX0_watchedSet_13 : decode cX0_watchedSet 13 = .ok (.getfield 38, 3) := by decide +kernel
theorem dX0_watchedSet_16 : decode cX0_watchedSet 16 = .ok (.iload_n 2, 1) := by decide +kernel
theorem dX0_watchedSet_17 : decode cX0_watchedSet 17 = .ok (.iaload, 1) := by decide +kernel
theorem dX0_watchedSet_18 : decode cX0_watchedSet 18 = .ok (.ifCond .le 9, 3) := by decide +kernel
theorem dX0_watchedSet_21 : decode cX0_watchedSet 21 = .ok (.iload_n 1, 1) := by decide +kernel
theorem dX0_watchedSet_22 : decode cX0_watchedSet 22 = .ok (.iconst 1, 1) := by decide +kernel
theorem dX0_watchedSet_23 : decode cX0_watchedSet 23 = .ok (.iload_n 2, 1) := by decide +kernel
theorem dX0_watchedSet_24 : decode cX0_watchedSet 24 = .ok (.ishl, 1) := by decide +kernel
theorem dX0_watchedSet_25 : decode cX0_watchedSet 25 = .ok (.ior, 1) := by decide +kernel
theorem dX0_watchedSet_26 : decode cX0_watchedSet 26 = .ok (.istore_n 1, 1) := by decide +kernel
theorem dX0_watchedSet_27 : decode cX0_watchedSet 27 = .ok (.iinc 2 1, 3) := by decide +kernel
theorem dX0_watchedSet_30 : decode cX0_watchedSet 30 = .ok (.goto (-26), 3) := by decide +kernel
theorem dX0_watchedSet_33 : decode cX0_watchedSet 33 = .ok (.iload_n 1, 1) := by decide +kernel
theorem dX0_watchedSet_34 : decode cX0_watchedSet 34 = .ok (.ireturn, 1) := by decide +kernel
theorem dX0_brokeTogether_0 : decode cX0_brokeTogether 0 = .ok (.iconst 0, 1) := by decide +kernel
theorem dX0_brokeTogether_1 : decode cX0_brokeTogether 1 = .ok (.istore_n 1, 1) := by decide +kernel
theorem dX0_brokeTogether_2 : decode cX0_brokeTogether 2 = .ok (.iconst 0, 1) := by decide +kernel
theorem dX0_brokeTogether_3 : decode cX0_brokeTogether 3 = .ok (.istore_n 2, 1) := by decide +kernel
theorem dX0_brokeTogether_4 : decode cX0_brokeTogether 4 = .ok (.iload_n 2, 1) := by decide +kernel
theorem dX0_brokeTogether_5 : decode cX0_brokeTogether 5 = .ok (.aload_n 0, 1) := by decide +kernel
theorem dX0_brokeTogether_6 : decode cX0_brokeTogether 6 = .ok (.getfield 25, 3) := by decide +kernel
theorem dX0_brokeTogether_9 : decode cX0_brokeTogether 9 = .ok (.if_icmp .ge 18, 3) := by decide +kernel
theorem dX0_brokeTogether_12 : decode cX0_brokeTogether 12 = .ok (.iload_n 1, 1) := by decide +kernel
theorem dX0_brokeTogether_13 : decode cX0_brokeTogether 13 = .ok (.aload_n 0, 1) := by decide +kernel
theorem dX0_brokeTogether_14 : decode cX0_brokeTogether 14 = .ok (.getfield 41, 3) := by decide +kernel
theorem dX0_brokeTogether_17 : decode cX0_brokeTogether 17 = .ok (.iload_n 2, 1) := by decide +kernel
theorem dX0_brokeTogether_18 : decode cX0_brokeTogether 18 = .ok (.iaload, 1) := by decide +kernel
theorem dX0_brokeTogether_19 : decode cX0_brokeTogether 19 = .ok (.iadd, 1) := by decide +kernel
theorem dX0_brokeTogether_20 : decode cX0_brokeTogether 20 = .ok (.istore_n 1, 1) := by decide +kernel
theorem dX0_brokeTogether_21 : decode cX0_brokeTogether 21 = .ok (.iinc 2 1, 3) := by decide +kernel
theorem dX0_brokeTogether_24 : decode cX0_brokeTogether 24 = .ok (.goto (-20), 3) := by decide +kernel
theorem dX0_brokeTogether_27 : decode cX0_brokeTogether 27 = .ok (.iload_n 1, 1) := by decide +kernel
theorem dX0_brokeTogether_28 : decode cX0_brokeTogether 28 = .ok (.ireturn, 1) := by decide +kernel
theorem dX0_reasonsTogether_0 : decode cX0_reasonsTogether 0 = .ok (.iconst 0, 1) := by decide +kernel
theorem dX0_reasonsTogether_1 : decode cX0_reasonsTogether 1 = .ok (.istore_n 1, 1) := by decide +kernel
theorem dX0_reasonsTogether_2 : decode cX0_reasonsTogether 2 = .ok (.iconst 0, 1) := by decide +kernel
theorem dX0_reasonsTogether_3 : decode cX0_reasonsTogether 3 = .ok (.istore_n 2, 1) := by decide +kernel
theorem dX0_reasonsTogether_4 : decode cX0_reasonsTogether 4 = .ok (.iload_n 2, 1) := by decide +kernel
theorem dX0_reasonsTogether_5 : decode cX0_reasonsTogether 5 = .ok (.aload_n 0, 1) := by decide +kernel
theorem dX0_reasonsTogether_6 : decode cX0_reasonsTogether 6 = .ok (.getfield 25, 3) := by decide +kernel
theorem dX0_reasonsTogether_9 : decode cX0_reasonsTogether 9 = .ok (.if_icmp .ge 18, 3) := by decide +kernel
theorem dX0_reasonsTogether_12 : decode cX0_reasonsTogether 12 = .ok (.iload_n 1, 1) := by decide +kernel
theorem dX0_reasonsTogether_13 : decode cX0_reasonsTogether 13 = .ok (.aload_n 0, 1) := by decide +kernel
theorem dX0_reasonsTogether_14 : decode cX0_reasonsTogether 14 = .ok (.getfield 35, 3) := by decide +kernel
theorem dX0_reasonsTogether_17 : decode cX0_reasonsTogether 17 = .ok (.iload_n 2, 1) := by decide +kernel
theorem dX0_reasonsTogether_18 : decode cX0_reasonsTogether 18 = .ok (.iaload, 1) := by decide +kernel
theorem dX0_reasonsTogether_19 : decode cX0_reasonsTogether 19 = .ok (.iadd, 1) := by decide +kernel
theorem dX0_reasonsTogether_20 : decode cX0_reasonsTogether 20 = .ok (.istore_n 1, 1) := by decide +kernel
theorem dX0_reasonsTogether_21 : decode cX0_reasonsTogether 21 = .ok (.iinc 2 1, 3) := by decide +kernel
theorem dX0_reasonsTogether_24 : decode cX0_reasonsTogether 24 = .ok (.goto (-20), 3) := by decide +kernel
theorem dX0_reasonsTogether_27 : decode cX0_reasonsTogether 27 = .ok (.iload_n 1, 1) := by decide +kernel
theorem dX0_reasonsTogether_28 : decode cX0_reasonsTogether 28 = .ok (.ireturn, 1) := by decide +kernel
set_option maxRecDepth 20000 in
theorem ggX0_wantsOf_X0_hasOne : GoodIn wsX0_wantsOf wsX0_hasOne := goodIn_sub (List.forall_mem_cons.mpr ⟨List.mem_of_getElem? (i := 9) rfl, (List.forall_mem_append.mpr ⟨(List.forall_mem_cons.mpr ⟨List.mem_of_getElem? (i := 10) rfl, fun _ h => absurd h List.not_mem_nil⟩), (fun _ h => List.mem_cons_of_mem _ (List.mem_append_right _ h))⟩)⟩) (by decide +kernel)
set_option maxRecDepth 20000 in
theorem gX0_wantsOf_X0_hasOne : GoodIn wsX0_wantsOf (wsV RX0 48 RX0 yX0_hasOne wsX0_hasOne) := goodIn_app (goodIn_sub (List.forall_mem_cons.mpr ⟨List.mem_of_getElem? (i := 5) rfl, List.forall_mem_cons.mpr ⟨List.mem_of_getElem? (i := 6) rfl, List.forall_mem_cons.mpr ⟨List.mem_of_getElem? (i := 7) rfl, List.forall_mem_cons.mpr ⟨List.mem_of_getElem? (i := 8) rfl, fun _ h => absurd h List.not_mem_nil⟩⟩⟩⟩) (by decide +kernel)) ggX0_wantsOf_X0_hasOne
set_option maxRecDepth 20000 in
theorem ggX0_wantsOf_X2_wants : GoodIn wsX0_wantsOf wsX2_wants := goodIn_sub (List.forall_mem_cons.mpr ⟨List.mem_of_getElem? (i := 14) rfl, (List.forall_mem_cons.mpr ⟨List.mem_of_getElem? (i := 15) rfl, List.forall_mem_cons.mpr ⟨List.mem_of_getElem? (i := 16) rfl, List.forall_mem_cons.mpr ⟨List.mem_of_getElem? (i := 13) rfl, List.forall_mem_cons.mpr ⟨List.mem_of_getElem? (i := 17) rfl, List.forall_mem_cons.mpr ⟨List.mem_of_getElem? (i := 18) rfl, List.forall_mem_cons.mpr ⟨List.mem_of_getElem? (i := 19) rfl, List.forall_mem_cons.mpr ⟨List.mem_of_getElem? (i := 20) rfl, fun _ h => absurd h List.not_mem_nil⟩⟩⟩⟩⟩⟩⟩)⟩) (by decide +kernel)
set_option maxRecDepth 20000 in
theorem gX0_wantsOf_X2_wants : GoodIn wsX0_wantsOf (va_wsS RX0 56 yX2_wants wsX2_wants) := goodIn_app (goodIn_sub (List.forall_mem_cons.mpr ⟨List.mem_of_getElem? (i := 11) rfl, List.forall_mem_cons.mpr ⟨List.mem_of_getElem? (i := 12) rfl, List.forall_mem_cons.mpr ⟨List.mem_of_getElem? (i := 13) rfl, fun _ h => absurd h List.not_mem_nil⟩⟩⟩) (by decide +kernel)) ggX0_wantsOf_X2_wants
theorem dX0_wantsOf_0 : decode cX0_wantsOf 0 = .ok (.aload_n 0, 1) := by decide +kernel
theorem dX0_wantsOf_1 : decode cX0_wantsOf 1 = .ok (.iload_n 1, 1) := by decide +kernel
theorem dX0_wantsOf_2 : decode cX0_wantsOf 2 = .ok (.invokevirtual 48, 3) := by decide +kernel
theorem dX0_wantsOf_5 : decode cX0_wantsOf 5 = .ok (.ifCond .ne 5, 3) := by decide +kernel
theorem dX0_wantsOf_8 : decode cX0_wantsOf 8 = .ok (.iconst 0, 1) := by decide +kernel
theorem dX0_wantsOf_9 : decode cX0_wantsOf 9 = .ok (.ireturn, 1) := by decide +kernel
theorem dX0_wantsOf_10 : decode cX0_wantsOf 10 = .ok (.aload_n 0, 1) := by decide +kernel
theorem dX0_wantsOf_11 : decode cX0_wantsOf 11 = .ok (.getfield 28, 3) := by decide +kernel
theorem dX0_wantsOf_14 : decode cX0_wantsOf 14 = .ok (.iload_n 1, 1) := by decide +kernel
theorem dX0_wantsOf_15 : decode cX0_wantsOf 15 = .ok (.iaload, 1) := by decide +kernel
theorem dX0_wantsOf_16 : decode cX0_wantsOf 16 = .ok (.aload_n 0, 1) := by decide +kernel
theorem dX0_wantsOf_17 : decode cX0_wantsOf 17 = .ok (.getfield 32, 3) := by decide +kernel
theorem dX0_wantsOf_20 : decode cX0_wantsOf 20 = .ok (.iload_n 1, 1) := by decide +kernel
theorem dX0_wantsOf_21 : decode cX0_wantsOf 21 = .ok (.iaload, 1) := by decide +kernel
theorem dX0_wantsOf_22 : decode cX0_wantsOf 22 = .ok (.aload_n 0, 1) := by decide +kernel
theorem dX0_wantsOf_23 : decode cX0_wantsOf 23 = .ok (.getfield 7, 3) := by decide +kernel
theorem dX0_wantsOf_26 : decode cX0_wantsOf 26 = .ok (.aload_n 0, 1) := by decide +kernel
theorem dX0_wantsOf_27 : decode cX0_wantsOf 27 = .ok (.getfield 19, 3) := by decide +kernel
theorem dX0_wantsOf_30 : decode cX0_wantsOf 30 = .ok (.invokestatic 56, 3) := by decide +kernel
theorem dX0_wantsOf_33 : decode cX0_wantsOf 33 = .ok (.ireturn, 1) := by decide +kernel
set_option maxRecDepth 20000 in
theorem ggX0_crack_X0_hasOne : GoodIn wsX0_crack wsX0_hasOne := goodIn_sub (List.forall_mem_cons.mpr ⟨List.mem_of_getElem? (i := 17) rfl, (List.forall_mem_append.mpr ⟨(List.forall_mem_cons.mpr ⟨List.mem_of_getElem? (i := 18) rfl, fun _ h => absurd h List.not_mem_nil⟩), (fun _ h => List.mem_cons_of_mem _ (List.mem_append_right _ h))⟩)⟩) (by decide +kernel)
set_option maxRecDepth 20000 in
theorem gX0_crack_X0_hasOne : GoodIn wsX0_crack (wsV RX0 48 RX0 yX0_hasOne wsX0_hasOne) := goodIn_app (goodIn_sub (List.forall_mem_cons.mpr ⟨List.mem_of_getElem? (i := 13) rfl, List.forall_mem_cons.mpr ⟨List.mem_of_getElem? (i := 14) rfl, List.forall_mem_cons.mpr ⟨List.mem_of_getElem? (i := 15) rfl, List.forall_mem_cons.mpr ⟨List.mem_of_getElem? (i := 16) rfl, fun _ h => absurd h List.not_mem_nil⟩⟩⟩⟩) (by decide +kernel)) ggX0_crack_X0_hasOne
set_option maxRecDepth 20000 in
theorem ggX0_crack_X2_enters : GoodIn wsX0_crack wsX2_enters := goodIn_sub (List.forall_mem_cons.mpr ⟨List.mem_of_getElem? (i := 22) rfl, (List.forall_mem_cons.mpr ⟨List.mem_of_getElem? (i := 23) rfl, List.forall_mem_cons.mpr ⟨List.mem_of_getElem? (i := 24) rfl, List.forall_mem_cons.mpr ⟨List.mem_of_getElem? (i := 21) rfl, List.forall_mem_cons.mpr ⟨List.mem_of_getElem? (i := 25) rfl, fun _ h => absurd h List.not_mem_nil⟩⟩⟩⟩)⟩) (by decide +kernel)
set_option maxRecDepth 20000 in
theorem gX0_crack_X2_enters : GoodIn wsX0_crack (va_wsS RX0 62 yX2_enters wsX2_enters) := goodIn_app (goodIn_sub (List.forall_mem_cons.mpr ⟨List.mem_of_getElem? (i := 19) rfl, List.forall_mem_cons.mpr ⟨List.mem_of_getElem? (i := 20) rfl, List.forall_mem_cons.mpr ⟨List.mem_of_getElem? (i := 21) rfl, fun _ h => absurd h List.not_mem_nil⟩⟩⟩) (by decide +kernel)) ggX0_crack_X2_enters
set_option maxRecDepth 20000 in
theorem ggX0_crack_X2_watchDays : GoodIn wsX0_crack wsX2_watchDays := goodIn_sub (List.forall_mem_cons.mpr ⟨List.mem_of_getElem? (i := 28) rfl, (List.forall_mem_cons.mpr ⟨List.mem_of_getElem? (i := 29) rfl, List.forall_mem_cons.mpr ⟨List.mem_of_getElem? (i := 30) rfl, List.forall_mem_cons.mpr ⟨List.mem_of_getElem? (i := 21) rfl, List.forall_mem_cons.mpr ⟨List.mem_of_getElem? (i := 31) rfl, fun _ h => absurd h List.not_mem_nil⟩⟩⟩⟩)⟩) (by decide +kernel)
set_option maxRecDepth 20000 in
theorem gX0_crack_X2_watchDays : GoodIn wsX0_crack (va_wsS RX0 74 yX2_watchDays wsX2_watchDays) := goodIn_app (goodIn_sub (List.forall_mem_cons.mpr ⟨List.mem_of_getElem? (i := 26) rfl, List.forall_mem_cons.mpr ⟨List.mem_of_getElem? (i := 27) rfl, List.forall_mem_cons.mpr ⟨List.mem_of_getElem? (i := 21) rfl, fun _ h => absurd h List.not_mem_nil⟩⟩⟩) (by decide +kernel)) ggX0_crack_X2_watchDays
theorem dX0_crack_0 : decode cX0_crack 0 = .ok (.aload_n 0, 1) := by decide +kernel
theorem dX0_crack_1 : decode cX0_crack 1 = .ok (.iload_n 1, 1) := by decide +kernel
theorem dX0_crack_2 : decode cX0_crack 2 = .ok (.invokevirtual 48, 3) := by decide +kernel
theorem dX0_crack_5 : decode cX0_crack 5 = .ok (.ifCond .ne 4, 3) := by decide +kernel
theorem dX0_crack_8 : decode cX0_crack 8 = .ok (.return_, 1) := by decide +kernel
theorem dX0_crack_9 : decode cX0_crack 9 = .ok (.aload_n 0, 1) := by decide +kernel
theorem dX0_crack_10 : decode cX0_crack 10 = .ok (.getfield 28, 3) := by decide +kernel
theorem dX0_crack_13 : decode cX0_crack 13 = .ok (.iload_n 1, 1) := by decide +kernel
theorem dX0_crack_14 : decode cX0_crack 14 = .ok (.iaload, 1) := by decide +kernel
theorem dX0_crack_15 : decode cX0_crack 15 = .ok (.aload_n 0, 1) := by decide +kernel
theorem dX0_crack_16 : decode cX0_crack 16 = .ok (.getfield 35, 3) := by decide +kernel
theorem dX0_crack_19 : decode cX0_crack 19 = .ok (.iload_n 1, 1) := by decide +kernel
theorem dX0_crack_20 : decode cX0_crack 20 = .ok (.iaload, 1) := by decide +kernel
theorem dX0_crack_21 : decode cX0_crack 21 = .ok (.iload_n 2, 1) := by decide +kernel
theorem dX0_crack_22 : decode cX0_crack 22 = .ok (.invokestatic 62, 3) := by decide +kernel
theorem dX0_crack_25 : decode cX0_crack 25 = .ok (.istore_n 3, 1) := by decide +kernel
theorem dX0_crack_26 : decode cX0_crack 26 = .ok (.aload_n 0, 1) := by decide +kernel
theorem dX0_crack_27 : decode cX0_crack 27 = .ok (.dup, 1) := by decide +kernel
theorem dX0_crack_28 : decode cX0_crack 28 = .ok (.getfield 13, 3) := by decide +kernel
theorem dX0_crack_31 : decode cX0_crack 31 = .ok (.iload_n 2, 1) := by decide +kernel
theorem dX0_crack_32 : decode cX0_crack 32 = .ok (.isub, 1) := by decide +kernel
theorem dX0_crack_33 : decode cX0_crack 33 = .ok (.putfield 13, 3) := by decide +kernel
theorem dX0_crack_36 : decode cX0_crack 36 = .ok (.aload_n 0, 1) := by decide +kernel
theorem dX0_crack_37 : decode cX0_crack 37 = .ok (.getfield 41, 3) := by decide +kernel
theorem dX0_crack_40 : decode cX0_crack 40 = .ok (.iload_n 1, 1) := by decide +kernel
theorem dX0_crack_41 : decode cX0_crack 41 = .ok (.ldc 66, 2) := by decide +kernel
theorem dX0_crack_43 : decode cX0_crack 43 = .ok (.aload_n 0, 1) := by decide +kernel
theorem dX0_crack_44 : decode cX0_crack 44 = .ok (.getfield 41, 3) := by decide +kernel
theorem dX0_crack_47 : decode cX0_crack 47 = .ok (.iload_n 1, 1) := by decide +kernel
theorem dX0_crack_48 : decode cX0_crack 48 = .ok (.iaload, 1) := by decide +kernel
theorem dX0_crack_49 : decode cX0_crack 49 = .ok (.iload_n 2, 1) := by decide +kernel
theorem dX0_crack_50 : decode cX0_crack 50 = .ok (.iadd, 1) := by decide +kernel
theorem dX0_crack_51 : decode cX0_crack 51 = .ok (.invokestatic 67, 3) := by decide +kernel
theorem dX0_crack_54 : decode cX0_crack 54 = .ok (.iastore, 1) := by decide +kernel
theorem dX0_crack_55 : decode cX0_crack 55 = .ok (.aload_n 0, 1) := by decide +kernel
theorem dX0_crack_56 : decode cX0_crack 56 = .ok (.ldc 73, 2) := by decide +kernel
theorem dX0_crack_58 : decode cX0_crack 58 = .ok (.aload_n 0, 1) := by decide +kernel
theorem dX0_crack_59 : decode cX0_crack 59 = .ok (.getfield 19, 3) := by decide +kernel
theorem dX0_crack_62 : decode cX0_crack 62 = .ok (.iload_n 3, 1) := by decide +kernel
theorem dX0_crack_63 : decode cX0_crack 63 = .ok (.iadd, 1) := by decide +kernel
theorem dX0_crack_64 : decode cX0_crack 64 = .ok (.invokestatic 67, 3) := by decide +kernel
theorem dX0_crack_67 : decode cX0_crack 67 = .ok (.putfield 19, 3) := by decide +kernel
theorem dX0_crack_70 : decode cX0_crack 70 = .ok (.aload_n 0, 1) := by decide +kernel
theorem dX0_crack_71 : decode cX0_crack 71 = .ok (.getfield 38, 3) := by decide +kernel
theorem dX0_crack_74 : decode cX0_crack 74 = .ok (.iload_n 1, 1) := by decide +kernel
theorem dX0_crack_75 : decode cX0_crack 75 = .ok (.aload_n 0, 1) := by decide +kernel
theorem dX0_crack_76 : decode cX0_crack 76 = .ok (.getfield 28, 3) := by decide +kernel
theorem dX0_crack_79 : decode cX0_crack 79 = .ok (.iload_n 1, 1) := by decide +kernel
theorem dX0_crack_80 : decode cX0_crack 80 = .ok (.iaload, 1) := by decide +kernel
theorem dX0_crack_81 : decode cX0_crack 81 = .ok (.iload_n 2, 1) := by decide +kernel
theorem dX0_crack_82 : decode cX0_crack 82 = .ok (.iload_n 3, 1) := by decide +kernel
theorem dX0_crack_83 : decode cX0_crack 83 = .ok (.invokestatic 74, 3) := by decide +kernel
theorem dX0_crack_86 : decode cX0_crack 86 = .ok (.iastore, 1) := by decide +kernel
theorem dX0_crack_87 : decode cX0_crack 87 = .ok (.return_, 1) := by decide +kernel
set_option maxRecDepth 20000 in
theorem ggX0_goOn_X0_goOneDay : GoodIn wsX0_goOn wsX0_goOneDay := goodIn_sub (List.forall_mem_cons.mpr ⟨List.mem_of_getElem? (i := 5) rfl, (List.forall_mem_append.mpr ⟨(List.forall_mem_append.mpr ⟨(List.forall_mem_cons.mpr ⟨List.mem_of_getElem? (i := 6) rfl, List.forall_mem_cons.mpr ⟨List.mem_of_getElem? (i := 7) rfl, List.forall_mem_cons.mpr ⟨List.mem_of_getElem? (i := 8) rfl, List.forall_mem_cons.mpr ⟨List.mem_of_getElem? (i := 9) rfl, List.forall_mem_cons.mpr ⟨List.mem_of_getElem? (i := 10) rfl, List.forall_mem_cons.mpr ⟨List.mem_of_getElem? (i := 11) rfl, List.forall_mem_cons.mpr ⟨List.mem_of_getElem? (i := 12) rfl, List.forall_mem_cons.mpr ⟨List.mem_of_getElem? (i := 13) rfl, List.forall_mem_cons.mpr ⟨List.mem_of_getElem? (i := 14) rfl, List.forall_mem_cons.mpr ⟨List.mem_of_getElem? (i := 15) rfl, List.forall_mem_cons.mpr ⟨List.mem_of_getElem? (i := 16) rfl, List.forall_mem_cons.mpr ⟨List.mem_of_getElem? (i := 17) rfl, List.forall_mem_cons.mpr ⟨List.mem_of_getElem? (i := 18) rfl, List.forall_mem_cons.mpr ⟨List.mem_of_getElem? (i := 4) rfl, List.forall_mem_cons.mpr ⟨List.mem_of_getElem? (i := 19) rfl, List.forall_mem_cons.mpr ⟨List.mem_of_getElem? (i := 20) rfl, List.forall_mem_cons.mpr ⟨List.mem_of_getElem? (i := 21) rfl, List.forall_mem_cons.mpr ⟨List.mem_of_getElem? (i := 22) rfl, List.forall_mem_cons.mpr ⟨List.mem_of_getElem? (i := 23) rfl, List.forall_mem_cons.mpr ⟨List.mem_of_getElem? (i := 24) rfl, List.forall_mem_cons.mpr ⟨List.mem_of_getElem? (i := 25) rfl, List.forall_mem_cons.mpr ⟨List.mem_of_getElem? (i := 26) rfl, List.forall_mem_cons.mpr ⟨List.mem_of_getElem? (i := 27) rfl, List.forall_mem_cons.mpr ⟨List.mem_of_getElem? (i := 28) rfl, fun _ h => absurd h List.not_mem_nil⟩⟩⟩⟩⟩⟩⟩⟩⟩⟩⟩⟩⟩⟩⟩⟩⟩⟩⟩⟩⟩⟩⟩⟩), (List.forall_mem_append.mpr ⟨(List.forall_mem_cons.mpr ⟨List.mem_of_getElem? (i := 29) rfl, List.forall_mem_cons.mpr ⟨List.mem_of_getElem? (i := 30) rfl, List.forall_mem_cons.mpr ⟨List.mem_of_getElem? (i := 31) rfl, List.forall_mem_cons.mpr ⟨List.mem_of_getElem? (i := 32) rfl, List.forall_mem_cons.mpr ⟨List.mem_of_getElem? (i := 33) rfl, List.forall_mem_cons.mpr ⟨List.mem_of_getElem? (i := 34) rfl, List.forall_mem_cons.mpr ⟨List.mem_of_getElem? (i := 35) rfl, List.forall_mem_cons.mpr ⟨List.mem_of_getElem? (i := 36) rfl, List.forall_mem_cons.mpr ⟨List.mem_of_getElem? (i := 37) rfl, List.forall_mem_cons.mpr ⟨List.mem_of_getElem? (i := 38) rfl, List.forall_mem_cons.mpr ⟨List.mem_of_getElem? (i := 39) rfl, List.forall_mem_cons.mpr ⟨List.mem_of_getElem? (i := 40) rfl, List.forall_mem_cons.mpr ⟨List.mem_of_getElem? (i := 41) rfl, List.forall_mem_cons.mpr ⟨List.mem_of_getElem? (i := 42) rfl, List.forall_mem_cons.mpr ⟨List.mem_of_getElem? (i := 43) rfl, List.forall_mem_cons.mpr ⟨List.mem_of_getElem? (i := 44) rfl, List.forall_mem_cons.mpr ⟨List.mem_of_getElem? (i := 45) rfl, List.forall_mem_cons.mpr ⟨List.mem_of_getElem? (i := 46) rfl, List.forall_mem_cons.mpr ⟨List.mem_of_getElem? (i := 47) rfl, List.forall_mem_cons.mpr ⟨List.mem_of_getElem? (i := 48) rfl, List.forall_mem_cons.mpr ⟨List.mem_of_getElem? (i := 49) rfl, List.forall_mem_cons.mpr ⟨List.mem_of_getElem? (i := 50) rfl, List.forall_mem_cons.mpr ⟨List.mem_of_getElem? (i := 51) rfl, List.forall_mem_cons.mpr ⟨List.mem_of_getElem? (i := 52) rfl, fun _ h => absurd h List.not_mem_nil⟩⟩⟩⟩⟩⟩⟩⟩⟩⟩⟩⟩⟩⟩⟩⟩⟩⟩⟩⟩⟩⟩⟩⟩), (List.forall_mem_cons.mpr ⟨List.mem_of_getElem? (i := 53) rfl, List.forall_mem_cons.mpr ⟨List.mem_of_getElem? (i := 54) rfl, List.forall_mem_cons.mpr ⟨List.mem_of_getElem? (i := 55) rfl, List.forall_mem_cons.mpr ⟨List.mem_of_getElem? (i := 56) rfl, List.forall_mem_cons.mpr ⟨List.mem_of_getElem? (i := 57) rfl, List.forall_mem_cons.mpr ⟨List.mem_of_getElem? (i := 58) rfl, List.forall_mem_cons.mpr ⟨List.mem_of_getElem? (i := 59) rfl, List.forall_mem_cons.mpr ⟨List.mem_of_getElem? (i := 60) rfl, List.forall_mem_cons.mpr ⟨List.mem_of_getElem? (i := 61) rfl, List.forall_mem_cons.mpr ⟨List.mem_of_getElem? (i := 62) rfl, List.forall_mem_cons.mpr ⟨List.mem_of_getElem? (i := 63) rfl, fun _ h => absurd h List.not_mem_nil⟩⟩⟩⟩⟩⟩⟩⟩⟩⟩⟩)⟩)⟩), (fun _ h => List.mem_cons_of_mem _ (List.mem_append_right _ h))⟩)⟩) (by decide +kernel)
set_option maxRecDepth 20000 in
theorem gX0_goOn_X0_goOneDay : GoodIn wsX0_goOn (wsV RX0 77 RX0 yX0_goOneDay wsX0_goOneDay) := goodIn_app (goodIn_sub (List.forall_mem_cons.mpr ⟨List.mem_of_getElem? (i := 1) rfl, List.forall_mem_cons.mpr ⟨List.mem_of_getElem? (i := 2) rfl, List.forall_mem_cons.mpr ⟨List.mem_of_getElem? (i := 3) rfl, List.forall_mem_cons.mpr ⟨List.mem_of_getElem? (i := 4) rfl, fun _ h => absurd h List.not_mem_nil⟩⟩⟩⟩) (by decide +kernel)) ggX0_goOn_X0_goOneDay
theorem dX0_goOn_0 : decode cX0_goOn 0 = .ok (.iconst 0, 1) := by decide +kernel
theorem dX0_goOn_1 : decode cX0_goOn 1 = .ok (.istore_n 2, 1) := by decide +kernel
theorem dX0_goOn_2 : decode cX0_goOn 2 = .ok (.iload_n 2, 1) := by decide +kernel
theorem dX0_goOn_3 : decode cX0_goOn 3 = .ok (.iload_n 1, 1) := by decide +kernel
theorem dX0_goOn_4 : decode cX0_goOn 4 = .ok (.if_icmp .ge 13, 3) := by decide +kernel
theorem dX0_goOn_7 : decode cX0_goOn 7 = .ok (.aload_n 0, 1) := by decide +kernel
theorem dX0_goOn_8 : decode cX0_goOn 8 = .ok (.invokevirtual 77, 3) := by decide +kernel
theorem dX0_goOn_11 : decode cX0_goOn 11 = .ok (.iinc 2 1, 3) := by decide +kernel
theorem dX0_goOn_14 : decode cX0_goOn 14 = .ok (.goto (-12), 3) := by decide +kernel
theorem dX0_goOn_17 : decode cX0_goOn 17 = .ok (.return_, 1) := by decide +kernel
set_option maxRecDepth 20000 in
theorem ggX0_goOneDay_X0_wantsOf : GoodIn wsX0_goOneDay wsX0_wantsOf := goodIn_sub (List.forall_mem_cons.mpr ⟨List.mem_of_getElem? (i := 15) rfl, (List.forall_mem_append.mpr ⟨(List.forall_mem_cons.mpr ⟨List.mem_of_getElem? (i := 16) rfl, List.forall_mem_cons.mpr ⟨List.mem_of_getElem? (i := 17) rfl, List.forall_mem_cons.mpr ⟨List.mem_of_getElem? (i := 10) rfl, List.forall_mem_cons.mpr ⟨List.mem_of_getElem? (i := 18) rfl, List.forall_mem_cons.mpr ⟨List.mem_of_getElem? (i := 19) rfl, List.forall_mem_cons.mpr ⟨List.mem_of_getElem? (i := 20) rfl, List.forall_mem_cons.mpr ⟨List.mem_of_getElem? (i := 21) rfl, List.forall_mem_cons.mpr ⟨List.mem_of_getElem? (i := 14) rfl, List.forall_mem_cons.mpr ⟨List.mem_of_getElem? (i := 22) rfl, List.forall_mem_cons.mpr ⟨List.mem_of_getElem? (i := 7) rfl, List.forall_mem_cons.mpr ⟨List.mem_of_getElem? (i := 23) rfl, List.forall_mem_cons.mpr ⟨List.mem_of_getElem? (i := 24) rfl, List.forall_mem_cons.mpr ⟨List.mem_of_getElem? (i := 25) rfl, List.forall_mem_cons.mpr ⟨List.mem_of_getElem? (i := 26) rfl, List.forall_mem_cons.mpr ⟨List.mem_of_getElem? (i := 27) rfl, List.forall_mem_cons.mpr ⟨List.mem_of_getElem? (i := 28) rfl, List.forall_mem_cons.mpr ⟨List.mem_of_getElem? (i := 29) rfl, List.forall_mem_cons.mpr ⟨List.mem_of_getElem? (i := 30) rfl, List.forall_mem_cons.mpr ⟨List.mem_of_getElem? (i := 31) rfl, List.forall_mem_cons.mpr ⟨List.mem_of_getElem? (i := 32) rfl, fun _ h => absurd h List.not_mem_nil⟩⟩⟩⟩⟩⟩⟩⟩⟩⟩⟩⟩⟩⟩⟩⟩⟩⟩⟩⟩), (fun _ h => List.mem_cons_of_mem _ (List.mem_append_right _ h))⟩)⟩) (by decide +kernel)
set_option maxRecDepth 20000 in
theorem gX0_goOneDay_X0_wantsOf : GoodIn wsX0_goOneDay (wsV RX0 80 RX0 yX0_wantsOf wsX0_wantsOf) := goodIn_app (goodIn_sub (List.forall_mem_cons.mpr ⟨List.mem_of_getElem? (i := 11) rfl, List.forall_mem_cons.mpr ⟨List.mem_of_getElem? (i := 12) rfl, List.forall_mem_cons.mpr ⟨List.mem_of_getElem? (i := 13) rfl, List.forall_mem_cons.mpr ⟨List.mem_of_getElem? (i := 14) rfl, fun _ h => absurd h List.not_mem_nil⟩⟩⟩⟩) (by decide +kernel)) ggX0_goOneDay_X0_wantsOf
set_option maxRecDepth 20000 in
theorem ggX0_goOneDay_X0_crack : GoodIn wsX0_goOneDay wsX0_crack := goodIn_sub (List.forall_mem_cons.mpr ⟨List.mem_of_getElem? (i := 36) rfl, (List.forall_mem_append.mpr ⟨(List.forall_mem_append.mpr ⟨(List.forall_mem_cons.mpr ⟨List.mem_of_getElem? (i := 16) rfl, List.forall_mem_cons.mpr ⟨List.mem_of_getElem? (i := 37) rfl, List.forall_mem_cons.mpr ⟨List.mem_of_getElem? (i := 1) rfl, List.forall_mem_cons.mpr ⟨List.mem_of_getElem? (i := 38) rfl, List.forall_mem_cons.mpr ⟨List.mem_of_getElem? (i := 39) rfl, List.forall_mem_cons.mpr ⟨List.mem_of_getElem? (i := 3) rfl, List.forall_mem_cons.mpr ⟨List.mem_of_getElem? (i := 4) rfl, List.forall_mem_cons.mpr ⟨List.mem_of_getElem? (i := 5) rfl, List.forall_mem_cons.mpr ⟨List.mem_of_getElem? (i := 6) rfl, List.forall_mem_cons.mpr ⟨List.mem_of_getElem? (i := 40) rfl, List.forall_mem_cons.mpr ⟨List.mem_of_getElem? (i := 18) rfl, List.forall_mem_cons.mpr ⟨List.mem_of_getElem? (i := 8) rfl, List.forall_mem_cons.mpr ⟨List.mem_of_getElem? (i := 19) rfl, List.forall_mem_cons.mpr ⟨List.mem_of_getElem? (i := 20) rfl, List.forall_mem_cons.mpr ⟨List.mem_of_getElem? (i := 21) rfl, List.forall_mem_cons.mpr ⟨List.mem_of_getElem? (i := 14) rfl, List.forall_mem_cons.mpr ⟨List.mem_of_getElem? (i := 22) rfl, List.forall_mem_cons.mpr ⟨List.mem_of_getElem? (i := 7) rfl, List.forall_mem_cons.mpr ⟨List.mem_of_getElem? (i := 41) rfl, List.forall_mem_cons.mpr ⟨List.mem_of_getElem? (i := 42) rfl, List.forall_mem_cons.mpr ⟨List.mem_of_getElem? (i := 25) rfl, List.forall_mem_cons.mpr ⟨List.mem_of_getElem? (i := 43) rfl, List.forall_mem_cons.mpr ⟨List.mem_of_getElem? (i := 44) rfl, List.forall_mem_cons.mpr ⟨List.mem_of_getElem? (i := 45) rfl, fun _ h => absurd h List.not_mem_nil⟩⟩⟩⟩⟩⟩⟩⟩⟩⟩⟩⟩⟩⟩⟩⟩⟩⟩⟩⟩⟩⟩⟩⟩), (List.forall_mem_cons.mpr ⟨List.mem_of_getElem? (i := 46) rfl, List.forall_mem_cons.mpr ⟨List.mem_of_getElem? (i := 47) rfl, List.forall_mem_cons.mpr ⟨List.mem_of_getElem? (i := 48) rfl, List.forall_mem_cons.mpr ⟨List.mem_of_getElem? (i := 49) rfl, List.forall_mem_cons.mpr ⟨List.mem_of_getElem? (i := 50) rfl, List.forall_mem_cons.mpr ⟨List.mem_of_getElem? (i := 51) rfl, List.forall_mem_cons.mpr ⟨List.mem_of_getElem? (i := 52) rfl, fun _ h => absurd h List.not_mem_nil⟩⟩⟩⟩⟩⟩⟩)⟩), (fun _ h => List.mem_cons_of_mem _ (List.mem_append_right _ h))⟩)⟩) (by decide +kernel)
set_option maxRecDepth 20000 in
theorem gX0_goOneDay_X0_crack : GoodIn wsX0_goOneDay (wsV RX0 84 RX0 yX0_crack wsX0_crack) := goodIn_app (goodIn_sub (List.forall_mem_cons.mpr ⟨List.mem_of_getElem? (i := 33) rfl, List.forall_mem_cons.mpr ⟨List.mem_of_getElem? (i := 34) rfl, List.forall_mem_cons.mpr ⟨List.mem_of_getElem? (i := 35) rfl, List.forall_mem_cons.mpr ⟨List.mem_of_getElem? (i := 14) rfl, fun _ h => absurd h List.not_mem_nil⟩⟩⟩⟩) (by decide +kernel)) ggX0_goOneDay_X0_crack
set_option maxRecDepth 20000 in
theorem ggX0_goOneDay_X0_hensMind : GoodIn wsX0_goOneDay wsX0_hensMind := goodIn_sub (List.forall_mem_cons.mpr ⟨List.mem_of_getElem? (i := 56) rfl, (List.forall_mem_append.mpr ⟨(List.forall_mem_cons.mpr ⟨List.mem_of_getElem? (i := 2) rfl, List.forall_mem_cons.mpr ⟨List.mem_of_getElem? (i := 57) rfl, List.forall_mem_cons.mpr ⟨List.mem_of_getElem? (i := 58) rfl, List.forall_mem_cons.mpr ⟨List.mem_of_getElem? (i := 5) rfl, List.forall_mem_cons.mpr ⟨List.mem_of_getElem? (i := 59) rfl, List.forall_mem_cons.mpr ⟨List.mem_of_getElem? (i := 3) rfl, List.forall_mem_cons.mpr ⟨List.mem_of_getElem? (i := 4) rfl, List.forall_mem_cons.mpr ⟨List.mem_of_getElem? (i := 6) rfl, fun _ h => absurd h List.not_mem_nil⟩⟩⟩⟩⟩⟩⟩⟩), (fun _ h => List.mem_cons_of_mem _ (List.mem_append_right _ h))⟩)⟩) (by decide +kernel)
set_option maxRecDepth 20000 in
theorem gX0_goOneDay_X0_hensMind : GoodIn wsX0_goOneDay (wsV RX0 88 RX0 yX0_hensMind wsX0_hensMind) := goodIn_app (goodIn_sub (List.forall_mem_cons.mpr ⟨List.mem_of_getElem? (i := 53) rfl, List.forall_mem_cons.mpr ⟨List.mem_of_getElem? (i := 54) rfl, List.forall_mem_cons.mpr ⟨List.mem_of_getElem? (i := 55) rfl, List.forall_mem_cons.mpr ⟨List.mem_of_getElem? (i := 14) rfl, fun _ h => absurd h List.not_mem_nil⟩⟩⟩⟩) (by decide +kernel)) ggX0_goOneDay_X0_hensMind
theorem dX0_goOneDay_0 : decode cX0_goOneDay 0 = .ok (.aload_n 0, 1) := by decide +kernel
theorem dX0_goOneDay_1 : decode cX0_goOneDay 1 = .ok (.sipush 999, 3) := by decide +kernel
theorem dX0_goOneDay_4 : decode cX0_goOneDay 4 = .ok (.aload_n 0, 1) := by decide +kernel
theorem dX0_goOneDay_5 : decode cX0_goOneDay 5 = .ok (.getfield 13, 3) := by decide +kernel
theorem dX0_goOneDay_8 : decode cX0_goOneDay 8 = .ok (.aload_n 0, 1) := by decide +kernel
theorem dX0_goOneDay_9 : decode cX0_goOneDay 9 = .ok (.getfield 16, 3) := by decide +kernel
theorem dX0_goOneDay_12 : decode cX0_goOneDay 12 = .ok (.iadd, 1) := by decide +kernel
theorem dX0_goOneDay_13 : decode cX0_goOneDay 13 = .ok (.invokestatic 67, 3) := by decide +kernel
theorem dX0_goOneDay_16 : decode cX0_goOneDay 16 = .ok (.putfield 13, 3) := by decide +kernel
theorem dX0_goOneDay_19 : decode cX0_goOneDay 19 = .ok (.aload_n 0, 1) := by decide +kernel
theorem dX0_goOneDay_20 : decode cX0_goOneDay 20 = .ok (.getfield 13, 3) := by decide +kernel
theorem dX0_goOneDay_23 : decode cX0_goOneDay 23 = .ok (.istore_n 1, 1) := by decide +kernel
theorem dX0_goOneDay_24 : decode cX0_goOneDay 24 = .ok (.iconst 0, 1) := by decide +kernel
theorem dX0_goOneDay_25 : decode cX0_goOneDay 25 = .ok (.istore_n 2, 1) := by decide +kernel
theorem dX0_goOneDay_26 : decode cX0_goOneDay 26 = .ok (.iconst 0, 1) := by decide +kernel
theorem dX0_goOneDay_27 : decode cX0_goOneDay 27 = .ok (.istore_n 3, 1) := by decide +kernel
theorem dX0_goOneDay_28 : decode cX0_goOneDay 28 = .ok (.iload_n 3, 1) := by decide +kernel
theorem dX0_goOneDay_29 : decode cX0_goOneDay 29 = .ok (.aload_n 0, 1) := by decide +kernel
theorem dX0_goOneDay_30 : decode cX0_goOneDay 30 = .ok (.getfield 25, 3) := by decide +kernel
theorem dX0_goOneDay_33 : decode cX0_goOneDay 33 = .ok (.if_icmp .ge 73, 3) := by decide +kernel
theorem dX0_goOneDay_36 : decode cX0_goOneDay 36 = .ok (.aload_n 0, 1) := by decide +kernel
theorem dX0_goOneDay_37 : decode cX0_goOneDay 37 = .ok (.getfield 38, 3) := by decide +kernel
theorem dX0_goOneDay_40 : decode cX0_goOneDay 40 = .ok (.iload_n 3, 1) := by decide +kernel
theorem dX0_goOneDay_41 : decode cX0_goOneDay 41 = .ok (.iaload, 1) := by decide +kernel
theorem dX0_goOneDay_42 : decode cX0_goOneDay 42 = .ok (.ifCond .le 16, 3) := by decide +kernel
theorem dX0_goOneDay_45 : decode cX0_goOneDay 45 = .ok (.aload_n 0, 1) := by decide +kernel
theorem dX0_goOneDay_46 : decode cX0_goOneDay 46 = .ok (.getfield 38, 3) := by decide +kernel
theorem dX0_goOneDay_49 : decode cX0_goOneDay 49 = .ok (.iload_n 3, 1) := by decide +kernel
theorem dX0_goOneDay_50 : decode cX0_goOneDay 50 = .ok (.dup2, 1) := by decide +kernel
theorem dX0_goOneDay_51 : decode cX0_goOneDay 51 = .ok (.iaload, 1) := by decide +kernel
theorem dX0_goOneDay_52 : decode cX0_goOneDay 52 = .ok (.iconst 1, 1) := by decide +kernel
theorem dX0_goOneDay_53 : decode cX0_goOneDay 53 = .ok (.isub, 1) := by decide +kernel
theorem dX0_goOneDay_54 : decode cX0_goOneDay 54 = .ok (.iastore, 1) := by decide +kernel
theorem dX0_goOneDay_55 : decode cX0_goOneDay 55 = .ok (.goto 45, 3) := by decide +kernel
theorem dX0_goOneDay_58 : decode cX0_goOneDay 58 = .ok (.aload_n 0, 1) := by decide +kernel
theorem dX0_goOneDay_59 : decode cX0_goOneDay 59 = .ok (.iload_n 3, 1) := by decide +kernel
theorem dX0_goOneDay_60 : decode cX0_goOneDay 60 = .ok (.invokevirtual 80, 3) := by decide +kernel
theorem dX0_goOneDay_63 : decode cX0_goOneDay 63 = .ok (.istore 4, 2) := by decide +kernel
theorem dX0_goOneDay_65 : decode cX0_goOneDay 65 = .ok (.iload 4, 2) := by decide +kernel
theorem dX0_goOneDay_67 : decode cX0_goOneDay 67 = .ok (.aload_n 0, 1) := by decide +kernel
theorem dX0_goOneDay_68 : decode cX0_goOneDay 68 = .ok (.getfield 13, 3) := by decide +kernel
theorem dX0_goOneDay_71 : decode cX0_goOneDay 71 = .ok (.invokestatic 67, 3) := by decide +kernel
theorem dX0_goOneDay_74 : decode cX0_goOneDay 74 = .ok (.istore 5, 2) := by decide +kernel
theorem dX0_goOneDay_76 : decode cX0_goOneDay 76 = .ok (.iload 5, 2) := by decide +kernel
theorem dX0_goOneDay_78 : decode cX0_goOneDay 78 = .ok (.ifCond .le 10, 3) := by decide +kernel
theorem dX0_goOneDay_81 : decode cX0_goOneDay 81 = .ok (.aload_n 0, 1) := by decide +kernel
theorem dX0_goOneDay_82 : decode cX0_goOneDay 82 = .ok (.iload_n 3, 1) := by decide +kernel
theorem dX0_goOneDay_83 : decode cX0_goOneDay 83 = .ok (.iload 5, 2) := by decide +kernel
theorem dX0_goOneDay_85 : decode cX0_goOneDay 85 = .ok (.invokevirtual 84, 3) := by decide +kernel
theorem dX0_goOneDay_88 : decode cX0_goOneDay 88 = .ok (.iload 4, 2) := by decide +kernel
theorem dX0_goOneDay_90 : decode cX0_goOneDay 90 = .ok (.ifCond .le 10, 3) := by decide +kernel
theorem dX0_goOneDay_93 : decode cX0_goOneDay 93 = .ok (.iload 5, 2) := by decide +kernel
theorem dX0_goOneDay_95 : decode cX0_goOneDay 95 = .ok (.ifCond .ne 5, 3) := by decide +kernel
theorem dX0_goOneDay_98 : decode cX0_goOneDay 98 = .ok (.iconst 1, 1) := by decide +kernel
theorem dX0_goOneDay_99 : decode cX0_goOneDay 99 = .ok (.istore_n 2, 1) := by decide +kernel
theorem dX0_goOneDay_100 : decode cX0_goOneDay 100 = .ok (.iinc 3 1, 3) := by decide +kernel
theorem dX0_goOneDay_103 : decode cX0_goOneDay 103 = .ok (.goto (-75), 3) := by decide +kernel
theorem dX0_goOneDay_106 : decode cX0_goOneDay 106 = .ok (.aload_n 0, 1) := by decide +kernel
theorem dX0_goOneDay_107 : decode cX0_goOneDay 107 = .ok (.iload_n 1, 1) := by decide +kernel
theorem dX0_goOneDay_108 : decode cX0_goOneDay 108 = .ok (.iload_n 1, 1) := by decide +kernel
theorem dX0_goOneDay_109 : decode cX0_goOneDay 109 = .ok (.aload_n 0, 1) := by decide +kernel
theorem dX0_goOneDay_110 : decode cX0_goOneDay 110 = .ok (.getfield 13, 3) := by decide +kernel
theorem dX0_goOneDay_113 : decode cX0_goOneDay 113 = .ok (.isub, 1) := by decide +kernel
theorem dX0_goOneDay_114 : decode cX0_goOneDay 114 = .ok (.invokevirtual 88, 3) := by decide +kernel
theorem dX0_goOneDay_117 : decode cX0_goOneDay 117 = .ok (.iload_n 2, 1) := by decide +kernel
theorem dX0_goOneDay_118 : decode cX0_goOneDay 118 = .ok (.ifCond .eq 19, 3) := by decide +kernel
theorem dX0_goOneDay_121 : decode cX0_goOneDay 121 = .ok (.aload_n 0, 1) := by decide +kernel
theorem dX0_goOneDay_122 : decode cX0_goOneDay 122 = .ok (.sipush 9999, 3) := by decide +kernel
theorem dX0_goOneDay_125 : decode cX0_goOneDay 125 = .ok (.aload_n 0, 1) := by decide +kernel
theorem dX0_goOneDay_126 : decode cX0_goOneDay 126 = .ok (.getfield 22, 3) := by decide +kernel
theorem dX0_goOneDay_129 : decode cX0_goOneDay 129 = .ok (.iconst 1, 1) := by decide +kernel
theorem dX0_goOneDay_130 : decode cX0_goOneDay 130 = .ok (.iadd, 1) := by decide +kernel
theorem dX0_goOneDay_131 : decode cX0_goOneDay 131 = .ok (.invokestatic 67, 3) := by decide +kernel
theorem dX0_goOneDay_134 : decode cX0_goOneDay 134 = .ok (.putfield 22, 3) := by decide +kernel
theorem dX0_goOneDay_137 : decode cX0_goOneDay 137 = .ok (.aload_n 0, 1) := by decide +kernel
theorem dX0_goOneDay_138 : decode cX0_goOneDay 138 = .ok (.dup, 1) := by decide +kernel
theorem dX0_goOneDay_139 : decode cX0_goOneDay 139 = .ok (.getfield 7, 3) := by decide +kernel
theorem dX0_goOneDay_142 : decode cX0_goOneDay 142 = .ok (.iconst 1, 1) := by decide +kernel
theorem dX0_goOneDay_143 : decode cX0_goOneDay 143 = .ok (.iadd, 1) := by decide +kernel
theorem dX0_goOneDay_144 : decode cX0_goOneDay 144 = .ok (.putfield 7, 3) := by decide +kernel
theorem dX0_goOneDay_147 : decode cX0_goOneDay 147 = .ok (.return_, 1) := by decide +kernel
theorem dX0_hensMind_0 : decode cX0_hensMind 0 = .ok (.iconst 2, 1) := by decide +kernel
theorem dX0_hensMind_1 : decode cX0_hensMind 1 = .ok (.iload_n 2, 1) := by decide +kernel
theorem dX0_hensMind_2 : decode cX0_hensMind 2 = .ok (.imul, 1) := by decide +kernel
theorem dX0_hensMind_3 : decode cX0_hensMind 3 = .ok (.iload_n 1, 1) := by decide +kernel
theorem dX0_hensMind_4 : decode cX0_hensMind 4 = .ok (.if_icmp .le 20, 3) := by decide +kernel
theorem dX0_hensMind_7 : decode cX0_hensMind 7 = .ok (.aload_n 0, 1) := by decide +kernel
theorem dX0_hensMind_8 : decode cX0_hensMind 8 = .ok (.iconst 0, 1) := by decide +kernel
theorem dX0_hensMind_9 : decode cX0_hensMind 9 = .ok (.aload_n 0, 1) := by decide +kernel
theorem dX0_hensMind_10 : decode cX0_hensMind 10 = .ok (.getfield 16, 3) := by decide +kernel
theorem dX0_hensMind_13 : decode cX0_hensMind 13 = .ok (.iconst 1, 1) := by decide +kernel
theorem dX0_hensMind_14 : decode cX0_hensMind 14 = .ok (.isub, 1) := by decide +kernel
theorem dX0_hensMind_15 : decode cX0_hensMind 15 = .ok (.invokestatic 91, 3) := by decide +kernel
theorem dX0_hensMind_18 : decode cX0_hensMind 18 = .ok (.putfield 16, 3) := by decide +kernel
theorem dX0_hensMind_21 : decode cX0_hensMind 21 = .ok (.goto 25, 3) := by decide +kernel
theorem dX0_hensMind_24 : decode cX0_hensMind 24 = .ok (.iconst 4, 1) := by decide +kernel
theorem dX0_hensMind_25 : decode cX0_hensMind 25 = .ok (.iload_n 2, 1) := by decide +kernel
theorem dX0_hensMind_26 : decode cX0_hensMind 26 = .ok (.imul, 1) := by decide +kernel
theorem dX0_hensMind_27 : decode cX0_hensMind 27 = .ok (.iload_n 1, 1) := by decide +kernel
theorem dX0_hensMind_28 : decode cX0_hensMind 28 = .ok (.if_icmp .ge 18, 3) := by decide +kernel
theorem dX0_hensMind_31 : decode cX0_hensMind 31 = .ok (.aload_n 0, 1) := by decide +kernel
theorem dX0_hensMind_32 : decode cX0_hensMind 32 = .ok (.bipush 99, 2) := by decide +kernel
theorem dX0_hensMind_34 : decode cX0_hensMind 34 = .ok (.aload_n 0, 1) := by decide +kernel
theorem dX0_hensMind_35 : decode cX0_hensMind 35 = .ok (.getfield 16, 3) := by decide +kernel
theorem dX0_hensMind_38 : decode cX0_hensMind 38 = .ok (.iconst 1, 1) := by decide +kernel
theorem dX0_hensMind_39 : decode cX0_hensMind 39 = .ok (.iadd, 1) := by decide +kernel
theorem dX0_hensMind_40 : decode cX0_hensMind 40 = .ok (.invokestatic 67, 3) := by decide +kernel
theorem dX0_hensMind_43 : decode cX0_hensMind 43 = .ok (.putfield 16, 3) := by decide +kernel
theorem dX0_hensMind_46 : decode cX0_hensMind 46 = .ok (.return_, 1) := by decide +kernel
theorem dX1_init_0 : decode cX1_init 0 = .ok (.aload_n 0, 1) := by decide +kernel
theorem dX1_init_1 : decode cX1_init 1 = .ok (.invokespecial 1, 3) := by decide +kernel
theorem dX1_init_4 : decode cX1_init 4 = .ok (.aload_n 0, 1) := by decide +kernel
theorem dX1_init_5 : decode cX1_init 5 = .ok (.iconst 0, 1) := by decide +kernel
theorem dX1_init_6 : decode cX1_init 6 = .ok (.putfield 9, 3) := by decide +kernel
theorem dX1_init_9 : decode cX1_init 9 = .ok (.aload_n 0, 1) := by decide +kernel
theorem dX1_init_10 : decode cX1_init 10 = .ok (.iconst 0, 1) := by decide +kernel
theorem dX1_init_11 : decode cX1_init 11 = .ok (.putfield 13, 3) := by decide +kernel
theorem dX1_init_14 : decode cX1_init 14 = .ok (.aload_n 0, 1) := by decide +kernel
theorem dX1_init_15 : decode cX1_init 15 = .ok (.iconst 0, 1) := by decide +kernel
theorem dX1_init_16 : decode cX1_init 16 = .ok (.putfield 16, 3) := by decide +kernel
theorem dX1_init_19 : decode cX1_init 19 = .ok (.aload_n 0, 1) := by decide +kernel
theorem dX1_init_20 : decode cX1_init 20 = .ok (.iconst 0, 1) := by decide +kernel
theorem dX1_init_21 : decode cX1_init 21 = .ok (.putfield 19, 3) := by decide +kernel
theorem dX1_init_24 : decode cX1_init 24 = .ok (.aload_n 0, 1) := by decide +kernel
theorem dX1_init_25 : decode cX1_init 25 = .ok (.aload_n 1, 1) := by decide +kernel
theorem dX1_init_26 : decode cX1_init 26 = .ok (.putfield 22, 3) := by decide +kernel
theorem dX1_init_29 : decode cX1_init 29 = .ok (.aload_n 0, 1) := by decide +kernel
theorem dX1_init_30 : decode cX1_init 30 = .ok (.aload_n 2, 1) := by decide +kernel
theorem dX1_init_31 : decode cX1_init 31 = .ok (.putfield 26, 3) := by decide +kernel
theorem dX1_init_34 : decode cX1_init 34 = .ok (.return_, 1) := by decide +kernel
set_option maxRecDepth 20000 in
theorem ggX1_readItems_X1_advance : GoodIn wsX1_readItems wsX1_advance := goodIn_sub (List.forall_mem_cons.mpr ⟨List.mem_of_getElem? (i := 7) rfl, (List.forall_mem_append.mpr ⟨(List.forall_mem_append.mpr ⟨(List.forall_mem_cons.mpr ⟨List.mem_of_getElem? (i := 8) rfl, List.forall_mem_cons.mpr ⟨List.mem_of_getElem? (i := 1) rfl, List.forall_mem_cons.mpr ⟨List.mem_of_getElem? (i := 9) rfl, List.forall_mem_cons.mpr ⟨List.mem_of_getElem? (i := 10) rfl, List.forall_mem_cons.mpr ⟨List.mem_of_getElem? (i := 2) rfl, List.forall_mem_cons.mpr ⟨List.mem_of_getElem? (i := 11) rfl, List.forall_mem_cons.mpr ⟨List.mem_of_getElem? (i := 12) rfl, List.forall_mem_cons.mpr ⟨List.mem_of_getElem? (i := 13) rfl, List.forall_mem_cons.mpr ⟨List.mem_of_getElem? (i := 14) rfl, List.forall_mem_cons.mpr ⟨List.mem_of_getElem? (i := 15) rfl, List.forall_mem_cons.mpr ⟨List.mem_of_getElem? (i := 16) rfl, List.forall_mem_cons.mpr ⟨List.mem_of_getElem? (i := 17) rfl, List.forall_mem_cons.mpr ⟨List.mem_of_getElem? (i := 18) rfl, List.forall_mem_cons.mpr ⟨List.mem_of_getElem? (i := 19) rfl, List.forall_mem_cons.mpr ⟨List.mem_of_getElem? (i := 20) rfl, List.forall_mem_cons.mpr ⟨List.mem_of_getElem? (i := 21) rfl, List.forall_mem_cons.mpr ⟨List.mem_of_getElem? (i := 22) rfl, List.forall_mem_cons.mpr ⟨List.mem_of_getElem? (i := 23) rfl, List.forall_mem_cons.mpr ⟨List.mem_of_getElem? (i := 24) rfl, List.forall_mem_cons.mpr ⟨List.mem_of_getElem? (i := 6) rfl, List.forall_mem_cons.mpr ⟨List.mem_of_getElem? (i := 25) rfl, List.forall_mem_cons.mpr ⟨List.mem_of_getElem? (i := 26) rfl, List.forall_mem_cons.mpr ⟨List.mem_of_getElem? (i := 27) rfl, List.forall_mem_cons.mpr ⟨List.mem_of_getElem? (i := 28) rfl, fun _ h => absurd h List.not_mem_nil⟩⟩⟩⟩⟩⟩⟩⟩⟩⟩⟩⟩⟩⟩⟩⟩⟩⟩⟩⟩⟩⟩⟩⟩), (fun _ h => List.mem_cons_of_mem _ (List.mem_append_left _ (List.mem_append_left _ (List.mem_append_right _ h))))⟩), (fun _ h => List.mem_cons_of_mem _ (List.mem_append_left _ (List.mem_append_right _ h)))⟩)⟩) (by decide +kernel)
set_option maxRecDepth 20000 in
theorem gX1_readItems_X1_advance : GoodIn wsX1_readItems (wsV RX1 30 RX1 yX1_advance wsX1_advance) := goodIn_app (goodIn_sub (List.forall_mem_cons.mpr ⟨List.mem_of_getElem? (i := 3) rfl, List.forall_mem_cons.mpr ⟨List.mem_of_getElem? (i := 4) rfl, List.forall_mem_cons.mpr ⟨List.mem_of_getElem? (i := 5) rfl, List.forall_mem_cons.mpr ⟨List.mem_of_getElem? (i := 6) rfl, fun _ h => absurd h List.not_mem_nil⟩⟩⟩⟩) (by decide +kernel)) ggX1_readItems_X1_advance
set_option maxRecDepth 20000 in
theorem ggX1_readItems_X1_readItem : GoodIn wsX1_readItems wsX1_readItem := goodIn_sub (List.forall_mem_cons.mpr ⟨List.mem_of_getElem? (i := 32) rfl, (List.forall_mem_append.mpr ⟨(List.forall_mem_append.mpr ⟨(List.forall_mem_append.mpr ⟨(List.forall_mem_append.mpr ⟨(List.forall_mem_cons.mpr ⟨List.mem_of_getElem? (i := 33) rfl, List.forall_mem_cons.mpr ⟨List.mem_of_getElem? (i := 11) rfl, List.forall_mem_cons.mpr ⟨List.mem_of_getElem? (i := 34) rfl, List.forall_mem_cons.mpr ⟨List.mem_of_getElem? (i := 35) rfl, List.forall_mem_cons.mpr ⟨List.mem_of_getElem? (i := 36) rfl, List.forall_mem_cons.mpr ⟨List.mem_of_getElem? (i := 37) rfl, List.forall_mem_cons.mpr ⟨List.mem_of_getElem? (i := 38) rfl, List.forall_mem_cons.mpr ⟨List.mem_of_getElem? (i := 6) rfl, List.forall_mem_cons.mpr ⟨List.mem_of_getElem? (i := 39) rfl, List.forall_mem_cons.mpr ⟨List.mem_of_getElem? (i := 40) rfl, List.forall_mem_cons.mpr ⟨List.mem_of_getElem? (i := 41) rfl, List.forall_mem_cons.mpr ⟨List.mem_of_getElem? (i := 42) rfl, List.forall_mem_cons.mpr ⟨List.mem_of_getElem? (i := 43) rfl, List.forall_mem_cons.mpr ⟨List.mem_of_getElem? (i := 2) rfl, List.forall_mem_cons.mpr ⟨List.mem_of_getElem? (i := 8) rfl, List.forall_mem_cons.mpr ⟨List.mem_of_getElem? (i := 1) rfl, List.forall_mem_cons.mpr ⟨List.mem_of_getElem? (i := 9) rfl, List.forall_mem_cons.mpr ⟨List.mem_of_getElem? (i := 44) rfl, List.forall_mem_cons.mpr ⟨List.mem_of_getElem? (i := 45) rfl, List.forall_mem_cons.mpr ⟨List.mem_of_getElem? (i := 46) rfl, List.forall_mem_cons.mpr ⟨List.mem_of_getElem? (i := 47) rfl, List.forall_mem_cons.mpr ⟨List.mem_of_getElem? (i := 48) rfl, List.forall_mem_cons.mpr ⟨List.mem_of_getElem? (i := 49) rfl, List.forall_mem_cons.mpr ⟨List.mem_of_getElem? (i := 50) rfl, fun _ h => absurd h List.not_mem_nil⟩⟩⟩⟩⟩⟩⟩⟩⟩⟩⟩⟩⟩⟩⟩⟩⟩⟩⟩⟩⟩⟩⟩⟩), (List.forall_mem_append.mpr ⟨(List.forall_mem_cons.mpr ⟨List.mem_of_getElem? (i := 51) rfl, List.forall_mem_cons.mpr ⟨List.mem_of_getElem? (i := 52) rfl, List.forall_mem_cons.mpr ⟨List.mem_of_getElem? (i := 53) rfl, List.forall_mem_cons.mpr ⟨List.mem_of_getElem? (i := 54) rfl, List.forall_mem_cons.mpr ⟨List.mem_of_getElem? (i := 55) rfl, List.forall_mem_cons.mpr ⟨List.mem_of_getElem? (i := 16) rfl, List.forall_mem_cons.mpr ⟨List.mem_of_getElem? (i := 17) rfl, List.forall_mem_cons.mpr ⟨List.mem_of_getElem? (i := 18) rfl, List.forall_mem_cons.mpr ⟨List.mem_of_getElem? (i := 19) rfl, List.forall_mem_cons.mpr ⟨List.mem_of_getElem? (i := 20) rfl, List.forall_mem_cons.mpr ⟨List.mem_of_getElem? (i := 21) rfl, List.forall_mem_cons.mpr ⟨List.mem_of_getElem? (i := 22) rfl, List.forall_mem_cons.mpr ⟨List.mem_of_getElem? (i := 56) rfl, List.forall_mem_cons.mpr ⟨List.mem_of_getElem? (i := 57) rfl, List.forall_mem_cons.mpr ⟨List.mem_of_getElem? (i := 58) rfl, List.forall_mem_cons.mpr ⟨List.mem_of_getElem? (i := 59) rfl, List.forall_mem_cons.mpr ⟨List.mem_of_getElem? (i := 60) rfl, List.forall_mem_cons.mpr ⟨List.mem_of_getElem? (i := 61) rfl, List.forall_mem_cons.mpr ⟨List.mem_of_getElem? (i := 62) rfl, List.forall_mem_cons.mpr ⟨List.mem_of_getElem? (i := 63) rfl, List.forall_mem_cons.mpr ⟨List.mem_of_getElem? (i := 64) rfl, List.forall_mem_cons.mpr ⟨List.mem_of_getElem? (i := 65) rfl, List.forall_mem_cons.mpr ⟨List.mem_of_getElem? (i := 66) rfl, List.forall_mem_cons.mpr ⟨List.mem_of_getElem? (i := 67) rfl, fun _ h => absurd h List.not_mem_nil⟩⟩⟩⟩⟩⟩⟩⟩⟩⟩⟩⟩⟩⟩⟩⟩⟩⟩⟩⟩⟩⟩⟩⟩), (List.forall_mem_append.mpr ⟨(List.forall_mem_cons.mpr ⟨List.mem_of_getElem? (i := 68) rfl, List.forall_mem_cons.mpr ⟨List.mem_of_getElem? (i := 69) rfl, List.forall_mem_cons.mpr ⟨List.mem_of_getElem? (i := 70) rfl, List.forall_mem_cons.mpr ⟨List.mem_of_getElem? (i := 71) rfl, List.forall_mem_cons.mpr ⟨List.mem_of_getElem? (i := 72) rfl, List.forall_mem_cons.mpr ⟨List.mem_of_getElem? (i := 73) rfl, List.forall_mem_cons.mpr ⟨List.mem_of_getElem? (i := 74) rfl, List.forall_mem_cons.mpr ⟨List.mem_of_getElem? (i := 75) rfl, List.forall_mem_cons.mpr ⟨List.mem_of_getElem? (i := 76) rfl, List.forall_mem_cons.mpr ⟨List.mem_of_getElem? (i := 77) rfl, List.forall_mem_cons.mpr ⟨List.mem_of_getElem? (i := 78) rfl, List.forall_mem_cons.mpr ⟨List.mem_of_getElem? (i := 79) rfl, List.forall_mem_cons.mpr ⟨List.mem_of_getElem? (i := 80) rfl, List.forall_mem_cons.mpr ⟨List.mem_of_getElem? (i := 81) rfl, List.forall_mem_cons.mpr ⟨List.mem_of_getElem? (i := 82) rfl, List.forall_mem_cons.mpr ⟨List.mem_of_getElem? (i := 83) rfl, List.forall_mem_cons.mpr ⟨List.mem_of_getElem? (i := 84) rfl, List.forall_mem_cons.mpr ⟨List.mem_of_getElem? (i := 85) rfl, List.forall_mem_cons.mpr ⟨List.mem_of_getElem? (i := 86) rfl, List.forall_mem_cons.mpr ⟨List.mem_of_getElem? (i := 87) rfl, List.forall_mem_cons.mpr ⟨List.mem_of_getElem? (i := 88) rfl, List.forall_mem_cons.mpr ⟨List.mem_of_getElem? (i := 89) rfl, List.forall_mem_cons.mpr ⟨List.mem_of_getElem? (i := 90) rfl, List.forall_mem_cons.mpr ⟨List.mem_of_getElem? (i := 91) rfl, fun _ h => absurd h List.not_mem_nil⟩⟩⟩⟩⟩⟩⟩⟩⟩⟩⟩⟩⟩⟩⟩⟩⟩⟩⟩⟩⟩⟩⟩⟩), (List.forall_mem_append.mpr ⟨(List.forall_mem_cons.mpr ⟨List.mem_of_getElem? (i := 92) rfl, List.forall_mem_cons.mpr ⟨List.mem_of_getElem? (i := 93) rfl, List.forall_mem_cons.mpr ⟨List.mem_of_getElem? (i := 94) rfl, List.forall_mem_cons.mpr ⟨List.mem_of_getElem? (i := 95) rfl, List.forall_mem_cons.mpr ⟨List.mem_of_getElem? (i := 96) rfl, List.forall_mem_cons.mpr ⟨List.mem_of_getElem? (i := 97) rfl, List.forall_mem_cons.mpr ⟨List.mem_of_getElem? (i := 98) rfl, List.forall_mem_cons.mpr ⟨List.mem_of_getElem? (i := 99) rfl, List.forall_mem_cons.mpr ⟨List.mem_of_getElem? (i := 100) rfl, List.forall_mem_cons.mpr ⟨List.mem_of_getElem? (i := 101) rfl, List.forall_mem_cons.mpr ⟨List.mem_of_getElem? (i := 102) rfl, List.forall_mem_cons.mpr ⟨List.mem_of_getElem? (i := 103) rfl, List.forall_mem_cons.mpr ⟨List.mem_of_getElem? (i := 104) rfl, List.forall_mem_cons.mpr ⟨List.mem_of_getElem? (i := 105) rfl, List.forall_mem_cons.mpr ⟨List.mem_of_getElem? (i := 106) rfl, List.forall_mem_cons.mpr ⟨List.mem_of_getElem? (i := 107) rfl, List.forall_mem_cons.mpr ⟨List.mem_of_getElem? (i := 108) rfl, List.forall_mem_cons.mpr ⟨List.mem_of_getElem? (i := 109) rfl, List.forall_mem_cons.mpr ⟨List.mem_of_getElem? (i := 110) rfl, List.forall_mem_cons.mpr ⟨List.mem_of_getElem? (i := 111) rfl, List.forall_mem_cons.mpr ⟨List.mem_of_getElem? (i := 112) rfl, List.forall_mem_cons.mpr ⟨List.mem_of_getElem? (i := 113) rfl, List.forall_mem_cons.mpr ⟨List.mem_of_getElem? (i := 114) rfl, List.forall_mem_cons.mpr ⟨List.mem_of_getElem? (i := 3) rfl, fun _ h => absurd h List.not_mem_nil⟩⟩⟩⟩⟩⟩⟩⟩⟩⟩⟩⟩⟩⟩⟩⟩⟩⟩⟩⟩⟩⟩⟩⟩), (List.forall_mem_cons.mpr ⟨List.mem_of_getElem? (i := 4) rfl, List.forall_mem_cons.mpr ⟨List.mem_of_getElem? (i := 5) rfl, List.forall_mem_cons.mpr ⟨List.mem_of_getElem? (i := 7) rfl, List.forall_mem_cons.mpr ⟨List.mem_of_getElem? (i := 10) rfl, List.forall_mem_cons.mpr ⟨List.mem_of_getElem? (i := 12) rfl, List.forall_mem_cons.mpr ⟨List.mem_of_getElem? (i := 13) rfl, List.forall_mem_cons.mpr ⟨List.mem_of_getElem? (i := 14) rfl, List.forall_mem_cons.mpr ⟨List.mem_of_getElem? (i := 15) rfl, List.forall_mem_cons.mpr ⟨List.mem_of_getElem? (i := 23) rfl, List.forall_mem_cons.mpr ⟨List.mem_of_getElem? (i := 24) rfl, List.forall_mem_cons.mpr ⟨List.mem_of_getElem? (i := 25) rfl, List.forall_mem_cons.mpr ⟨List.mem_of_getElem? (i := 26) rfl, List.forall_mem_cons.mpr ⟨List.mem_of_getElem? (i := 27) rfl, List.forall_mem_cons.mpr ⟨List.mem_of_getElem? (i := 28) rfl, List.forall_mem_cons.mpr ⟨List.mem_of_getElem? (i := 115) rfl, List.forall_mem_cons.mpr ⟨List.mem_of_getElem? (i := 116) rfl, List.forall_mem_cons.mpr ⟨List.mem_of_getElem? (i := 117) rfl, List.forall_mem_cons.mpr ⟨List.mem_of_getElem? (i := 118) rfl, List.forall_mem_cons.mpr ⟨List.mem_of_getElem? (i := 119) rfl, List.forall_mem_cons.mpr ⟨List.mem_of_getElem? (i := 120) rfl, List.forall_mem_cons.mpr ⟨List.mem_of_getElem? (i := 121) rfl, List.forall_mem_cons.mpr ⟨List.mem_of_getElem? (i := 122) rfl, fun _ h => absurd h List.not_mem_nil⟩⟩⟩⟩⟩⟩⟩⟩⟩⟩⟩⟩⟩⟩⟩⟩⟩⟩⟩⟩⟩⟩)⟩)⟩)⟩)⟩), (fun _ h => List.mem_cons_of_mem _ (List.mem_append_left _ (List.mem_append_left _ (List.mem_append_right _ h))))⟩), (fun _ h => List.mem_cons_of_mem _ (List.mem_append_right _ h))⟩), (fun _ h => List.mem_cons_of_mem _ (List.mem_append_left _ (List.mem_append_right _ h)))⟩)⟩) (by decide +kernel)
set_option maxRecDepth 20000 in
theorem gX1_readItems_X1_readItem : GoodIn wsX1_readItems (wsV RX1 35 RX1 yX1_readItem wsX1_readItem) := goodIn_app (goodIn_sub (List.forall_mem_cons.mpr ⟨List.mem_of_getElem? (i := 29) rfl, List.forall_mem_cons.mpr ⟨List.mem_of_getElem? (i := 30) rfl, List.forall_mem_cons.mpr ⟨List.mem_of_getElem? (i := 31) rfl, List.forall_mem_cons.mpr ⟨List.mem_of_getElem? (i := 6) rfl, fun _ h => absurd h List.not_mem_nil⟩⟩⟩⟩) (by decide +kernel)) ggX1_readItems_X1_readItem
theorem dX1_readItems_0 : decode cX1_readItems 0 = .ok (.aload_n 0, 1) := by decide +kernel
theorem dX1_readItems_1 : decode cX1_readItems 1 = .ok (.invokevirtual 30, 3) := by decide +kernel
theorem dX1_readItems_4 : decode cX1_readItems 4 = .ok (.iconst 1, 1) := by decide +kernel
theorem dX1_readItems_5 : decode cX1_readItems 5 = .ok (.istore_n 1, 1) := by decide +kernel
theorem dX1_readItems_6 : decode cX1_readItems 6 = .ok (.iload_n 1, 1) := by decide +kernel
theorem dX1_readItems_7 : decode cX1_readItems 7 = .ok (.bipush 120, 2) := by decide +kernel
theorem dX1_readItems_9 : decode cX1_readItems 9 = .ok (.if_icmp .gt 51, 3) := by decide +kernel
theorem dX1_readItems_12 : decode cX1_readItems 12 = .ok (.aload_n 0, 1) := by decide +kernel
theorem dX1_readItems_13 : decode cX1_readItems 13 = .ok (.invokevirtual 35, 3) := by decide +kernel
theorem dX1_readItems_16 : decode cX1_readItems 16 = .ok (.ifCond .ne 10, 3) := by decide +kernel
theorem dX1_readItems_19 : decode cX1_readItems 19 = .ok (.iconst (-1), 1) := by decide +kernel
theorem dX1_readItems_20 : decode cX1_readItems 20 = .ok (.aload_n 0, 1) := by decide +kernel
theorem dX1_readItems_21 : decode cX1_readItems 21 = .ok (.getfield 13, 3) := by decide +kernel
theorem dX1_readItems_24 : decode cX1_readItems 24 = .ok (.isub, 1) := by decide +kernel
theorem dX1_readItems_25 : decode cX1_readItems 25 = .ok (.ireturn, 1) := by decide +kernel
theorem dX1_readItems_26 : decode cX1_readItems 26 = .ok (.aload_n 0, 1) := by decide +kernel
theorem dX1_readItems_27 : decode cX1_readItems 27 = .ok (.getfield 9, 3) := by decide +kernel
theorem dX1_readItems_30 : decode cX1_readItems 30 = .ok (.ifCond .ne 5, 3) := by decide +kernel
theorem dX1_readItems_33 : decode cX1_readItems 33 = .ok (.iload_n 1, 1) := by decide +kernel
theorem dX1_readItems_34 : decode cX1_readItems 34 = .ok (.ireturn, 1) := by decide +kernel
theorem dX1_readItems_35 : decode cX1_readItems 35 = .ok (.aload_n 0, 1) := by decide +kernel
theorem dX1_readItems_36 : decode cX1_readItems 36 = .ok (.getfield 9, 3) := by decide +kernel
theorem dX1_readItems_39 : decode cX1_readItems 39 = .ok (.iconst 3, 1) := by decide +kernel
theorem dX1_readItems_40 : decode cX1_readItems 40 = .ok (.if_icmp .eq 10, 3) := by decide +kernel
theorem dX1_readItems_43 : decode cX1_readItems 43 = .ok (.iconst (-1), 1) := by decide +kernel
theorem dX1_readItems_44 : decode cX1_readItems 44 = .ok (.aload_n 0, 1) := by decide +kernel
theorem dX1_readItems_45 : decode cX1_readItems 45 = .ok (.getfield 13, 3) := by decide +kernel
theorem dX1_readItems_48 : decode cX1_readItems 48 = .ok (.isub, 1) := by decide +kernel
theorem dX1_readItems_49 : decode cX1_readItems 49 = .ok (.ireturn, 1) := by decide +kernel
theorem dX1_readItems_50 : decode cX1_readItems 50 = .ok (.aload_n 0, 1) := by decide +kernel
theorem dX1_readItems_51 : decode cX1_readItems 51 = .ok (.invokevirtual 30, 3) := by decide +kernel
theorem dX1_readItems_54 : decode cX1_readItems 54 = .ok (.iinc 1 1, 3) := by decide +kernel
theorem dX1_readItems_57 : decode cX1_readItems 57 = .ok (.goto (-51), 3) := by decide +kernel
theorem dX1_readItems_60 : decode cX1_readItems 60 = .ok (.iconst (-1), 1) := by decide +kernel
theorem dX1_readItems_61 : decode cX1_readItems 61 = .ok (.aload_n 0, 1) := by decide +kernel
theorem dX1_readItems_62 : decode cX1_readItems 62 = .ok (.getfield 13, 3) := by decide +kernel
theorem dX1_readItems_65 : decode cX1_readItems 65 = .ok (.isub, 1) := by decide +kernel
theorem dX1_readItems_66 : decode cX1_readItems 66 = .ok (.ireturn, 1) := by decide +kernel
set_option maxRecDepth 20000 in
theorem ggX1_readItem_X1_kindNamed : GoodIn wsX1_readItem wsX1_kindNamed := goodIn_sub (List.forall_mem_cons.mpr ⟨List.mem_of_getElem? (i := 9) rfl, (List.forall_mem_append.mpr ⟨(List.forall_mem_append.mpr ⟨(List.forall_mem_append.mpr ⟨(List.forall_mem_cons.mpr ⟨List.mem_of_getElem? (i := 10) rfl, List.forall_mem_cons.mpr ⟨List.mem_of_getElem? (i := 11) rfl, List.forall_mem_cons.mpr ⟨List.mem_of_getElem? (i := 12) rfl, List.forall_mem_cons.mpr ⟨List.mem_of_getElem? (i := 8) rfl, List.forall_mem_cons.mpr ⟨List.mem_of_getElem? (i := 13) rfl, List.forall_mem_cons.mpr ⟨List.mem_of_getElem? (i := 14) rfl, List.forall_mem_cons.mpr ⟨List.mem_of_getElem? (i := 15) rfl, List.forall_mem_cons.mpr ⟨List.mem_of_getElem? (i := 16) rfl, List.forall_mem_cons.mpr ⟨List.mem_of_getElem? (i := 17) rfl, List.forall_mem_cons.mpr ⟨List.mem_of_getElem? (i := 18) rfl, List.forall_mem_cons.mpr ⟨List.mem_of_getElem? (i := 19) rfl, List.forall_mem_cons.mpr ⟨List.mem_of_getElem? (i := 20) rfl, List.forall_mem_cons.mpr ⟨List.mem_of_getElem? (i := 21) rfl, List.forall_mem_cons.mpr ⟨List.mem_of_getElem? (i := 22) rfl, List.forall_mem_cons.mpr ⟨List.mem_of_getElem? (i := 23) rfl, List.forall_mem_cons.mpr ⟨List.mem_of_getElem? (i := 24) rfl, List.forall_mem_cons.mpr ⟨List.mem_of_getElem? (i := 25) rfl, List.forall_mem_cons.mpr ⟨List.mem_of_getElem? (i := 26) rfl, List.forall_mem_cons.mpr ⟨List.mem_of_getElem? (i := 27) rfl, List.forall_mem_cons.mpr ⟨List.mem_of_getElem? (i := 28) rfl, List.forall_mem_cons.mpr ⟨List.mem_of_getElem? (i := 29) rfl, List.forall_mem_cons.mpr ⟨List.mem_of_getElem? (i := 30) rfl, List.forall_mem_cons.mpr ⟨List.mem_of_getElem? (i := 31) rfl, List.forall_mem_cons.mpr ⟨List.mem_of_getElem? (i := 32) rfl, fun _ h => absurd h List.not_mem_nil⟩⟩⟩⟩⟩⟩⟩⟩⟩⟩⟩⟩⟩⟩⟩⟩⟩⟩⟩⟩⟩⟩⟩⟩), (List.forall_mem_append.mpr ⟨(List.forall_mem_cons.mpr ⟨List.mem_of_getElem? (i := 33) rfl, List.forall_mem_cons.mpr ⟨List.mem_of_getElem? (i := 34) rfl, List.forall_mem_cons.mpr ⟨List.mem_of_getElem? (i := 35) rfl, List.forall_mem_cons.mpr ⟨List.mem_of_getElem? (i := 36) rfl, List.forall_mem_cons.mpr ⟨List.mem_of_getElem? (i := 37) rfl, List.forall_mem_cons.mpr ⟨List.mem_of_getElem? (i := 38) rfl, List.forall_mem_cons.mpr ⟨List.mem_of_getElem? (i := 39) rfl, List.forall_mem_cons.mpr ⟨List.mem_of_getElem? (i := 40) rfl, List.forall_mem_cons.mpr ⟨List.mem_of_getElem? (i := 41) rfl, List.forall_mem_cons.mpr ⟨List.mem_of_getElem? (i := 42) rfl, List.forall_mem_cons.mpr ⟨List.mem_of_getElem? (i := 43) rfl, List.forall_mem_cons.mpr ⟨List.mem_of_getElem? (i := 44) rfl, List.forall_mem_cons.mpr ⟨List.mem_of_getElem? (i := 45) rfl, List.forall_mem_cons.mpr ⟨List.mem_of_getElem? (i := 46) rfl, List.forall_mem_cons.mpr ⟨List.mem_of_getElem? (i := 47) rfl, List.forall_mem_cons.mpr ⟨List.mem_of_getElem? (i := 48) rfl, List.forall_mem_cons.mpr ⟨List.mem_of_getElem? (i := 49) rfl, List.forall_mem_cons.mpr ⟨List.mem_of_getElem? (i := 50) rfl, List.forall_mem_cons.mpr ⟨List.mem_of_getElem? (i := 51) rfl, List.forall_mem_cons.mpr ⟨List.mem_of_getElem? (i := 52) rfl, List.forall_mem_cons.mpr ⟨List.mem_of_getElem? (i := 53) rfl, List.forall_mem_cons.mpr ⟨List.mem_of_getElem? (i := 54) rfl, List.forall_mem_cons.mpr ⟨List.mem_of_getElem? (i := 55) rfl, List.forall_mem_cons.mpr ⟨List.mem_of_getElem? (i := 56) rfl, fun _ h => absurd h List.not_mem_nil⟩⟩⟩⟩⟩⟩⟩⟩⟩⟩⟩⟩⟩⟩⟩⟩⟩⟩⟩⟩⟩⟩⟩⟩), (List.forall_mem_cons.mpr ⟨List.mem_of_getElem? (i := 57) rfl, List.forall_mem_cons.mpr ⟨List.mem_of_getElem? (i := 58) rfl, List.forall_mem_cons.mpr ⟨List.mem_of_getElem? (i := 59) rfl, List.forall_mem_cons.mpr ⟨List.mem_of_getElem? (i := 60) rfl, List.forall_mem_cons.mpr ⟨List.mem_of_getElem? (i := 61) rfl, List.forall_mem_cons.mpr ⟨List.mem_of_getElem? (i := 62) rfl, List.forall_mem_cons.mpr ⟨List.mem_of_getElem? (i := 63) rfl, List.forall_mem_cons.mpr ⟨List.mem_of_getElem? (i := 64) rfl, List.forall_mem_cons.mpr ⟨List.mem_of_getElem? (i := 65) rfl, List.forall_mem_cons.mpr ⟨List.mem_of_getElem? (i := 66) rfl, List.forall_mem_cons.mpr ⟨List.mem_of_getElem? (i := 67) rfl, List.forall_mem_cons.mpr ⟨List.mem_of_getElem? (i := 68) rfl, List.forall_mem_cons.mpr ⟨List.mem_of_getElem? (i := 69) rfl, List.forall_mem_cons.mpr ⟨List.mem_of_getElem? (i := 70) rfl, List.forall_mem_cons.mpr ⟨List.mem_of_getElem? (i := 71) rfl, List.forall_mem_cons.mpr ⟨List.mem_of_getElem? (i := 72) rfl, List.forall_mem_cons.mpr ⟨List.mem_of_getElem? (i := 73) rfl, fun _ h => absurd h List.not_mem_nil⟩⟩⟩⟩⟩⟩⟩⟩⟩⟩⟩⟩⟩⟩⟩⟩⟩)⟩)⟩), (fun _ h => List.mem_cons_of_mem _ (List.mem_append_left _ (List.mem_append_left _ (List.mem_append_right _ h))))⟩), (fun _ h => List.mem_cons_of_mem _ (List.mem_append_right _ h))⟩)⟩) (by decide +kernel)
set_option maxRecDepth 20000 in
theorem gX1_readItem_X1_kindNamed : GoodIn wsX1_readItem (wsV RX1 39 RX1 yX1_kindNamed wsX1_kindNamed) := goodIn_app (goodIn_sub (List.forall_mem_cons.mpr ⟨List.mem_of_getElem? (i := 5) rfl, List.forall_mem_cons.mpr ⟨List.mem_of_getElem? (i := 6) rfl, List.forall_mem_cons.mpr ⟨List.mem_of_getElem? (i := 7) rfl, List.forall_mem_cons.mpr ⟨List.mem_of_getElem? (i := 8) rfl, fun _ h => absurd h List.not_mem_nil⟩⟩⟩⟩) (by decide +kernel)) ggX1_readItem_X1_kindNamed
set_option maxRecDepth 20000 in
theorem ggX1_readItem_X1_readPerson : GoodIn wsX1_readItem wsX1_readPerson := goodIn_sub (List.forall_mem_cons.mpr ⟨List.mem_of_getElem? (i := 77) rfl, (List.forall_mem_append.mpr ⟨(List.forall_mem_append.mpr ⟨(List.forall_mem_append.mpr ⟨(List.forall_mem_append.mpr ⟨(List.forall_mem_cons.mpr ⟨List.mem_of_getElem? (i := 1) rfl, List.forall_mem_cons.mpr ⟨List.mem_of_getElem? (i := 78) rfl, List.forall_mem_cons.mpr ⟨List.mem_of_getElem? (i := 79) rfl, List.forall_mem_cons.mpr ⟨List.mem_of_getElem? (i := 80) rfl, List.forall_mem_cons.mpr ⟨List.mem_of_getElem? (i := 81) rfl, List.forall_mem_cons.mpr ⟨List.mem_of_getElem? (i := 82) rfl, List.forall_mem_cons.mpr ⟨List.mem_of_getElem? (i := 83) rfl, List.forall_mem_cons.mpr ⟨List.mem_of_getElem? (i := 84) rfl, List.forall_mem_cons.mpr ⟨List.mem_of_getElem? (i := 85) rfl, List.forall_mem_cons.mpr ⟨List.mem_of_getElem? (i := 86) rfl, List.forall_mem_cons.mpr ⟨List.mem_of_getElem? (i := 87) rfl, List.forall_mem_cons.mpr ⟨List.mem_of_getElem? (i := 88) rfl, List.forall_mem_cons.mpr ⟨List.mem_of_getElem? (i := 89) rfl, List.forall_mem_cons.mpr ⟨List.mem_of_getElem? (i := 90) rfl, List.forall_mem_cons.mpr ⟨List.mem_of_getElem? (i := 91) rfl, List.forall_mem_cons.mpr ⟨List.mem_of_getElem? (i := 92) rfl, List.forall_mem_cons.mpr ⟨List.mem_of_getElem? (i := 93) rfl, List.forall_mem_cons.mpr ⟨List.mem_of_getElem? (i := 94) rfl, List.forall_mem_cons.mpr ⟨List.mem_of_getElem? (i := 95) rfl, List.forall_mem_cons.mpr ⟨List.mem_of_getElem? (i := 96) rfl, List.forall_mem_cons.mpr ⟨List.mem_of_getElem? (i := 97) rfl, List.forall_mem_cons.mpr ⟨List.mem_of_getElem? (i := 98) rfl, List.forall_mem_cons.mpr ⟨List.mem_of_getElem? (i := 8) rfl, List.forall_mem_cons.mpr ⟨List.mem_of_getElem? (i := 99) rfl, fun _ h => absurd h List.not_mem_nil⟩⟩⟩⟩⟩⟩⟩⟩⟩⟩⟩⟩⟩⟩⟩⟩⟩⟩⟩⟩⟩⟩⟩⟩), (List.forall_mem_append.mpr ⟨(List.forall_mem_cons.mpr ⟨List.mem_of_getElem? (i := 15) rfl, List.forall_mem_cons.mpr ⟨List.mem_of_getElem? (i := 16) rfl, List.forall_mem_cons.mpr ⟨List.mem_of_getElem? (i := 17) rfl, List.forall_mem_cons.mpr ⟨List.mem_of_getElem? (i := 100) rfl, List.forall_mem_cons.mpr ⟨List.mem_of_getElem? (i := 14) rfl, List.forall_mem_cons.mpr ⟨List.mem_of_getElem? (i := 2) rfl, List.forall_mem_cons.mpr ⟨List.mem_of_getElem? (i := 101) rfl, List.forall_mem_cons.mpr ⟨List.mem_of_getElem? (i := 102) rfl, List.forall_mem_cons.mpr ⟨List.mem_of_getElem? (i := 103) rfl, List.forall_mem_cons.mpr ⟨List.mem_of_getElem? (i := 104) rfl, List.forall_mem_cons.mpr ⟨List.mem_of_getElem? (i := 30) rfl, List.forall_mem_cons.mpr ⟨List.mem_of_getElem? (i := 31) rfl, List.forall_mem_cons.mpr ⟨List.mem_of_getElem? (i := 32) rfl, List.forall_mem_cons.mpr ⟨List.mem_of_getElem? (i := 33) rfl, List.forall_mem_cons.mpr ⟨List.mem_of_getElem? (i := 34) rfl, List.forall_mem_cons.mpr ⟨List.mem_of_getElem? (i := 35) rfl, List.forall_mem_cons.mpr ⟨List.mem_of_getElem? (i := 36) rfl, List.forall_mem_cons.mpr ⟨List.mem_of_getElem? (i := 105) rfl, List.forall_mem_cons.mpr ⟨List.mem_of_getElem? (i := 106) rfl, List.forall_mem_cons.mpr ⟨List.mem_of_getElem? (i := 107) rfl, List.forall_mem_cons.mpr ⟨List.mem_of_getElem? (i := 108) rfl, List.forall_mem_cons.mpr ⟨List.mem_of_getElem? (i := 109) rfl, List.forall_mem_cons.mpr ⟨List.mem_of_getElem? (i := 110) rfl, List.forall_mem_cons.mpr ⟨List.mem_of_getElem? (i := 111) rfl, fun _ h => absurd h List.not_mem_nil⟩⟩⟩⟩⟩⟩⟩⟩⟩⟩⟩⟩⟩⟩⟩⟩⟩⟩⟩⟩⟩⟩⟩⟩), (List.forall_mem_append.mpr ⟨(List.forall_mem_cons.mpr ⟨List.mem_of_getElem? (i := 112) rfl, List.forall_mem_cons.mpr ⟨List.mem_of_getElem? (i := 113) rfl, List.forall_mem_cons.mpr ⟨List.mem_of_getElem? (i := 114) rfl, List.forall_mem_cons.mpr ⟨List.mem_of_getElem? (i := 10) rfl, List.forall_mem_cons.mpr ⟨List.mem_of_getElem? (i := 11) rfl, List.forall_mem_cons.mpr ⟨List.mem_of_getElem? (i := 12) rfl, List.forall_mem_cons.mpr ⟨List.mem_of_getElem? (i := 13) rfl, List.forall_mem_cons.mpr ⟨List.mem_of_getElem? (i := 18) rfl, List.forall_mem_cons.mpr ⟨List.mem_of_getElem? (i := 19) rfl, List.forall_mem_cons.mpr ⟨List.mem_of_getElem? (i := 20) rfl, List.forall_mem_cons.mpr ⟨List.mem_of_getElem? (i := 21) rfl, List.forall_mem_cons.mpr ⟨List.mem_of_getElem? (i := 22) rfl, List.forall_mem_cons.mpr ⟨List.mem_of_getElem? (i := 23) rfl, List.forall_mem_cons.mpr ⟨List.mem_of_getElem? (i := 24) rfl, List.forall_mem_cons.mpr ⟨List.mem_of_getElem? (i := 25) rfl, List.forall_mem_cons.mpr ⟨List.mem_of_getElem? (i := 26) rfl, List.forall_mem_cons.mpr ⟨List.mem_of_getElem? (i := 27) rfl, List.forall_mem_cons.mpr ⟨List.mem_of_getElem? (i := 28) rfl, List.forall_mem_cons.mpr ⟨List.mem_of_getElem? (i := 29) rfl, List.forall_mem_cons.mpr ⟨List.mem_of_getElem? (i := 37) rfl, List.forall_mem_cons.mpr ⟨List.mem_of_getElem? (i := 38) rfl, List.forall_mem_cons.mpr ⟨List.mem_of_getElem? (i := 39) rfl, List.forall_mem_cons.mpr ⟨List.mem_of_getElem? (i := 40) rfl, List.forall_mem_cons.mpr ⟨List.mem_of_getElem? (i := 41) rfl, fun _ h => absurd h List.not_mem_nil⟩⟩⟩⟩⟩⟩⟩⟩⟩⟩⟩⟩⟩⟩⟩⟩⟩⟩⟩⟩⟩⟩⟩⟩), (List.forall_mem_append.mpr ⟨(List.forall_mem_cons.mpr ⟨List.mem_of_getElem? (i := 42) rfl, List.forall_mem_cons.mpr ⟨List.mem_of_getElem? (i := 43) rfl, List.forall_mem_cons.mpr ⟨List.mem_of_getElem? (i := 44) rfl, List.forall_mem_cons.mpr ⟨List.mem_of_getElem? (i := 45) rfl, List.forall_mem_cons.mpr ⟨List.mem_of_getElem? (i := 46) rfl, List.forall_mem_cons.mpr ⟨List.mem_of_getElem? (i := 47) rfl, List.forall_mem_cons.mpr ⟨List.mem_of_getElem? (i := 48) rfl, List.forall_mem_cons.mpr ⟨List.mem_of_getElem? (i := 49) rfl, List.forall_mem_cons.mpr ⟨List.mem_of_getElem? (i := 50) rfl, List.forall_mem_cons.mpr ⟨List.mem_of_getElem? (i := 51) rfl, List.forall_mem_cons.mpr ⟨List.mem_of_getElem? (i := 52) rfl, List.forall_mem_cons.mpr ⟨List.mem_of_getElem? (i := 53) rfl, List.forall_mem_cons.mpr ⟨List.mem_of_getElem? (i := 54) rfl, List.forall_mem_cons.mpr ⟨List.mem_of_getElem? (i := 55) rfl, List.forall_mem_cons.mpr ⟨List.mem_of_getElem? (i := 56) rfl, List.forall_mem_cons.mpr ⟨List.mem_of_getElem? (i := 57) rfl, List.forall_mem_cons.mpr ⟨List.mem_of_getElem? (i := 58) rfl, List.forall_mem_cons.mpr ⟨List.mem_of_getElem? (i := 59) rfl, List.forall_mem_cons.mpr ⟨List.mem_of_getElem? (i := 60) rfl, List.forall_mem_cons.mpr ⟨List.mem_of_getElem? (i := 61) rfl, List.forall_mem_cons.mpr ⟨List.mem_of_getElem? (i := 62) rfl, List.forall_mem_cons.mpr ⟨List.mem_of_getElem? (i := 63) rfl, List.forall_mem_cons.mpr ⟨List.mem_of_getElem? (i := 64) rfl, List.forall_mem_cons.mpr ⟨List.mem_of_getElem? (i := 65) rfl, fun _ h => absurd h List.not_mem_nil⟩⟩⟩⟩⟩⟩⟩⟩⟩⟩⟩⟩⟩⟩⟩⟩⟩⟩⟩⟩⟩⟩⟩⟩), (List.forall_mem_cons.mpr ⟨List.mem_of_getElem? (i := 66) rfl, List.forall_mem_cons.mpr ⟨List.mem_of_getElem? (i := 67) rfl, List.forall_mem_cons.mpr ⟨List.mem_of_getElem? (i := 68) rfl, List.forall_mem_cons.mpr ⟨List.mem_of_getElem? (i := 69) rfl, List.forall_mem_cons.mpr ⟨List.mem_of_getElem? (i := 70) rfl, List.forall_mem_cons.mpr ⟨List.mem_of_getElem? (i := 71) rfl, List.forall_mem_cons.mpr ⟨List.mem_of_getElem? (i := 72) rfl, List.forall_mem_cons.mpr ⟨List.mem_of_getElem? (i := 73) rfl, List.forall_mem_cons.mpr ⟨List.mem_of_getElem? (i := 115) rfl, List.forall_mem_cons.mpr ⟨List.mem_of_getElem? (i := 116) rfl, List.forall_mem_cons.mpr ⟨List.mem_of_getElem? (i := 117) rfl, List.forall_mem_cons.mpr ⟨List.mem_of_getElem? (i := 118) rfl, fun _ h => absurd h List.not_mem_nil⟩⟩⟩⟩⟩⟩⟩⟩⟩⟩⟩⟩)⟩)⟩)⟩)⟩), (fun _ h => List.mem_cons_of_mem _ (List.mem_append_left _ (List.mem_append_left _ (List.mem_append_right _ h))))⟩), (fun _ h => List.mem_cons_of_mem _ (List.mem_append_left _ (List.mem_append_right _ h)))⟩), (fun _ h => List.mem_cons_of_mem _ (List.mem_append_right _ h))⟩)⟩) (by decide +kernel)
set_option maxRecDepth 20000 in
theorem gX1_readItem_X1_readPerson : GoodIn wsX1_readItem (wsV RX1 43 RX1 yX1_readPerson wsX1_readPerson) := goodIn_app (goodIn_sub (List.forall_mem_cons.mpr ⟨List.mem_of_getElem? (i := 74) rfl, List.forall_mem_cons.mpr ⟨List.mem_of_getElem? (i := 75) rfl, List.forall_mem_cons.mpr ⟨List.mem_of_getElem? (i := 76) rfl, List.forall_mem_cons.mpr ⟨List.mem_of_getElem? (i := 8) rfl, fun _ h => absurd h List.not_mem_nil⟩⟩⟩⟩) (by decide +kernel)) ggX1_readItem_X1_readPerson
set_option maxRecDepth 20000 in
theorem ggX1_readItem_X1_isWord : GoodIn wsX1_readItem wsX1_isWord := goodIn_sub (List.forall_mem_cons.mpr ⟨List.mem_of_getElem? (i := 13) rfl, (List.forall_mem_append.mpr ⟨(List.forall_mem_append.mpr ⟨(List.forall_mem_append.mpr ⟨(List.forall_mem_cons.mpr ⟨List.mem_of_getElem? (i := 14) rfl, List.forall_mem_cons.mpr ⟨List.mem_of_getElem? (i := 15) rfl, List.forall_mem_cons.mpr ⟨List.mem_of_getElem? (i := 16) rfl, List.forall_mem_cons.mpr ⟨List.mem_of_getElem? (i := 17) rfl, List.forall_mem_cons.mpr ⟨List.mem_of_getElem? (i := 18) rfl, List.forall_mem_cons.mpr ⟨List.mem_of_getElem? (i := 19) rfl, List.forall_mem_cons.mpr ⟨List.mem_of_getElem? (i := 20) rfl, List.forall_mem_cons.mpr ⟨List.mem_of_getElem? (i := 21) rfl, List.forall_mem_cons.mpr ⟨List.mem_of_getElem? (i := 22) rfl, List.forall_mem_cons.mpr ⟨List.mem_of_getElem? (i := 23) rfl, List.forall_mem_cons.mpr ⟨List.mem_of_getElem? (i := 24) rfl, List.forall_mem_cons.mpr ⟨List.mem_of_getElem? (i := 25) rfl, List.forall_mem_cons.mpr ⟨List.mem_of_getElem? (i := 26) rfl, List.forall_mem_cons.mpr ⟨List.mem_of_getElem? (i := 27) rfl, List.forall_mem_cons.mpr ⟨List.mem_of_getElem? (i := 28) rfl, List.forall_mem_cons.mpr ⟨List.mem_of_getElem? (i := 29) rfl, List.forall_mem_cons.mpr ⟨List.mem_of_getElem? (i := 30) rfl, List.forall_mem_cons.mpr ⟨List.mem_of_getElem? (i := 31) rfl, List.forall_mem_cons.mpr ⟨List.mem_of_getElem? (i := 32) rfl, List.forall_mem_cons.mpr ⟨List.mem_of_getElem? (i := 33) rfl, List.forall_mem_cons.mpr ⟨List.mem_of_getElem? (i := 34) rfl, List.forall_mem_cons.mpr ⟨List.mem_of_getElem? (i := 35) rfl, List.forall_mem_cons.mpr ⟨List.mem_of_getElem? (i := 36) rfl, List.forall_mem_cons.mpr ⟨List.mem_of_getElem? (i := 37) rfl, fun _ h => absurd h List.not_mem_nil⟩⟩⟩⟩⟩⟩⟩⟩⟩⟩⟩⟩⟩⟩⟩⟩⟩⟩⟩⟩⟩⟩⟩⟩), (List.forall_mem_append.mpr ⟨(List.forall_mem_cons.mpr ⟨List.mem_of_getElem? (i := 38) rfl, List.forall_mem_cons.mpr ⟨List.mem_of_getElem? (i := 39) rfl, List.forall_mem_cons.mpr ⟨List.mem_of_getElem? (i := 40) rfl, List.forall_mem_cons.mpr ⟨List.mem_of_getElem? (i := 41) rfl, List.forall_mem_cons.mpr ⟨List.mem_of_getElem? (i := 42) rfl, List.forall_mem_cons.mpr ⟨List.mem_of_getElem? (i := 43) rfl, List.forall_mem_cons.mpr ⟨List.mem_of_getElem? (i := 44) rfl, List.forall_mem_cons.mpr ⟨List.mem_of_getElem? (i := 45) rfl, List.forall_mem_cons.mpr ⟨List.mem_of_getElem? (i := 46) rfl, List.forall_mem_cons.mpr ⟨List.mem_of_getElem? (i := 47) rfl, List.forall_mem_cons.mpr ⟨List.mem_of_getElem? (i := 48) rfl, List.forall_mem_cons.mpr ⟨List.mem_of_getElem? (i := 49) rfl, List.forall_mem_cons.mpr ⟨List.mem_of_getElem? (i := 50) rfl, List.forall_mem_cons.mpr ⟨List.mem_of_getElem? (i := 51) rfl, List.forall_mem_cons.mpr ⟨List.mem_of_getElem? (i := 52) rfl, List.forall_mem_cons.mpr ⟨List.mem_of_getElem? (i := 53) rfl, List.forall_mem_cons.mpr ⟨List.mem_of_getElem? (i := 54) rfl, List.forall_mem_cons.mpr ⟨List.mem_of_getElem? (i := 55) rfl, List.forall_mem_cons.mpr ⟨List.mem_of_getElem? (i := 56) rfl, List.forall_mem_cons.mpr ⟨List.mem_of_getElem? (i := 57) rfl, List.forall_mem_cons.mpr ⟨List.mem_of_getElem? (i := 58) rfl, List.forall_mem_cons.mpr ⟨List.mem_of_getElem? (i := 59) rfl, List.forall_mem_cons.mpr ⟨List.mem_of_getElem? (i := 60) rfl, List.forall_mem_cons.mpr ⟨List.mem_of_getElem? (i := 61) rfl, fun _ h => absurd h List.not_mem_nil⟩⟩⟩⟩⟩⟩⟩⟩⟩⟩⟩⟩⟩⟩⟩⟩⟩⟩⟩⟩⟩⟩⟩⟩), (List.forall_mem_cons.mpr ⟨List.mem_of_getElem? (i := 62) rfl, List.forall_mem_cons.mpr ⟨List.mem_of_getElem? (i := 63) rfl, List.forall_mem_cons.mpr ⟨List.mem_of_getElem? (i := 64) rfl, List.forall_mem_cons.mpr ⟨List.mem_of_getElem? (i := 65) rfl, List.forall_mem_cons.mpr ⟨List.mem_of_getElem? (i := 66) rfl, List.forall_mem_cons.mpr ⟨List.mem_of_getElem? (i := 67) rfl, List.forall_mem_cons.mpr ⟨List.mem_of_getElem? (i := 68) rfl, List.forall_mem_cons.mpr ⟨List.mem_of_getElem? (i := 69) rfl, List.forall_mem_cons.mpr ⟨List.mem_of_getElem? (i := 70) rfl, List.forall_mem_cons.mpr ⟨List.mem_of_getElem? (i := 71) rfl, List.forall_mem_cons.mpr ⟨List.mem_of_getElem? (i := 72) rfl, List.forall_mem_cons.mpr ⟨List.mem_of_getElem? (i := 73) rfl, fun _ h => absurd h List.not_mem_nil⟩⟩⟩⟩⟩⟩⟩⟩⟩⟩⟩⟩)⟩)⟩), (fun _ h => List.mem_cons_of_mem _ (List.mem_append_left _ (List.mem_append_left _ (List.mem_append_right _ h))))⟩), (fun _ h => List.mem_cons_of_mem _ (List.mem_append_right _ h))⟩)⟩) (by decide +kernel)
set_option maxRecDepth 20000 in
theorem gX1_readItem_X1_isWord : GoodIn wsX1_readItem (wsV RX1 49 RX1 yX1_isWord wsX1_isWord) := goodIn_app (goodIn_sub (List.forall_mem_cons.mpr ⟨List.mem_of_getElem? (i := 10) rfl, List.forall_mem_cons.mpr ⟨List.mem_of_getElem? (i := 11) rfl, List.forall_mem_cons.mpr ⟨List.mem_of_getElem? (i := 12) rfl, List.forall_mem_cons.mpr ⟨List.mem_of_getElem? (i := 8) rfl, fun _ h => absurd h List.not_mem_nil⟩⟩⟩⟩) (by decide +kernel)) ggX1_readItem_X1_isWord
set_option maxRecDepth 20000 in
theorem ggX1_readItem_X1_advance : GoodIn wsX1_readItem wsX1_advance := goodIn_sub (List.forall_mem_cons.mpr ⟨List.mem_of_getElem? (i := 99) rfl, (List.forall_mem_append.mpr ⟨(List.forall_mem_append.mpr ⟨(List.forall_mem_cons.mpr ⟨List.mem_of_getElem? (i := 15) rfl, List.forall_mem_cons.mpr ⟨List.mem_of_getElem? (i := 16) rfl, List.forall_mem_cons.mpr ⟨List.mem_of_getElem? (i := 17) rfl, List.forall_mem_cons.mpr ⟨List.mem_of_getElem? (i := 100) rfl, List.forall_mem_cons.mpr ⟨List.mem_of_getElem? (i := 14) rfl, List.forall_mem_cons.mpr ⟨List.mem_of_getElem? (i := 2) rfl, List.forall_mem_cons.mpr ⟨List.mem_of_getElem? (i := 101) rfl, List.forall_mem_cons.mpr ⟨List.mem_of_getElem? (i := 102) rfl, List.forall_mem_cons.mpr ⟨List.mem_of_getElem? (i := 103) rfl, List.forall_mem_cons.mpr ⟨List.mem_of_getElem? (i := 104) rfl, List.forall_mem_cons.mpr ⟨List.mem_of_getElem? (i := 30) rfl, List.forall_mem_cons.mpr ⟨List.mem_of_getElem? (i := 31) rfl, List.forall_mem_cons.mpr ⟨List.mem_of_getElem? (i := 32) rfl, List.forall_mem_cons.mpr ⟨List.mem_of_getElem? (i := 33) rfl, List.forall_mem_cons.mpr ⟨List.mem_of_getElem? (i := 34) rfl, List.forall_mem_cons.mpr ⟨List.mem_of_getElem? (i := 35) rfl, List.forall_mem_cons.mpr ⟨List.mem_of_getElem? (i := 36) rfl, List.forall_mem_cons.mpr ⟨List.mem_of_getElem? (i := 105) rfl, List.forall_mem_cons.mpr ⟨List.mem_of_getElem? (i := 106) rfl, List.forall_mem_cons.mpr ⟨List.mem_of_getElem? (i := 8) rfl, List.forall_mem_cons.mpr ⟨List.mem_of_getElem? (i := 107) rfl, List.forall_mem_cons.mpr ⟨List.mem_of_getElem? (i := 108) rfl, List.forall_mem_cons.mpr ⟨List.mem_of_getElem? (i := 109) rfl, List.forall_mem_cons.mpr ⟨List.mem_of_getElem? (i := 110) rfl, fun _ h => absurd h List.not_mem_nil⟩⟩⟩⟩⟩⟩⟩⟩⟩⟩⟩⟩⟩⟩⟩⟩⟩⟩⟩⟩⟩⟩⟩⟩), (fun _ h => List.mem_cons_of_mem _ (List.mem_append_left _ (List.mem_append_left _ (List.mem_append_right _ h))))⟩), (fun _ h => List.mem_cons_of_mem _ (List.mem_append_right _ h))⟩)⟩) (by decide +kernel)
set_option maxRecDepth 20000 in
theorem gX1_readItem_X1_advance : GoodIn wsX1_readItem (wsV RX1 30 RX1 yX1_advance wsX1_advance) := goodIn_app (goodIn_sub (List.forall_mem_cons.mpr ⟨List.mem_of_getElem? (i := 96) rfl, List.forall_mem_cons.mpr ⟨List.mem_of_getElem? (i := 97) rfl, List.forall_mem_cons.mpr ⟨List.mem_of_getElem? (i := 98) rfl, List.forall_mem_cons.mpr ⟨List.mem_of_getElem? (i := 8) rfl, fun _ h => absurd h List.not_mem_nil⟩⟩⟩⟩) (by decide +kernel)) ggX1_readItem_X1_advance
set_option maxRecDepth 20000 in
theorem ggX1_readItem_X1_isNumber : GoodIn wsX1_readItem wsX1_isNumber := goodIn_sub (List.forall_mem_cons.mpr ⟨List.mem_of_getElem? (i := 118) rfl, (List.forall_mem_append.mpr ⟨(List.forall_mem_cons.mpr ⟨List.mem_of_getElem? (i := 14) rfl, List.forall_mem_cons.mpr ⟨List.mem_of_getElem? (i := 2) rfl, fun _ h => absurd h List.not_mem_nil⟩⟩), (fun _ h => List.mem_cons_of_mem _ (List.mem_append_left _ (List.mem_append_left _ (List.mem_append_right _ h))))⟩)⟩) (by decide +kernel)
set_option maxRecDepth 20000 in
theorem gX1_readItem_X1_isNumber : GoodIn wsX1_readItem (wsV RX1 57 RX1 yX1_isNumber wsX1_isNumber) := goodIn_app (goodIn_sub (List.forall_mem_cons.mpr ⟨List.mem_of_getElem? (i := 115) rfl, List.forall_mem_cons.mpr ⟨List.mem_of_getElem? (i := 116) rfl, List.forall_mem_cons.mpr ⟨List.mem_of_getElem? (i := 117) rfl, List.forall_mem_cons.mpr ⟨List.mem_of_getElem? (i := 8) rfl, fun _ h => absurd h List.not_mem_nil⟩⟩⟩⟩) (by decide +kernel)) ggX1_readItem_X1_isNumber
theorem dX1_readItem_0 : decode cX1_readItem 0 = .ok (.aload_n 0, 1) := by decide +kernel
theorem dX1_readItem_1 : decode cX1_readItem 1 = .ok (.invokevirtual 39, 3) := by decide +kernel
theorem dX1_readItem_4 : decode cX1_readItem 4 = .ok (.istore_n 1, 1) := by decide +kernel
theorem dX1_readItem_5 : decode cX1_readItem 5 = .ok (.iload_n 1, 1) := by decide +kernel
theorem dX1_readItem_6 : decode cX1_readItem 6 = .ok (.ifCond .lt 9, 3) := by decide +kernel
theorem dX1_readItem_9 : decode cX1_readItem 9 = .ok (.aload_n 0, 1) := by decide +kernel
theorem dX1_readItem_10 : decode cX1_readItem 10 = .ok (.iload_n 1, 1) := by decide +kernel
theorem dX1_readItem_11 : decode cX1_readItem 11 = .ok (.invokevirtual 43, 3) := by decide +kernel
theorem dX1_readItem_14 : decode cX1_readItem 14 = .ok (.ireturn, 1) := by decide +kernel
theorem dX1_readItem_15 : decode cX1_readItem 15 = .ok (.aload_n 0, 1) := by decide +kernel
theorem dX1_readItem_16 : decode cX1_readItem 16 = .ok (.ldc 47, 2) := by decide +kernel
theorem dX1_readItem_18 : decode cX1_readItem 18 = .ok (.invokevirtual 49, 3) := by decide +kernel
theorem dX1_readItem_21 : decode cX1_readItem 21 = .ok (.istore_n 2, 1) := by decide +kernel
theorem dX1_readItem_22 : decode cX1_readItem 22 = .ok (.iload_n 2, 1) := by decide +kernel
theorem dX1_readItem_23 : decode cX1_readItem 23 = .ok (.ifCond .ne 14, 3) := by decide +kernel
theorem dX1_readItem_26 : decode cX1_readItem 26 = .ok (.aload_n 0, 1) := by decide +kernel
theorem dX1_readItem_27 : decode cX1_readItem 27 = .ok (.ldc 53, 2) := by decide +kernel
theorem dX1_readItem_29 : decode cX1_readItem 29 = .ok (.invokevirtual 49, 3) := by decide +kernel
theorem dX1_readItem_32 : decode cX1_readItem 32 = .ok (.ifCond .ne 5, 3) := by decide +kernel
theorem dX1_readItem_35 : decode cX1_readItem 35 = .ok (.iconst 0, 1) := by decide +kernel
theorem dX1_readItem_36 : decode cX1_readItem 36 = .ok (.ireturn, 1) := by decide +kernel
theorem dX1_readItem_37 : decode cX1_readItem 37 = .ok (.aload_n 0, 1) := by decide +kernel
theorem dX1_readItem_38 : decode cX1_readItem 38 = .ok (.invokevirtual 30, 3) := by decide +kernel
theorem dX1_readItem_41 : decode cX1_readItem 41 = .ok (.aload_n 0, 1) := by decide +kernel
theorem dX1_readItem_42 : decode cX1_readItem 42 = .ok (.iload_n 2, 1) := by decide +kernel
theorem dX1_readItem_43 : decode cX1_readItem 43 = .ok (.ifCond .eq 9, 3) := by decide +kernel
theorem dX1_readItem_46 : decode cX1_readItem 46 = .ok (.sipush 999, 3) := by decide +kernel
theorem dX1_readItem_49 : decode cX1_readItem 49 = .ok (.goto 5, 3) := by decide +kernel
theorem dX1_readItem_52 : decode cX1_readItem 52 = .ok (.bipush 99, 2) := by decide +kernel
theorem dX1_readItem_54 : decode cX1_readItem 54 = .ok (.invokevirtual 57, 3) := by decide +kernel
theorem dX1_readItem_57 : decode cX1_readItem 57 = .ok (.ifCond .ne 5, 3) := by decide +kernel
theorem dX1_readItem_60 : decode cX1_readItem 60 = .ok (.iconst 0, 1) := by decide +kernel
theorem dX1_readItem_61 : decode cX1_readItem 61 = .ok (.ireturn, 1) := by decide +kernel
theorem dX1_readItem_62 : decode cX1_readItem 62 = .ok (.iload_n 2, 1) := by decide +kernel
theorem dX1_readItem_63 : decode cX1_readItem 63 = .ok (.ifCond .eq 17, 3) := by decide +kernel
theorem dX1_readItem_66 : decode cX1_readItem 66 = .ok (.aload_n 0, 1) := by decide +kernel
theorem dX1_readItem_67 : decode cX1_readItem 67 = .ok (.getfield 26, 3) := by decide +kernel
theorem dX1_readItem_70 : decode cX1_readItem 70 = .ok (.aload_n 0, 1) := by decide +kernel
theorem dX1_readItem_71 : decode cX1_readItem 71 = .ok (.getfield 19, 3) := by decide +kernel
theorem dX1_readItem_74 : decode cX1_readItem 74 = .ok (.putfield 60, 3) := by decide +kernel
theorem dX1_readItem_77 : decode cX1_readItem 77 = .ok (.goto 14, 3) := by decide +kernel
theorem dX1_readItem_80 : decode cX1_readItem 80 = .ok (.aload_n 0, 1) := by decide +kernel
theorem dX1_readItem_81 : decode cX1_readItem 81 = .ok (.getfield 26, 3) := by decide +kernel
theorem dX1_readItem_84 : decode cX1_readItem 84 = .ok (.aload_n 0, 1) := by decide +kernel
theorem dX1_readItem_85 : decode cX1_readItem 85 = .ok (.getfield 19, 3) := by decide +kernel
theorem dX1_readItem_88 : decode cX1_readItem 88 = .ok (.putfield 62, 3) := by decide +kernel
theorem dX1_readItem_91 : decode cX1_readItem 91 = .ok (.aload_n 0, 1) := by decide +kernel
theorem dX1_readItem_92 : decode cX1_readItem 92 = .ok (.invokevirtual 30, 3) := by decide +kernel
theorem dX1_readItem_95 : decode cX1_readItem 95 = .ok (.iconst 1, 1) := by decide +kernel
theorem dX1_readItem_96 : decode cX1_readItem 96 = .ok (.ireturn, 1) := by decide +kernel
set_option maxRecDepth 20000 in
theorem ggX1_readPerson_X0_addOne : GoodIn wsX1_readPerson wsX0_addOne := goodIn_sub (List.forall_mem_cons.mpr ⟨List.mem_of_getElem? (i := 9) rfl, (List.forall_mem_append.mpr ⟨(List.forall_mem_cons.mpr ⟨List.mem_of_getElem? (i := 10) rfl, List.forall_mem_cons.mpr ⟨List.mem_of_getElem? (i := 11) rfl, List.forall_mem_cons.mpr ⟨List.mem_of_getElem? (i := 12) rfl, List.forall_mem_cons.mpr ⟨List.mem_of_getElem? (i := 13) rfl, List.forall_mem_cons.mpr ⟨List.mem_of_getElem? (i := 14) rfl, List.forall_mem_cons.mpr ⟨List.mem_of_getElem? (i := 15) rfl, List.forall_mem_cons.mpr ⟨List.mem_of_getElem? (i := 16) rfl, List.forall_mem_cons.mpr ⟨List.mem_of_getElem? (i := 17) rfl, List.forall_mem_cons.mpr ⟨List.mem_of_getElem? (i := 18) rfl, List.forall_mem_cons.mpr ⟨List.mem_of_getElem? (i := 8) rfl, List.forall_mem_cons.mpr ⟨List.mem_of_getElem? (i := 19) rfl, fun _ h => absurd h List.not_mem_nil⟩⟩⟩⟩⟩⟩⟩⟩⟩⟩⟩), (fun _ h => List.mem_cons_of_mem _ (List.mem_append_left _ (List.mem_append_right _ h)))⟩)⟩) (by decide +kernel)
set_option maxRecDepth 20000 in
theorem gX1_readPerson_X0_addOne : GoodIn wsX1_readPerson (wsV RX1 64 RX0 yX0_addOne wsX0_addOne) := goodIn_app (goodIn_sub (List.forall_mem_cons.mpr ⟨List.mem_of_getElem? (i := 5) rfl, List.forall_mem_cons.mpr ⟨List.mem_of_getElem? (i := 6) rfl, List.forall_mem_cons.mpr ⟨List.mem_of_getElem? (i := 7) rfl, List.forall_mem_cons.mpr ⟨List.mem_of_getElem? (i := 8) rfl, fun _ h => absurd h List.not_mem_nil⟩⟩⟩⟩) (by decide +kernel)) ggX1_readPerson_X0_addOne
set_option maxRecDepth 20000 in
theorem ggX1_readPerson_X1_advance : GoodIn wsX1_readPerson wsX1_advance := goodIn_sub (List.forall_mem_cons.mpr ⟨List.mem_of_getElem? (i := 24) rfl, (List.forall_mem_append.mpr ⟨(List.forall_mem_append.mpr ⟨(List.forall_mem_cons.mpr ⟨List.mem_of_getElem? (i := 25) rfl, List.forall_mem_cons.mpr ⟨List.mem_of_getElem? (i := 26) rfl, List.forall_mem_cons.mpr ⟨List.mem_of_getElem? (i := 27) rfl, List.forall_mem_cons.mpr ⟨List.mem_of_getElem? (i := 28) rfl, List.forall_mem_cons.mpr ⟨List.mem_of_getElem? (i := 29) rfl, List.forall_mem_cons.mpr ⟨List.mem_of_getElem? (i := 30) rfl, List.forall_mem_cons.mpr ⟨List.mem_of_getElem? (i := 31) rfl, List.forall_mem_cons.mpr ⟨List.mem_of_getElem? (i := 32) rfl, List.forall_mem_cons.mpr ⟨List.mem_of_getElem? (i := 33) rfl, List.forall_mem_cons.mpr ⟨List.mem_of_getElem? (i := 34) rfl, List.forall_mem_cons.mpr ⟨List.mem_of_getElem? (i := 35) rfl, List.forall_mem_cons.mpr ⟨List.mem_of_getElem? (i := 36) rfl, List.forall_mem_cons.mpr ⟨List.mem_of_getElem? (i := 37) rfl, List.forall_mem_cons.mpr ⟨List.mem_of_getElem? (i := 38) rfl, List.forall_mem_cons.mpr ⟨List.mem_of_getElem? (i := 39) rfl, List.forall_mem_cons.mpr ⟨List.mem_of_getElem? (i := 40) rfl, List.forall_mem_cons.mpr ⟨List.mem_of_getElem? (i := 41) rfl, List.forall_mem_cons.mpr ⟨List.mem_of_getElem? (i := 42) rfl, List.forall_mem_cons.mpr ⟨List.mem_of_getElem? (i := 43) rfl, List.forall_mem_cons.mpr ⟨List.mem_of_getElem? (i := 23) rfl, List.forall_mem_cons.mpr ⟨List.mem_of_getElem? (i := 44) rfl, List.forall_mem_cons.mpr ⟨List.mem_of_getElem? (i := 45) rfl, List.forall_mem_cons.mpr ⟨List.mem_of_getElem? (i := 46) rfl, List.forall_mem_cons.mpr ⟨List.mem_of_getElem? (i := 47) rfl, fun _ h => absurd h List.not_mem_nil⟩⟩⟩⟩⟩⟩⟩⟩⟩⟩⟩⟩⟩⟩⟩⟩⟩⟩⟩⟩⟩⟩⟩⟩), (fun _ h => List.mem_cons_of_mem _ (List.mem_append_left _ (List.mem_append_left _ (List.mem_append_right _ h))))⟩), (fun _ h => List.mem_cons_of_mem _ (List.mem_append_right _ h))⟩)⟩) (by decide +kernel)
set_option maxRecDepth 20000 in
theorem gX1_readPerson_X1_advance : GoodIn wsX1_readPerson (wsV RX1 30 RX1 yX1_advance wsX1_advance) := goodIn_app (goodIn_sub (List.forall_mem_cons.mpr ⟨List.mem_of_getElem? (i := 20) rfl, List.forall_mem_cons.mpr ⟨List.mem_of_getElem? (i := 21) rfl, List.forall_mem_cons.mpr ⟨List.mem_of_getElem? (i := 22) rfl, List.forall_mem_cons.mpr ⟨List.mem_of_getElem? (i := 23) rfl, fun _ h => absurd h List.not_mem_nil⟩⟩⟩⟩) (by decide +kernel)) ggX1_readPerson_X1_advance
set_option maxRecDepth 20000 in
theorem ggX1_readPerson_X1_readPerhaps : GoodIn wsX1_readPerson wsX1_readPerhaps := goodIn_sub (List.forall_mem_cons.mpr ⟨List.mem_of_getElem? (i := 51) rfl, (List.forall_mem_append.mpr ⟨(List.forall_mem_append.mpr ⟨(List.forall_mem_append.mpr ⟨(List.forall_mem_cons.mpr ⟨List.mem_of_getElem? (i := 30) rfl, List.forall_mem_cons.mpr ⟨List.mem_of_getElem? (i := 52) rfl, List.forall_mem_cons.mpr ⟨List.mem_of_getElem? (i := 53) rfl, List.forall_mem_cons.mpr ⟨List.mem_of_getElem? (i := 54) rfl, List.forall_mem_cons.mpr ⟨List.mem_of_getElem? (i := 23) rfl, List.forall_mem_cons.mpr ⟨List.mem_of_getElem? (i := 55) rfl, List.forall_mem_cons.mpr ⟨List.mem_of_getElem? (i := 29) rfl, List.forall_mem_cons.mpr ⟨List.mem_of_getElem? (i := 25) rfl, List.forall_mem_cons.mpr ⟨List.mem_of_getElem? (i := 26) rfl, List.forall_mem_cons.mpr ⟨List.mem_of_getElem? (i := 27) rfl, List.forall_mem_cons.mpr ⟨List.mem_of_getElem? (i := 56) rfl, List.forall_mem_cons.mpr ⟨List.mem_of_getElem? (i := 57) rfl, List.forall_mem_cons.mpr ⟨List.mem_of_getElem? (i := 58) rfl, List.forall_mem_cons.mpr ⟨List.mem_of_getElem? (i := 59) rfl, List.forall_mem_cons.mpr ⟨List.mem_of_getElem? (i := 60) rfl, List.forall_mem_cons.mpr ⟨List.mem_of_getElem? (i := 61) rfl, List.forall_mem_cons.mpr ⟨List.mem_of_getElem? (i := 62) rfl, List.forall_mem_cons.mpr ⟨List.mem_of_getElem? (i := 63) rfl, List.forall_mem_cons.mpr ⟨List.mem_of_getElem? (i := 64) rfl, List.forall_mem_cons.mpr ⟨List.mem_of_getElem? (i := 65) rfl, List.forall_mem_cons.mpr ⟨List.mem_of_getElem? (i := 66) rfl, List.forall_mem_cons.mpr ⟨List.mem_of_getElem? (i := 67) rfl, List.forall_mem_cons.mpr ⟨List.mem_of_getElem? (i := 35) rfl, List.forall_mem_cons.mpr ⟨List.mem_of_getElem? (i := 36) rfl, fun _ h => absurd h List.not_mem_nil⟩⟩⟩⟩⟩⟩⟩⟩⟩⟩⟩⟩⟩⟩⟩⟩⟩⟩⟩⟩⟩⟩⟩⟩), (List.forall_mem_append.mpr ⟨(List.forall_mem_cons.mpr ⟨List.mem_of_getElem? (i := 37) rfl, List.forall_mem_cons.mpr ⟨List.mem_of_getElem? (i := 38) rfl, List.forall_mem_cons.mpr ⟨List.mem_of_getElem? (i := 39) rfl, List.forall_mem_cons.mpr ⟨List.mem_of_getElem? (i := 40) rfl, List.forall_mem_cons.mpr ⟨List.mem_of_getElem? (i := 41) rfl, List.forall_mem_cons.mpr ⟨List.mem_of_getElem? (i := 68) rfl, List.forall_mem_cons.mpr ⟨List.mem_of_getElem? (i := 69) rfl, List.forall_mem_cons.mpr ⟨List.mem_of_getElem? (i := 70) rfl, List.forall_mem_cons.mpr ⟨List.mem_of_getElem? (i := 71) rfl, List.forall_mem_cons.mpr ⟨List.mem_of_getElem? (i := 72) rfl, List.forall_mem_cons.mpr ⟨List.mem_of_getElem? (i := 73) rfl, List.forall_mem_cons.mpr ⟨List.mem_of_getElem? (i := 74) rfl, List.forall_mem_cons.mpr ⟨List.mem_of_getElem? (i := 75) rfl, List.forall_mem_cons.mpr ⟨List.mem_of_getElem? (i := 76) rfl, List.forall_mem_cons.mpr ⟨List.mem_of_getElem? (i := 77) rfl, List.forall_mem_cons.mpr ⟨List.mem_of_getElem? (i := 78) rfl, List.forall_mem_cons.mpr ⟨List.mem_of_getElem? (i := 79) rfl, List.forall_mem_cons.mpr ⟨List.mem_of_getElem? (i := 80) rfl, List.forall_mem_cons.mpr ⟨List.mem_of_getElem? (i := 81) rfl, List.forall_mem_cons.mpr ⟨List.mem_of_getElem? (i := 82) rfl, List.forall_mem_cons.mpr ⟨List.mem_of_getElem? (i := 83) rfl, List.forall_mem_cons.mpr ⟨List.mem_of_getElem? (i := 84) rfl, List.forall_mem_cons.mpr ⟨List.mem_of_getElem? (i := 85) rfl, List.forall_mem_cons.mpr ⟨List.mem_of_getElem? (i := 86) rfl, fun _ h => absurd h List.not_mem_nil⟩⟩⟩⟩⟩⟩⟩⟩⟩⟩⟩⟩⟩⟩⟩⟩⟩⟩⟩⟩⟩⟩⟩⟩), (List.forall_mem_append.mpr ⟨(List.forall_mem_cons.mpr ⟨List.mem_of_getElem? (i := 87) rfl, List.forall_mem_cons.mpr ⟨List.mem_of_getElem? (i := 88) rfl, List.forall_mem_cons.mpr ⟨List.mem_of_getElem? (i := 89) rfl, List.forall_mem_cons.mpr ⟨List.mem_of_getElem? (i := 90) rfl, List.forall_mem_cons.mpr ⟨List.mem_of_getElem? (i := 91) rfl, List.forall_mem_cons.mpr ⟨List.mem_of_getElem? (i := 92) rfl, List.forall_mem_cons.mpr ⟨List.mem_of_getElem? (i := 93) rfl, List.forall_mem_cons.mpr ⟨List.mem_of_getElem? (i := 94) rfl, List.forall_mem_cons.mpr ⟨List.mem_of_getElem? (i := 95) rfl, List.forall_mem_cons.mpr ⟨List.mem_of_getElem? (i := 96) rfl, List.forall_mem_cons.mpr ⟨List.mem_of_getElem? (i := 97) rfl, List.forall_mem_cons.mpr ⟨List.mem_of_getElem? (i := 98) rfl, List.forall_mem_cons.mpr ⟨List.mem_of_getElem? (i := 99) rfl, List.forall_mem_cons.mpr ⟨List.mem_of_getElem? (i := 100) rfl, List.forall_mem_cons.mpr ⟨List.mem_of_getElem? (i := 101) rfl, List.forall_mem_cons.mpr ⟨List.mem_of_getElem? (i := 102) rfl, List.forall_mem_cons.mpr ⟨List.mem_of_getElem? (i := 103) rfl, List.forall_mem_cons.mpr ⟨List.mem_of_getElem? (i := 104) rfl, List.forall_mem_cons.mpr ⟨List.mem_of_getElem? (i := 20) rfl, List.forall_mem_cons.mpr ⟨List.mem_of_getElem? (i := 21) rfl, List.forall_mem_cons.mpr ⟨List.mem_of_getElem? (i := 22) rfl, List.forall_mem_cons.mpr ⟨List.mem_of_getElem? (i := 24) rfl, List.forall_mem_cons.mpr ⟨List.mem_of_getElem? (i := 28) rfl, List.forall_mem_cons.mpr ⟨List.mem_of_getElem? (i := 31) rfl, fun _ h => absurd h List.not_mem_nil⟩⟩⟩⟩⟩⟩⟩⟩⟩⟩⟩⟩⟩⟩⟩⟩⟩⟩⟩⟩⟩⟩⟩⟩), (List.forall_mem_cons.mpr ⟨List.mem_of_getElem? (i := 32) rfl, List.forall_mem_cons.mpr ⟨List.mem_of_getElem? (i := 33) rfl, List.forall_mem_cons.mpr ⟨List.mem_of_getElem? (i := 34) rfl, List.forall_mem_cons.mpr ⟨List.mem_of_getElem? (i := 42) rfl, List.forall_mem_cons.mpr ⟨List.mem_of_getElem? (i := 43) rfl, List.forall_mem_cons.mpr ⟨List.mem_of_getElem? (i := 44) rfl, List.forall_mem_cons.mpr ⟨List.mem_of_getElem? (i := 45) rfl, List.forall_mem_cons.mpr ⟨List.mem_of_getElem? (i := 46) rfl, List.forall_mem_cons.mpr ⟨List.mem_of_getElem? (i := 47) rfl, List.forall_mem_cons.mpr ⟨List.mem_of_getElem? (i := 105) rfl, List.forall_mem_cons.mpr ⟨List.mem_of_getElem? (i := 106) rfl, List.forall_mem_cons.mpr ⟨List.mem_of_getElem? (i := 107) rfl, List.forall_mem_cons.mpr ⟨List.mem_of_getElem? (i := 108) rfl, fun _ h => absurd h List.not_mem_nil⟩⟩⟩⟩⟩⟩⟩⟩⟩⟩⟩⟩⟩)⟩)⟩)⟩), (fun _ h => List.mem_cons_of_mem _ (List.mem_append_left _ (List.mem_append_left _ (List.mem_append_right _ h))))⟩), (fun _ h => List.mem_cons_of_mem _ (List.mem_append_right _ h))⟩)⟩) (by decide +kernel)
set_option maxRecDepth 20000 in
theorem gX1_readPerson_X1_readPerhaps : GoodIn wsX1_readPerson (wsV RX1 74 RX1 yX1_readPerhaps wsX1_readPerhaps) := goodIn_app (goodIn_sub (List.forall_mem_cons.mpr ⟨List.mem_of_getElem? (i := 48) rfl, List.forall_mem_cons.mpr ⟨List.mem_of_getElem? (i := 49) rfl, List.forall_mem_cons.mpr ⟨List.mem_of_getElem? (i := 50) rfl, List.forall_mem_cons.mpr ⟨List.mem_of_getElem? (i := 23) rfl, fun _ h => absurd h List.not_mem_nil⟩⟩⟩⟩) (by decide +kernel)) ggX1_readPerson_X1_readPerhaps
theorem dX1_readPerson_0 : decode cX1_readPerson 0 = .ok (.aload_n 0, 1) := by decide +kernel
theorem dX1_readPerson_1 : decode cX1_readPerson 1 = .ok (.getfield 26, 3) := by decide +kernel
theorem dX1_readPerson_4 : decode cX1_readPerson 4 = .ok (.iload_n 1, 1) := by decide +kernel
theorem dX1_readPerson_5 : decode cX1_readPerson 5 = .ok (.invokevirtual 64, 3) := by decide +kernel
theorem dX1_readPerson_8 : decode cX1_readPerson 8 = .ok (.istore_n 2, 1) := by decide +kernel
theorem dX1_readPerson_9 : decode cX1_readPerson 9 = .ok (.iload_n 2, 1) := by decide +kernel
theorem dX1_readPerson_10 : decode cX1_readPerson 10 = .ok (.ifCond .ge 5, 3) := by decide +kernel
theorem dX1_readPerson_13 : decode cX1_readPerson 13 = .ok (.iconst 0, 1) := by decide +kernel
theorem dX1_readPerson_14 : decode cX1_readPerson 14 = .ok (.ireturn, 1) := by decide +kernel
theorem dX1_readPerson_15 : decode cX1_readPerson 15 = .ok (.aload_n 0, 1) := by decide +kernel
theorem dX1_readPerson_16 : decode cX1_readPerson 16 = .ok (.invokevirtual 30, 3) := by decide +kernel
theorem dX1_readPerson_19 : decode cX1_readPerson 19 = .ok (.aload_n 0, 1) := by decide +kernel
theorem dX1_readPerson_20 : decode cX1_readPerson 20 = .ok (.ldc 68, 2) := by decide +kernel
theorem dX1_readPerson_22 : decode cX1_readPerson 22 = .ok (.aload_n 0, 1) := by decide +kernel
theorem dX1_readPerson_23 : decode cX1_readPerson 23 = .ok (.getfield 26, 3) := by decide +kernel
theorem dX1_readPerson_26 : decode cX1_readPerson 26 = .ok (.getfield 70, 3) := by decide +kernel
theorem dX1_readPerson_29 : decode cX1_readPerson 29 = .ok (.iload_n 2, 1) := by decide +kernel
theorem dX1_readPerson_30 : decode cX1_readPerson 30 = .ok (.bipush 20, 2) := by decide +kernel
theorem dX1_readPerson_32 : decode cX1_readPerson 32 = .ok (.invokevirtual 74, 3) := by decide +kernel
theorem dX1_readPerson_35 : decode cX1_readPerson 35 = .ok (.ifCond .eq 45, 3) := by decide +kernel
theorem dX1_readPerson_38 : decode cX1_readPerson 38 = .ok (.aload_n 0, 1) := by decide +kernel
theorem dX1_readPerson_39 : decode cX1_readPerson 39 = .ok (.ldc 78, 2) := by decide +kernel
theorem dX1_readPerson_41 : decode cX1_readPerson 41 = .ok (.aload_n 0, 1) := by decide +kernel
theorem dX1_readPerson_42 : decode cX1_readPerson 42 = .ok (.getfield 26, 3) := by decide +kernel
theorem dX1_readPerson_45 : decode cX1_readPerson 45 = .ok (.getfield 80, 3) := by decide +kernel
theorem dX1_readPerson_48 : decode cX1_readPerson 48 = .ok (.iload_n 2, 1) := by decide +kernel
theorem dX1_readPerson_49 : decode cX1_readPerson 49 = .ok (.bipush 99, 2) := by decide +kernel
theorem dX1_readPerson_51 : decode cX1_readPerson 51 = .ok (.invokevirtual 74, 3) := by decide +kernel
theorem dX1_readPerson_54 : decode cX1_readPerson 54 = .ok (.ifCond .eq 26, 3) := by decide +kernel
theorem dX1_readPerson_57 : decode cX1_readPerson 57 = .ok (.aload_n 0, 1) := by decide +kernel
theorem dX1_readPerson_58 : decode cX1_readPerson 58 = .ok (.ldc 83, 2) := by decide +kernel
theorem dX1_readPerson_60 : decode cX1_readPerson 60 = .ok (.aload_n 0, 1) := by decide +kernel
theorem dX1_readPerson_61 : decode cX1_readPerson 61 = .ok (.getfield 26, 3) := by decide +kernel
theorem dX1_readPerson_64 : decode cX1_readPerson 64 = .ok (.getfield 85, 3) := by decide +kernel
theorem dX1_readPerson_67 : decode cX1_readPerson 67 = .ok (.iload_n 2, 1) := by decide +kernel
theorem dX1_readPerson_68 : decode cX1_readPerson 68 = .ok (.bipush 99, 2) := by decide +kernel
theorem dX1_readPerson_70 : decode cX1_readPerson 70 = .ok (.invokevirtual 74, 3) := by decide +kernel
theorem dX1_readPerson_73 : decode cX1_readPerson 73 = .ok (.ifCond .eq 7, 3) := by decide +kernel
theorem dX1_readPerson_76 : decode cX1_readPerson 76 = .ok (.iconst 1, 1) := by decide +kernel
theorem dX1_readPerson_77 : decode cX1_readPerson 77 = .ok (.goto 4, 3) := by decide +kernel
theorem dX1_readPerson_80 : decode cX1_readPerson 80 = .ok (.iconst 0, 1) := by decide +kernel
theorem dX1_readPerson_81 : decode cX1_readPerson 81 = .ok (.ireturn, 1) := by decide +kernel
set_option maxRecDepth 20000 in
theorem ggX1_readPerhaps_X1_isWord : GoodIn wsX1_readPerhaps wsX1_isWord := goodIn_sub (List.forall_mem_cons.mpr ⟨List.mem_of_getElem? (i := 6) rfl, (List.forall_mem_append.mpr ⟨(List.forall_mem_append.mpr ⟨(List.forall_mem_append.mpr ⟨(List.forall_mem_cons.mpr ⟨List.mem_of_getElem? (i := 7) rfl, List.forall_mem_cons.mpr ⟨List.mem_of_getElem? (i := 8) rfl, List.forall_mem_cons.mpr ⟨List.mem_of_getElem? (i := 9) rfl, List.forall_mem_cons.mpr ⟨List.mem_of_getElem? (i := 10) rfl, List.forall_mem_cons.mpr ⟨List.mem_of_getElem? (i := 11) rfl, List.forall_mem_cons.mpr ⟨List.mem_of_getElem? (i := 12) rfl, List.forall_mem_cons.mpr ⟨List.mem_of_getElem? (i := 13) rfl, List.forall_mem_cons.mpr ⟨List.mem_of_getElem? (i := 14) rfl, List.forall_mem_cons.mpr ⟨List.mem_of_getElem? (i := 15) rfl, List.forall_mem_cons.mpr ⟨List.mem_of_getElem? (i := 16) rfl, List.forall_mem_cons.mpr ⟨List.mem_of_getElem? (i := 17) rfl, List.forall_mem_cons.mpr ⟨List.mem_of_getElem? (i := 18) rfl, List.forall_mem_cons.mpr ⟨List.mem_of_getElem? (i := 19) rfl, List.forall_mem_cons.mpr ⟨List.mem_of_getElem? (i := 20) rfl, List.forall_mem_cons.mpr ⟨List.mem_of_getElem? (i := 21) rfl, List.forall_mem_cons.mpr ⟨List.mem_of_getElem? (i := 22) rfl, List.forall_mem_cons.mpr ⟨List.mem_of_getElem? (i := 23) rfl, List.forall_mem_cons.mpr ⟨List.mem_of_getElem? (i := 24) rfl, List.forall_mem_cons.mpr ⟨List.mem_of_getElem? (i := 25) rfl, List.forall_mem_cons.mpr ⟨List.mem_of_getElem? (i := 26) rfl, List.forall_mem_cons.mpr ⟨List.mem_of_getElem? (i := 27) rfl, List.forall_mem_cons.mpr ⟨List.mem_of_getElem? (i := 28) rfl, List.forall_mem_cons.mpr ⟨List.mem_of_getElem? (i := 29) rfl, List.forall_mem_cons.mpr ⟨List.mem_of_getElem? (i := 30) rfl, fun _ h => absurd h List.not_mem_nil⟩⟩⟩⟩⟩⟩⟩⟩⟩⟩⟩⟩⟩⟩⟩⟩⟩⟩⟩⟩⟩⟩⟩⟩), (List.forall_mem_append.mpr ⟨(List.forall_mem_cons.mpr ⟨List.mem_of_getElem? (i := 31) rfl, List.forall_mem_cons.mpr ⟨List.mem_of_getElem? (i := 32) rfl, List.forall_mem_cons.mpr ⟨List.mem_of_getElem? (i := 33) rfl, List.forall_mem_cons.mpr ⟨List.mem_of_getElem? (i := 34) rfl, List.forall_mem_cons.mpr ⟨List.mem_of_getElem? (i := 35) rfl, List.forall_mem_cons.mpr ⟨List.mem_of_getElem? (i := 36) rfl, List.forall_mem_cons.mpr ⟨List.mem_of_getElem? (i := 37) rfl, List.forall_mem_cons.mpr ⟨List.mem_of_getElem? (i := 38) rfl, List.forall_mem_cons.mpr ⟨List.mem_of_getElem? (i := 39) rfl, List.forall_mem_cons.mpr ⟨List.mem_of_getElem? (i := 40) rfl, List.forall_mem_cons.mpr ⟨List.mem_of_getElem? (i := 41) rfl, List.forall_mem_cons.mpr ⟨List.mem_of_getElem? (i := 42) rfl, List.forall_mem_cons.mpr ⟨List.mem_of_getElem? (i := 43) rfl, List.forall_mem_cons.mpr ⟨List.mem_of_getElem? (i := 44) rfl, List.forall_mem_cons.mpr ⟨List.mem_of_getElem? (i := 45) rfl, List.forall_mem_cons.mpr ⟨List.mem_of_getElem? (i := 46) rfl, List.forall_mem_cons.mpr ⟨List.mem_of_getElem? (i := 47) rfl, List.forall_mem_cons.mpr ⟨List.mem_of_getElem? (i := 48) rfl, List.forall_mem_cons.mpr ⟨List.mem_of_getElem? (i := 49) rfl, List.forall_mem_cons.mpr ⟨List.mem_of_getElem? (i := 50) rfl, List.forall_mem_cons.mpr ⟨List.mem_of_getElem? (i := 51) rfl, List.forall_mem_cons.mpr ⟨List.mem_of_getElem? (i := 52) rfl, List.forall_mem_cons.mpr ⟨List.mem_of_getElem? (i := 53) rfl, List.forall_mem_cons.mpr ⟨List.mem_of_getElem? (i := 54) rfl, fun _ h => absurd h List.not_mem_nil⟩⟩⟩⟩⟩⟩⟩⟩⟩⟩⟩⟩⟩⟩⟩⟩⟩⟩⟩⟩⟩⟩⟩⟩), (List.forall_mem_cons.mpr ⟨List.mem_of_getElem? (i := 55) rfl, List.forall_mem_cons.mpr ⟨List.mem_of_getElem? (i := 56) rfl, List.forall_mem_cons.mpr ⟨List.mem_of_getElem? (i := 57) rfl, List.forall_mem_cons.mpr ⟨List.mem_of_getElem? (i := 58) rfl, List.forall_mem_cons.mpr ⟨List.mem_of_getElem? (i := 59) rfl, List.forall_mem_cons.mpr ⟨List.mem_of_getElem? (i := 60) rfl, List.forall_mem_cons.mpr ⟨List.mem_of_getElem? (i := 61) rfl, List.forall_mem_cons.mpr ⟨List.mem_of_getElem? (i := 62) rfl, List.forall_mem_cons.mpr ⟨List.mem_of_getElem? (i := 63) rfl, List.forall_mem_cons.mpr ⟨List.mem_of_getElem? (i := 64) rfl, List.forall_mem_cons.mpr ⟨List.mem_of_getElem? (i := 65) rfl, List.forall_mem_cons.mpr ⟨List.mem_of_getElem? (i := 66) rfl, fun _ h => absurd h List.not_mem_nil⟩⟩⟩⟩⟩⟩⟩⟩⟩⟩⟩⟩)⟩)⟩), (fun _ h => List.mem_cons_of_mem _ (List.mem_append_left _ (List.mem_append_right _ h)))⟩), (fun _ h => List.mem_cons_of_mem _ (List.mem_append_right _ h))⟩)⟩) (by decide +kernel)
set_option maxRecDepth 20000 in
theorem gX1_readPerhaps_X1_isWord : GoodIn wsX1_readPerhaps (wsV RX1 49 RX1 yX1_isWord wsX1_isWord) := goodIn_app (goodIn_sub (List.forall_mem_cons.mpr ⟨List.mem_of_getElem? (i := 2) rfl, List.forall_mem_cons.mpr ⟨List.mem_of_getElem? (i := 3) rfl, List.forall_mem_cons.mpr ⟨List.mem_of_getElem? (i := 4) rfl, List.forall_mem_cons.mpr ⟨List.mem_of_getElem? (i := 5) rfl, fun _ h => absurd h List.not_mem_nil⟩⟩⟩⟩) (by decide +kernel)) ggX1_readPerhaps_X1_isWord
set_option maxRecDepth 20000 in
theorem ggX1_readPerhaps_X1_advance : GoodIn wsX1_readPerhaps wsX1_advance := goodIn_sub (List.forall_mem_cons.mpr ⟨List.mem_of_getElem? (i := 70) rfl, (List.forall_mem_append.mpr ⟨(List.forall_mem_append.mpr ⟨(List.forall_mem_cons.mpr ⟨List.mem_of_getElem? (i := 8) rfl, List.forall_mem_cons.mpr ⟨List.mem_of_getElem? (i := 9) rfl, List.forall_mem_cons.mpr ⟨List.mem_of_getElem? (i := 10) rfl, List.forall_mem_cons.mpr ⟨List.mem_of_getElem? (i := 71) rfl, List.forall_mem_cons.mpr ⟨List.mem_of_getElem? (i := 7) rfl, List.forall_mem_cons.mpr ⟨List.mem_of_getElem? (i := 1) rfl, List.forall_mem_cons.mpr ⟨List.mem_of_getElem? (i := 72) rfl, List.forall_mem_cons.mpr ⟨List.mem_of_getElem? (i := 73) rfl, List.forall_mem_cons.mpr ⟨List.mem_of_getElem? (i := 74) rfl, List.forall_mem_cons.mpr ⟨List.mem_of_getElem? (i := 75) rfl, List.forall_mem_cons.mpr ⟨List.mem_of_getElem? (i := 23) rfl, List.forall_mem_cons.mpr ⟨List.mem_of_getElem? (i := 24) rfl, List.forall_mem_cons.mpr ⟨List.mem_of_getElem? (i := 25) rfl, List.forall_mem_cons.mpr ⟨List.mem_of_getElem? (i := 26) rfl, List.forall_mem_cons.mpr ⟨List.mem_of_getElem? (i := 27) rfl, List.forall_mem_cons.mpr ⟨List.mem_of_getElem? (i := 28) rfl, List.forall_mem_cons.mpr ⟨List.mem_of_getElem? (i := 29) rfl, List.forall_mem_cons.mpr ⟨List.mem_of_getElem? (i := 76) rfl, List.forall_mem_cons.mpr ⟨List.mem_of_getElem? (i := 77) rfl, List.forall_mem_cons.mpr ⟨List.mem_of_getElem? (i := 5) rfl, List.forall_mem_cons.mpr ⟨List.mem_of_getElem? (i := 78) rfl, List.forall_mem_cons.mpr ⟨List.mem_of_getElem? (i := 79) rfl, List.forall_mem_cons.mpr ⟨List.mem_of_getElem? (i := 80) rfl, List.forall_mem_cons.mpr ⟨List.mem_of_getElem? (i := 81) rfl, fun _ h => absurd h List.not_mem_nil⟩⟩⟩⟩⟩⟩⟩⟩⟩⟩⟩⟩⟩⟩⟩⟩⟩⟩⟩⟩⟩⟩⟩⟩), (fun _ h => List.mem_cons_of_mem _ (List.mem_append_left _ (List.mem_append_right _ h)))⟩), (fun _ h => List.mem_cons_of_mem _ (List.mem_append_right _ h))⟩)⟩) (by decide +kernel)
set_option maxRecDepth 20000 in
theorem gX1_readPerhaps_X1_advance : GoodIn wsX1_readPerhaps (wsV RX1 30 RX1 yX1_advance wsX1_advance) := goodIn_app (goodIn_sub (List.forall_mem_cons.mpr ⟨List.mem_of_getElem? (i := 67) rfl, List.forall_mem_cons.mpr ⟨List.mem_of_getElem? (i := 68) rfl, List.forall_mem_cons.mpr ⟨List.mem_of_getElem? (i := 69) rfl, List.forall_mem_cons.mpr ⟨List.mem_of_getElem? (i := 5) rfl, fun _ h => absurd h List.not_mem_nil⟩⟩⟩⟩) (by decide +kernel)) ggX1_readPerhaps_X1_advance
set_option maxRecDepth 20000 in
theorem ggX1_readPerhaps_X1_isNumber : GoodIn wsX1_readPerhaps wsX1_isNumber := goodIn_sub (List.forall_mem_cons.mpr ⟨List.mem_of_getElem? (i := 85) rfl, (List.forall_mem_append.mpr ⟨(List.forall_mem_cons.mpr ⟨List.mem_of_getElem? (i := 7) rfl, List.forall_mem_cons.mpr ⟨List.mem_of_getElem? (i := 1) rfl, fun _ h => absurd h List.not_mem_nil⟩⟩), (fun _ h => List.mem_cons_of_mem _ (List.mem_append_left _ (List.mem_append_right _ h)))⟩)⟩) (by decide +kernel)
set_option maxRecDepth 20000 in
theorem gX1_readPerhaps_X1_isNumber : GoodIn wsX1_readPerhaps (wsV RX1 57 RX1 yX1_isNumber wsX1_isNumber) := goodIn_app (goodIn_sub (List.forall_mem_cons.mpr ⟨List.mem_of_getElem? (i := 82) rfl, List.forall_mem_cons.mpr ⟨List.mem_of_getElem? (i := 83) rfl, List.forall_mem_cons.mpr ⟨List.mem_of_getElem? (i := 84) rfl, List.forall_mem_cons.mpr ⟨List.mem_of_getElem? (i := 5) rfl, fun _ h => absurd h List.not_mem_nil⟩⟩⟩⟩) (by decide +kernel)) ggX1_readPerhaps_X1_isNumber
theorem dX1_readPerhaps_0 : decode cX1_readPerhaps 0 = .ok (.aload_n 0, 1) := by decide +kernel
theorem dX1_readPerhaps_1 : decode cX1_readPerhaps 1 = .ok (.aload_n 1, 1) := by decide +kernel
theorem dX1_readPerhaps_2 : decode cX1_readPerhaps 2 = .ok (.invokevirtual 49, 3) := by decide +kernel
theorem dX1_readPerhaps_5 : decode cX1_readPerhaps 5 = .ok (.ifCond .ne 5, 3) := by decide +kernel
theorem dX1_readPerhaps_8 : decode cX1_readPerhaps 8 = .ok (.iconst 1, 1) := by decide +kernel
theorem dX1_readPerhaps_9 : decode cX1_readPerhaps 9 = .ok (.ireturn, 1) := by decide +kernel
theorem dX1_readPerhaps_10 : decode cX1_readPerhaps 10 = .ok (.aload_n 0, 1) := by decide +kernel
theorem dX1_readPerhaps_11 : decode cX1_readPerhaps 11 = .ok (.invokevirtual 30, 3) := by decide +kernel
theorem dX1_readPerhaps_14 : decode cX1_readPerhaps 14 = .ok (.aload_n 0, 1) := by decide +kernel
theorem dX1_readPerhaps_15 : decode cX1_readPerhaps 15 = .ok (.iload 4, 2) := by decide +kernel
theorem dX1_readPerhaps_17 : decode cX1_readPerhaps 17 = .ok (.invokevirtual 57, 3) := by decide +kernel
theorem dX1_readPerhaps_20 : decode cX1_readPerhaps 20 = .ok (.ifCond .ne 5, 3) := by decide +kernel
theorem dX1_readPerhaps_23 : decode cX1_readPerhaps 23 = .ok (.iconst 0, 1) := by decide +kernel
theorem dX1_readPerhaps_24 : decode cX1_readPerhaps 24 = .ok (.ireturn, 1) := by decide +kernel
theorem dX1_readPerhaps_25 : decode cX1_readPerhaps 25 = .ok (.iload_n 3, 1) := by decide +kernel
theorem dX1_readPerhaps_26 : decode cX1_readPerhaps 26 = .ok (.ifCond .lt 16, 3) := by decide +kernel
theorem dX1_readPerhaps_29 : decode cX1_readPerhaps 29 = .ok (.iload_n 3, 1) := by decide +kernel
theorem dX1_readPerhaps_30 : decode cX1_readPerhaps 30 = .ok (.aload_n 2, 1) := by decide +kernel
theorem dX1_readPerhaps_31 : decode cX1_readPerhaps 31 = .ok (.arraylength, 1) := by decide +kernel
theorem dX1_readPerhaps_32 : decode cX1_readPerhaps 32 = .ok (.if_icmp .ge 10, 3) := by decide +kernel
theorem dX1_readPerhaps_35 : decode cX1_readPerhaps 35 = .ok (.aload_n 2, 1) := by decide +kernel
theorem dX1_readPerhaps_36 : decode cX1_readPerhaps 36 = .ok (.iload_n 3, 1) := by decide +kernel
theorem dX1_readPerhaps_37 : decode cX1_readPerhaps 37 = .ok (.aload_n 0, 1) := by decide +kernel
theorem dX1_readPerhaps_38 : decode cX1_readPerhaps 38 = .ok (.getfield 19, 3) := by decide +kernel
theorem dX1_readPerhaps_41 : decode cX1_readPerhaps 41 = .ok (.iastore, 1) := by decide +kernel
theorem dX1_readPerhaps_42 : decode cX1_readPerhaps 42 = .ok (.aload_n 0, 1) := by decide +kernel
theorem dX1_readPerhaps_43 : decode cX1_readPerhaps 43 = .ok (.invokevirtual 30, 3) := by decide +kernel
theorem dX1_readPerhaps_46 : decode cX1_readPerhaps 46 = .ok (.iconst 1, 1) := by decide +kernel
theorem dX1_readPerhaps_47 : decode cX1_readPerhaps 47 = .ok (.ireturn, 1) := by decide +kernel
theorem dX1_isNumber_0 : decode cX1_isNumber 0 = .ok (.aload_n 0, 1) := by decide +kernel
theorem dX1_isNumber_1 : decode cX1_isNumber 1 = .ok (.getfield 9, 3) := by decide +kernel
theorem dX1_isNumber_4 : decode cX1_isNumber 4 = .ok (.iconst 2, 1) := by decide +kernel
theorem dX1_isNumber_5 : decode cX1_isNumber 5 = .ok (.if_icmp .ne 15, 3) := by decide +kernel
theorem dX1_isNumber_8 : decode cX1_isNumber 8 = .ok (.aload_n 0, 1) := by decide +kernel
theorem dX1_isNumber_9 : decode cX1_isNumber 9 = .ok (.getfield 19, 3) := by decide +kernel
theorem dX1_isNumber_12 : decode cX1_isNumber 12 = .ok (.iload_n 1, 1) := by decide +kernel
theorem dX1_isNumber_13 : decode cX1_isNumber 13 = .ok (.if_icmp .gt 7, 3) := by decide +kernel
theorem dX1_isNumber_16 : decode cX1_isNumber 16 = .ok (.iconst 1, 1) := by decide +kernel
theorem dX1_isNumber_17 : decode cX1_isNumber 17 = .ok (.goto 4, 3) := by decide +kernel
theorem dX1_isNumber_20 : decode cX1_isNumber 20 = .ok (.iconst 0, 1) := by decide +kernel
theorem dX1_isNumber_21 : decode cX1_isNumber 21 = .ok (.ireturn, 1) := by decide +kernel
set_option maxRecDepth 20000 in
theorem ggX1_kindNamed_X1_isWord : GoodIn wsX1_kindNamed wsX1_isWord := goodIn_sub (List.forall_mem_cons.mpr ⟨List.mem_of_getElem? (i := 5) rfl, (List.forall_mem_append.mpr ⟨(List.forall_mem_append.mpr ⟨(List.forall_mem_append.mpr ⟨(List.forall_mem_cons.mpr ⟨List.mem_of_getElem? (i := 6) rfl, List.forall_mem_cons.mpr ⟨List.mem_of_getElem? (i := 7) rfl, List.forall_mem_cons.mpr ⟨List.mem_of_getElem? (i := 8) rfl, List.forall_mem_cons.mpr ⟨List.mem_of_getElem? (i := 9) rfl, List.forall_mem_cons.mpr ⟨List.mem_of_getElem? (i := 10) rfl, List.forall_mem_cons.mpr ⟨List.mem_of_getElem? (i := 11) rfl, List.forall_mem_cons.mpr ⟨List.mem_of_getElem? (i := 12) rfl, List.forall_mem_cons.mpr ⟨List.mem_of_getElem? (i := 13) rfl, List.forall_mem_cons.mpr ⟨List.mem_of_getElem? (i := 14) rfl, List.forall_mem_cons.mpr ⟨List.mem_of_getElem? (i := 15) rfl, List.forall_mem_cons.mpr ⟨List.mem_of_getElem? (i := 16) rfl, List.forall_mem_cons.mpr ⟨List.mem_of_getElem? (i := 17) rfl, List.forall_mem_cons.mpr ⟨List.mem_of_getElem? (i := 18) rfl, List.forall_mem_cons.mpr ⟨List.mem_of_getElem? (i := 19) rfl, List.forall_mem_cons.mpr ⟨List.mem_of_getElem? (i := 20) rfl, List.forall_mem_cons.mpr ⟨List.mem_of_getElem? (i := 21) rfl, List.forall_mem_cons.mpr ⟨List.mem_of_getElem? (i := 22) rfl, List.forall_mem_cons.mpr ⟨List.mem_of_getElem? (i := 23) rfl, List.forall_mem_cons.mpr ⟨List.mem_of_getElem? (i := 24) rfl, List.forall_mem_cons.mpr ⟨List.mem_of_getElem? (i := 25) rfl, List.forall_mem_cons.mpr ⟨List.mem_of_getElem? (i := 26) rfl, List.forall_mem_cons.mpr ⟨List.mem_of_getElem? (i := 27) rfl, List.forall_mem_cons.mpr ⟨List.mem_of_getElem? (i := 28) rfl, List.forall_mem_cons.mpr ⟨List.mem_of_getElem? (i := 29) rfl, fun _ h => absurd h List.not_mem_nil⟩⟩⟩⟩⟩⟩⟩⟩⟩⟩⟩⟩⟩⟩⟩⟩⟩⟩⟩⟩⟩⟩⟩⟩), (List.forall_mem_append.mpr ⟨(List.forall_mem_cons.mpr ⟨List.mem_of_getElem? (i := 30) rfl, List.forall_mem_cons.mpr ⟨List.mem_of_getElem? (i := 31) rfl, List.forall_mem_cons.mpr ⟨List.mem_of_getElem? (i := 32) rfl, List.forall_mem_cons.mpr ⟨List.mem_of_getElem? (i := 33) rfl, List.forall_mem_cons.mpr ⟨List.mem_of_getElem? (i := 34) rfl, List.forall_mem_cons.mpr ⟨List.mem_of_getElem? (i := 35) rfl, List.forall_mem_cons.mpr ⟨List.mem_of_getElem? (i := 36) rfl, List.forall_mem_cons.mpr ⟨List.mem_of_getElem? (i := 37) rfl, List.forall_mem_cons.mpr ⟨List.mem_of_getElem? (i := 38) rfl, List.forall_mem_cons.mpr ⟨List.mem_of_getElem? (i := 39) rfl, List.forall_mem_cons.mpr ⟨List.mem_of_getElem? (i := 40) rfl, List.forall_mem_cons.mpr ⟨List.mem_of_getElem? (i := 41) rfl, List.forall_mem_cons.mpr ⟨List.mem_of_getElem? (i := 42) rfl, List.forall_mem_cons.mpr ⟨List.mem_of_getElem? (i := 43) rfl, List.forall_mem_cons.mpr ⟨List.mem_of_getElem? (i := 44) rfl, List.forall_mem_cons.mpr ⟨List.mem_of_getElem? (i := 45) rfl, List.forall_mem_cons.mpr ⟨List.mem_of_getElem? (i := 46) rfl, List.forall_mem_cons.mpr ⟨List.mem_of_getElem? (i := 47) rfl, List.forall_mem_cons.mpr ⟨List.mem_of_getElem? (i := 48) rfl, List.forall_mem_cons.mpr ⟨List.mem_of_getElem? (i := 49) rfl, List.forall_mem_cons.mpr ⟨List.mem_of_getElem? (i := 50) rfl, List.forall_mem_cons.mpr ⟨List.mem_of_getElem? (i := 51) rfl, List.forall_mem_cons.mpr ⟨List.mem_of_getElem? (i := 52) rfl, List.forall_mem_cons.mpr ⟨List.mem_of_getElem? (i := 53) rfl, fun _ h => absurd h List.not_mem_nil⟩⟩⟩⟩⟩⟩⟩⟩⟩⟩⟩⟩⟩⟩⟩⟩⟩⟩⟩⟩⟩⟩⟩⟩), (List.forall_mem_cons.mpr ⟨List.mem_of_getElem? (i := 54) rfl, List.forall_mem_cons.mpr ⟨List.mem_of_getElem? (i := 55) rfl, List.forall_mem_cons.mpr ⟨List.mem_of_getElem? (i := 56) rfl, List.forall_mem_cons.mpr ⟨List.mem_of_getElem? (i := 57) rfl, List.forall_mem_cons.mpr ⟨List.mem_of_getElem? (i := 58) rfl, List.forall_mem_cons.mpr ⟨List.mem_of_getElem? (i := 59) rfl, List.forall_mem_cons.mpr ⟨List.mem_of_getElem? (i := 60) rfl, List.forall_mem_cons.mpr ⟨List.mem_of_getElem? (i := 61) rfl, List.forall_mem_cons.mpr ⟨List.mem_of_getElem? (i := 62) rfl, List.forall_mem_cons.mpr ⟨List.mem_of_getElem? (i := 63) rfl, List.forall_mem_cons.mpr ⟨List.mem_of_getElem? (i := 64) rfl, List.forall_mem_cons.mpr ⟨List.mem_of_getElem? (i := 65) rfl, fun _ h => absurd h List.not_mem_nil⟩⟩⟩⟩⟩⟩⟩⟩⟩⟩⟩⟩)⟩)⟩), (fun _ h => List.mem_cons_of_mem _ (List.mem_append_left _ (List.mem_append_right _ h)))⟩), (fun _ h => List.mem_cons_of_mem _ (List.mem_append_right _ h))⟩)⟩) (by decide +kernel)
set_option maxRecDepth 20000 in
theorem gX1_kindNamed_X1_isWord : GoodIn wsX1_kindNamed (wsV RX1 49 RX1 yX1_isWord wsX1_isWord) := goodIn_app (goodIn_sub (List.forall_mem_cons.mpr ⟨List.mem_of_getElem? (i := 1) rfl, List.forall_mem_cons.mpr ⟨List.mem_of_getElem? (i := 2) rfl, List.forall_mem_cons.mpr ⟨List.mem_of_getElem? (i := 3) rfl, List.forall_mem_cons.mpr ⟨List.mem_of_getElem? (i := 4) rfl, fun _ h => absurd h List.not_mem_nil⟩⟩⟩⟩) (by decide +kernel)) ggX1_kindNamed_X1_isWord
theorem dX1_kindNamed_0 : decode cX1_kindNamed 0 = .ok (.aload_n 0, 1) := by decide +kernel
theorem dX1_kindNamed_1 : decode cX1_kindNamed 1 = .ok (.ldc 88, 2) := by decide +kernel
theorem dX1_kindNamed_3 : decode cX1_kindNamed 3 = .ok (.invokevirtual 49, 3) := by decide +kernel
theorem dX1_kindNamed_6 : decode cX1_kindNamed 6 = .ok (.ifCond .eq 5, 3) := by decide +kernel
theorem dX1_kindNamed_9 : decode cX1_kindNamed 9 = .ok (.iconst 0, 1) := by decide +kernel
theorem dX1_kindNamed_10 : decode cX1_kindNamed 10 = .ok (.ireturn, 1) := by decide +kernel
theorem dX1_kindNamed_11 : decode cX1_kindNamed 11 = .ok (.aload_n 0, 1) := by decide +kernel
theorem dX1_kindNamed_12 : decode cX1_kindNamed 12 = .ok (.ldc 92, 2) := by decide +kernel
theorem dX1_kindNamed_14 : decode cX1_kindNamed 14 = .ok (.invokevirtual 49, 3) := by decide +kernel
theorem dX1_kindNamed_17 : decode cX1_kindNamed 17 = .ok (.ifCond .eq 5, 3) := by decide +kernel
theorem dX1_kindNamed_20 : decode cX1_kindNamed 20 = .ok (.iconst 1, 1) := by decide +kernel
theorem dX1_kindNamed_21 : decode cX1_kindNamed 21 = .ok (.ireturn, 1) := by decide +kernel
theorem dX1_kindNamed_22 : decode cX1_kindNamed 22 = .ok (.aload_n 0, 1) := by decide +kernel
theorem dX1_kindNamed_23 : decode cX1_kindNamed 23 = .ok (.ldc 94, 2) := by decide +kernel
theorem dX1_kindNamed_25 : decode cX1_kindNamed 25 = .ok (.invokevirtual 49, 3) := by decide +kernel
theorem dX1_kindNamed_28 : decode cX1_kindNamed 28 = .ok (.ifCond .eq 5, 3) := by decide +kernel
theorem dX1_kindNamed_31 : decode cX1_kindNamed 31 = .ok (.iconst 2, 1) := by decide +kernel
theorem dX1_kindNamed_32 : decode cX1_kindNamed 32 = .ok (.ireturn, 1) := by decide +kernel
theorem dX1_kindNamed_33 : decode cX1_kindNamed 33 = .ok (.aload_n 0, 1) := by decide +kernel
theorem dX1_kindNamed_34 : decode cX1_kindNamed 34 = .ok (.ldc 96, 2) := by decide +kernel
theorem dX1_kindNamed_36 : decode cX1_kindNamed 36 = .ok (.invokevirtual 49, 3) := by decide +kernel
theorem dX1_kindNamed_39 : decode cX1_kindNamed 39 = .ok (.ifCond .eq 5, 3) := by decide +kernel
theorem dX1_kindNamed_42 : decode cX1_kindNamed 42 = .ok (.iconst 3, 1) := by decide +kernel
theorem dX1_kindNamed_43 : decode cX1_kindNamed 43 = .ok (.ireturn, 1) := by decide +kernel
theorem dX1_kindNamed_44 : decode cX1_kindNamed 44 = .ok (.aload_n 0, 1) := by decide +kernel
theorem dX1_kindNamed_45 : decode cX1_kindNamed 45 = .ok (.ldc 98, 2) := by decide +kernel
theorem dX1_kindNamed_47 : decode cX1_kindNamed 47 = .ok (.invokevirtual 49, 3) := by decide +kernel
theorem dX1_kindNamed_50 : decode cX1_kindNamed 50 = .ok (.ifCond .eq 5, 3) := by decide +kernel
theorem dX1_kindNamed_53 : decode cX1_kindNamed 53 = .ok (.iconst 4, 1) := by decide +kernel
theorem dX1_kindNamed_54 : decode cX1_kindNamed 54 = .ok (.ireturn, 1) := by decide +kernel
theorem dX1_kindNamed_55 : decode cX1_kindNamed 55 = .ok (.aload_n 0, 1) := by decide +kernel
theorem dX1_kindNamed_56 : decode cX1_kindNamed 56 = .ok (.ldc 100, 2) := by decide +kernel
theorem dX1_kindNamed_58 : decode cX1_kindNamed 58 = .ok (.invokevirtual 49, 3) := by decide +kernel
theorem dX1_kindNamed_61 : decode cX1_kindNamed 61 = .ok (.ifCond .eq 5, 3) := by decide +kernel
theorem dX1_kindNamed_64 : decode cX1_kindNamed 64 = .ok (.iconst 5, 1) := by decide +kernel
theorem dX1_kindNamed_65 : decode cX1_kindNamed 65 = .ok (.ireturn, 1) := by decide +kernel
theorem dX1_kindNamed_66 : decode cX1_kindNamed 66 = .ok (.iconst (-1), 1) := by decide +kernel
theorem dX1_kindNamed_67 : decode cX1_kindNamed 67 = .ok (.ireturn, 1) := by decide +kernel
set_option maxRecDepth 20000 in
theorem ggX1_isWord_J0_length_8abf5 : GoodIn wsX1_isWord wsJ0_length_8abf5 := goodIn_sub (List.forall_mem_cons.mpr ⟨List.mem_of_getElem? (i := 9) rfl, (List.forall_mem_cons.mpr ⟨List.mem_of_getElem? (i := 10) rfl, List.forall_mem_cons.mpr ⟨List.mem_of_getElem? (i := 11) rfl, List.forall_mem_cons.mpr ⟨List.mem_of_getElem? (i := 12) rfl, List.forall_mem_cons.mpr ⟨List.mem_of_getElem? (i := 13) rfl, List.forall_mem_cons.mpr ⟨List.mem_of_getElem? (i := 8) rfl, List.forall_mem_cons.mpr ⟨List.mem_of_getElem? (i := 14) rfl, List.forall_mem_cons.mpr ⟨List.mem_of_getElem? (i := 15) rfl, List.forall_mem_cons.mpr ⟨List.mem_of_getElem? (i := 16) rfl, fun _ h => absurd h List.not_mem_nil⟩⟩⟩⟩⟩⟩⟩⟩)⟩) (by decide +kernel)
set_option maxRecDepth 20000 in
theorem gX1_isWord_J0_length_8abf5 : GoodIn wsX1_isWord (wsV RX1 102 RJ0 yJ0_length_8abf5 wsJ0_length_8abf5) := goodIn_app (goodIn_sub (List.forall_mem_cons.mpr ⟨List.mem_of_getElem? (i := 5) rfl, List.forall_mem_cons.mpr ⟨List.mem_of_getElem? (i := 6) rfl, List.forall_mem_cons.mpr ⟨List.mem_of_getElem? (i := 7) rfl, List.forall_mem_cons.mpr ⟨List.mem_of_getElem? (i := 8) rfl, fun _ h => absurd h List.not_mem_nil⟩⟩⟩⟩) (by decide +kernel)) ggX1_isWord_J0_length_8abf5
set_option maxRecDepth 20000 in
theorem ggX1_isWord_X4_byteAt : GoodIn wsX1_isWord wsX4_byteAt := goodIn_sub (List.forall_mem_cons.mpr ⟨List.mem_of_getElem? (i := 21) rfl, (List.forall_mem_append.mpr ⟨(List.forall_mem_cons.mpr ⟨List.mem_of_getElem? (i := 22) rfl, List.forall_mem_cons.mpr ⟨List.mem_of_getElem? (i := 23) rfl, fun _ h => absurd h List.not_mem_nil⟩⟩), (fun _ h => List.mem_cons_of_mem _ (List.mem_append_right _ h))⟩)⟩) (by decide +kernel)
set_option maxRecDepth 20000 in
theorem gX1_isWord_X4_byteAt : GoodIn wsX1_isWord (wsV RX1 107 RX4 yX4_byteAt wsX4_byteAt) := goodIn_app (goodIn_sub (List.forall_mem_cons.mpr ⟨List.mem_of_getElem? (i := 17) rfl, List.forall_mem_cons.mpr ⟨List.mem_of_getElem? (i := 18) rfl, List.forall_mem_cons.mpr ⟨List.mem_of_getElem? (i := 19) rfl, List.forall_mem_cons.mpr ⟨List.mem_of_getElem? (i := 20) rfl, fun _ h => absurd h List.not_mem_nil⟩⟩⟩⟩) (by decide +kernel)) ggX1_isWord_X4_byteAt
set_option maxRecDepth 20000 in
theorem ggX1_isWord_J0_charAt_5068e : GoodIn wsX1_isWord wsJ0_charAt_5068e := goodIn_sub (List.forall_mem_cons.mpr ⟨List.mem_of_getElem? (i := 27) rfl, (List.forall_mem_append.mpr ⟨(List.forall_mem_cons.mpr ⟨List.mem_of_getElem? (i := 10) rfl, List.forall_mem_cons.mpr ⟨List.mem_of_getElem? (i := 28) rfl, List.forall_mem_cons.mpr ⟨List.mem_of_getElem? (i := 29) rfl, List.forall_mem_cons.mpr ⟨List.mem_of_getElem? (i := 30) rfl, List.forall_mem_cons.mpr ⟨List.mem_of_getElem? (i := 8) rfl, List.forall_mem_cons.mpr ⟨List.mem_of_getElem? (i := 31) rfl, List.forall_mem_cons.mpr ⟨List.mem_of_getElem? (i := 15) rfl, List.forall_mem_cons.mpr ⟨List.mem_of_getElem? (i := 16) rfl, List.forall_mem_cons.mpr ⟨List.mem_of_getElem? (i := 32) rfl, List.forall_mem_cons.mpr ⟨List.mem_of_getElem? (i := 33) rfl, List.forall_mem_cons.mpr ⟨List.mem_of_getElem? (i := 34) rfl, List.forall_mem_cons.mpr ⟨List.mem_of_getElem? (i := 35) rfl, List.forall_mem_cons.mpr ⟨List.mem_of_getElem? (i := 36) rfl, List.forall_mem_cons.mpr ⟨List.mem_of_getElem? (i := 37) rfl, List.forall_mem_cons.mpr ⟨List.mem_of_getElem? (i := 38) rfl, List.forall_mem_cons.mpr ⟨List.mem_of_getElem? (i := 39) rfl, List.forall_mem_cons.mpr ⟨List.mem_of_getElem? (i := 40) rfl, List.forall_mem_cons.mpr ⟨List.mem_of_getElem? (i := 41) rfl, List.forall_mem_cons.mpr ⟨List.mem_of_getElem? (i := 42) rfl, List.forall_mem_cons.mpr ⟨List.mem_of_getElem? (i := 43) rfl, List.forall_mem_cons.mpr ⟨List.mem_of_getElem? (i := 44) rfl, List.forall_mem_cons.mpr ⟨List.mem_of_getElem? (i := 45) rfl, List.forall_mem_cons.mpr ⟨List.mem_of_getElem? (i := 46) rfl, List.forall_mem_cons.mpr ⟨List.mem_of_getElem? (i := 47) rfl, fun _ h => absurd h List.not_mem_nil⟩⟩⟩⟩⟩⟩⟩⟩⟩⟩⟩⟩⟩⟩⟩⟩⟩⟩⟩⟩⟩⟩⟩⟩), (List.forall_mem_cons.mpr ⟨List.mem_of_getElem? (i := 48) rfl, List.forall_mem_cons.mpr ⟨List.mem_of_getElem? (i := 49) rfl, List.forall_mem_cons.mpr ⟨List.mem_of_getElem? (i := 50) rfl, List.forall_mem_cons.mpr ⟨List.mem_of_getElem? (i := 51) rfl, List.forall_mem_cons.mpr ⟨List.mem_of_getElem? (i := 52) rfl, List.forall_mem_cons.mpr ⟨List.mem_of_getElem? (i := 53) rfl, List.forall_mem_cons.mpr ⟨List.mem_of_getElem? (i := 54) rfl, List.forall_mem_cons.mpr ⟨List.mem_of_getElem? (i := 55) rfl, List.forall_mem_cons.mpr ⟨List.mem_of_getElem? (i := 56) rfl, List.forall_mem_cons.mpr ⟨List.mem_of_getElem? (i := 57) rfl, List.forall_mem_cons.mpr ⟨List.mem_of_getElem? (i := 58) rfl, List.forall_mem_cons.mpr ⟨List.mem_of_getElem? (i := 59) rfl, List.forall_mem_cons.mpr ⟨List.mem_of_getElem? (i := 60) rfl, fun _ h => absurd h List.not_mem_nil⟩⟩⟩⟩⟩⟩⟩⟩⟩⟩⟩⟩⟩)⟩)⟩) (by decide +kernel)
set_option maxRecDepth 20000 in
theorem gX1_isWord_J0_charAt_5068e : GoodIn wsX1_isWord (wsV RX1 110 RJ0 yJ0_charAt_5068e wsJ0_charAt_5068e) := goodIn_app (goodIn_sub (List.forall_mem_cons.mpr ⟨List.mem_of_getElem? (i := 24) rfl, List.forall_mem_cons.mpr ⟨List.mem_of_getElem? (i := 25) rfl, List.forall_mem_cons.mpr ⟨List.mem_of_getElem? (i := 26) rfl, List.forall_mem_cons.mpr ⟨List.mem_of_getElem? (i := 8) rfl, fun _ h => absurd h List.not_mem_nil⟩⟩⟩⟩) (by decide +kernel)) ggX1_isWord_J0_charAt_5068e
theorem dX1_isWord_0 : decode cX1_isWord 0 = .ok (.aload_n 0, 1) := by decide +kernel
theorem dX1_isWord_1 : decode cX1_isWord 1 = .ok (.getfield 9, 3) := by decide +kernel
theorem dX1_isWord_4 : decode cX1_isWord 4 = .ok (.iconst 1, 1) := by decide +kernel
theorem dX1_isWord_5 : decode cX1_isWord 5 = .ok (.if_icmp .ne 19, 3) := by decide +kernel
theorem dX1_isWord_8 : decode cX1_isWord 8 = .ok (.aload_n 0, 1) := by decide +kernel
theorem dX1_isWord_9 : decode cX1_isWord 9 = .ok (.getfield 16, 3) := by decide +kernel
theorem dX1_isWord_12 : decode cX1_isWord 12 = .ok (.aload_n 0, 1) := by decide +kernel
theorem dX1_isWord_13 : decode cX1_isWord 13 = .ok (.getfield 13, 3) := by decide +kernel
theorem dX1_isWord_16 : decode cX1_isWord 16 = .ok (.isub, 1) := by decide +kernel
theorem dX1_isWord_17 : decode cX1_isWord 17 = .ok (.aload_n 1, 1) := by decide +kernel
theorem dX1_isWord_18 : decode cX1_isWord 18 = .ok (.invokevirtual 102, 3) := by decide +kernel
theorem dX1_isWord_21 : decode cX1_isWord 21 = .ok (.if_icmp .eq 5, 3) := by decide +kernel
theorem dX1_isWord_24 : decode cX1_isWord 24 = .ok (.iconst 0, 1) := by decide +kernel
theorem dX1_isWord_25 : decode cX1_isWord 25 = .ok (.ireturn, 1) := by decide +kernel
theorem dX1_isWord_26 : decode cX1_isWord 26 = .ok (.iconst 0, 1) := by decide +kernel
theorem dX1_isWord_27 : decode cX1_isWord 27 = .ok (.istore_n 2, 1) := by decide +kernel
theorem dX1_isWord_28 : decode cX1_isWord 28 = .ok (.iload_n 2, 1) := by decide +kernel
theorem dX1_isWord_29 : decode cX1_isWord 29 = .ok (.aload_n 1, 1) := by decide +kernel
theorem dX1_isWord_30 : decode cX1_isWord 30 = .ok (.invokevirtual 102, 3) := by decide +kernel
theorem dX1_isWord_33 : decode cX1_isWord 33 = .ok (.if_icmp .ge 32, 3) := by decide +kernel
theorem dX1_isWord_36 : decode cX1_isWord 36 = .ok (.aload_n 0, 1) := by decide +kernel
theorem dX1_isWord_37 : decode cX1_isWord 37 = .ok (.getfield 22, 3) := by decide +kernel
theorem dX1_isWord_40 : decode cX1_isWord 40 = .ok (.aload_n 0, 1) := by decide +kernel
theorem dX1_isWord_41 : decode cX1_isWord 41 = .ok (.getfield 13, 3) := by decide +kernel
theorem dX1_isWord_44 : decode cX1_isWord 44 = .ok (.iload_n 2, 1) := by decide +kernel
theorem dX1_isWord_45 : decode cX1_isWord 45 = .ok (.iadd, 1) := by decide +kernel
theorem dX1_isWord_46 : decode cX1_isWord 46 = .ok (.invokevirtual 107, 3) := by decide +kernel
theorem dX1_isWord_49 : decode cX1_isWord 49 = .ok (.aload_n 1, 1) := by decide +kernel
theorem dX1_isWord_50 : decode cX1_isWord 50 = .ok (.iload_n 2, 1) := by decide +kernel
theorem dX1_isWord_51 : decode cX1_isWord 51 = .ok (.invokevirtual 110, 3) := by decide +kernel
theorem dX1_isWord_54 : decode cX1_isWord 54 = .ok (.if_icmp .eq 5, 3) := by decide +kernel
theorem dX1_isWord_57 : decode cX1_isWord 57 = .ok (.iconst 0, 1) := by decide +kernel
theorem dX1_isWord_58 : decode cX1_isWord 58 = .ok (.ireturn, 1) := by decide +kernel
theorem dX1_isWord_59 : decode cX1_isWord 59 = .ok (.iinc 2 1, 3) := by decide +kernel
theorem dX1_isWord_62 : decode cX1_isWord 62 = .ok (.goto (-34), 3) := by decide +kernel
theorem dX1_isWord_65 : decode cX1_isWord 65 = .ok (.iconst 1, 1) := by decide +kernel
theorem dX1_isWord_66 : decode cX1_isWord 66 = .ok (.ireturn, 1) := by decide +kernel
set_option maxRecDepth 20000 in
theorem ggX1_advance_X4_byteAt : GoodIn wsX1_advance wsX4_byteAt := goodIn_sub (List.forall_mem_cons.mpr ⟨List.mem_of_getElem? (i := 15) rfl, (List.forall_mem_append.mpr ⟨(List.forall_mem_cons.mpr ⟨List.mem_of_getElem? (i := 16) rfl, List.forall_mem_cons.mpr ⟨List.mem_of_getElem? (i := 17) rfl, fun _ h => absurd h List.not_mem_nil⟩⟩), (fun _ h => List.mem_cons_of_mem _ (List.mem_append_right _ h))⟩)⟩) (by decide +kernel)
set_option maxRecDepth 20000 in
theorem gX1_advance_X4_byteAt : GoodIn wsX1_advance (wsV RX1 107 RX4 yX4_byteAt wsX4_byteAt) := goodIn_app (goodIn_sub (List.forall_mem_cons.mpr ⟨List.mem_of_getElem? (i := 11) rfl, List.forall_mem_cons.mpr ⟨List.mem_of_getElem? (i := 12) rfl, List.forall_mem_cons.mpr ⟨List.mem_of_getElem? (i := 13) rfl, List.forall_mem_cons.mpr ⟨List.mem_of_getElem? (i := 14) rfl, fun _ h => absurd h List.not_mem_nil⟩⟩⟩⟩) (by decide +kernel)) ggX1_advance_X4_byteAt
set_option maxRecDepth 20000 in
theorem ggX1_advance_X1_isLetter : GoodIn wsX1_advance wsX1_isLetter := goodIn_sub (List.forall_mem_cons.mpr ⟨List.mem_of_getElem? (i := 21) rfl, (fun _ h => absurd h List.not_mem_nil)⟩) (by decide +kernel)
set_option maxRecDepth 20000 in
theorem gX1_advance_X1_isLetter : GoodIn wsX1_advance (va_wsS RX1 116 yX1_isLetter wsX1_isLetter) := goodIn_app (goodIn_sub (List.forall_mem_cons.mpr ⟨List.mem_of_getElem? (i := 18) rfl, List.forall_mem_cons.mpr ⟨List.mem_of_getElem? (i := 19) rfl, List.forall_mem_cons.mpr ⟨List.mem_of_getElem? (i := 20) rfl, fun _ h => absurd h List.not_mem_nil⟩⟩⟩) (by decide +kernel)) ggX1_advance_X1_isLetter
set_option maxRecDepth 20000 in
theorem ggX1_advance_X1_isDigit : GoodIn wsX1_advance wsX1_isDigit := goodIn_sub (List.forall_mem_cons.mpr ⟨List.mem_of_getElem? (i := 24) rfl, (fun _ h => absurd h List.not_mem_nil)⟩) (by decide +kernel)
set_option maxRecDepth 20000 in
theorem gX1_advance_X1_isDigit : GoodIn wsX1_advance (va_wsS RX1 119 yX1_isDigit wsX1_isDigit) := goodIn_app (goodIn_sub (List.forall_mem_cons.mpr ⟨List.mem_of_getElem? (i := 22) rfl, List.forall_mem_cons.mpr ⟨List.mem_of_getElem? (i := 23) rfl, List.forall_mem_cons.mpr ⟨List.mem_of_getElem? (i := 20) rfl, fun _ h => absurd h List.not_mem_nil⟩⟩⟩) (by decide +kernel)) ggX1_advance_X1_isDigit
theorem dX1_advance_0 : decode cX1_advance 0 = .ok (.aload_n 0, 1) := by decide +kernel
theorem dX1_advance_1 : decode cX1_advance 1 = .ok (.aload_n 0, 1) := by decide +kernel
theorem dX1_advance_2 : decode cX1_advance 2 = .ok (.getfield 16, 3) := by decide +kernel
theorem dX1_advance_5 : decode cX1_advance 5 = .ok (.putfield 13, 3) := by decide +kernel
theorem dX1_advance_8 : decode cX1_advance 8 = .ok (.aload_n 0, 1) := by decide +kernel
theorem dX1_advance_9 : decode cX1_advance 9 = .ok (.getfield 13, 3) := by decide +kernel
theorem dX1_advance_12 : decode cX1_advance 12 = .ok (.aload_n 0, 1) := by decide +kernel
theorem dX1_advance_13 : decode cX1_advance 13 = .ok (.getfield 22, 3) := by decide +kernel
theorem dX1_advance_16 : decode cX1_advance 16 = .ok (.getfield 114, 3) := by decide +kernel
theorem dX1_advance_19 : decode cX1_advance 19 = .ok (.if_icmp .ge 32, 3) := by decide +kernel
theorem dX1_advance_22 : decode cX1_advance 22 = .ok (.aload_n 0, 1) := by decide +kernel
theorem dX1_advance_23 : decode cX1_advance 23 = .ok (.getfield 22, 3) := by decide +kernel
theorem dX1_advance_26 : decode cX1_advance 26 = .ok (.aload_n 0, 1) := by decide +kernel
theorem dX1_advance_27 : decode cX1_advance 27 = .ok (.getfield 13, 3) := by decide +kernel
theorem dX1_advance_30 : decode cX1_advance 30 = .ok (.invokevirtual 107, 3) := by decide +kernel
theorem dX1_advance_33 : decode cX1_advance 33 = .ok (.bipush 32, 2) := by decide +kernel
theorem dX1_advance_35 : decode cX1_advance 35 = .ok (.if_icmp .ne 16, 3) := by decide +kernel
theorem dX1_advance_38 : decode cX1_advance 38 = .ok (.aload_n 0, 1) := by decide +kernel
theorem dX1_advance_39 : decode cX1_advance 39 = .ok (.dup, 1) := by decide +kernel
theorem dX1_advance_40 : decode cX1_advance 40 = .ok (.getfield 13, 3) := by decide +kernel
theorem dX1_advance_43 : decode cX1_advance 43 = .ok (.iconst 1, 1) := by decide +kernel
theorem dX1_advance_44 : decode cX1_advance 44 = .ok (.iadd, 1) := by decide +kernel
theorem dX1_advance_45 : decode cX1_advance 45 = .ok (.putfield 13, 3) := by decide +kernel
theorem dX1_advance_48 : decode cX1_advance 48 = .ok (.goto (-40), 3) := by decide +kernel
theorem dX1_advance_51 : decode cX1_advance 51 = .ok (.aload_n 0, 1) := by decide +kernel
theorem dX1_advance_52 : decode cX1_advance 52 = .ok (.aload_n 0, 1) := by decide +kernel
theorem dX1_advance_53 : decode cX1_advance 53 = .ok (.getfield 13, 3) := by decide +kernel
theorem dX1_advance_56 : decode cX1_advance 56 = .ok (.putfield 16, 3) := by decide +kernel
theorem dX1_advance_59 : decode cX1_advance 59 = .ok (.aload_n 0, 1) := by decide +kernel
theorem dX1_advance_60 : decode cX1_advance 60 = .ok (.getfield 22, 3) := by decide +kernel
theorem dX1_advance_63 : decode cX1_advance 63 = .ok (.aload_n 0, 1) := by decide +kernel
theorem dX1_advance_64 : decode cX1_advance 64 = .ok (.getfield 13, 3) := by decide +kernel
theorem dX1_advance_67 : decode cX1_advance 67 = .ok (.invokevirtual 107, 3) := by decide +kernel
theorem dX1_advance_70 : decode cX1_advance 70 = .ok (.istore_n 1, 1) := by decide +kernel
theorem dX1_advance_71 : decode cX1_advance 71 = .ok (.iload_n 1, 1) := by decide +kernel
theorem dX1_advance_72 : decode cX1_advance 72 = .ok (.ifCond .ge 11, 3) := by decide +kernel
theorem dX1_advance_75 : decode cX1_advance 75 = .ok (.aload_n 0, 1) := by decide +kernel
theorem dX1_advance_76 : decode cX1_advance 76 = .ok (.iconst 0, 1) := by decide +kernel
theorem dX1_advance_77 : decode cX1_advance 77 = .ok (.putfield 9, 3) := by decide +kernel
theorem dX1_advance_80 : decode cX1_advance 80 = .ok (.goto 177, 3) := by decide +kernel
theorem dX1_advance_83 : decode cX1_advance 83 = .ok (.iload_n 1, 1) := by decide +kernel
theorem dX1_advance_84 : decode cX1_advance 84 = .ok (.invokestatic 116, 3) := by decide +kernel
theorem dX1_advance_87 : decode cX1_advance 87 = .ok (.ifCond .eq 52, 3) := by decide +kernel
theorem dX1_advance_90 : decode cX1_advance 90 = .ok (.aload_n 0, 1) := by decide +kernel
theorem dX1_advance_91 : decode cX1_advance 91 = .ok (.iconst 1, 1) := by decide +kernel
theorem dX1_advance_92 : decode cX1_advance 92 = .ok (.putfield 9, 3) := by decide +kernel
theorem dX1_advance_95 : decode cX1_advance 95 = .ok (.aload_n 0, 1) := by decide +kernel
theorem dX1_advance_96 : decode cX1_advance 96 = .ok (.getfield 16, 3) := by decide +kernel
theorem dX1_advance_99 : decode cX1_advance 99 = .ok (.aload_n 0, 1) := by decide +kernel
theorem dX1_advance_100 : decode cX1_advance 100 = .ok (.getfield 22, 3) := by decide +kernel
theorem dX1_advance_103 : decode cX1_advance 103 = .ok (.getfield 114, 3) := by decide +kernel
theorem dX1_advance_106 : decode cX1_advance 106 = .ok (.if_icmp .ge 151, 3) := by decide +kernel
theorem dX1_advance_109 : decode cX1_advance 109 = .ok (.aload_n 0, 1) := by decide +kernel
theorem dX1_advance_110 : decode cX1_advance 110 = .ok (.getfield 22, 3) := by decide +kernel
theorem dX1_advance_113 : decode cX1_advance 113 = .ok (.aload_n 0, 1) := by decide +kernel
theorem dX1_advance_114 : decode cX1_advance 114 = .ok (.getfield 16, 3) := by decide +kernel
theorem dX1_advance_117 : decode cX1_advance 117 = .ok (.invokevirtual 107, 3) := by decide +kernel
theorem dX1_advance_120 : decode cX1_advance 120 = .ok (.invokestatic 116, 3) := by decide +kernel
theorem dX1_advance_123 : decode cX1_advance 123 = .ok (.ifCond .eq 134, 3) := by decide +kernel
theorem dX1_advance_126 : decode cX1_advance 126 = .ok (.aload_n 0, 1) := by decide +kernel
theorem dX1_advance_127 : decode cX1_advance 127 = .ok (.dup, 1) := by decide +kernel
theorem dX1_advance_128 : decode cX1_advance 128 = .ok (.getfield 16, 3) := by decide +kernel
theorem dX1_advance_131 : decode cX1_advance 131 = .ok (.iconst 1, 1) := by decide +kernel
theorem dX1_advance_132 : decode cX1_advance 132 = .ok (.iadd, 1) := by decide +kernel
theorem dX1_advance_133 : decode cX1_advance 133 = .ok (.putfield 16, 3) := by decide +kernel
theorem dX1_advance_136 : decode cX1_advance 136 = .ok (.goto (-41), 3) := by decide +kernel
theorem dX1_advance_139 : decode cX1_advance 139 = .ok (.iload_n 1, 1) := by decide +kernel
theorem dX1_advance_140 : decode cX1_advance 140 = .ok (.invokestatic 119, 3) := by decide +kernel
theorem dX1_advance_143 : decode cX1_advance 143 = .ok (.ifCond .eq 89, 3) := by decide +kernel
theorem dX1_advance_146 : decode cX1_advance 146 = .ok (.aload_n 0, 1) := by decide +kernel
theorem dX1_advance_147 : decode cX1_advance 147 = .ok (.iconst 2, 1) := by decide +kernel
theorem dX1_advance_148 : decode cX1_advance 148 = .ok (.putfield 9, 3) := by decide +kernel
theorem dX1_advance_151 : decode cX1_advance 151 = .ok (.aload_n 0, 1) := by decide +kernel
theorem dX1_advance_152 : decode cX1_advance 152 = .ok (.iconst 0, 1) := by decide +kernel
theorem dX1_advance_153 : decode cX1_advance 153 = .ok (.putfield 19, 3) := by decide +kernel
theorem dX1_advance_156 : decode cX1_advance 156 = .ok (.aload_n 0, 1) := by decide +kernel
theorem dX1_advance_157 : decode cX1_advance 157 = .ok (.getfield 16, 3) := by decide +kernel
theorem dX1_advance_160 : decode cX1_advance 160 = .ok (.aload_n 0, 1) := by decide +kernel
theorem dX1_advance_161 : decode cX1_advance 161 = .ok (.getfield 22, 3) := by decide +kernel
theorem dX1_advance_164 : decode cX1_advance 164 = .ok (.getfield 114, 3) := by decide +kernel
theorem dX1_advance_167 : decode cX1_advance 167 = .ok (.if_icmp .ge 90, 3) := by decide +kernel
theorem dX1_advance_170 : decode cX1_advance 170 = .ok (.aload_n 0, 1) := by decide +kernel
theorem dX1_advance_171 : decode cX1_advance 171 = .ok (.getfield 22, 3) := by decide +kernel
theorem dX1_advance_174 : decode cX1_advance 174 = .ok (.aload_n 0, 1) := by decide +kernel
theorem dX1_advance_175 : decode cX1_advance 175 = .ok (.getfield 16, 3) := by decide +kernel
theorem dX1_advance_178 : decode cX1_advance 178 = .ok (.invokevirtual 107, 3) := by decide +kernel
theorem dX1_advance_181 : decode cX1_advance 181 = .ok (.invokestatic 119, 3) := by decide +kernel
theorem dX1_advance_184 : decode cX1_advance 184 = .ok (.ifCond .eq 73, 3) := by decide +kernel
theorem dX1_advance_187 : decode cX1_advance 187 = .ok (.aload_n 0, 1) := by decide +kernel
theorem dX1_advance_188 : decode cX1_advance 188 = .ok (.sipush 1000, 3) := by decide +kernel
theorem dX1_advance_191 : decode cX1_advance 191 = .ok (.bipush 10, 2) := by decide +kernel
theorem dX1_advance_193 : decode cX1_advance 193 = .ok (.aload_n 0, 1) := by decide +kernel
theorem dX1_advance_194 : decode cX1_advance 194 = .ok (.getfield 19, 3) := by decide +kernel
theorem dX1_advance_197 : decode cX1_advance 197 = .ok (.imul, 1) := by decide +kernel
theorem dX1_advance_198 : decode cX1_advance 198 = .ok (.aload_n 0, 1) := by decide +kernel
theorem dX1_advance_199 : decode cX1_advance 199 = .ok (.getfield 22, 3) := by decide +kernel
theorem dX1_advance_202 : decode cX1_advance 202 = .ok (.aload_n 0, 1) := by decide +kernel
theorem dX1_advance_203 : decode cX1_advance 203 = .ok (.getfield 16, 3) := by decide +kernel
theorem dX1_advance_206 : decode cX1_advance 206 = .ok (.invokevirtual 107, 3) := by decide +kernel
theorem dX1_advance_209 : decode cX1_advance 209 = .ok (.iadd, 1) := by decide +kernel
theorem dX1_advance_210 : decode cX1_advance 210 = .ok (.bipush 48, 2) := by decide +kernel
theorem dX1_advance_212 : decode cX1_advance 212 = .ok (.isub, 1) := by decide +kernel
theorem dX1_advance_213 : decode cX1_advance 213 = .ok (.invokestatic 122, 3) := by decide +kernel
theorem dX1_advance_216 : decode cX1_advance 216 = .ok (.putfield 19, 3) := by decide +kernel
theorem dX1_advance_219 : decode cX1_advance 219 = .ok (.aload_n 0, 1) := by decide +kernel
theorem dX1_advance_220 : decode cX1_advance 220 = .ok (.dup, 1) := by decide +kernel
theorem dX1_advance_221 : decode cX1_advance 221 = .ok (.getfield 16, 3) := by decide +kernel
theorem dX1_advance_224 : decode cX1_advance 224 = .ok (.iconst 1, 1) := by decide +kernel
theorem dX1_advance_225 : decode cX1_advance 225 = .ok (.iadd, 1) := by decide +kernel
theorem dX1_advance_226 : decode cX1_advance 226 = .ok (.putfield 16, 3) := by decide +kernel
theorem dX1_advance_229 : decode cX1_advance 229 = .ok (.goto (-73), 3) := by decide +kernel
theorem dX1_advance_232 : decode cX1_advance 232 = .ok (.aload_n 0, 1) := by decide +kernel
theorem dX1_advance_233 : decode cX1_advance 233 = .ok (.iload_n 1, 1) := by decide +kernel
theorem dX1_advance_234 : decode cX1_advance 234 = .ok (.bipush 59, 2) := by decide +kernel
theorem dX1_advance_236 : decode cX1_advance 236 = .ok (.if_icmp .ne 7, 3) := by decide +kernel
theorem dX1_advance_239 : decode cX1_advance 239 = .ok (.iconst 3, 1) := by decide +kernel
theorem dX1_advance_240 : decode cX1_advance 240 = .ok (.goto 4, 3) := by decide +kernel
theorem dX1_advance_243 : decode cX1_advance 243 = .ok (.iconst 4, 1) := by decide +kernel
theorem dX1_advance_244 : decode cX1_advance 244 = .ok (.putfield 9, 3) := by decide +kernel
theorem dX1_advance_247 : decode cX1_advance 247 = .ok (.aload_n 0, 1) := by decide +kernel
theorem dX1_advance_248 : decode cX1_advance 248 = .ok (.dup, 1) := by decide +kernel
theorem dX1_advance_249 : decode cX1_advance 249 = .ok (.getfield 16, 3) := by decide +kernel
theorem dX1_advance_252 : decode cX1_advance 252 = .ok (.iconst 1, 1) := by decide +kernel
theorem dX1_advance_253 : decode cX1_advance 253 = .ok (.iadd, 1) := by decide +kernel
theorem dX1_advance_254 : decode cX1_advance 254 = .ok (.putfield 16, 3) := by decide +kernel
theorem dX1_advance_257 : decode cX1_advance 257 = .ok (.return_, 1) := by decide +kernel
theorem dX1_isLetter_0 : decode cX1_isLetter 0 = .ok (.iload_n 0, 1) := by decide +kernel
theorem dX1_isLetter_1 : decode cX1_isLetter 1 = .ok (.bipush 97, 2) := by decide +kernel
theorem dX1_isLetter_3 : decode cX1_isLetter 3 = .ok (.if_icmp .lt 13, 3) := by decide +kernel
theorem dX1_isLetter_6 : decode cX1_isLetter 6 = .ok (.iload_n 0, 1) := by decide +kernel
theorem dX1_isLetter_7 : decode cX1_isLetter 7 = .ok (.bipush 122, 2) := by decide +kernel
theorem dX1_isLetter_9 : decode cX1_isLetter 9 = .ok (.if_icmp .gt 7, 3) := by decide +kernel
theorem dX1_isLetter_12 : decode cX1_isLetter 12 = .ok (.iconst 1, 1) := by decide +kernel
theorem dX1_isLetter_13 : decode cX1_isLetter 13 = .ok (.goto 4, 3) := by decide +kernel
theorem dX1_isLetter_16 : decode cX1_isLetter 16 = .ok (.iconst 0, 1) := by decide +kernel
theorem dX1_isLetter_17 : decode cX1_isLetter 17 = .ok (.ireturn, 1) := by decide +kernel
theorem dX1_isDigit_0 : decode cX1_isDigit 0 = .ok (.iload_n 0, 1) := by decide +kernel
theorem dX1_isDigit_1 : decode cX1_isDigit 1 = .ok (.bipush 48, 2) := by decide +kernel
theorem dX1_isDigit_3 : decode cX1_isDigit 3 = .ok (.if_icmp .lt 13, 3) := by decide +kernel
theorem dX1_isDigit_6 : decode cX1_isDigit 6 = .ok (.iload_n 0, 1) := by decide +kernel
theorem dX1_isDigit_7 : decode cX1_isDigit 7 = .ok (.bipush 57, 2) := by decide +kernel
theorem dX1_isDigit_9 : decode cX1_isDigit 9 = .ok (.if_icmp .gt 7, 3) := by decide +kernel
theorem dX1_isDigit_12 : decode cX1_isDigit 12 = .ok (.iconst 1, 1) := by decide +kernel
theorem dX1_isDigit_13 : decode cX1_isDigit 13 = .ok (.goto 4, 3) := by decide +kernel
theorem dX1_isDigit_16 : decode cX1_isDigit 16 = .ok (.iconst 0, 1) := by decide +kernel
theorem dX1_isDigit_17 : decode cX1_isDigit 17 = .ok (.ireturn, 1) := by decide +kernel
theorem dX2_isOne_0 : decode cX2_isOne 0 = .ok (.iload_n 0, 1) := by decide +kernel
theorem dX2_isOne_1 : decode cX2_isOne 1 = .ok (.ifCond .lt 13, 3) := by decide +kernel
theorem dX2_isOne_4 : decode cX2_isOne 4 = .ok (.iload_n 0, 1) := by decide +kernel
theorem dX2_isOne_5 : decode cX2_isOne 5 = .ok (.bipush 6, 2) := by decide +kernel
theorem dX2_isOne_7 : decode cX2_isOne 7 = .ok (.if_icmp .ge 7, 3) := by decide +kernel
theorem dX2_isOne_10 : decode cX2_isOne 10 = .ok (.iconst 1, 1) := by decide +kernel
theorem dX2_isOne_11 : decode cX2_isOne 11 = .ok (.goto 4, 3) := by decide +kernel
theorem dX2_isOne_14 : decode cX2_isOne 14 = .ok (.iconst 0, 1) := by decide +kernel
theorem dX2_isOne_15 : decode cX2_isOne 15 = .ok (.ireturn, 1) := by decide +kernel
set_option maxRecDepth 20000 in
theorem ggX2_isUnder_X2_isOne : GoodIn wsX2_isUnder wsX2_isOne := goodIn_sub (List.forall_mem_cons.mpr ⟨List.mem_of_getElem? (i := 5) rfl, (fun _ h => absurd h List.not_mem_nil)⟩) (by decide +kernel)
set_option maxRecDepth 20000 in
theorem gX2_isUnder_X2_isOne : GoodIn wsX2_isUnder (va_wsS RX2 9 yX2_isOne wsX2_isOne) := goodIn_app (goodIn_sub (List.forall_mem_cons.mpr ⟨List.mem_of_getElem? (i := 2) rfl, List.forall_mem_cons.mpr ⟨List.mem_of_getElem? (i := 3) rfl, List.forall_mem_cons.mpr ⟨List.mem_of_getElem? (i := 4) rfl, fun _ h => absurd h List.not_mem_nil⟩⟩⟩) (by decide +kernel)) ggX2_isUnder_X2_isOne
theorem dX2_isUnder_0 : decode cX2_isUnder 0 = .ok (.iload_n 0, 1) := by decide +kernel
theorem dX2_isUnder_1 : decode cX2_isUnder 1 = .ok (.istore_n 2, 1) := by decide +kernel
theorem dX2_isUnder_2 : decode cX2_isUnder 2 = .ok (.iconst 0, 1) := by decide +kernel
theorem dX2_isUnder_3 : decode cX2_isUnder 3 = .ok (.istore_n 3, 1) := by decide +kernel
theorem dX2_isUnder_4 : decode cX2_isUnder 4 = .ok (.iload_n 3, 1) := by decide +kernel
theorem dX2_isUnder_5 : decode cX2_isUnder 5 = .ok (.bipush 6, 2) := by decide +kernel
theorem dX2_isUnder_7 : decode cX2_isUnder 7 = .ok (.if_icmp .ge 29, 3) := by decide +kernel
theorem dX2_isUnder_10 : decode cX2_isUnder 10 = .ok (.iload_n 2, 1) := by decide +kernel
theorem dX2_isUnder_11 : decode cX2_isUnder 11 = .ok (.invokestatic 9, 3) := by decide +kernel
theorem dX2_isUnder_14 : decode cX2_isUnder 14 = .ok (.ifCond .eq 22, 3) := by decide +kernel
theorem dX2_isUnder_17 : decode cX2_isUnder 17 = .ok (.iload_n 2, 1) := by decide +kernel
theorem dX2_isUnder_18 : decode cX2_isUnder 18 = .ok (.iload_n 1, 1) := by decide +kernel
theorem dX2_isUnder_19 : decode cX2_isUnder 19 = .ok (.if_icmp .ne 5, 3) := by decide +kernel
theorem dX2_isUnder_22 : decode cX2_isUnder 22 = .ok (.iconst 1, 1) := by decide +kernel
theorem dX2_isUnder_23 : decode cX2_isUnder 23 = .ok (.ireturn, 1) := by decide +kernel
theorem dX2_isUnder_24 : decode cX2_isUnder 24 = .ok (.getstatic 13, 3) := by decide +kernel
theorem dX2_isUnder_27 : decode cX2_isUnder 27 = .ok (.iload_n 2, 1) := by decide +kernel
theorem dX2_isUnder_28 : decode cX2_isUnder 28 = .ok (.iaload, 1) := by decide +kernel
theorem dX2_isUnder_29 : decode cX2_isUnder 29 = .ok (.istore_n 2, 1) := by decide +kernel
theorem dX2_isUnder_30 : decode cX2_isUnder 30 = .ok (.iinc 3 1, 3) := by decide +kernel
theorem dX2_isUnder_33 : decode cX2_isUnder 33 = .ok (.goto (-29), 3) := by decide +kernel
theorem dX2_isUnder_36 : decode cX2_isUnder 36 = .ok (.iconst 0, 1) := by decide +kernel
theorem dX2_isUnder_37 : decode cX2_isUnder 37 = .ok (.ireturn, 1) := by decide +kernel
set_option maxRecDepth 20000 in
theorem ggX2_wants_X2_boyWants : GoodIn wsX2_wants wsX2_boyWants := goodIn_sub (List.forall_mem_cons.mpr ⟨List.mem_of_getElem? (i := 4) rfl, (fun _ h => absurd h List.not_mem_nil)⟩) (by decide +kernel)
set_option maxRecDepth 20000 in
theorem gX2_wants_X2_boyWants : GoodIn wsX2_wants (va_wsS RX2 17 yX2_boyWants wsX2_boyWants) := goodIn_app (goodIn_sub (List.forall_mem_cons.mpr ⟨List.mem_of_getElem? (i := 1) rfl, List.forall_mem_cons.mpr ⟨List.mem_of_getElem? (i := 2) rfl, List.forall_mem_cons.mpr ⟨List.mem_of_getElem? (i := 3) rfl, fun _ h => absurd h List.not_mem_nil⟩⟩⟩) (by decide +kernel)) ggX2_wants_X2_boyWants
set_option maxRecDepth 20000 in
theorem ggX2_wants_X2_rebelWants : GoodIn wsX2_wants wsX2_rebelWants := goodIn_sub (List.forall_mem_cons.mpr ⟨List.mem_of_getElem? (i := 7) rfl, (fun _ h => absurd h List.not_mem_nil)⟩) (by decide +kernel)
set_option maxRecDepth 20000 in
theorem gX2_wants_X2_rebelWants : GoodIn wsX2_wants (va_wsS RX2 21 yX2_rebelWants wsX2_rebelWants) := goodIn_app (goodIn_sub (List.forall_mem_cons.mpr ⟨List.mem_of_getElem? (i := 5) rfl, List.forall_mem_cons.mpr ⟨List.mem_of_getElem? (i := 6) rfl, List.forall_mem_cons.mpr ⟨List.mem_of_getElem? (i := 3) rfl, fun _ h => absurd h List.not_mem_nil⟩⟩⟩) (by decide +kernel)) ggX2_wants_X2_rebelWants
theorem dX2_wants_0 : decode cX2_wants 0 = .ok (.iload_n 0, 1) := by decide +kernel
theorem dX2_wants_1 : decode cX2_wants 1 = .ok (.tableswitch 89 1 5 #[35, 41, 47, 61, 69], 35) := by decide +kernel
theorem dX2_wants_36 : decode cX2_wants 36 = .ok (.iload_n 1, 1) := by decide +kernel
theorem dX2_wants_37 : decode cX2_wants 37 = .ok (.iload_n 2, 1) := by decide +kernel
theorem dX2_wants_38 : decode cX2_wants 38 = .ok (.invokestatic 17, 3) := by decide +kernel
theorem dX2_wants_41 : decode cX2_wants 41 = .ok (.ireturn, 1) := by decide +kernel
theorem dX2_wants_42 : decode cX2_wants 42 = .ok (.iload_n 1, 1) := by decide +kernel
theorem dX2_wants_43 : decode cX2_wants 43 = .ok (.iload_n 3, 1) := by decide +kernel
theorem dX2_wants_44 : decode cX2_wants 44 = .ok (.invokestatic 21, 3) := by decide +kernel
theorem dX2_wants_47 : decode cX2_wants 47 = .ok (.ireturn, 1) := by decide +kernel
theorem dX2_wants_48 : decode cX2_wants 48 = .ok (.iload_n 2, 1) := by decide +kernel
theorem dX2_wants_49 : decode cX2_wants 49 = .ok (.iconst 2, 1) := by decide +kernel
theorem dX2_wants_50 : decode cX2_wants 50 = .ok (.irem, 1) := by decide +kernel
theorem dX2_wants_51 : decode cX2_wants 51 = .ok (.ifCond .ne 9, 3) := by decide +kernel
theorem dX2_wants_54 : decode cX2_wants 54 = .ok (.iload_n 1, 1) := by decide +kernel
theorem dX2_wants_55 : decode cX2_wants 55 = .ok (.iconst 1, 1) := by decide +kernel
theorem dX2_wants_56 : decode cX2_wants 56 = .ok (.iadd, 1) := by decide +kernel
theorem dX2_wants_57 : decode cX2_wants 57 = .ok (.goto 4, 3) := by decide +kernel
theorem dX2_wants_60 : decode cX2_wants 60 = .ok (.iload_n 1, 1) := by decide +kernel
theorem dX2_wants_61 : decode cX2_wants 61 = .ok (.ireturn, 1) := by decide +kernel
theorem dX2_wants_62 : decode cX2_wants 62 = .ok (.iload_n 1, 1) := by decide +kernel
theorem dX2_wants_63 : decode cX2_wants 63 = .ok (.iload_n 2, 1) := by decide +kernel
theorem dX2_wants_64 : decode cX2_wants 64 = .ok (.invokestatic 17, 3) := by decide +kernel
theorem dX2_wants_67 : decode cX2_wants 67 = .ok (.iconst 1, 1) := by decide +kernel
theorem dX2_wants_68 : decode cX2_wants 68 = .ok (.iadd, 1) := by decide +kernel
theorem dX2_wants_69 : decode cX2_wants 69 = .ok (.ireturn, 1) := by decide +kernel
theorem dX2_wants_70 : decode cX2_wants 70 = .ok (.iload_n 1, 1) := by decide +kernel
theorem dX2_wants_71 : decode cX2_wants 71 = .ok (.iload_n 3, 1) := by decide +kernel
theorem dX2_wants_72 : decode cX2_wants 72 = .ok (.invokestatic 21, 3) := by decide +kernel
theorem dX2_wants_75 : decode cX2_wants 75 = .ok (.iload_n 2, 1) := by decide +kernel
theorem dX2_wants_76 : decode cX2_wants 76 = .ok (.bipush 10, 2) := by decide +kernel
theorem dX2_wants_78 : decode cX2_wants 78 = .ok (.irem, 1) := by decide +kernel
theorem dX2_wants_79 : decode cX2_wants 79 = .ok (.ifCond .ne 8, 3) := by decide +kernel
theorem dX2_wants_82 : decode cX2_wants 82 = .ok (.bipush 12, 2) := by decide +kernel
theorem dX2_wants_84 : decode cX2_wants 84 = .ok (.goto 4, 3) := by decide +kernel
theorem dX2_wants_87 : decode cX2_wants 87 = .ok (.iconst 0, 1) := by decide +kernel
theorem dX2_wants_88 : decode cX2_wants 88 = .ok (.iadd, 1) := by decide +kernel
theorem dX2_wants_89 : decode cX2_wants 89 = .ok (.ireturn, 1) := by decide +kernel
theorem dX2_wants_90 : decode cX2_wants 90 = .ok (.iload_n 1, 1) := by decide +kernel
theorem dX2_wants_91 : decode cX2_wants 91 = .ok (.ireturn, 1) := by decide +kernel
theorem dX2_boyWants_0 : decode cX2_boyWants 0 = .ok (.iload_n 1, 1) := by decide +kernel
theorem dX2_boyWants_1 : decode cX2_boyWants 1 = .ok (.iconst 2, 1) := by decide +kernel
theorem dX2_boyWants_2 : decode cX2_boyWants 2 = .ok (.irem, 1) := by decide +kernel
theorem dX2_boyWants_3 : decode cX2_boyWants 3 = .ok (.ifCond .ne 7, 3) := by decide +kernel
theorem dX2_boyWants_6 : decode cX2_boyWants 6 = .ok (.iload_n 0, 1) := by decide +kernel
theorem dX2_boyWants_7 : decode cX2_boyWants 7 = .ok (.goto 4, 3) := by decide +kernel
theorem dX2_boyWants_10 : decode cX2_boyWants 10 = .ok (.iconst 1, 1) := by decide +kernel
theorem dX2_boyWants_11 : decode cX2_boyWants 11 = .ok (.ireturn, 1) := by decide +kernel
theorem dX2_rebelWants_0 : decode cX2_rebelWants 0 = .ok (.iload_n 1, 1) := by decide +kernel
theorem dX2_rebelWants_1 : decode cX2_rebelWants 1 = .ok (.sipush 500, 3) := by decide +kernel
theorem dX2_rebelWants_4 : decode cX2_rebelWants 4 = .ok (.if_icmp .le 9, 3) := by decide +kernel
theorem dX2_rebelWants_7 : decode cX2_rebelWants 7 = .ok (.iconst 4, 1) := by decide +kernel
theorem dX2_rebelWants_8 : decode cX2_rebelWants 8 = .ok (.iload_n 0, 1) := by decide +kernel
theorem dX2_rebelWants_9 : decode cX2_rebelWants 9 = .ok (.imul, 1) := by decide +kernel
theorem dX2_rebelWants_10 : decode cX2_rebelWants 10 = .ok (.goto 4, 3) := by decide +kernel
theorem dX2_rebelWants_13 : decode cX2_rebelWants 13 = .ok (.iload_n 0, 1) := by decide +kernel
theorem dX2_rebelWants_14 : decode cX2_rebelWants 14 = .ok (.ireturn, 1) := by decide +kernel
set_option maxRecDepth 20000 in
theorem ggX2_enters_X2_rebelEnters : GoodIn wsX2_enters wsX2_rebelEnters := goodIn_sub (List.forall_mem_cons.mpr ⟨List.mem_of_getElem? (i := 4) rfl, (fun _ h => absurd h List.not_mem_nil)⟩) (by decide +kernel)
set_option maxRecDepth 20000 in
theorem gX2_enters_X2_rebelEnters : GoodIn wsX2_enters (va_wsS RX2 24 yX2_rebelEnters wsX2_rebelEnters) := goodIn_app (goodIn_sub (List.forall_mem_cons.mpr ⟨List.mem_of_getElem? (i := 1) rfl, List.forall_mem_cons.mpr ⟨List.mem_of_getElem? (i := 2) rfl, List.forall_mem_cons.mpr ⟨List.mem_of_getElem? (i := 3) rfl, fun _ h => absurd h List.not_mem_nil⟩⟩⟩) (by decide +kernel)) ggX2_enters_X2_rebelEnters
theorem dX2_enters_0 : decode cX2_enters 0 = .ok (.iload_n 2, 1) := by decide +kernel
theorem dX2_enters_1 : decode cX2_enters 1 = .ok (.iconst 1, 1) := by decide +kernel
theorem dX2_enters_2 : decode cX2_enters 2 = .ok (.if_icmp .ge 5, 3) := by decide +kernel
theorem dX2_enters_5 : decode cX2_enters 5 = .ok (.iconst 0, 1) := by decide +kernel
theorem dX2_enters_6 : decode cX2_enters 6 = .ok (.ireturn, 1) := by decide +kernel
theorem dX2_enters_7 : decode cX2_enters 7 = .ok (.iload_n 0, 1) := by decide +kernel
theorem dX2_enters_8 : decode cX2_enters 8 = .ok (.tableswitch 62 1 5 #[36, 40, 46, 48, 54], 36) := by decide +kernel
theorem dX2_enters_44 : decode cX2_enters 44 = .ok (.iconst 2, 1) := by decide +kernel
theorem dX2_enters_45 : decode cX2_enters 45 = .ok (.iload_n 2, 1) := by decide +kernel
theorem dX2_enters_46 : decode cX2_enters 46 = .ok (.imul, 1) := by decide +kernel
theorem dX2_enters_47 : decode cX2_enters 47 = .ok (.ireturn, 1) := by decide +kernel
theorem dX2_enters_48 : decode cX2_enters 48 = .ok (.iload_n 1, 1) := by decide +kernel
theorem dX2_enters_49 : decode cX2_enters 49 = .ok (.iload_n 2, 1) := by decide +kernel
theorem dX2_enters_50 : decode cX2_enters 50 = .ok (.invokestatic 24, 3) := by decide +kernel
theorem dX2_enters_53 : decode cX2_enters 53 = .ok (.ireturn, 1) := by decide +kernel
theorem dX2_enters_54 : decode cX2_enters 54 = .ok (.iconst 0, 1) := by decide +kernel
theorem dX2_enters_55 : decode cX2_enters 55 = .ok (.ireturn, 1) := by decide +kernel
theorem dX2_enters_56 : decode cX2_enters 56 = .ok (.iconst 2, 1) := by decide +kernel
theorem dX2_enters_57 : decode cX2_enters 57 = .ok (.iload_n 2, 1) := by decide +kernel
theorem dX2_enters_58 : decode cX2_enters 58 = .ok (.imul, 1) := by decide +kernel
theorem dX2_enters_59 : decode cX2_enters 59 = .ok (.iload_n 1, 1) := by decide +kernel
theorem dX2_enters_60 : decode cX2_enters 60 = .ok (.iadd, 1) := by decide +kernel
theorem dX2_enters_61 : decode cX2_enters 61 = .ok (.ireturn, 1) := by decide +kernel
theorem dX2_enters_62 : decode cX2_enters 62 = .ok (.iconst 2, 1) := by decide +kernel
theorem dX2_enters_63 : decode cX2_enters 63 = .ok (.iload_n 1, 1) := by decide +kernel
theorem dX2_enters_64 : decode cX2_enters 64 = .ok (.iload_n 2, 1) := by decide +kernel
theorem dX2_enters_65 : decode cX2_enters 65 = .ok (.invokestatic 24, 3) := by decide +kernel
theorem dX2_enters_68 : decode cX2_enters 68 = .ok (.imul, 1) := by decide +kernel
theorem dX2_enters_69 : decode cX2_enters 69 = .ok (.ireturn, 1) := by decide +kernel
theorem dX2_enters_70 : decode cX2_enters 70 = .ok (.iload_n 2, 1) := by decide +kernel
theorem dX2_enters_71 : decode cX2_enters 71 = .ok (.iload_n 1, 1) := by decide +kernel
theorem dX2_enters_72 : decode cX2_enters 72 = .ok (.imul, 1) := by decide +kernel
theorem dX2_enters_73 : decode cX2_enters 73 = .ok (.ireturn, 1) := by decide +kernel
theorem dX2_rebelEnters_0 : decode cX2_rebelEnters 0 = .ok (.iload_n 1, 1) := by decide +kernel
theorem dX2_rebelEnters_1 : decode cX2_rebelEnters 1 = .ok (.iload_n 0, 1) := by decide +kernel
theorem dX2_rebelEnters_2 : decode cX2_rebelEnters 2 = .ok (.imul, 1) := by decide +kernel
theorem dX2_rebelEnters_3 : decode cX2_rebelEnters 3 = .ok (.iload_n 1, 1) := by decide +kernel
theorem dX2_rebelEnters_4 : decode cX2_rebelEnters 4 = .ok (.iadd, 1) := by decide +kernel
theorem dX2_rebelEnters_5 : decode cX2_rebelEnters 5 = .ok (.ireturn, 1) := by decide +kernel
set_option maxRecDepth 20000 in
theorem ggX2_watchDays_X2_cookWatchDays : GoodIn wsX2_watchDays wsX2_cookWatchDays := goodIn_sub (List.forall_mem_cons.mpr ⟨List.mem_of_getElem? (i := 4) rfl, (fun _ h => absurd h List.not_mem_nil)⟩) (by decide +kernel)
set_option maxRecDepth 20000 in
theorem gX2_watchDays_X2_cookWatchDays : GoodIn wsX2_watchDays (va_wsS RX2 27 yX2_cookWatchDays wsX2_cookWatchDays) := goodIn_app (goodIn_sub (List.forall_mem_cons.mpr ⟨List.mem_of_getElem? (i := 1) rfl, List.forall_mem_cons.mpr ⟨List.mem_of_getElem? (i := 2) rfl, List.forall_mem_cons.mpr ⟨List.mem_of_getElem? (i := 3) rfl, fun _ h => absurd h List.not_mem_nil⟩⟩⟩) (by decide +kernel)) ggX2_watchDays_X2_cookWatchDays
theorem dX2_watchDays_0 : decode cX2_watchDays 0 = .ok (.iload_n 1, 1) := by decide +kernel
theorem dX2_watchDays_1 : decode cX2_watchDays 1 = .ok (.iconst 1, 1) := by decide +kernel
theorem dX2_watchDays_2 : decode cX2_watchDays 2 = .ok (.if_icmp .ge 5, 3) := by decide +kernel
theorem dX2_watchDays_5 : decode cX2_watchDays 5 = .ok (.iconst 0, 1) := by decide +kernel
theorem dX2_watchDays_6 : decode cX2_watchDays 6 = .ok (.ireturn, 1) := by decide +kernel
theorem dX2_watchDays_7 : decode cX2_watchDays 7 = .ok (.iload_n 0, 1) := by decide +kernel
theorem dX2_watchDays_8 : decode cX2_watchDays 8 = .ok (.tableswitch 69 1 5 #[36, 69, 38, 40, 51], 36) := by decide +kernel
theorem dX2_watchDays_44 : decode cX2_watchDays 44 = .ok (.iconst 0, 1) := by decide +kernel
theorem dX2_watchDays_45 : decode cX2_watchDays 45 = .ok (.ireturn, 1) := by decide +kernel
theorem dX2_watchDays_46 : decode cX2_watchDays 46 = .ok (.iconst 0, 1) := by decide +kernel
theorem dX2_watchDays_47 : decode cX2_watchDays 47 = .ok (.ireturn, 1) := by decide +kernel
theorem dX2_watchDays_48 : decode cX2_watchDays 48 = .ok (.iload_n 1, 1) := by decide +kernel
theorem dX2_watchDays_49 : decode cX2_watchDays 49 = .ok (.iconst 5, 1) := by decide +kernel
theorem dX2_watchDays_50 : decode cX2_watchDays 50 = .ok (.if_icmp .le 7, 3) := by decide +kernel
theorem dX2_watchDays_53 : decode cX2_watchDays 53 = .ok (.iconst 1, 1) := by decide +kernel
theorem dX2_watchDays_54 : decode cX2_watchDays 54 = .ok (.goto 4, 3) := by decide +kernel
theorem dX2_watchDays_57 : decode cX2_watchDays 57 = .ok (.iconst 0, 1) := by decide +kernel
theorem dX2_watchDays_58 : decode cX2_watchDays 58 = .ok (.ireturn, 1) := by decide +kernel
theorem dX2_watchDays_59 : decode cX2_watchDays 59 = .ok (.iload_n 1, 1) := by decide +kernel
theorem dX2_watchDays_60 : decode cX2_watchDays 60 = .ok (.iload_n 2, 1) := by decide +kernel
theorem dX2_watchDays_61 : decode cX2_watchDays 61 = .ok (.invokestatic 27, 3) := by decide +kernel
theorem dX2_watchDays_64 : decode cX2_watchDays 64 = .ok (.iload_n 1, 1) := by decide +kernel
theorem dX2_watchDays_65 : decode cX2_watchDays 65 = .ok (.bipush 30, 2) := by decide +kernel
theorem dX2_watchDays_67 : decode cX2_watchDays 67 = .ok (.if_icmp .le 7, 3) := by decide +kernel
theorem dX2_watchDays_70 : decode cX2_watchDays 70 = .ok (.iconst 1, 1) := by decide +kernel
theorem dX2_watchDays_71 : decode cX2_watchDays 71 = .ok (.goto 4, 3) := by decide +kernel
theorem dX2_watchDays_74 : decode cX2_watchDays 74 = .ok (.iconst 0, 1) := by decide +kernel
theorem dX2_watchDays_75 : decode cX2_watchDays 75 = .ok (.iadd, 1) := by decide +kernel
theorem dX2_watchDays_76 : decode cX2_watchDays 76 = .ok (.ireturn, 1) := by decide +kernel
theorem dX2_watchDays_77 : decode cX2_watchDays 77 = .ok (.iload_n 1, 1) := by decide +kernel
theorem dX2_watchDays_78 : decode cX2_watchDays 78 = .ok (.iload_n 2, 1) := by decide +kernel
theorem dX2_watchDays_79 : decode cX2_watchDays 79 = .ok (.invokestatic 27, 3) := by decide +kernel
theorem dX2_watchDays_82 : decode cX2_watchDays 82 = .ok (.ireturn, 1) := by decide +kernel
theorem dX2_cookWatchDays_0 : decode cX2_cookWatchDays 0 = .ok (.iload_n 1, 1) := by decide +kernel
theorem dX2_cookWatchDays_1 : decode cX2_cookWatchDays 1 = .ok (.iload_n 0, 1) := by decide +kernel
theorem dX2_cookWatchDays_2 : decode cX2_cookWatchDays 2 = .ok (.if_icmp .ge 7, 3) := by decide +kernel
theorem dX2_cookWatchDays_5 : decode cX2_cookWatchDays 5 = .ok (.iconst 2, 1) := by decide +kernel
theorem dX2_cookWatchDays_6 : decode cX2_cookWatchDays 6 = .ok (.goto 4, 3) := by decide +kernel
theorem dX2_cookWatchDays_9 : decode cX2_cookWatchDays 9 = .ok (.iconst 0, 1) := by decide +kernel
theorem dX2_cookWatchDays_10 : decode cX2_cookWatchDays 10 = .ok (.ireturn, 1) := by decide +kernel
theorem dX3_init_0 : decode cX3_init 0 = .ok (.aload_n 0, 1) := by decide +kernel
theorem dX3_init_1 : decode cX3_init 1 = .ok (.invokespecial 1, 3) := by decide +kernel
theorem dX3_init_4 : decode cX3_init 4 = .ok (.aload_n 0, 1) := by decide +kernel
theorem dX3_init_5 : decode cX3_init 5 = .ok (.iconst 4, 1) := by decide +kernel
theorem dX3_init_6 : decode cX3_init 6 = .ok (.newarray .int, 2) := by decide +kernel
theorem dX3_init_8 : decode cX3_init 8 = .ok (.putfield 9, 3) := by decide +kernel
theorem dX3_init_11 : decode cX3_init 11 = .ok (.aload_n 0, 1) := by decide +kernel
theorem dX3_init_12 : decode cX3_init 12 = .ok (.iconst 4, 1) := by decide +kernel
theorem dX3_init_13 : decode cX3_init 13 = .ok (.newarray .int, 2) := by decide +kernel
theorem dX3_init_15 : decode cX3_init 15 = .ok (.putfield 13, 3) := by decide +kernel
theorem dX3_init_18 : decode cX3_init 18 = .ok (.aload_n 0, 1) := by decide +kernel
theorem dX3_init_19 : decode cX3_init 19 = .ok (.sipush 160, 3) := by decide +kernel
theorem dX3_init_22 : decode cX3_init 22 = .ok (.newarray .long, 2) := by decide +kernel
theorem dX3_init_24 : decode cX3_init 24 = .ok (.putfield 16, 3) := by decide +kernel
theorem dX3_init_27 : decode cX3_init 27 = .ok (.return_, 1) := by decide +kernel
theorem dX3_isOne_0 : decode cX3_isOne 0 = .ok (.iload_n 0, 1) := by decide +kernel
theorem dX3_isOne_1 : decode cX3_isOne 1 = .ok (.ifCond .lt 12, 3) := by decide +kernel
theorem dX3_isOne_4 : decode cX3_isOne 4 = .ok (.iload_n 0, 1) := by decide +kernel
theorem dX3_isOne_5 : decode cX3_isOne 5 = .ok (.iconst 4, 1) := by decide +kernel
theorem dX3_isOne_6 : decode cX3_isOne 6 = .ok (.if_icmp .ge 7, 3) := by decide +kernel
theorem dX3_isOne_9 : decode cX3_isOne 9 = .ok (.iconst 1, 1) := by decide +kernel
theorem dX3_isOne_10 : decode cX3_isOne 10 = .ok (.goto 4, 3) := by decide +kernel
theorem dX3_isOne_13 : decode cX3_isOne 13 = .ok (.iconst 0, 1) := by decide +kernel
theorem dX3_isOne_14 : decode cX3_isOne 14 = .ok (.ireturn, 1) := by decide +kernel
theorem dX3_mayHave_0 : decode cX3_mayHave 0 = .ok (.iload_n 0, 1) := by decide +kernel
theorem dX3_mayHave_1 : decode cX3_mayHave 1 = .ok (.ifCond .eq 21, 3) := by decide +kernel
theorem dX3_mayHave_4 : decode cX3_mayHave 4 = .ok (.iload_n 0, 1) := by decide +kernel
theorem dX3_mayHave_5 : decode cX3_mayHave 5 = .ok (.bipush 8, 2) := by decide +kernel
theorem dX3_mayHave_7 : decode cX3_mayHave 7 = .ok (.if_icmp .eq 15, 3) := by decide +kernel
theorem dX3_mayHave_10 : decode cX3_mayHave 10 = .ok (.iload_n 0, 1) := by decide +kernel
theorem dX3_mayHave_11 : decode cX3_mayHave 11 = .ok (.bipush 16, 2) := by decide +kernel
theorem dX3_mayHave_13 : decode cX3_mayHave 13 = .ok (.if_icmp .eq 9, 3) := by decide +kernel
theorem dX3_mayHave_16 : decode cX3_mayHave 16 = .ok (.iload_n 0, 1) := by decide +kernel
theorem dX3_mayHave_17 : decode cX3_mayHave 17 = .ok (.bipush 64, 2) := by decide +kernel
theorem dX3_mayHave_19 : decode cX3_mayHave 19 = .ok (.if_icmp .ne 7, 3) := by decide +kernel
theorem dX3_mayHave_22 : decode cX3_mayHave 22 = .ok (.iconst 1, 1) := by decide +kernel
theorem dX3_mayHave_23 : decode cX3_mayHave 23 = .ok (.goto 4, 3) := by decide +kernel
theorem dX3_mayHave_26 : decode cX3_mayHave 26 = .ok (.iconst 0, 1) := by decide +kernel
theorem dX3_mayHave_27 : decode cX3_mayHave 27 = .ok (.ireturn, 1) := by decide +kernel
set_option maxRecDepth 20000 in
theorem ggX3_isMissing_X3_isOne : GoodIn wsX3_isMissing wsX3_isOne := goodIn_sub (List.forall_mem_cons.mpr ⟨List.mem_of_getElem? (i := 5) rfl, (fun _ h => absurd h List.not_mem_nil)⟩) (by decide +kernel)
set_option maxRecDepth 20000 in
theorem gX3_isMissing_X3_isOne : GoodIn wsX3_isMissing (va_wsS RX3 20 yX3_isOne wsX3_isOne) := goodIn_app (goodIn_sub (List.forall_mem_cons.mpr ⟨List.mem_of_getElem? (i := 2) rfl, List.forall_mem_cons.mpr ⟨List.mem_of_getElem? (i := 3) rfl, List.forall_mem_cons.mpr ⟨List.mem_of_getElem? (i := 4) rfl, fun _ h => absurd h List.not_mem_nil⟩⟩⟩) (by decide +kernel)) ggX3_isMissing_X3_isOne
theorem dX3_isMissing_0 : decode cX3_isMissing 0 = .ok (.iload_n 1, 1) := by decide +kernel
theorem dX3_isMissing_1 : decode cX3_isMissing 1 = .ok (.invokestatic 20, 3) := by decide +kernel
theorem dX3_isMissing_4 : decode cX3_isMissing 4 = .ok (.ifCond .eq 12, 3) := by decide +kernel
theorem dX3_isMissing_7 : decode cX3_isMissing 7 = .ok (.aload_n 0, 1) := by decide +kernel
theorem dX3_isMissing_8 : decode cX3_isMissing 8 = .ok (.getfield 9, 3) := by decide +kernel
theorem dX3_isMissing_11 : decode cX3_isMissing 11 = .ok (.iload_n 1, 1) := by decide +kernel
theorem dX3_isMissing_12 : decode cX3_isMissing 12 = .ok (.iaload, 1) := by decide +kernel
theorem dX3_isMissing_13 : decode cX3_isMissing 13 = .ok (.ifCond .ne 7, 3) := by decide +kernel
theorem dX3_isMissing_16 : decode cX3_isMissing 16 = .ok (.iconst 1, 1) := by decide +kernel
theorem dX3_isMissing_17 : decode cX3_isMissing 17 = .ok (.goto 4, 3) := by decide +kernel
theorem dX3_isMissing_20 : decode cX3_isMissing 20 = .ok (.iconst 0, 1) := by decide +kernel
theorem dX3_isMissing_21 : decode cX3_isMissing 21 = .ok (.ireturn, 1) := by decide +kernel
set_option maxRecDepth 20000 in
theorem ggX3_layOut_X3_isOne : GoodIn wsX3_layOut wsX3_isOne := goodIn_sub (List.forall_mem_cons.mpr ⟨List.mem_of_getElem? (i := 7) rfl, (fun _ h => absurd h List.not_mem_nil)⟩) (by decide +kernel)
set_option maxRecDepth 20000 in
theorem gX3_layOut_X3_isOne : GoodIn wsX3_layOut (va_wsS RX3 20 yX3_isOne wsX3_isOne) := goodIn_app (goodIn_sub (List.forall_mem_cons.mpr ⟨List.mem_of_getElem? (i := 4) rfl, List.forall_mem_cons.mpr ⟨List.mem_of_getElem? (i := 5) rfl, List.forall_mem_cons.mpr ⟨List.mem_of_getElem? (i := 6) rfl, fun _ h => absurd h List.not_mem_nil⟩⟩⟩) (by decide +kernel)) ggX3_layOut_X3_isOne
theorem dX3_layOut_0 : decode cX3_layOut 0 = .ok (.iload_n 1, 1) := by decide +kernel
theorem dX3_layOut_1 : decode cX3_layOut 1 = .ok (.invokestatic 20, 3) := by decide +kernel
theorem dX3_layOut_4 : decode cX3_layOut 4 = .ok (.ifCond .ne 4, 3) := by decide +kernel
theorem dX3_layOut_7 : decode cX3_layOut 7 = .ok (.return_, 1) := by decide +kernel
theorem dX3_layOut_8 : decode cX3_layOut 8 = .ok (.aload_n 0, 1) := by decide +kernel
theorem dX3_layOut_9 : decode cX3_layOut 9 = .ok (.getfield 9, 3) := by decide +kernel
theorem dX3_layOut_12 : decode cX3_layOut 12 = .ok (.iload_n 1, 1) := by decide +kernel
theorem dX3_layOut_13 : decode cX3_layOut 13 = .ok (.iload_n 2, 1) := by decide +kernel
theorem dX3_layOut_14 : decode cX3_layOut 14 = .ok (.iastore, 1) := by decide +kernel
theorem dX3_layOut_15 : decode cX3_layOut 15 = .ok (.aload_n 0, 1) := by decide +kernel
theorem dX3_layOut_16 : decode cX3_layOut 16 = .ok (.getfield 13, 3) := by decide +kernel
theorem dX3_layOut_19 : decode cX3_layOut 19 = .ok (.iload_n 1, 1) := by decide +kernel
theorem dX3_layOut_20 : decode cX3_layOut 20 = .ok (.iload_n 2, 1) := by decide +kernel
theorem dX3_layOut_21 : decode cX3_layOut 21 = .ok (.ifCond .ne 7, 3) := by decide +kernel
theorem dX3_layOut_24 : decode cX3_layOut 24 = .ok (.iconst 0, 1) := by decide +kernel
theorem dX3_layOut_25 : decode cX3_layOut 25 = .ok (.goto 4, 3) := by decide +kernel
theorem dX3_layOut_28 : decode cX3_layOut 28 = .ok (.iload_n 3, 1) := by decide +kernel
theorem dX3_layOut_29 : decode cX3_layOut 29 = .ok (.iastore, 1) := by decide +kernel
theorem dX3_layOut_30 : decode cX3_layOut 30 = .ok (.iconst 0, 1) := by decide +kernel
theorem dX3_layOut_31 : decode cX3_layOut 31 = .ok (.istore 4, 2) := by decide +kernel
theorem dX3_layOut_33 : decode cX3_layOut 33 = .ok (.iload 4, 2) := by decide +kernel
theorem dX3_layOut_35 : decode cX3_layOut 35 = .ok (.bipush 40, 2) := by decide +kernel
theorem dX3_layOut_37 : decode cX3_layOut 37 = .ok (.if_icmp .ge 22, 3) := by decide +kernel
theorem dX3_layOut_40 : decode cX3_layOut 40 = .ok (.aload_n 0, 1) := by decide +kernel
theorem dX3_layOut_41 : decode cX3_layOut 41 = .ok (.getfield 16, 3) := by decide +kernel
theorem dX3_layOut_44 : decode cX3_layOut 44 = .ok (.bipush 40, 2) := by decide +kernel
theorem dX3_layOut_46 : decode cX3_layOut 46 = .ok (.iload_n 1, 1) := by decide +kernel
theorem dX3_layOut_47 : decode cX3_layOut 47 = .ok (.imul, 1) := by decide +kernel
theorem dX3_layOut_48 : decode cX3_layOut 48 = .ok (.iload 4, 2) := by decide +kernel
theorem dX3_layOut_50 : decode cX3_layOut 50 = .ok (.iadd, 1) := by decide +kernel
theorem dX3_layOut_51 : decode cX3_layOut 51 = .ok (.lconst 0, 1) := by decide +kernel
theorem dX3_layOut_52 : decode cX3_layOut 52 = .ok (.lastore, 1) := by decide +kernel
theorem dX3_layOut_53 : decode cX3_layOut 53 = .ok (.iinc 4 1, 3) := by decide +kernel
theorem dX3_layOut_56 : decode cX3_layOut 56 = .ok (.goto (-23), 3) := by decide +kernel
theorem dX3_layOut_59 : decode cX3_layOut 59 = .ok (.return_, 1) := by decide +kernel
set_option maxRecDepth 20000 in
theorem ggX3_hasRun_X3_isOne : GoodIn wsX3_hasRun wsX3_isOne := goodIn_sub (List.forall_mem_cons.mpr ⟨List.mem_of_getElem? (i := 5) rfl, (fun _ h => absurd h List.not_mem_nil)⟩) (by decide +kernel)
set_option maxRecDepth 20000 in
theorem gX3_hasRun_X3_isOne : GoodIn wsX3_hasRun (va_wsS RX3 20 yX3_isOne wsX3_isOne) := goodIn_app (goodIn_sub (List.forall_mem_cons.mpr ⟨List.mem_of_getElem? (i := 2) rfl, List.forall_mem_cons.mpr ⟨List.mem_of_getElem? (i := 3) rfl, List.forall_mem_cons.mpr ⟨List.mem_of_getElem? (i := 4) rfl, fun _ h => absurd h List.not_mem_nil⟩⟩⟩) (by decide +kernel)) ggX3_hasRun_X3_isOne
theorem dX3_hasRun_0 : decode cX3_hasRun 0 = .ok (.iload_n 1, 1) := by decide +kernel
theorem dX3_hasRun_1 : decode cX3_hasRun 1 = .ok (.invokestatic 20, 3) := by decide +kernel
theorem dX3_hasRun_4 : decode cX3_hasRun 4 = .ok (.ifCond .eq 11, 3) := by decide +kernel
theorem dX3_hasRun_7 : decode cX3_hasRun 7 = .ok (.iload_n 2, 1) := by decide +kernel
theorem dX3_hasRun_8 : decode cX3_hasRun 8 = .ok (.ifCond .lt 7, 3) := by decide +kernel
theorem dX3_hasRun_11 : decode cX3_hasRun 11 = .ok (.iload_n 3, 1) := by decide +kernel
theorem dX3_hasRun_12 : decode cX3_hasRun 12 = .ok (.ifCond .ge 5, 3) := by decide +kernel
theorem dX3_hasRun_15 : decode cX3_hasRun 15 = .ok (.iconst 0, 1) := by decide +kernel
theorem dX3_hasRun_16 : decode cX3_hasRun 16 = .ok (.ireturn, 1) := by decide +kernel
theorem dX3_hasRun_17 : decode cX3_hasRun 17 = .ok (.iload_n 3, 1) := by decide +kernel
theorem dX3_hasRun_18 : decode cX3_hasRun 18 = .ok (.aload_n 0, 1) := by decide +kernel
theorem dX3_hasRun_19 : decode cX3_hasRun 19 = .ok (.getfield 13, 3) := by decide +kernel
theorem dX3_hasRun_22 : decode cX3_hasRun 22 = .ok (.iload_n 1, 1) := by decide +kernel
theorem dX3_hasRun_23 : decode cX3_hasRun 23 = .ok (.iaload, 1) := by decide +kernel
theorem dX3_hasRun_24 : decode cX3_hasRun 24 = .ok (.if_icmp .gt 19, 3) := by decide +kernel
theorem dX3_hasRun_27 : decode cX3_hasRun 27 = .ok (.iload_n 2, 1) := by decide +kernel
theorem dX3_hasRun_28 : decode cX3_hasRun 28 = .ok (.aload_n 0, 1) := by decide +kernel
theorem dX3_hasRun_29 : decode cX3_hasRun 29 = .ok (.getfield 13, 3) := by decide +kernel
theorem dX3_hasRun_32 : decode cX3_hasRun 32 = .ok (.iload_n 1, 1) := by decide +kernel
theorem dX3_hasRun_33 : decode cX3_hasRun 33 = .ok (.iaload, 1) := by decide +kernel
theorem dX3_hasRun_34 : decode cX3_hasRun 34 = .ok (.iload_n 3, 1) := by decide +kernel
theorem dX3_hasRun_35 : decode cX3_hasRun 35 = .ok (.isub, 1) := by decide +kernel
theorem dX3_hasRun_36 : decode cX3_hasRun 36 = .ok (.if_icmp .gt 7, 3) := by decide +kernel
theorem dX3_hasRun_39 : decode cX3_hasRun 39 = .ok (.iconst 1, 1) := by decide +kernel
theorem dX3_hasRun_40 : decode cX3_hasRun 40 = .ok (.goto 4, 3) := by decide +kernel
theorem dX3_hasRun_43 : decode cX3_hasRun 43 = .ok (.iconst 0, 1) := by decide +kernel
theorem dX3_hasRun_44 : decode cX3_hasRun 44 = .ok (.ireturn, 1) := by decide +kernel
set_option maxRecDepth 20000 in
theorem ggX3_numberAt_X3_hasRun : GoodIn wsX3_numberAt wsX3_hasRun := goodIn_sub (List.forall_mem_cons.mpr ⟨List.mem_of_getElem? (i := 6) rfl, (List.forall_mem_append.mpr ⟨(List.forall_mem_cons.mpr ⟨List.mem_of_getElem? (i := 7) rfl, List.forall_mem_cons.mpr ⟨List.mem_of_getElem? (i := 8) rfl, List.forall_mem_cons.mpr ⟨List.mem_of_getElem? (i := 9) rfl, List.forall_mem_cons.mpr ⟨List.mem_of_getElem? (i := 5) rfl, List.forall_mem_cons.mpr ⟨List.mem_of_getElem? (i := 10) rfl, fun _ h => absurd h List.not_mem_nil⟩⟩⟩⟩⟩), (fun _ h => List.mem_cons_of_mem _ (List.mem_append_right _ h))⟩)⟩) (by decide +kernel)
set_option maxRecDepth 20000 in
theorem gX3_numberAt_X3_hasRun : GoodIn wsX3_numberAt (wsV RX3 24 RX3 yX3_hasRun wsX3_hasRun) := goodIn_app (goodIn_sub (List.forall_mem_cons.mpr ⟨List.mem_of_getElem? (i := 2) rfl, List.forall_mem_cons.mpr ⟨List.mem_of_getElem? (i := 3) rfl, List.forall_mem_cons.mpr ⟨List.mem_of_getElem? (i := 4) rfl, List.forall_mem_cons.mpr ⟨List.mem_of_getElem? (i := 5) rfl, fun _ h => absurd h List.not_mem_nil⟩⟩⟩⟩) (by decide +kernel)) ggX3_numberAt_X3_hasRun
theorem dX3_numberAt_0 : decode cX3_numberAt 0 = .ok (.aload_n 0, 1) := by decide +kernel
theorem dX3_numberAt_1 : decode cX3_numberAt 1 = .ok (.iload_n 1, 1) := by decide +kernel
theorem dX3_numberAt_2 : decode cX3_numberAt 2 = .ok (.iload_n 2, 1) := by decide +kernel
theorem dX3_numberAt_3 : decode cX3_numberAt 3 = .ok (.iconst 1, 1) := by decide +kernel
theorem dX3_numberAt_4 : decode cX3_numberAt 4 = .ok (.invokevirtual 24, 3) := by decide +kernel
theorem dX3_numberAt_7 : decode cX3_numberAt 7 = .ok (.ifCond .eq 17, 3) := by decide +kernel
theorem dX3_numberAt_10 : decode cX3_numberAt 10 = .ok (.aload_n 0, 1) := by decide +kernel
theorem dX3_numberAt_11 : decode cX3_numberAt 11 = .ok (.getfield 16, 3) := by decide +kernel
theorem dX3_numberAt_14 : decode cX3_numberAt 14 = .ok (.bipush 40, 2) := by decide +kernel
theorem dX3_numberAt_16 : decode cX3_numberAt 16 = .ok (.iload_n 1, 1) := by decide +kernel
theorem dX3_numberAt_17 : decode cX3_numberAt 17 = .ok (.imul, 1) := by decide +kernel
theorem dX3_numberAt_18 : decode cX3_numberAt 18 = .ok (.iload_n 2, 1) := by decide +kernel
theorem dX3_numberAt_19 : decode cX3_numberAt 19 = .ok (.iadd, 1) := by decide +kernel
theorem dX3_numberAt_20 : decode cX3_numberAt 20 = .ok (.laload, 1) := by decide +kernel
theorem dX3_numberAt_21 : decode cX3_numberAt 21 = .ok (.goto 4, 3) := by decide +kernel
theorem dX3_numberAt_24 : decode cX3_numberAt 24 = .ok (.lconst 0, 1) := by decide +kernel
theorem dX3_numberAt_25 : decode cX3_numberAt 25 = .ok (.lreturn, 1) := by decide +kernel
set_option maxRecDepth 20000 in
theorem ggX3_putNumber_X3_hasRun : GoodIn wsX3_putNumber wsX3_hasRun := goodIn_sub (List.forall_mem_cons.mpr ⟨List.mem_of_getElem? (i := 7) rfl, (List.forall_mem_append.mpr ⟨(List.forall_mem_cons.mpr ⟨List.mem_of_getElem? (i := 8) rfl, List.forall_mem_cons.mpr ⟨List.mem_of_getElem? (i := 9) rfl, List.forall_mem_cons.mpr ⟨List.mem_of_getElem? (i := 10) rfl, List.forall_mem_cons.mpr ⟨List.mem_of_getElem? (i := 6) rfl, List.forall_mem_cons.mpr ⟨List.mem_of_getElem? (i := 11) rfl, fun _ h => absurd h List.not_mem_nil⟩⟩⟩⟩⟩), (fun _ h => List.mem_cons_of_mem _ (List.mem_append_right _ h))⟩)⟩) (by decide +kernel)
set_option maxRecDepth 20000 in
theorem gX3_putNumber_X3_hasRun : GoodIn wsX3_putNumber (wsV RX3 24 RX3 yX3_hasRun wsX3_hasRun) := goodIn_app (goodIn_sub (List.forall_mem_cons.mpr ⟨List.mem_of_getElem? (i := 3) rfl, List.forall_mem_cons.mpr ⟨List.mem_of_getElem? (i := 4) rfl, List.forall_mem_cons.mpr ⟨List.mem_of_getElem? (i := 5) rfl, List.forall_mem_cons.mpr ⟨List.mem_of_getElem? (i := 6) rfl, fun _ h => absurd h List.not_mem_nil⟩⟩⟩⟩) (by decide +kernel)) ggX3_putNumber_X3_hasRun
set_option maxRecDepth 20000 in
theorem ggX3_putNumber_X3_lowest : GoodIn wsX3_putNumber wsX3_lowest := goodIn_sub (List.forall_mem_cons.mpr ⟨List.mem_of_getElem? (i := 14) rfl, (fun _ h => absurd h List.not_mem_nil)⟩) (by decide +kernel)
set_option maxRecDepth 20000 in
theorem gX3_putNumber_X3_lowest : GoodIn wsX3_putNumber (va_wsS RX3 28 yX3_lowest wsX3_lowest) := goodIn_app (goodIn_sub (List.forall_mem_cons.mpr ⟨List.mem_of_getElem? (i := 12) rfl, List.forall_mem_cons.mpr ⟨List.mem_of_getElem? (i := 13) rfl, List.forall_mem_cons.mpr ⟨List.mem_of_getElem? (i := 6) rfl, fun _ h => absurd h List.not_mem_nil⟩⟩⟩) (by decide +kernel)) ggX3_putNumber_X3_lowest
theorem dX3_putNumber_0 : decode cX3_putNumber 0 = .ok (.aload_n 0, 1) := by decide +kernel
theorem dX3_putNumber_1 : decode cX3_putNumber 1 = .ok (.iload_n 1, 1) := by decide +kernel
theorem dX3_putNumber_2 : decode cX3_putNumber 2 = .ok (.iload_n 2, 1) := by decide +kernel
theorem dX3_putNumber_3 : decode cX3_putNumber 3 = .ok (.iconst 1, 1) := by decide +kernel
theorem dX3_putNumber_4 : decode cX3_putNumber 4 = .ok (.invokevirtual 24, 3) := by decide +kernel
theorem dX3_putNumber_7 : decode cX3_putNumber 7 = .ok (.ifCond .ne 4, 3) := by decide +kernel
theorem dX3_putNumber_10 : decode cX3_putNumber 10 = .ok (.return_, 1) := by decide +kernel
theorem dX3_putNumber_11 : decode cX3_putNumber 11 = .ok (.aload_n 0, 1) := by decide +kernel
theorem dX3_putNumber_12 : decode cX3_putNumber 12 = .ok (.getfield 16, 3) := by decide +kernel
theorem dX3_putNumber_15 : decode cX3_putNumber 15 = .ok (.bipush 40, 2) := by decide +kernel
theorem dX3_putNumber_17 : decode cX3_putNumber 17 = .ok (.iload_n 1, 1) := by decide +kernel
theorem dX3_putNumber_18 : decode cX3_putNumber 18 = .ok (.imul, 1) := by decide +kernel
theorem dX3_putNumber_19 : decode cX3_putNumber 19 = .ok (.iload_n 2, 1) := by decide +kernel
theorem dX3_putNumber_20 : decode cX3_putNumber 20 = .ok (.iadd, 1) := by decide +kernel
theorem dX3_putNumber_21 : decode cX3_putNumber 21 = .ok (.aload_n 0, 1) := by decide +kernel
theorem dX3_putNumber_22 : decode cX3_putNumber 22 = .ok (.getfield 9, 3) := by decide +kernel
theorem dX3_putNumber_25 : decode cX3_putNumber 25 = .ok (.iload_n 1, 1) := by decide +kernel
theorem dX3_putNumber_26 : decode cX3_putNumber 26 = .ok (.iaload, 1) := by decide +kernel
theorem dX3_putNumber_27 : decode cX3_putNumber 27 = .ok (.lload_n 3, 1) := by decide +kernel
theorem dX3_putNumber_28 : decode cX3_putNumber 28 = .ok (.invokestatic 28, 3) := by decide +kernel
theorem dX3_putNumber_31 : decode cX3_putNumber 31 = .ok (.lastore, 1) := by decide +kernel
theorem dX3_putNumber_32 : decode cX3_putNumber 32 = .ok (.return_, 1) := by decide +kernel
theorem dX3_lowest_0 : decode cX3_lowest 0 = .ok (.iload_n 0, 1) := by decide +kernel
theorem dX3_lowest_1 : decode cX3_lowest 1 = .ok (.lookupswitch 37 #[(8, 27), (16, 32)], 27) := by decide +kernel
theorem dX3_lowest_28 : decode cX3_lowest 28 = .ok (.lload_n 1, 1) := by decide +kernel
theorem dX3_lowest_29 : decode cX3_lowest 29 = .ok (.l2i, 1) := by decide +kernel
theorem dX3_lowest_30 : decode cX3_lowest 30 = .ok (.i2b, 1) := by decide +kernel
theorem dX3_lowest_31 : decode cX3_lowest 31 = .ok (.i2l, 1) := by decide +kernel
theorem dX3_lowest_32 : decode cX3_lowest 32 = .ok (.lreturn, 1) := by decide +kernel
theorem dX3_lowest_33 : decode cX3_lowest 33 = .ok (.lload_n 1, 1) := by decide +kernel
theorem dX3_lowest_34 : decode cX3_lowest 34 = .ok (.l2i, 1) := by decide +kernel
theorem dX3_lowest_35 : decode cX3_lowest 35 = .ok (.i2s, 1) := by decide +kernel
theorem dX3_lowest_36 : decode cX3_lowest 36 = .ok (.i2l, 1) := by decide +kernel
theorem dX3_lowest_37 : decode cX3_lowest 37 = .ok (.lreturn, 1) := by decide +kernel
theorem dX3_lowest_38 : decode cX3_lowest 38 = .ok (.lload_n 1, 1) := by decide +kernel
theorem dX3_lowest_39 : decode cX3_lowest 39 = .ok (.lreturn, 1) := by decide +kernel
set_option maxRecDepth 20000 in
theorem ggX3_moveRun_X3_hasRun : GoodIn wsX3_moveRun wsX3_hasRun := goodIn_sub (List.forall_mem_cons.mpr ⟨List.mem_of_getElem? (i := 10) rfl, (List.forall_mem_append.mpr ⟨(List.forall_mem_cons.mpr ⟨List.mem_of_getElem? (i := 11) rfl, List.forall_mem_cons.mpr ⟨List.mem_of_getElem? (i := 12) rfl, List.forall_mem_cons.mpr ⟨List.mem_of_getElem? (i := 13) rfl, List.forall_mem_cons.mpr ⟨List.mem_of_getElem? (i := 9) rfl, List.forall_mem_cons.mpr ⟨List.mem_of_getElem? (i := 14) rfl, fun _ h => absurd h List.not_mem_nil⟩⟩⟩⟩⟩), (fun _ h => List.mem_cons_of_mem _ (List.mem_append_right _ h))⟩)⟩) (by decide +kernel)
set_option maxRecDepth 20000 in
theorem gX3_moveRun_X3_hasRun : GoodIn wsX3_moveRun (wsV RX3 24 RX3 yX3_hasRun wsX3_hasRun) := goodIn_app (goodIn_sub (List.forall_mem_cons.mpr ⟨List.mem_of_getElem? (i := 6) rfl, List.forall_mem_cons.mpr ⟨List.mem_of_getElem? (i := 7) rfl, List.forall_mem_cons.mpr ⟨List.mem_of_getElem? (i := 8) rfl, List.forall_mem_cons.mpr ⟨List.mem_of_getElem? (i := 9) rfl, fun _ h => absurd h List.not_mem_nil⟩⟩⟩⟩) (by decide +kernel)) ggX3_moveRun_X3_hasRun
theorem dX3_moveRun_0 : decode cX3_moveRun 0 = .ok (.aload_n 0, 1) := by decide +kernel
theorem dX3_moveRun_1 : decode cX3_moveRun 1 = .ok (.iload_n 1, 1) := by decide +kernel
theorem dX3_moveRun_2 : decode cX3_moveRun 2 = .ok (.iload_n 2, 1) := by decide +kernel
theorem dX3_moveRun_3 : decode cX3_moveRun 3 = .ok (.iload 5, 2) := by decide +kernel
theorem dX3_moveRun_5 : decode cX3_moveRun 5 = .ok (.invokevirtual 24, 3) := by decide +kernel
theorem dX3_moveRun_8 : decode cX3_moveRun 8 = .ok (.ifCond .eq 15, 3) := by decide +kernel
theorem dX3_moveRun_11 : decode cX3_moveRun 11 = .ok (.aload_n 0, 1) := by decide +kernel
theorem dX3_moveRun_12 : decode cX3_moveRun 12 = .ok (.iload_n 3, 1) := by decide +kernel
theorem dX3_moveRun_13 : decode cX3_moveRun 13 = .ok (.iload 4, 2) := by decide +kernel
theorem dX3_moveRun_15 : decode cX3_moveRun 15 = .ok (.iload 5, 2) := by decide +kernel
theorem dX3_moveRun_17 : decode cX3_moveRun 17 = .ok (.invokevirtual 24, 3) := by decide +kernel
theorem dX3_moveRun_20 : decode cX3_moveRun 20 = .ok (.ifCond .ne 4, 3) := by decide +kernel
theorem dX3_moveRun_23 : decode cX3_moveRun 23 = .ok (.return_, 1) := by decide +kernel
theorem dX3_moveRun_24 : decode cX3_moveRun 24 = .ok (.aload_n 0, 1) := by decide +kernel
theorem dX3_moveRun_25 : decode cX3_moveRun 25 = .ok (.getfield 16, 3) := by decide +kernel
theorem dX3_moveRun_28 : decode cX3_moveRun 28 = .ok (.bipush 40, 2) := by decide +kernel
theorem dX3_moveRun_30 : decode cX3_moveRun 30 = .ok (.iload_n 1, 1) := by decide +kernel
theorem dX3_moveRun_31 : decode cX3_moveRun 31 = .ok (.imul, 1) := by decide +kernel
theorem dX3_moveRun_32 : decode cX3_moveRun 32 = .ok (.iload_n 2, 1) := by decide +kernel
theorem dX3_moveRun_33 : decode cX3_moveRun 33 = .ok (.iadd, 1) := by decide +kernel
theorem dX3_moveRun_34 : decode cX3_moveRun 34 = .ok (.aload_n 0, 1) := by decide +kernel
theorem dX3_moveRun_35 : decode cX3_moveRun 35 = .ok (.getfield 16, 3) := by decide +kernel
theorem dX3_moveRun_38 : decode cX3_moveRun 38 = .ok (.bipush 40, 2) := by decide +kernel
theorem dX3_moveRun_40 : decode cX3_moveRun 40 = .ok (.iload_n 3, 1) := by decide +kernel
theorem dX3_moveRun_41 : decode cX3_moveRun 41 = .ok (.imul, 1) := by decide +kernel
theorem dX3_moveRun_42 : decode cX3_moveRun 42 = .ok (.iload 4, 2) := by decide +kernel
theorem dX3_moveRun_44 : decode cX3_moveRun 44 = .ok (.iadd, 1) := by decide +kernel
theorem dX3_moveRun_45 : decode cX3_moveRun 45 = .ok (.iload 5, 2) := by decide +kernel
theorem dX3_moveRun_47 : decode cX3_moveRun 47 = .ok (.invokestatic 32, 3) := by decide +kernel
theorem dX3_moveRun_50 : decode cX3_moveRun 50 = .ok (.return_, 1) := by decide +kernel
theorem dX4_init_0 : decode cX4_init 0 = .ok (.aload_n 0, 1) := by decide +kernel
theorem dX4_init_1 : decode cX4_init 1 = .ok (.invokespecial 1, 3) := by decide +kernel
theorem dX4_init_4 : decode cX4_init 4 = .ok (.aload_n 0, 1) := by decide +kernel
theorem dX4_init_5 : decode cX4_init 5 = .ok (.bipush 120, 2) := by decide +kernel
theorem dX4_init_7 : decode cX4_init 7 = .ok (.newarray .int, 2) := by decide +kernel
theorem dX4_init_9 : decode cX4_init 9 = .ok (.putfield 9, 3) := by decide +kernel
theorem dX4_init_12 : decode cX4_init 12 = .ok (.aload_n 0, 1) := by decide +kernel
theorem dX4_init_13 : decode cX4_init 13 = .ok (.iconst 0, 1) := by decide +kernel
theorem dX4_init_14 : decode cX4_init 14 = .ok (.putfield 13, 3) := by decide +kernel
theorem dX4_init_17 : decode cX4_init 17 = .ok (.return_, 1) := by decide +kernel
theorem dX4_hasRoomFor_0 : decode cX4_hasRoomFor 0 = .ok (.aload_n 0, 1) := by decide +kernel
theorem dX4_hasRoomFor_1 : decode cX4_hasRoomFor 1 = .ok (.getfield 13, 3) := by decide +kernel
theorem dX4_hasRoomFor_4 : decode cX4_hasRoomFor 4 = .ok (.iload_n 1, 1) := by decide +kernel
theorem dX4_hasRoomFor_5 : decode cX4_hasRoomFor 5 = .ok (.iadd, 1) := by decide +kernel
theorem dX4_hasRoomFor_6 : decode cX4_hasRoomFor 6 = .ok (.bipush 120, 2) := by decide +kernel
theorem dX4_hasRoomFor_8 : decode cX4_hasRoomFor 8 = .ok (.if_icmp .gt 7, 3) := by decide +kernel
theorem dX4_hasRoomFor_11 : decode cX4_hasRoomFor 11 = .ok (.iconst 1, 1) := by decide +kernel
theorem dX4_hasRoomFor_12 : decode cX4_hasRoomFor 12 = .ok (.goto 4, 3) := by decide +kernel
theorem dX4_hasRoomFor_15 : decode cX4_hasRoomFor 15 = .ok (.iconst 0, 1) := by decide +kernel
theorem dX4_hasRoomFor_16 : decode cX4_hasRoomFor 16 = .ok (.ireturn, 1) := by decide +kernel
theorem dX4_append_0 : decode cX4_append 0 = .ok (.iload_n 2, 1) := by decide +kernel
theorem dX4_append_1 : decode cX4_append 1 = .ok (.iconst 1, 1) := by decide +kernel
theorem dX4_append_2 : decode cX4_append 2 = .ok (.isub, 1) := by decide +kernel
theorem dX4_append_3 : decode cX4_append 3 = .ok (.istore_n 3, 1) := by decide +kernel
theorem dX4_append_4 : decode cX4_append 4 = .ok (.iload_n 3, 1) := by decide +kernel
theorem dX4_append_5 : decode cX4_append 5 = .ok (.ifCond .lt 47, 3) := by decide +kernel
theorem dX4_append_8 : decode cX4_append 8 = .ok (.aload_n 0, 1) := by decide +kernel
theorem dX4_append_9 : decode cX4_append 9 = .ok (.getfield 13, 3) := by decide +kernel
theorem dX4_append_12 : decode cX4_append 12 = .ok (.bipush 120, 2) := by decide +kernel
theorem dX4_append_14 : decode cX4_append 14 = .ok (.if_icmp .ge 38, 3) := by decide +kernel
theorem dX4_append_17 : decode cX4_append 17 = .ok (.aload_n 0, 1) := by decide +kernel
theorem dX4_append_18 : decode cX4_append 18 = .ok (.getfield 9, 3) := by decide +kernel
theorem dX4_append_21 : decode cX4_append 21 = .ok (.aload_n 0, 1) := by decide +kernel
theorem dX4_append_22 : decode cX4_append 22 = .ok (.getfield 13, 3) := by decide +kernel
theorem dX4_append_25 : decode cX4_append 25 = .ok (.iload_n 1, 1) := by decide +kernel
theorem dX4_append_26 : decode cX4_append 26 = .ok (.bipush 8, 2) := by decide +kernel
theorem dX4_append_28 : decode cX4_append 28 = .ok (.iload_n 3, 1) := by decide +kernel
theorem dX4_append_29 : decode cX4_append 29 = .ok (.imul, 1) := by decide +kernel
theorem dX4_append_30 : decode cX4_append 30 = .ok (.ishr, 1) := by decide +kernel
theorem dX4_append_31 : decode cX4_append 31 = .ok (.sipush 255, 3) := by decide +kernel
theorem dX4_append_34 : decode cX4_append 34 = .ok (.iand, 1) := by decide +kernel
theorem dX4_append_35 : decode cX4_append 35 = .ok (.iastore, 1) := by decide +kernel
theorem dX4_append_36 : decode cX4_append 36 = .ok (.aload_n 0, 1) := by decide +kernel
theorem dX4_append_37 : decode cX4_append 37 = .ok (.dup, 1) := by decide +kernel
theorem dX4_append_38 : decode cX4_append 38 = .ok (.getfield 13, 3) := by decide +kernel
theorem dX4_append_41 : decode cX4_append 41 = .ok (.iconst 1, 1) := by decide +kernel
theorem dX4_append_42 : decode cX4_append 42 = .ok (.iadd, 1) := by decide +kernel
theorem dX4_append_43 : decode cX4_append 43 = .ok (.putfield 13, 3) := by decide +kernel
theorem dX4_append_46 : decode cX4_append 46 = .ok (.iinc 3 (-1), 3) := by decide +kernel
theorem dX4_append_49 : decode cX4_append 49 = .ok (.goto (-45), 3) := by decide +kernel
theorem dX4_append_52 : decode cX4_append 52 = .ok (.return_, 1) := by decide +kernel
theorem dX4_byteAt_0 : decode cX4_byteAt 0 = .ok (.iload_n 1, 1) := by decide +kernel
theorem dX4_byteAt_1 : decode cX4_byteAt 1 = .ok (.ifCond .lt 26, 3) := by decide +kernel
theorem dX4_byteAt_4 : decode cX4_byteAt 4 = .ok (.iload_n 1, 1) := by decide +kernel
theorem dX4_byteAt_5 : decode cX4_byteAt 5 = .ok (.aload_n 0, 1) := by decide +kernel
theorem dX4_byteAt_6 : decode cX4_byteAt 6 = .ok (.getfield 13, 3) := by decide +kernel
theorem dX4_byteAt_9 : decode cX4_byteAt 9 = .ok (.if_icmp .ge 18, 3) := by decide +kernel
theorem dX4_byteAt_12 : decode cX4_byteAt 12 = .ok (.iload_n 1, 1) := by decide +kernel
theorem dX4_byteAt_13 : decode cX4_byteAt 13 = .ok (.bipush 120, 2) := by decide +kernel
theorem dX4_byteAt_15 : decode cX4_byteAt 15 = .ok (.if_icmp .ge 12, 3) := by decide +kernel
theorem dX4_byteAt_18 : decode cX4_byteAt 18 = .ok (.aload_n 0, 1) := by decide +kernel
theorem dX4_byteAt_19 : decode cX4_byteAt 19 = .ok (.getfield 9, 3) := by decide +kernel
theorem dX4_byteAt_22 : decode cX4_byteAt 22 = .ok (.iload_n 1, 1) := by decide +kernel
theorem dX4_byteAt_23 : decode cX4_byteAt 23 = .ok (.iaload, 1) := by decide +kernel
theorem dX4_byteAt_24 : decode cX4_byteAt 24 = .ok (.goto 4, 3) := by decide +kernel
theorem dX4_byteAt_27 : decode cX4_byteAt 27 = .ok (.iconst (-1), 1) := by decide +kernel
theorem dX4_byteAt_28 : decode cX4_byteAt 28 = .ok (.ireturn, 1) := by decide +kernel
set_option maxRecDepth 20000 in
theorem ggX5_init_X0_init : GoodIn wsX5_init wsX0_init := goodIn_sub (List.forall_mem_cons.mpr ⟨List.mem_of_getElem? (i := 22) rfl, (List.forall_mem_append.mpr ⟨(List.forall_mem_cons.mpr ⟨List.mem_of_getElem? (i := 23) rfl, List.forall_mem_cons.mpr ⟨List.mem_of_getElem? (i := 2) rfl, List.forall_mem_cons.mpr ⟨List.mem_of_getElem? (i := 3) rfl, List.forall_mem_cons.mpr ⟨List.mem_of_getElem? (i := 24) rfl, List.forall_mem_cons.mpr ⟨List.mem_of_getElem? (i := 25) rfl, List.forall_mem_cons.mpr ⟨List.mem_of_getElem? (i := 26) rfl, List.forall_mem_cons.mpr ⟨List.mem_of_getElem? (i := 27) rfl, List.forall_mem_cons.mpr ⟨List.mem_of_getElem? (i := 28) rfl, List.forall_mem_cons.mpr ⟨List.mem_of_getElem? (i := 29) rfl, List.forall_mem_cons.mpr ⟨List.mem_of_getElem? (i := 18) rfl, List.forall_mem_cons.mpr ⟨List.mem_of_getElem? (i := 30) rfl, List.forall_mem_cons.mpr ⟨List.mem_of_getElem? (i := 31) rfl, List.forall_mem_cons.mpr ⟨List.mem_of_getElem? (i := 32) rfl, List.forall_mem_cons.mpr ⟨List.mem_of_getElem? (i := 33) rfl, List.forall_mem_cons.mpr ⟨List.mem_of_getElem? (i := 34) rfl, fun _ h => absurd h List.not_mem_nil⟩⟩⟩⟩⟩⟩⟩⟩⟩⟩⟩⟩⟩⟩⟩), (fun _ h => List.mem_cons_of_mem _ (List.mem_append_left _ (List.mem_append_left _ (List.mem_append_left _ (List.mem_append_right _ h)))))⟩)⟩) (by decide +kernel)
set_option maxRecDepth 20000 in
theorem gX5_init_X0_init_n9 : GoodIn wsX5_init (wsX0_init) := ggX5_init_X0_init
set_option maxRecDepth 20000 in
theorem ggX5_init_X4_init : GoodIn wsX5_init wsX4_init := goodIn_sub (List.forall_mem_cons.mpr ⟨List.mem_of_getElem? (i := 36) rfl, (List.forall_mem_append.mpr ⟨(List.forall_mem_cons.mpr ⟨List.mem_of_getElem? (i := 37) rfl, List.forall_mem_cons.mpr ⟨List.mem_of_getElem? (i := 2) rfl, List.forall_mem_cons.mpr ⟨List.mem_of_getElem? (i := 3) rfl, List.forall_mem_cons.mpr ⟨List.mem_of_getElem? (i := 18) rfl, List.forall_mem_cons.mpr ⟨List.mem_of_getElem? (i := 38) rfl, List.forall_mem_cons.mpr ⟨List.mem_of_getElem? (i := 39) rfl, fun _ h => absurd h List.not_mem_nil⟩⟩⟩⟩⟩⟩), (fun _ h => List.mem_cons_of_mem _ (List.mem_append_left _ (List.mem_append_right _ h)))⟩)⟩) (by decide +kernel)
set_option maxRecDepth 20000 in
theorem gX5_init_X4_init_n24 : GoodIn wsX5_init (wsX4_init) := ggX5_init_X4_init
set_option maxRecDepth 20000 in
theorem ggX5_init_X3_init : GoodIn wsX5_init wsX3_init := goodIn_sub (List.forall_mem_cons.mpr ⟨List.mem_of_getElem? (i := 41) rfl, (List.forall_mem_append.mpr ⟨(List.forall_mem_cons.mpr ⟨List.mem_of_getElem? (i := 42) rfl, List.forall_mem_cons.mpr ⟨List.mem_of_getElem? (i := 2) rfl, List.forall_mem_cons.mpr ⟨List.mem_of_getElem? (i := 3) rfl, List.forall_mem_cons.mpr ⟨List.mem_of_getElem? (i := 18) rfl, List.forall_mem_cons.mpr ⟨List.mem_of_getElem? (i := 43) rfl, List.forall_mem_cons.mpr ⟨List.mem_of_getElem? (i := 44) rfl, List.forall_mem_cons.mpr ⟨List.mem_of_getElem? (i := 45) rfl, List.forall_mem_cons.mpr ⟨List.mem_of_getElem? (i := 46) rfl, fun _ h => absurd h List.not_mem_nil⟩⟩⟩⟩⟩⟩⟩⟩), (fun _ h => List.mem_cons_of_mem _ (List.mem_append_right _ h))⟩)⟩) (by decide +kernel)
set_option maxRecDepth 20000 in
theorem gX5_init_X3_init_n31 : GoodIn wsX5_init (wsX3_init) := ggX5_init_X3_init
theorem dX5_init_0 : decode cX5_init 0 = .ok (.aload_n 0, 1) := by decide +kernel
theorem dX5_init_1 : decode cX5_init 1 = .ok (.invokespecial 1, 3) := by decide +kernel
theorem dX5_init_4 : decode cX5_init 4 = .ok (.aload_n 0, 1) := by decide +kernel
theorem dX5_init_5 : decode cX5_init 5 = .ok (.new 7, 3) := by decide +kernel
theorem dX5_init_8 : decode cX5_init 8 = .ok (.dup, 1) := by decide +kernel
theorem dX5_init_9 : decode cX5_init 9 = .ok (.invokespecial 9, 3) := by decide +kernel
theorem dX5_init_12 : decode cX5_init 12 = .ok (.putfield 10, 3) := by decide +kernel
theorem dX5_init_15 : decode cX5_init 15 = .ok (.aload_n 0, 1) := by decide +kernel
theorem dX5_init_16 : decode cX5_init 16 = .ok (.new 7, 3) := by decide +kernel
theorem dX5_init_19 : decode cX5_init 19 = .ok (.dup, 1) := by decide +kernel
theorem dX5_init_20 : decode cX5_init 20 = .ok (.invokespecial 9, 3) := by decide +kernel
theorem dX5_init_23 : decode cX5_init 23 = .ok (.putfield 16, 3) := by decide +kernel
theorem dX5_init_26 : decode cX5_init 26 = .ok (.aload_n 0, 1) := by decide +kernel
theorem dX5_init_27 : decode cX5_init 27 = .ok (.new 7, 3) := by decide +kernel
theorem dX5_init_30 : decode cX5_init 30 = .ok (.dup, 1) := by decide +kernel
theorem dX5_init_31 : decode cX5_init 31 = .ok (.invokespecial 9, 3) := by decide +kernel
theorem dX5_init_34 : decode cX5_init 34 = .ok (.putfield 19, 3) := by decide +kernel
theorem dX5_init_37 : decode cX5_init 37 = .ok (.aload_n 0, 1) := by decide +kernel
theorem dX5_init_38 : decode cX5_init 38 = .ok (.new 22, 3) := by decide +kernel
theorem dX5_init_41 : decode cX5_init 41 = .ok (.dup, 1) := by decide +kernel
theorem dX5_init_42 : decode cX5_init 42 = .ok (.invokespecial 24, 3) := by decide +kernel
theorem dX5_init_45 : decode cX5_init 45 = .ok (.putfield 25, 3) := by decide +kernel
theorem dX5_init_48 : decode cX5_init 48 = .ok (.aload_n 0, 1) := by decide +kernel
theorem dX5_init_49 : decode cX5_init 49 = .ok (.new 29, 3) := by decide +kernel
theorem dX5_init_52 : decode cX5_init 52 = .ok (.dup, 1) := by decide +kernel
theorem dX5_init_53 : decode cX5_init 53 = .ok (.invokespecial 31, 3) := by decide +kernel
theorem dX5_init_56 : decode cX5_init 56 = .ok (.putfield 32, 3) := by decide +kernel
theorem dX5_init_59 : decode cX5_init 59 = .ok (.aload_n 0, 1) := by decide +kernel
theorem dX5_init_60 : decode cX5_init 60 = .ok (.bipush 7, 2) := by decide +kernel
theorem dX5_init_62 : decode cX5_init 62 = .ok (.newarray .int, 2) := by decide +kernel
theorem dX5_init_64 : decode cX5_init 64 = .ok (.putfield 36, 3) := by decide +kernel
theorem dX5_init_67 : decode cX5_init 67 = .ok (.aload_n 0, 1) := by decide +kernel
theorem dX5_init_68 : decode cX5_init 68 = .ok (.iconst 0, 1) := by decide +kernel
theorem dX5_init_69 : decode cX5_init 69 = .ok (.putfield 40, 3) := by decide +kernel
theorem dX5_init_72 : decode cX5_init 72 = .ok (.return_, 1) := by decide +kernel
set_option maxRecDepth 20000 in
theorem ggX5_house_X5_isWithin : GoodIn wsX5_house wsX5_isWithin := goodIn_sub (List.forall_mem_cons.mpr ⟨List.mem_of_getElem? (i := 9) rfl, (fun _ h => absurd h List.not_mem_nil)⟩) (by decide +kernel)
set_option maxRecDepth 20000 in
theorem gX5_house_X5_isWithin : GoodIn wsX5_house (va_wsS RX5 44 yX5_isWithin wsX5_isWithin) := goodIn_app (goodIn_sub (List.forall_mem_cons.mpr ⟨List.mem_of_getElem? (i := 6) rfl, List.forall_mem_cons.mpr ⟨List.mem_of_getElem? (i := 7) rfl, List.forall_mem_cons.mpr ⟨List.mem_of_getElem? (i := 8) rfl, fun _ h => absurd h List.not_mem_nil⟩⟩⟩) (by decide +kernel)) ggX5_house_X5_isWithin
set_option maxRecDepth 20000 in
theorem ggX5_house_X5_tell : GoodIn wsX5_house wsX5_tell := goodIn_sub (List.forall_mem_cons.mpr ⟨List.mem_of_getElem? (i := 13) rfl, (List.forall_mem_append.mpr ⟨(List.forall_mem_cons.mpr ⟨List.mem_of_getElem? (i := 14) rfl, List.forall_mem_cons.mpr ⟨List.mem_of_getElem? (i := 15) rfl, List.forall_mem_cons.mpr ⟨List.mem_of_getElem? (i := 6) rfl, List.forall_mem_cons.mpr ⟨List.mem_of_getElem? (i := 7) rfl, List.forall_mem_cons.mpr ⟨List.mem_of_getElem? (i := 8) rfl, List.forall_mem_cons.mpr ⟨List.mem_of_getElem? (i := 9) rfl, fun _ h => absurd h List.not_mem_nil⟩⟩⟩⟩⟩⟩), (fun _ h => List.mem_cons_of_mem _ (List.mem_append_left _ (List.mem_append_right _ h)))⟩)⟩) (by decide +kernel)
set_option maxRecDepth 20000 in
theorem gX5_house_X5_tell : GoodIn wsX5_house (wsV RX5 48 RX5 yX5_tell wsX5_tell) := goodIn_app (goodIn_sub (List.forall_mem_cons.mpr ⟨List.mem_of_getElem? (i := 10) rfl, List.forall_mem_cons.mpr ⟨List.mem_of_getElem? (i := 11) rfl, List.forall_mem_cons.mpr ⟨List.mem_of_getElem? (i := 12) rfl, List.forall_mem_cons.mpr ⟨List.mem_of_getElem? (i := 8) rfl, fun _ h => absurd h List.not_mem_nil⟩⟩⟩⟩) (by decide +kernel)) ggX5_house_X5_tell
theorem dX5_house_0 : decode cX5_house 0 = .ok (.iload_n 1, 1) := by decide +kernel
theorem dX5_house_1 : decode cX5_house 1 = .ok (.tableswitch 130 0 2 #[27, 62, 96], 27) := by decide +kernel
theorem dX5_house_28 : decode cX5_house 28 = .ok (.iload_n 2, 1) := by decide +kernel
theorem dX5_house_29 : decode cX5_house 29 = .ok (.iconst 0, 1) := by decide +kernel
theorem dX5_house_30 : decode cX5_house 30 = .ok (.sipush 999, 3) := by decide +kernel
theorem dX5_house_33 : decode cX5_house 33 = .ok (.invokestatic 44, 3) := by decide +kernel
theorem dX5_house_36 : decode cX5_house 36 = .ok (.ifCond .ne 9, 3) := by decide +kernel
theorem dX5_house_39 : decode cX5_house 39 = .ok (.aload_n 0, 1) := by decide +kernel
theorem dX5_house_40 : decode cX5_house 40 = .ok (.iconst 0, 1) := by decide +kernel
theorem dX5_house_41 : decode cX5_house 41 = .ok (.invokevirtual 48, 3) := by decide +kernel
theorem dX5_house_44 : decode cX5_house 44 = .ok (.ireturn, 1) := by decide +kernel
theorem dX5_house_45 : decode cX5_house 45 = .ok (.aload_n 0, 1) := by decide +kernel
theorem dX5_house_46 : decode cX5_house 46 = .ok (.getfield 10, 3) := by decide +kernel
theorem dX5_house_49 : decode cX5_house 49 = .ok (.getfield 52, 3) := by decide +kernel
theorem dX5_house_52 : decode cX5_house 52 = .ok (.istore_n 3, 1) := by decide +kernel
theorem dX5_house_53 : decode cX5_house 53 = .ok (.aload_n 0, 1) := by decide +kernel
theorem dX5_house_54 : decode cX5_house 54 = .ok (.getfield 10, 3) := by decide +kernel
theorem dX5_house_57 : decode cX5_house 57 = .ok (.iload_n 2, 1) := by decide +kernel
theorem dX5_house_58 : decode cX5_house 58 = .ok (.putfield 52, 3) := by decide +kernel
theorem dX5_house_61 : decode cX5_house 61 = .ok (.iload_n 3, 1) := by decide +kernel
theorem dX5_house_62 : decode cX5_house 62 = .ok (.ireturn, 1) := by decide +kernel
theorem dX5_house_63 : decode cX5_house 63 = .ok (.iload_n 2, 1) := by decide +kernel
theorem dX5_house_64 : decode cX5_house 64 = .ok (.iconst 0, 1) := by decide +kernel
theorem dX5_house_65 : decode cX5_house 65 = .ok (.bipush 99, 2) := by decide +kernel
theorem dX5_house_67 : decode cX5_house 67 = .ok (.invokestatic 44, 3) := by decide +kernel
theorem dX5_house_70 : decode cX5_house 70 = .ok (.ifCond .ne 9, 3) := by decide +kernel
theorem dX5_house_73 : decode cX5_house 73 = .ok (.aload_n 0, 1) := by decide +kernel
theorem dX5_house_74 : decode cX5_house 74 = .ok (.iconst 0, 1) := by decide +kernel
theorem dX5_house_75 : decode cX5_house 75 = .ok (.invokevirtual 48, 3) := by decide +kernel
theorem dX5_house_78 : decode cX5_house 78 = .ok (.ireturn, 1) := by decide +kernel
theorem dX5_house_79 : decode cX5_house 79 = .ok (.aload_n 0, 1) := by decide +kernel
theorem dX5_house_80 : decode cX5_house 80 = .ok (.getfield 10, 3) := by decide +kernel
theorem dX5_house_83 : decode cX5_house 83 = .ok (.getfield 56, 3) := by decide +kernel
theorem dX5_house_86 : decode cX5_house 86 = .ok (.istore_n 3, 1) := by decide +kernel
theorem dX5_house_87 : decode cX5_house 87 = .ok (.aload_n 0, 1) := by decide +kernel
theorem dX5_house_88 : decode cX5_house 88 = .ok (.getfield 10, 3) := by decide +kernel
theorem dX5_house_91 : decode cX5_house 91 = .ok (.iload_n 2, 1) := by decide +kernel
theorem dX5_house_92 : decode cX5_house 92 = .ok (.putfield 56, 3) := by decide +kernel
theorem dX5_house_95 : decode cX5_house 95 = .ok (.iload_n 3, 1) := by decide +kernel
theorem dX5_house_96 : decode cX5_house 96 = .ok (.ireturn, 1) := by decide +kernel
theorem dX5_house_97 : decode cX5_house 97 = .ok (.iload_n 2, 1) := by decide +kernel
theorem dX5_house_98 : decode cX5_house 98 = .ok (.iconst 0, 1) := by decide +kernel
theorem dX5_house_99 : decode cX5_house 99 = .ok (.ldc 59, 2) := by decide +kernel
theorem dX5_house_101 : decode cX5_house 101 = .ok (.invokestatic 44, 3) := by decide +kernel
theorem dX5_house_104 : decode cX5_house 104 = .ok (.ifCond .ne 9, 3) := by decide +kernel
theorem dX5_house_107 : decode cX5_house 107 = .ok (.aload_n 0, 1) := by decide +kernel
theorem dX5_house_108 : decode cX5_house 108 = .ok (.iconst 0, 1) := by decide +kernel
theorem dX5_house_109 : decode cX5_house 109 = .ok (.invokevirtual 48, 3) := by decide +kernel
theorem dX5_house_112 : decode cX5_house 112 = .ok (.ireturn, 1) := by decide +kernel
theorem dX5_house_113 : decode cX5_house 113 = .ok (.aload_n 0, 1) := by decide +kernel
theorem dX5_house_114 : decode cX5_house 114 = .ok (.getfield 10, 3) := by decide +kernel
theorem dX5_house_117 : decode cX5_house 117 = .ok (.getfield 60, 3) := by decide +kernel
theorem dX5_house_120 : decode cX5_house 120 = .ok (.istore_n 3, 1) := by decide +kernel
theorem dX5_house_121 : decode cX5_house 121 = .ok (.aload_n 0, 1) := by decide +kernel
theorem dX5_house_122 : decode cX5_house 122 = .ok (.getfield 10, 3) := by decide +kernel
theorem dX5_house_125 : decode cX5_house 125 = .ok (.iload_n 2, 1) := by decide +kernel
theorem dX5_house_126 : decode cX5_house 126 = .ok (.putfield 60, 3) := by decide +kernel
theorem dX5_house_129 : decode cX5_house 129 = .ok (.iload_n 3, 1) := by decide +kernel
theorem dX5_house_130 : decode cX5_house 130 = .ok (.ireturn, 1) := by decide +kernel
theorem dX5_house_131 : decode cX5_house 131 = .ok (.aload_n 0, 1) := by decide +kernel
theorem dX5_house_132 : decode cX5_house 132 = .ok (.iconst 0, 1) := by decide +kernel
theorem dX5_house_133 : decode cX5_house 133 = .ok (.invokevirtual 48, 3) := by decide +kernel
theorem dX5_house_136 : decode cX5_house 136 = .ok (.ireturn, 1) := by decide +kernel
set_option maxRecDepth 20000 in
theorem ggX5_now_X0_watchedSet : GoodIn wsX5_now wsX0_watchedSet := goodIn_sub (List.forall_mem_cons.mpr ⟨List.mem_of_getElem? (i := 11) rfl, (List.forall_mem_append.mpr ⟨(List.forall_mem_cons.mpr ⟨List.mem_of_getElem? (i := 12) rfl, List.forall_mem_cons.mpr ⟨List.mem_of_getElem? (i := 13) rfl, fun _ h => absurd h List.not_mem_nil⟩⟩), (fun _ h => List.mem_cons_of_mem _ (List.mem_append_right _ h))⟩)⟩) (by decide +kernel)
set_option maxRecDepth 20000 in
theorem gX5_now_X0_watchedSet : GoodIn wsX5_now (wsV RX5 69 RX0 yX0_watchedSet wsX0_watchedSet) := goodIn_app (goodIn_sub (List.forall_mem_cons.mpr ⟨List.mem_of_getElem? (i := 7) rfl, List.forall_mem_cons.mpr ⟨List.mem_of_getElem? (i := 8) rfl, List.forall_mem_cons.mpr ⟨List.mem_of_getElem? (i := 9) rfl, List.forall_mem_cons.mpr ⟨List.mem_of_getElem? (i := 10) rfl, fun _ h => absurd h List.not_mem_nil⟩⟩⟩⟩) (by decide +kernel)) ggX5_now_X0_watchedSet
set_option maxRecDepth 20000 in
theorem ggX5_now_X0_brokeTogether : GoodIn wsX5_now wsX0_brokeTogether := goodIn_sub (List.forall_mem_cons.mpr ⟨List.mem_of_getElem? (i := 17) rfl, (List.forall_mem_append.mpr ⟨(List.forall_mem_cons.mpr ⟨List.mem_of_getElem? (i := 12) rfl, List.forall_mem_cons.mpr ⟨List.mem_of_getElem? (i := 18) rfl, fun _ h => absurd h List.not_mem_nil⟩⟩), (fun _ h => List.mem_cons_of_mem _ (List.mem_append_right _ h))⟩)⟩) (by decide +kernel)
set_option maxRecDepth 20000 in
theorem gX5_now_X0_brokeTogether : GoodIn wsX5_now (wsV RX5 73 RX0 yX0_brokeTogether wsX0_brokeTogether) := goodIn_app (goodIn_sub (List.forall_mem_cons.mpr ⟨List.mem_of_getElem? (i := 14) rfl, List.forall_mem_cons.mpr ⟨List.mem_of_getElem? (i := 15) rfl, List.forall_mem_cons.mpr ⟨List.mem_of_getElem? (i := 16) rfl, List.forall_mem_cons.mpr ⟨List.mem_of_getElem? (i := 10) rfl, fun _ h => absurd h List.not_mem_nil⟩⟩⟩⟩) (by decide +kernel)) ggX5_now_X0_brokeTogether
set_option maxRecDepth 20000 in
theorem ggX5_now_X5_tell : GoodIn wsX5_now wsX5_tell := goodIn_sub (List.forall_mem_cons.mpr ⟨List.mem_of_getElem? (i := 23) rfl, (List.forall_mem_append.mpr ⟨(List.forall_mem_cons.mpr ⟨List.mem_of_getElem? (i := 24) rfl, List.forall_mem_cons.mpr ⟨List.mem_of_getElem? (i := 25) rfl, List.forall_mem_cons.mpr ⟨List.mem_of_getElem? (i := 26) rfl, List.forall_mem_cons.mpr ⟨List.mem_of_getElem? (i := 27) rfl, List.forall_mem_cons.mpr ⟨List.mem_of_getElem? (i := 22) rfl, List.forall_mem_cons.mpr ⟨List.mem_of_getElem? (i := 28) rfl, fun _ h => absurd h List.not_mem_nil⟩⟩⟩⟩⟩⟩), (fun _ h => List.mem_cons_of_mem _ (List.mem_append_left _ (List.mem_append_right _ h)))⟩)⟩) (by decide +kernel)
set_option maxRecDepth 20000 in
theorem gX5_now_X5_tell : GoodIn wsX5_now (wsV RX5 48 RX5 yX5_tell wsX5_tell) := goodIn_app (goodIn_sub (List.forall_mem_cons.mpr ⟨List.mem_of_getElem? (i := 19) rfl, List.forall_mem_cons.mpr ⟨List.mem_of_getElem? (i := 20) rfl, List.forall_mem_cons.mpr ⟨List.mem_of_getElem? (i := 21) rfl, List.forall_mem_cons.mpr ⟨List.mem_of_getElem? (i := 22) rfl, fun _ h => absurd h List.not_mem_nil⟩⟩⟩⟩) (by decide +kernel)) ggX5_now_X5_tell
theorem dX5_now_0 : decode cX5_now 0 = .ok (.iload_n 1, 1) := by decide +kernel
theorem dX5_now_1 : decode cX5_now 1 = .ok (.tableswitch 99 0 6 #[43, 51, 59, 67, 75, 83, 91], 43) := by decide +kernel
theorem dX5_now_44 : decode cX5_now 44 = .ok (.aload_n 0, 1) := by decide +kernel
theorem dX5_now_45 : decode cX5_now 45 = .ok (.getfield 10, 3) := by decide +kernel
theorem dX5_now_48 : decode cX5_now 48 = .ok (.getfield 63, 3) := by decide +kernel
theorem dX5_now_51 : decode cX5_now 51 = .ok (.ireturn, 1) := by decide +kernel
theorem dX5_now_52 : decode cX5_now 52 = .ok (.aload_n 0, 1) := by decide +kernel
theorem dX5_now_53 : decode cX5_now 53 = .ok (.getfield 10, 3) := by decide +kernel
theorem dX5_now_56 : decode cX5_now 56 = .ok (.getfield 52, 3) := by decide +kernel
theorem dX5_now_59 : decode cX5_now 59 = .ok (.ireturn, 1) := by decide +kernel
theorem dX5_now_60 : decode cX5_now 60 = .ok (.aload_n 0, 1) := by decide +kernel
theorem dX5_now_61 : decode cX5_now 61 = .ok (.getfield 10, 3) := by decide +kernel
theorem dX5_now_64 : decode cX5_now 64 = .ok (.getfield 56, 3) := by decide +kernel
theorem dX5_now_67 : decode cX5_now 67 = .ok (.ireturn, 1) := by decide +kernel
theorem dX5_now_68 : decode cX5_now 68 = .ok (.aload_n 0, 1) := by decide +kernel
theorem dX5_now_69 : decode cX5_now 69 = .ok (.getfield 10, 3) := by decide +kernel
theorem dX5_now_72 : decode cX5_now 72 = .ok (.getfield 60, 3) := by decide +kernel
theorem dX5_now_75 : decode cX5_now 75 = .ok (.ireturn, 1) := by decide +kernel
theorem dX5_now_76 : decode cX5_now 76 = .ok (.aload_n 0, 1) := by decide +kernel
theorem dX5_now_77 : decode cX5_now 77 = .ok (.getfield 10, 3) := by decide +kernel
theorem dX5_now_80 : decode cX5_now 80 = .ok (.getfield 66, 3) := by decide +kernel
theorem dX5_now_83 : decode cX5_now 83 = .ok (.ireturn, 1) := by decide +kernel
theorem dX5_now_84 : decode cX5_now 84 = .ok (.aload_n 0, 1) := by decide +kernel
theorem dX5_now_85 : decode cX5_now 85 = .ok (.getfield 10, 3) := by decide +kernel
theorem dX5_now_88 : decode cX5_now 88 = .ok (.invokevirtual 69, 3) := by decide +kernel
theorem dX5_now_91 : decode cX5_now 91 = .ok (.ireturn, 1) := by decide +kernel
theorem dX5_now_92 : decode cX5_now 92 = .ok (.aload_n 0, 1) := by decide +kernel
theorem dX5_now_93 : decode cX5_now 93 = .ok (.getfield 10, 3) := by decide +kernel
theorem dX5_now_96 : decode cX5_now 96 = .ok (.invokevirtual 73, 3) := by decide +kernel
theorem dX5_now_99 : decode cX5_now 99 = .ok (.ireturn, 1) := by decide +kernel
theorem dX5_now_100 : decode cX5_now 100 = .ok (.aload_n 0, 1) := by decide +kernel
theorem dX5_now_101 : decode cX5_now 101 = .ok (.iconst 0, 1) := by decide +kernel
theorem dX5_now_102 : decode cX5_now 102 = .ok (.invokevirtual 48, 3) := by decide +kernel
theorem dX5_now_105 : decode cX5_now 105 = .ok (.ireturn, 1) := by decide +kernel
set_option maxRecDepth 20000 in
theorem ggX5_person_X2_isOne : GoodIn wsX5_person wsX2_isOne := goodIn_sub (List.forall_mem_cons.mpr ⟨List.mem_of_getElem? (i := 5) rfl, (fun _ h => absurd h List.not_mem_nil)⟩) (by decide +kernel)
set_option maxRecDepth 20000 in
theorem gX5_person_X2_isOne : GoodIn wsX5_person (va_wsS RX5 76 yX2_isOne wsX2_isOne) := goodIn_app (goodIn_sub (List.forall_mem_cons.mpr ⟨List.mem_of_getElem? (i := 2) rfl, List.forall_mem_cons.mpr ⟨List.mem_of_getElem? (i := 3) rfl, List.forall_mem_cons.mpr ⟨List.mem_of_getElem? (i := 4) rfl, fun _ h => absurd h List.not_mem_nil⟩⟩⟩) (by decide +kernel)) ggX5_person_X2_isOne
set_option maxRecDepth 20000 in
theorem ggX5_person_X5_tell : GoodIn wsX5_person wsX5_tell := goodIn_sub (List.forall_mem_cons.mpr ⟨List.mem_of_getElem? (i := 10) rfl, (List.forall_mem_append.mpr ⟨(List.forall_mem_cons.mpr ⟨List.mem_of_getElem? (i := 11) rfl, List.forall_mem_cons.mpr ⟨List.mem_of_getElem? (i := 12) rfl, List.forall_mem_cons.mpr ⟨List.mem_of_getElem? (i := 13) rfl, List.forall_mem_cons.mpr ⟨List.mem_of_getElem? (i := 14) rfl, List.forall_mem_cons.mpr ⟨List.mem_of_getElem? (i := 9) rfl, List.forall_mem_cons.mpr ⟨List.mem_of_getElem? (i := 15) rfl, fun _ h => absurd h List.not_mem_nil⟩⟩⟩⟩⟩⟩), (fun _ h => List.mem_cons_of_mem _ (List.mem_append_left _ (List.mem_append_right _ h)))⟩)⟩) (by decide +kernel)
set_option maxRecDepth 20000 in
theorem gX5_person_X5_tell : GoodIn wsX5_person (wsV RX5 48 RX5 yX5_tell wsX5_tell) := goodIn_app (goodIn_sub (List.forall_mem_cons.mpr ⟨List.mem_of_getElem? (i := 6) rfl, List.forall_mem_cons.mpr ⟨List.mem_of_getElem? (i := 7) rfl, List.forall_mem_cons.mpr ⟨List.mem_of_getElem? (i := 8) rfl, List.forall_mem_cons.mpr ⟨List.mem_of_getElem? (i := 9) rfl, fun _ h => absurd h List.not_mem_nil⟩⟩⟩⟩) (by decide +kernel)) ggX5_person_X5_tell
set_option maxRecDepth 20000 in
theorem ggX5_person_X0_isFull : GoodIn wsX5_person wsX0_isFull := goodIn_sub (List.forall_mem_cons.mpr ⟨List.mem_of_getElem? (i := 20) rfl, (List.forall_mem_append.mpr ⟨(List.forall_mem_cons.mpr ⟨List.mem_of_getElem? (i := 21) rfl, fun _ h => absurd h List.not_mem_nil⟩), (fun _ h => List.mem_cons_of_mem _ (List.mem_append_right _ h))⟩)⟩) (by decide +kernel)
set_option maxRecDepth 20000 in
theorem gX5_person_X0_isFull : GoodIn wsX5_person (wsV RX5 82 RX0 yX0_isFull wsX0_isFull) := goodIn_app (goodIn_sub (List.forall_mem_cons.mpr ⟨List.mem_of_getElem? (i := 16) rfl, List.forall_mem_cons.mpr ⟨List.mem_of_getElem? (i := 17) rfl, List.forall_mem_cons.mpr ⟨List.mem_of_getElem? (i := 18) rfl, List.forall_mem_cons.mpr ⟨List.mem_of_getElem? (i := 19) rfl, fun _ h => absurd h List.not_mem_nil⟩⟩⟩⟩) (by decide +kernel)) ggX5_person_X0_isFull
set_option maxRecDepth 20000 in
theorem ggX5_person_X0_addOne : GoodIn wsX5_person wsX0_addOne := goodIn_sub (List.forall_mem_cons.mpr ⟨List.mem_of_getElem? (i := 25) rfl, (List.forall_mem_append.mpr ⟨(List.forall_mem_cons.mpr ⟨List.mem_of_getElem? (i := 21) rfl, List.forall_mem_cons.mpr ⟨List.mem_of_getElem? (i := 26) rfl, List.forall_mem_cons.mpr ⟨List.mem_of_getElem? (i := 27) rfl, List.forall_mem_cons.mpr ⟨List.mem_of_getElem? (i := 28) rfl, List.forall_mem_cons.mpr ⟨List.mem_of_getElem? (i := 29) rfl, List.forall_mem_cons.mpr ⟨List.mem_of_getElem? (i := 30) rfl, List.forall_mem_cons.mpr ⟨List.mem_of_getElem? (i := 31) rfl, List.forall_mem_cons.mpr ⟨List.mem_of_getElem? (i := 17) rfl, List.forall_mem_cons.mpr ⟨List.mem_of_getElem? (i := 18) rfl, List.forall_mem_cons.mpr ⟨List.mem_of_getElem? (i := 19) rfl, List.forall_mem_cons.mpr ⟨List.mem_of_getElem? (i := 20) rfl, fun _ h => absurd h List.not_mem_nil⟩⟩⟩⟩⟩⟩⟩⟩⟩⟩⟩), (fun _ h => List.mem_cons_of_mem _ (List.mem_append_right _ h))⟩)⟩) (by decide +kernel)
set_option maxRecDepth 20000 in
theorem gX5_person_X0_addOne : GoodIn wsX5_person (wsV RX5 86 RX0 yX0_addOne wsX0_addOne) := goodIn_app (goodIn_sub (List.forall_mem_cons.mpr ⟨List.mem_of_getElem? (i := 22) rfl, List.forall_mem_cons.mpr ⟨List.mem_of_getElem? (i := 23) rfl, List.forall_mem_cons.mpr ⟨List.mem_of_getElem? (i := 24) rfl, List.forall_mem_cons.mpr ⟨List.mem_of_getElem? (i := 19) rfl, fun _ h => absurd h List.not_mem_nil⟩⟩⟩⟩) (by decide +kernel)) ggX5_person_X0_addOne
theorem dX5_person_0 : decode cX5_person 0 = .ok (.iload_n 1, 1) := by decide +kernel
theorem dX5_person_1 : decode cX5_person 1 = .ok (.invokestatic 76, 3) := by decide +kernel
theorem dX5_person_4 : decode cX5_person 4 = .ok (.ifCond .ne 9, 3) := by decide +kernel
theorem dX5_person_7 : decode cX5_person 7 = .ok (.aload_n 0, 1) := by decide +kernel
theorem dX5_person_8 : decode cX5_person 8 = .ok (.iconst 0, 1) := by decide +kernel
theorem dX5_person_9 : decode cX5_person 9 = .ok (.invokevirtual 48, 3) := by decide +kernel
theorem dX5_person_12 : decode cX5_person 12 = .ok (.ireturn, 1) := by decide +kernel
theorem dX5_person_13 : decode cX5_person 13 = .ok (.aload_n 0, 1) := by decide +kernel
theorem dX5_person_14 : decode cX5_person 14 = .ok (.getfield 10, 3) := by decide +kernel
theorem dX5_person_17 : decode cX5_person 17 = .ok (.invokevirtual 82, 3) := by decide +kernel
theorem dX5_person_20 : decode cX5_person 20 = .ok (.ifCond .eq 9, 3) := by decide +kernel
theorem dX5_person_23 : decode cX5_person 23 = .ok (.aload_n 0, 1) := by decide +kernel
theorem dX5_person_24 : decode cX5_person 24 = .ok (.iconst 1, 1) := by decide +kernel
theorem dX5_person_25 : decode cX5_person 25 = .ok (.invokevirtual 48, 3) := by decide +kernel
theorem dX5_person_28 : decode cX5_person 28 = .ok (.ireturn, 1) := by decide +kernel
theorem dX5_person_29 : decode cX5_person 29 = .ok (.aload_n 0, 1) := by decide +kernel
theorem dX5_person_30 : decode cX5_person 30 = .ok (.getfield 10, 3) := by decide +kernel
theorem dX5_person_33 : decode cX5_person 33 = .ok (.iload_n 1, 1) := by decide +kernel
theorem dX5_person_34 : decode cX5_person 34 = .ok (.invokevirtual 86, 3) := by decide +kernel
theorem dX5_person_37 : decode cX5_person 37 = .ok (.ireturn, 1) := by decide +kernel
set_option maxRecDepth 20000 in
theorem ggX5_of_X0_hasOne : GoodIn wsX5_of wsX0_hasOne := goodIn_sub (List.forall_mem_cons.mpr ⟨List.mem_of_getElem? (i := 11) rfl, (List.forall_mem_append.mpr ⟨(List.forall_mem_cons.mpr ⟨List.mem_of_getElem? (i := 12) rfl, fun _ h => absurd h List.not_mem_nil⟩), (fun _ h => List.mem_cons_of_mem _ (List.mem_append_right _ h))⟩)⟩) (by decide +kernel)
set_option maxRecDepth 20000 in
theorem gX5_of_X0_hasOne : GoodIn wsX5_of (wsV RX5 89 RX0 yX0_hasOne wsX0_hasOne) := goodIn_app (goodIn_sub (List.forall_mem_cons.mpr ⟨List.mem_of_getElem? (i := 7) rfl, List.forall_mem_cons.mpr ⟨List.mem_of_getElem? (i := 8) rfl, List.forall_mem_cons.mpr ⟨List.mem_of_getElem? (i := 9) rfl, List.forall_mem_cons.mpr ⟨List.mem_of_getElem? (i := 10) rfl, fun _ h => absurd h List.not_mem_nil⟩⟩⟩⟩) (by decide +kernel)) ggX5_of_X0_hasOne
set_option maxRecDepth 20000 in
theorem ggX5_of_X5_tell : GoodIn wsX5_of wsX5_tell := goodIn_sub (List.forall_mem_cons.mpr ⟨List.mem_of_getElem? (i := 17) rfl, (List.forall_mem_append.mpr ⟨(List.forall_mem_cons.mpr ⟨List.mem_of_getElem? (i := 18) rfl, List.forall_mem_cons.mpr ⟨List.mem_of_getElem? (i := 19) rfl, List.forall_mem_cons.mpr ⟨List.mem_of_getElem? (i := 20) rfl, List.forall_mem_cons.mpr ⟨List.mem_of_getElem? (i := 21) rfl, List.forall_mem_cons.mpr ⟨List.mem_of_getElem? (i := 16) rfl, List.forall_mem_cons.mpr ⟨List.mem_of_getElem? (i := 22) rfl, fun _ h => absurd h List.not_mem_nil⟩⟩⟩⟩⟩⟩), (fun _ h => List.mem_cons_of_mem _ (List.mem_append_left _ (List.mem_append_right _ h)))⟩)⟩) (by decide +kernel)
set_option maxRecDepth 20000 in
theorem gX5_of_X5_tell : GoodIn wsX5_of (wsV RX5 48 RX5 yX5_tell wsX5_tell) := goodIn_app (goodIn_sub (List.forall_mem_cons.mpr ⟨List.mem_of_getElem? (i := 13) rfl, List.forall_mem_cons.mpr ⟨List.mem_of_getElem? (i := 14) rfl, List.forall_mem_cons.mpr ⟨List.mem_of_getElem? (i := 15) rfl, List.forall_mem_cons.mpr ⟨List.mem_of_getElem? (i := 16) rfl, fun _ h => absurd h List.not_mem_nil⟩⟩⟩⟩) (by decide +kernel)) ggX5_of_X5_tell
set_option maxRecDepth 20000 in
theorem ggX5_of_X0_wantsOf : GoodIn wsX5_of wsX0_wantsOf := goodIn_sub (List.forall_mem_cons.mpr ⟨List.mem_of_getElem? (i := 26) rfl, (List.forall_mem_append.mpr ⟨(List.forall_mem_cons.mpr ⟨List.mem_of_getElem? (i := 27) rfl, List.forall_mem_cons.mpr ⟨List.mem_of_getElem? (i := 28) rfl, List.forall_mem_cons.mpr ⟨List.mem_of_getElem? (i := 29) rfl, List.forall_mem_cons.mpr ⟨List.mem_of_getElem? (i := 30) rfl, List.forall_mem_cons.mpr ⟨List.mem_of_getElem? (i := 31) rfl, List.forall_mem_cons.mpr ⟨List.mem_of_getElem? (i := 8) rfl, List.forall_mem_cons.mpr ⟨List.mem_of_getElem? (i := 9) rfl, List.forall_mem_cons.mpr ⟨List.mem_of_getElem? (i := 10) rfl, List.forall_mem_cons.mpr ⟨List.mem_of_getElem? (i := 11) rfl, List.forall_mem_cons.mpr ⟨List.mem_of_getElem? (i := 12) rfl, List.forall_mem_cons.mpr ⟨List.mem_of_getElem? (i := 32) rfl, List.forall_mem_cons.mpr ⟨List.mem_of_getElem? (i := 33) rfl, List.forall_mem_cons.mpr ⟨List.mem_of_getElem? (i := 34) rfl, List.forall_mem_cons.mpr ⟨List.mem_of_getElem? (i := 35) rfl, List.forall_mem_cons.mpr ⟨List.mem_of_getElem? (i := 36) rfl, List.forall_mem_cons.mpr ⟨List.mem_of_getElem? (i := 37) rfl, List.forall_mem_cons.mpr ⟨List.mem_of_getElem? (i := 38) rfl, List.forall_mem_cons.mpr ⟨List.mem_of_getElem? (i := 39) rfl, List.forall_mem_cons.mpr ⟨List.mem_of_getElem? (i := 40) rfl, List.forall_mem_cons.mpr ⟨List.mem_of_getElem? (i := 41) rfl, fun _ h => absurd h List.not_mem_nil⟩⟩⟩⟩⟩⟩⟩⟩⟩⟩⟩⟩⟩⟩⟩⟩⟩⟩⟩⟩), (fun _ h => List.mem_cons_of_mem _ (List.mem_append_right _ h))⟩)⟩) (by decide +kernel)
set_option maxRecDepth 20000 in
theorem gX5_of_X0_wantsOf : GoodIn wsX5_of (wsV RX5 107 RX0 yX0_wantsOf wsX0_wantsOf) := goodIn_app (goodIn_sub (List.forall_mem_cons.mpr ⟨List.mem_of_getElem? (i := 23) rfl, List.forall_mem_cons.mpr ⟨List.mem_of_getElem? (i := 24) rfl, List.forall_mem_cons.mpr ⟨List.mem_of_getElem? (i := 25) rfl, List.forall_mem_cons.mpr ⟨List.mem_of_getElem? (i := 10) rfl, fun _ h => absurd h List.not_mem_nil⟩⟩⟩⟩) (by decide +kernel)) ggX5_of_X0_wantsOf
theorem dX5_of_0 : decode cX5_of 0 = .ok (.aload_n 0, 1) := by decide +kernel
theorem dX5_of_1 : decode cX5_of 1 = .ok (.getfield 10, 3) := by decide +kernel
theorem dX5_of_4 : decode cX5_of 4 = .ok (.iload_n 1, 1) := by decide +kernel
theorem dX5_of_5 : decode cX5_of 5 = .ok (.invokevirtual 89, 3) := by decide +kernel
theorem dX5_of_8 : decode cX5_of 8 = .ok (.ifCond .ne 9, 3) := by decide +kernel
theorem dX5_of_11 : decode cX5_of 11 = .ok (.aload_n 0, 1) := by decide +kernel
theorem dX5_of_12 : decode cX5_of 12 = .ok (.iconst 0, 1) := by decide +kernel
theorem dX5_of_13 : decode cX5_of 13 = .ok (.invokevirtual 48, 3) := by decide +kernel
theorem dX5_of_16 : decode cX5_of 16 = .ok (.ireturn, 1) := by decide +kernel
theorem dX5_of_17 : decode cX5_of 17 = .ok (.iload_n 2, 1) := by decide +kernel
theorem dX5_of_18 : decode cX5_of 18 = .ok (.tableswitch 97 0 5 #[38, 48, 58, 68, 78, 88], 38) := by decide +kernel
theorem dX5_of_56 : decode cX5_of 56 = .ok (.aload_n 0, 1) := by decide +kernel
theorem dX5_of_57 : decode cX5_of 57 = .ok (.getfield 10, 3) := by decide +kernel
theorem dX5_of_60 : decode cX5_of 60 = .ok (.getfield 92, 3) := by decide +kernel
theorem dX5_of_63 : decode cX5_of 63 = .ok (.iload_n 1, 1) := by decide +kernel
theorem dX5_of_64 : decode cX5_of 64 = .ok (.iaload, 1) := by decide +kernel
theorem dX5_of_65 : decode cX5_of 65 = .ok (.ireturn, 1) := by decide +kernel
theorem dX5_of_66 : decode cX5_of 66 = .ok (.aload_n 0, 1) := by decide +kernel
theorem dX5_of_67 : decode cX5_of 67 = .ok (.getfield 10, 3) := by decide +kernel
theorem dX5_of_70 : decode cX5_of 70 = .ok (.getfield 95, 3) := by decide +kernel
theorem dX5_of_73 : decode cX5_of 73 = .ok (.iload_n 1, 1) := by decide +kernel
theorem dX5_of_74 : decode cX5_of 74 = .ok (.iaload, 1) := by decide +kernel
theorem dX5_of_75 : decode cX5_of 75 = .ok (.ireturn, 1) := by decide +kernel
theorem dX5_of_76 : decode cX5_of 76 = .ok (.aload_n 0, 1) := by decide +kernel
theorem dX5_of_77 : decode cX5_of 77 = .ok (.getfield 10, 3) := by decide +kernel
theorem dX5_of_80 : decode cX5_of 80 = .ok (.getfield 98, 3) := by decide +kernel
theorem dX5_of_83 : decode cX5_of 83 = .ok (.iload_n 1, 1) := by decide +kernel
theorem dX5_of_84 : decode cX5_of 84 = .ok (.iaload, 1) := by decide +kernel
theorem dX5_of_85 : decode cX5_of 85 = .ok (.ireturn, 1) := by decide +kernel
theorem dX5_of_86 : decode cX5_of 86 = .ok (.aload_n 0, 1) := by decide +kernel
theorem dX5_of_87 : decode cX5_of 87 = .ok (.getfield 10, 3) := by decide +kernel
theorem dX5_of_90 : decode cX5_of 90 = .ok (.getfield 101, 3) := by decide +kernel
theorem dX5_of_93 : decode cX5_of 93 = .ok (.iload_n 1, 1) := by decide +kernel
theorem dX5_of_94 : decode cX5_of 94 = .ok (.iaload, 1) := by decide +kernel
theorem dX5_of_95 : decode cX5_of 95 = .ok (.ireturn, 1) := by decide +kernel
theorem dX5_of_96 : decode cX5_of 96 = .ok (.aload_n 0, 1) := by decide +kernel
theorem dX5_of_97 : decode cX5_of 97 = .ok (.getfield 10, 3) := by decide +kernel
theorem dX5_of_100 : decode cX5_of 100 = .ok (.getfield 104, 3) := by decide +kernel
theorem dX5_of_103 : decode cX5_of 103 = .ok (.iload_n 1, 1) := by decide +kernel
