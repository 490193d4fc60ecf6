theorem inJ0 : ∀ w ∈ wsJ00, w ∈ lw_tbl := by decide +kernel
theorem dX0_init_0 : decode cX0_init 0 = .ok (.aload_n 0, 1) := by decide +kernel
theorem dX0_init_1 : decode cX0_init 1 = .ok (.invokespecial 3, 3) := by decide +kernel
theorem dX0_init_4 : decode cX0_init 4 = .ok (.aload_n 0, 1) := by decide +kernel
theorem dX0_init_5 : decode cX0_init 5 = .ok (.iconst 0, 1) := by decide +kernel
theorem dX0_init_6 : decode cX0_init 6 = .ok (.putfield 9, 3) := by decide +kernel
theorem dX0_init_9 : decode cX0_init 9 = .ok (.aload_n 0, 1) := by decide +kernel
theorem dX0_init_10 : decode cX0_init 10 = .ok (.bipush 60, 2) := by decide +kernel
theorem dX0_init_12 : decode cX0_init 12 = .ok (.newarray .double, 2) := by decide +kernel
theorem dX0_init_14 : decode cX0_init 14 = .ok (.putfield 15, 3) := by decide +kernel
theorem dX0_init_17 : decode cX0_init 17 = .ok (.aload_n 0, 1) := by decide +kernel
theorem dX0_init_18 : decode cX0_init 18 = .ok (.bipush 60, 2) := by decide +kernel
theorem dX0_init_20 : decode cX0_init 20 = .ok (.newarray .double, 2) := by decide +kernel
theorem dX0_init_22 : decode cX0_init 22 = .ok (.putfield 19, 3) := by decide +kernel
theorem dX0_init_25 : decode cX0_init 25 = .ok (.aload_n 0, 1) := by decide +kernel
theorem dX0_init_26 : decode cX0_init 26 = .ok (.sipush 300, 3) := by decide +kernel
theorem dX0_init_29 : decode cX0_init 29 = .ok (.newarray .double, 2) := by decide +kernel
theorem dX0_init_31 : decode cX0_init 31 = .ok (.putfield 22, 3) := by decide +kernel
theorem dX0_init_34 : decode cX0_init 34 = .ok (.aload_n 0, 1) := by decide +kernel
theorem dX0_init_35 : decode cX0_init 35 = .ok (.sipush 300, 3) := by decide +kernel
theorem dX0_init_38 : decode cX0_init 38 = .ok (.newarray .boolean, 2) := by decide +kernel
theorem dX0_init_40 : decode cX0_init 40 = .ok (.putfield 25, 3) := by decide +kernel
theorem dX0_init_43 : decode cX0_init 43 = .ok (.aload_n 0, 1) := by decide +kernel
theorem dX0_init_44 : decode cX0_init 44 = .ok (.sipush 300, 3) := by decide +kernel
theorem dX0_init_47 : decode cX0_init 47 = .ok (.newarray .double, 2) := by decide +kernel
theorem dX0_init_49 : decode cX0_init 49 = .ok (.putfield 29, 3) := by decide +kernel
theorem dX0_init_52 : decode cX0_init 52 = .ok (.aload_n 0, 1) := by decide +kernel
theorem dX0_init_53 : decode cX0_init 53 = .ok (.sipush 300, 3) := by decide +kernel
theorem dX0_init_56 : decode cX0_init 56 = .ok (.newarray .double, 2) := by decide +kernel
theorem dX0_init_58 : decode cX0_init 58 = .ok (.putfield 32, 3) := by decide +kernel
theorem dX0_init_61 : decode cX0_init 61 = .ok (.aload_n 0, 1) := by decide +kernel
theorem dX0_init_62 : decode cX0_init 62 = .ok (.sipush 300, 3) := by decide +kernel
theorem dX0_init_65 : decode cX0_init 65 = .ok (.newarray .double, 2) := by decide +kernel
theorem dX0_init_67 : decode cX0_init 67 = .ok (.putfield 35, 3) := by decide +kernel
theorem dX0_init_70 : decode cX0_init 70 = .ok (.aload_n 0, 1) := by decide +kernel
theorem dX0_init_71 : decode cX0_init 71 = .ok (.sipush 300, 3) := by decide +kernel
theorem dX0_init_74 : decode cX0_init 74 = .ok (.newarray .double, 2) := by decide +kernel
theorem dX0_init_76 : decode cX0_init 76 = .ok (.putfield 38, 3) := by decide +kernel
theorem dX0_init_79 : decode cX0_init 79 = .ok (.return_, 1) := by decide +kernel
theorem dX0_slot_0 : decode cX0_slot 0 = .ok (.iload_n 1, 1) := by decide +kernel
theorem dX0_slot_1 : decode cX0_slot 1 = .ok (.iconst 5, 1) := by decide +kernel
theorem dX0_slot_2 : decode cX0_slot 2 = .ok (.imul, 1) := by decide +kernel
theorem dX0_slot_3 : decode cX0_slot 3 = .ok (.iload_n 0, 1) := by decide +kernel
theorem dX0_slot_4 : decode cX0_slot 4 = .ok (.iadd, 1) := by decide +kernel
theorem dX0_slot_5 : decode cX0_slot 5 = .ok (.ireturn, 1) := by decide +kernel
set_option maxRecDepth 20000 in
theorem ggX0_guess_X0_slot : GoodIn wsX0_guess wsX0_slot := goodIn_r _ [8] (by decide +kernel) (by decide +kernel)
set_option maxRecDepth 20000 in
theorem gX0_guess_X0_slot : GoodIn wsX0_guess (va_wsS RX0 41 yX0_slot wsX0_slot) := goodIn_app (goodIn_of _ (by decide +kernel)) ggX0_guess_X0_slot
theorem dX0_guess_0 : decode cX0_guess 0 = .ok (.dconst 0, 1) := by decide +kernel
theorem dX0_guess_1 : decode cX0_guess 1 = .ok (.dstore_n 2, 1) := by decide +kernel
theorem dX0_guess_2 : decode cX0_guess 2 = .ok (.iconst 0, 1) := by decide +kernel
theorem dX0_guess_3 : decode cX0_guess 3 = .ok (.istore 4, 2) := by decide +kernel
theorem dX0_guess_5 : decode cX0_guess 5 = .ok (.aload_n 0, 1) := by decide +kernel
theorem dX0_guess_6 : decode cX0_guess 6 = .ok (.getfield 9, 3) := by decide +kernel
theorem dX0_guess_9 : decode cX0_guess 9 = .ok (.iconst 1, 1) := by decide +kernel
theorem dX0_guess_10 : decode cX0_guess 10 = .ok (.isub, 1) := by decide +kernel
theorem dX0_guess_11 : decode cX0_guess 11 = .ok (.istore 5, 2) := by decide +kernel
theorem dX0_guess_13 : decode cX0_guess 13 = .ok (.iload 5, 2) := by decide +kernel
theorem dX0_guess_15 : decode cX0_guess 15 = .ok (.ifCond .lt 46, 3) := by decide +kernel
theorem dX0_guess_18 : decode cX0_guess 18 = .ok (.iload 4, 2) := by decide +kernel
theorem dX0_guess_20 : decode cX0_guess 20 = .ok (.iconst 2, 1) := by decide +kernel
theorem dX0_guess_21 : decode cX0_guess 21 = .ok (.if_icmp .ge 40, 3) := by decide +kernel
theorem dX0_guess_24 : decode cX0_guess 24 = .ok (.iload_n 1, 1) := by decide +kernel
theorem dX0_guess_25 : decode cX0_guess 25 = .ok (.iload 5, 2) := by decide +kernel
theorem dX0_guess_27 : decode cX0_guess 27 = .ok (.invokestatic 41, 3) := by decide +kernel
theorem dX0_guess_30 : decode cX0_guess 30 = .ok (.istore 6, 2) := by decide +kernel
theorem dX0_guess_32 : decode cX0_guess 32 = .ok (.aload_n 0, 1) := by decide +kernel
theorem dX0_guess_33 : decode cX0_guess 33 = .ok (.getfield 25, 3) := by decide +kernel
theorem dX0_guess_36 : decode cX0_guess 36 = .ok (.iload 6, 2) := by decide +kernel
theorem dX0_guess_38 : decode cX0_guess 38 = .ok (.baload, 1) := by decide +kernel
theorem dX0_guess_39 : decode cX0_guess 39 = .ok (.ifCond .eq 16, 3) := by decide +kernel
theorem dX0_guess_42 : decode cX0_guess 42 = .ok (.dload_n 2, 1) := by decide +kernel
theorem dX0_guess_43 : decode cX0_guess 43 = .ok (.aload_n 0, 1) := by decide +kernel
theorem dX0_guess_44 : decode cX0_guess 44 = .ok (.getfield 22, 3) := by decide +kernel
theorem dX0_guess_47 : decode cX0_guess 47 = .ok (.iload 6, 2) := by decide +kernel
theorem dX0_guess_49 : decode cX0_guess 49 = .ok (.daload, 1) := by decide +kernel
theorem dX0_guess_50 : decode cX0_guess 50 = .ok (.dadd, 1) := by decide +kernel
theorem dX0_guess_51 : decode cX0_guess 51 = .ok (.dstore_n 2, 1) := by decide +kernel
theorem dX0_guess_52 : decode cX0_guess 52 = .ok (.iinc 4 1, 3) := by decide +kernel
theorem dX0_guess_55 : decode cX0_guess 55 = .ok (.iinc 5 (-1), 3) := by decide +kernel
theorem dX0_guess_58 : decode cX0_guess 58 = .ok (.goto (-45), 3) := by decide +kernel
theorem dX0_guess_61 : decode cX0_guess 61 = .ok (.iload 4, 2) := by decide +kernel
theorem dX0_guess_63 : decode cX0_guess 63 = .ok (.iconst 2, 1) := by decide +kernel
theorem dX0_guess_64 : decode cX0_guess 64 = .ok (.if_icmp .ne 11, 3) := by decide +kernel
theorem dX0_guess_67 : decode cX0_guess 67 = .ok (.dload_n 2, 1) := by decide +kernel
theorem dX0_guess_68 : decode cX0_guess 68 = .ok (.ldc2_w 45, 3) := by decide +kernel
theorem dX0_guess_71 : decode cX0_guess 71 = .ok (.ddiv, 1) := by decide +kernel
theorem dX0_guess_72 : decode cX0_guess 72 = .ok (.goto 4, 3) := by decide +kernel
theorem dX0_guess_75 : decode cX0_guess 75 = .ok (.dload_n 2, 1) := by decide +kernel
theorem dX0_guess_76 : decode cX0_guess 76 = .ok (.dreturn, 1) := by decide +kernel
set_option maxRecDepth 20000 in
theorem ggX1_init_X0_init : GoodIn wsX1_init wsX0_init := goodIn_r _ [24, 25, 2, 3, 26, 9, 27, 28, 29, 6, 30, 31, 32, 33, 34, 47, 48, 49, 50, 51, 52, 53, 54, 55] (by decide +kernel) (by decide +kernel)
set_option maxRecDepth 20000 in
theorem gX1_init_X0_init_n32 : GoodIn wsX1_init (wsX0_init) := ggX1_init_X0_init
theorem dX1_init_0 : decode cX1_init 0 = .ok (.aload_n 0, 1) := by decide +kernel
theorem dX1_init_1 : decode cX1_init 1 = .ok (.invokespecial 1, 3) := by decide +kernel
theorem dX1_init_4 : decode cX1_init 4 = .ok (.aload_n 0, 1) := by decide +kernel
theorem dX1_init_5 : decode cX1_init 5 = .ok (.iconst 5, 1) := by decide +kernel
theorem dX1_init_6 : decode cX1_init 6 = .ok (.newarray .int, 2) := by decide +kernel
theorem dX1_init_8 : decode cX1_init 8 = .ok (.putfield 9, 3) := by decide +kernel
theorem dX1_init_11 : decode cX1_init 11 = .ok (.aload_n 0, 1) := by decide +kernel
theorem dX1_init_12 : decode cX1_init 12 = .ok (.iconst 5, 1) := by decide +kernel
theorem dX1_init_13 : decode cX1_init 13 = .ok (.newarray .boolean, 2) := by decide +kernel
theorem dX1_init_15 : decode cX1_init 15 = .ok (.putfield 13, 3) := by decide +kernel
theorem dX1_init_18 : decode cX1_init 18 = .ok (.aload_n 0, 1) := by decide +kernel
theorem dX1_init_19 : decode cX1_init 19 = .ok (.iconst 5, 1) := by decide +kernel
theorem dX1_init_20 : decode cX1_init 20 = .ok (.newarray .int, 2) := by decide +kernel
theorem dX1_init_22 : decode cX1_init 22 = .ok (.putfield 17, 3) := by decide +kernel
theorem dX1_init_25 : decode cX1_init 25 = .ok (.aload_n 0, 1) := by decide +kernel
theorem dX1_init_26 : decode cX1_init 26 = .ok (.iconst 5, 1) := by decide +kernel
theorem dX1_init_27 : decode cX1_init 27 = .ok (.newarray .double, 2) := by decide +kernel
theorem dX1_init_29 : decode cX1_init 29 = .ok (.putfield 20, 3) := by decide +kernel
theorem dX1_init_32 : decode cX1_init 32 = .ok (.aload_n 0, 1) := by decide +kernel
theorem dX1_init_33 : decode cX1_init 33 = .ok (.iconst 5, 1) := by decide +kernel
theorem dX1_init_34 : decode cX1_init 34 = .ok (.newarray .boolean, 2) := by decide +kernel
theorem dX1_init_36 : decode cX1_init 36 = .ok (.putfield 24, 3) := by decide +kernel
theorem dX1_init_39 : decode cX1_init 39 = .ok (.aload_n 0, 1) := by decide +kernel
theorem dX1_init_40 : decode cX1_init 40 = .ok (.iconst 5, 1) := by decide +kernel
theorem dX1_init_41 : decode cX1_init 41 = .ok (.newarray .int, 2) := by decide +kernel
theorem dX1_init_43 : decode cX1_init 43 = .ok (.putfield 27, 3) := by decide +kernel
theorem dX1_init_46 : decode cX1_init 46 = .ok (.aload_n 0, 1) := by decide +kernel
theorem dX1_init_47 : decode cX1_init 47 = .ok (.new 30, 3) := by decide +kernel
theorem dX1_init_50 : decode cX1_init 50 = .ok (.dup, 1) := by decide +kernel
theorem dX1_init_51 : decode cX1_init 51 = .ok (.invokespecial 32, 3) := by decide +kernel
theorem dX1_init_54 : decode cX1_init 54 = .ok (.putfield 33, 3) := by decide +kernel
theorem dX1_init_57 : decode cX1_init 57 = .ok (.aload_n 0, 1) := by decide +kernel
theorem dX1_init_58 : decode cX1_init 58 = .ok (.ldc2_w 37, 3) := by decide +kernel
theorem dX1_init_61 : decode cX1_init 61 = .ok (.putfield 39, 3) := by decide +kernel
theorem dX1_init_64 : decode cX1_init 64 = .ok (.aload_n 0, 1) := by decide +kernel
theorem dX1_init_65 : decode cX1_init 65 = .ok (.dconst 0, 1) := by decide +kernel
theorem dX1_init_66 : decode cX1_init 66 = .ok (.putfield 43, 3) := by decide +kernel
theorem dX1_init_69 : decode cX1_init 69 = .ok (.aload_n 0, 1) := by decide +kernel
theorem dX1_init_70 : decode cX1_init 70 = .ok (.iconst 0, 1) := by decide +kernel
theorem dX1_init_71 : decode cX1_init 71 = .ok (.putfield 46, 3) := by decide +kernel
theorem dX1_init_74 : decode cX1_init 74 = .ok (.aload_n 0, 1) := by decide +kernel
theorem dX1_init_75 : decode cX1_init 75 = .ok (.iconst 5, 1) := by decide +kernel
theorem dX1_init_76 : decode cX1_init 76 = .ok (.newarray .double, 2) := by decide +kernel
theorem dX1_init_78 : decode cX1_init 78 = .ok (.putfield 50, 3) := by decide +kernel
theorem dX1_init_81 : decode cX1_init 81 = .ok (.aload_n 0, 1) := by decide +kernel
theorem dX1_init_82 : decode cX1_init 82 = .ok (.dconst 0, 1) := by decide +kernel
theorem dX1_init_83 : decode cX1_init 83 = .ok (.putfield 53, 3) := by decide +kernel
theorem dX1_init_86 : decode cX1_init 86 = .ok (.iconst 0, 1) := by decide +kernel
theorem dX1_init_87 : decode cX1_init 87 = .ok (.istore_n 1, 1) := by decide +kernel
theorem dX1_init_88 : decode cX1_init 88 = .ok (.iload_n 1, 1) := by decide +kernel
theorem dX1_init_89 : decode cX1_init 89 = .ok (.iconst 5, 1) := by decide +kernel
theorem dX1_init_90 : decode cX1_init 90 = .ok (.if_icmp .ge 16, 3) := by decide +kernel
theorem dX1_init_93 : decode cX1_init 93 = .ok (.aload_n 0, 1) := by decide +kernel
theorem dX1_init_94 : decode cX1_init 94 = .ok (.getfield 13, 3) := by decide +kernel
theorem dX1_init_97 : decode cX1_init 97 = .ok (.iload_n 1, 1) := by decide +kernel
theorem dX1_init_98 : decode cX1_init 98 = .ok (.iconst 1, 1) := by decide +kernel
theorem dX1_init_99 : decode cX1_init 99 = .ok (.bastore, 1) := by decide +kernel
theorem dX1_init_100 : decode cX1_init 100 = .ok (.iinc 1 1, 3) := by decide +kernel
theorem dX1_init_103 : decode cX1_init 103 = .ok (.goto (-15), 3) := by decide +kernel
theorem dX1_init_106 : decode cX1_init 106 = .ok (.return_, 1) := by decide +kernel
set_option maxRecDepth 20000 in
theorem ggX1_setShare_X1_requireOwner : GoodIn wsX1_setShare wsX1_requireOwner := goodIn_ca (goodIn_r _ [7, 8, 9] (by decide +kernel) (by decide +kernel)) (goodIn_sub (fun _ h => List.mem_cons_of_mem _ (List.mem_append_right _ h)) (by decide +kernel))
set_option maxRecDepth 20000 in
theorem gX1_setShare_X1_requireOwner : GoodIn wsX1_setShare (va_wsS RX1 56 yX1_requireOwner wsX1_requireOwner) := goodIn_app (goodIn_of _ (by decide +kernel)) ggX1_setShare_X1_requireOwner
set_option maxRecDepth 20000 in
theorem ggX1_setShare_X1_requireWithin : GoodIn wsX1_setShare wsX1_requireWithin := goodIn_ca (goodIn_r _ [12, 8, 9] (by decide +kernel) (by decide +kernel)) (goodIn_sub (fun _ h => List.mem_cons_of_mem _ (List.mem_append_right _ h)) (by decide +kernel))
set_option maxRecDepth 20000 in
theorem gX1_setShare_X1_requireWithin : GoodIn wsX1_setShare (va_wsS RX1 60 yX1_requireWithin wsX1_requireWithin) := goodIn_app (goodIn_of _ (by decide +kernel)) ggX1_setShare_X1_requireWithin
set_option maxRecDepth 20000 in
theorem ggX1_setShare_X1_sumOfShares : GoodIn wsX1_setShare wsX1_sumOfShares := goodIn_r _ [16, 3, 17, 18, 19, 20, 21, 22, 23, 24, 25, 26, 27, 28] (by decide +kernel) (by decide +kernel)
set_option maxRecDepth 20000 in
theorem gX1_setShare_X1_sumOfShares : GoodIn wsX1_setShare (wsV RX1 64 RX1 yX1_sumOfShares wsX1_sumOfShares) := goodIn_app (goodIn_of _ (by decide +kernel)) ggX1_setShare_X1_sumOfShares
theorem dX1_setShare_0 : decode cX1_setShare 0 = .ok (.iload_n 1, 1) := by decide +kernel
theorem dX1_setShare_1 : decode cX1_setShare 1 = .ok (.invokestatic 56, 3) := by decide +kernel
theorem dX1_setShare_4 : decode cX1_setShare 4 = .ok (.iload_n 2, 1) := by decide +kernel
theorem dX1_setShare_5 : decode cX1_setShare 5 = .ok (.iconst 0, 1) := by decide +kernel
theorem dX1_setShare_6 : decode cX1_setShare 6 = .ok (.iconst 4, 1) := by decide +kernel
theorem dX1_setShare_7 : decode cX1_setShare 7 = .ok (.invokestatic 60, 3) := by decide +kernel
theorem dX1_setShare_10 : decode cX1_setShare 10 = .ok (.aload_n 0, 1) := by decide +kernel
theorem dX1_setShare_11 : decode cX1_setShare 11 = .ok (.getfield 9, 3) := by decide +kernel
theorem dX1_setShare_14 : decode cX1_setShare 14 = .ok (.iload_n 1, 1) := by decide +kernel
theorem dX1_setShare_15 : decode cX1_setShare 15 = .ok (.iaload, 1) := by decide +kernel
theorem dX1_setShare_16 : decode cX1_setShare 16 = .ok (.istore_n 3, 1) := by decide +kernel
theorem dX1_setShare_17 : decode cX1_setShare 17 = .ok (.aload_n 0, 1) := by decide +kernel
theorem dX1_setShare_18 : decode cX1_setShare 18 = .ok (.invokevirtual 64, 3) := by decide +kernel
theorem dX1_setShare_21 : decode cX1_setShare 21 = .ok (.iload_n 3, 1) := by decide +kernel
theorem dX1_setShare_22 : decode cX1_setShare 22 = .ok (.isub, 1) := by decide +kernel
theorem dX1_setShare_23 : decode cX1_setShare 23 = .ok (.iload_n 2, 1) := by decide +kernel
theorem dX1_setShare_24 : decode cX1_setShare 24 = .ok (.iadd, 1) := by decide +kernel
theorem dX1_setShare_25 : decode cX1_setShare 25 = .ok (.iconst 4, 1) := by decide +kernel
theorem dX1_setShare_26 : decode cX1_setShare 26 = .ok (.if_icmp .le 13, 3) := by decide +kernel
theorem dX1_setShare_29 : decode cX1_setShare 29 = .ok (.new 68, 3) := by decide +kernel
theorem dX1_setShare_32 : decode cX1_setShare 32 = .ok (.dup, 1) := by decide +kernel
theorem dX1_setShare_33 : decode cX1_setShare 33 = .ok (.ldc 70, 2) := by decide +kernel
theorem dX1_setShare_35 : decode cX1_setShare 35 = .ok (.invokespecial 72, 3) := by decide +kernel
theorem dX1_setShare_38 : decode cX1_setShare 38 = .ok (.athrow, 1) := by decide +kernel
theorem dX1_setShare_39 : decode cX1_setShare 39 = .ok (.aload_n 0, 1) := by decide +kernel
theorem dX1_setShare_40 : decode cX1_setShare 40 = .ok (.getfield 9, 3) := by decide +kernel
theorem dX1_setShare_43 : decode cX1_setShare 43 = .ok (.iload_n 1, 1) := by decide +kernel
theorem dX1_setShare_44 : decode cX1_setShare 44 = .ok (.iload_n 2, 1) := by decide +kernel
theorem dX1_setShare_45 : decode cX1_setShare 45 = .ok (.iastore, 1) := by decide +kernel
theorem dX1_setShare_46 : decode cX1_setShare 46 = .ok (.iload_n 3, 1) := by decide +kernel
theorem dX1_setShare_47 : decode cX1_setShare 47 = .ok (.ireturn, 1) := by decide +kernel
set_option maxRecDepth 20000 in
theorem ggX1_setSwitch_X1_requireOwner : GoodIn wsX1_setSwitch wsX1_requireOwner := goodIn_ca (goodIn_r _ [5, 6, 7] (by decide +kernel) (by decide +kernel)) (goodIn_sub (fun _ h => List.mem_cons_of_mem _ (List.mem_append_right _ h)) (by decide +kernel))
set_option maxRecDepth 20000 in
theorem gX1_setSwitch_X1_requireOwner : GoodIn wsX1_setSwitch (va_wsS RX1 56 yX1_requireOwner wsX1_requireOwner) := goodIn_app (goodIn_of _ (by decide +kernel)) ggX1_setSwitch_X1_requireOwner
theorem dX1_setSwitch_0 : decode cX1_setSwitch 0 = .ok (.iload_n 1, 1) := by decide +kernel
theorem dX1_setSwitch_1 : decode cX1_setSwitch 1 = .ok (.invokestatic 56, 3) := by decide +kernel
theorem dX1_setSwitch_4 : decode cX1_setSwitch 4 = .ok (.aload_n 0, 1) := by decide +kernel
theorem dX1_setSwitch_5 : decode cX1_setSwitch 5 = .ok (.getfield 13, 3) := by decide +kernel
theorem dX1_setSwitch_8 : decode cX1_setSwitch 8 = .ok (.iload_n 1, 1) := by decide +kernel
theorem dX1_setSwitch_9 : decode cX1_setSwitch 9 = .ok (.baload, 1) := by decide +kernel
theorem dX1_setSwitch_10 : decode cX1_setSwitch 10 = .ok (.istore_n 3, 1) := by decide +kernel
theorem dX1_setSwitch_11 : decode cX1_setSwitch 11 = .ok (.aload_n 0, 1) := by decide +kernel
theorem dX1_setSwitch_12 : decode cX1_setSwitch 12 = .ok (.getfield 13, 3) := by decide +kernel
theorem dX1_setSwitch_15 : decode cX1_setSwitch 15 = .ok (.iload_n 1, 1) := by decide +kernel
theorem dX1_setSwitch_16 : decode cX1_setSwitch 16 = .ok (.iload_n 2, 1) := by decide +kernel
theorem dX1_setSwitch_17 : decode cX1_setSwitch 17 = .ok (.bastore, 1) := by decide +kernel
theorem dX1_setSwitch_18 : decode cX1_setSwitch 18 = .ok (.iload_n 3, 1) := by decide +kernel
theorem dX1_setSwitch_19 : decode cX1_setSwitch 19 = .ok (.ireturn, 1) := by decide +kernel
set_option maxRecDepth 20000 in
theorem ggX1_setPrice_X1_requireWithin : GoodIn wsX1_setPrice wsX1_requireWithin := goodIn_ca (goodIn_r _ [6, 7, 8] (by decide +kernel) (by decide +kernel)) (goodIn_sub (fun _ h => List.mem_cons_of_mem _ (List.mem_append_right _ h)) (by decide +kernel))
set_option maxRecDepth 20000 in
theorem gX1_setPrice_X1_requireWithin : GoodIn wsX1_setPrice (va_wsS RX1 60 yX1_requireWithin wsX1_requireWithin) := goodIn_app (goodIn_of _ (by decide +kernel)) ggX1_setPrice_X1_requireWithin
theorem dX1_setPrice_0 : decode cX1_setPrice 0 = .ok (.iload_n 1, 1) := by decide +kernel
theorem dX1_setPrice_1 : decode cX1_setPrice 1 = .ok (.iconst 1, 1) := by decide +kernel
theorem dX1_setPrice_2 : decode cX1_setPrice 2 = .ok (.iconst 4, 1) := by decide +kernel
theorem dX1_setPrice_3 : decode cX1_setPrice 3 = .ok (.invokestatic 60, 3) := by decide +kernel
theorem dX1_setPrice_6 : decode cX1_setPrice 6 = .ok (.aload_n 0, 1) := by decide +kernel
theorem dX1_setPrice_7 : decode cX1_setPrice 7 = .ok (.iload_n 1, 1) := by decide +kernel
theorem dX1_setPrice_8 : decode cX1_setPrice 8 = .ok (.i2d, 1) := by decide +kernel
theorem dX1_setPrice_9 : decode cX1_setPrice 9 = .ok (.ldc2_w 75, 3) := by decide +kernel
theorem dX1_setPrice_12 : decode cX1_setPrice 12 = .ok (.ddiv, 1) := by decide +kernel
theorem dX1_setPrice_13 : decode cX1_setPrice 13 = .ok (.putfield 39, 3) := by decide +kernel
theorem dX1_setPrice_16 : decode cX1_setPrice 16 = .ok (.aload_n 0, 1) := by decide +kernel
theorem dX1_setPrice_17 : decode cX1_setPrice 17 = .ok (.getfield 39, 3) := by decide +kernel
theorem dX1_setPrice_20 : decode cX1_setPrice 20 = .ok (.dreturn, 1) := by decide +kernel
set_option maxRecDepth 20000 in
theorem ggX1_tell_X1_requireOwner : GoodIn wsX1_tell wsX1_requireOwner := goodIn_ca (goodIn_r _ [6, 7, 8] (by decide +kernel) (by decide +kernel)) (goodIn_sub (fun _ h => List.mem_cons_of_mem _ (List.mem_append_right _ h)) (by decide +kernel))
set_option maxRecDepth 20000 in
theorem gX1_tell_X1_requireOwner : GoodIn wsX1_tell (va_wsS RX1 56 yX1_requireOwner wsX1_requireOwner) := goodIn_app (goodIn_of _ (by decide +kernel)) ggX1_tell_X1_requireOwner
set_option maxRecDepth 20000 in
theorem ggX1_tell_X1_requireWithin : GoodIn wsX1_tell wsX1_requireWithin := goodIn_ca (goodIn_r _ [11, 7, 8] (by decide +kernel) (by decide +kernel)) (goodIn_sub (fun _ h => List.mem_cons_of_mem _ (List.mem_append_right _ h)) (by decide +kernel))
set_option maxRecDepth 20000 in
theorem gX1_tell_X1_requireWithin : GoodIn wsX1_tell (va_wsS RX1 60 yX1_requireWithin wsX1_requireWithin) := goodIn_app (goodIn_of _ (by decide +kernel)) ggX1_tell_X1_requireWithin
theorem dX1_tell_0 : decode cX1_tell 0 = .ok (.iload_n 1, 1) := by decide +kernel
theorem dX1_tell_1 : decode cX1_tell 1 = .ok (.invokestatic 56, 3) := by decide +kernel
theorem dX1_tell_4 : decode cX1_tell 4 = .ok (.iload_n 2, 1) := by decide +kernel
theorem dX1_tell_5 : decode cX1_tell 5 = .ok (.iconst 0, 1) := by decide +kernel
theorem dX1_tell_6 : decode cX1_tell 6 = .ok (.bipush 50, 2) := by decide +kernel
theorem dX1_tell_8 : decode cX1_tell 8 = .ok (.invokestatic 60, 3) := by decide +kernel
theorem dX1_tell_11 : decode cX1_tell 11 = .ok (.aload_n 0, 1) := by decide +kernel
theorem dX1_tell_12 : decode cX1_tell 12 = .ok (.getfield 24, 3) := by decide +kernel
theorem dX1_tell_15 : decode cX1_tell 15 = .ok (.iload_n 1, 1) := by decide +kernel
theorem dX1_tell_16 : decode cX1_tell 16 = .ok (.baload, 1) := by decide +kernel
theorem dX1_tell_17 : decode cX1_tell 17 = .ok (.istore_n 3, 1) := by decide +kernel
theorem dX1_tell_18 : decode cX1_tell 18 = .ok (.aload_n 0, 1) := by decide +kernel
theorem dX1_tell_19 : decode cX1_tell 19 = .ok (.getfield 24, 3) := by decide +kernel
theorem dX1_tell_22 : decode cX1_tell 22 = .ok (.iload_n 1, 1) := by decide +kernel
theorem dX1_tell_23 : decode cX1_tell 23 = .ok (.iconst 1, 1) := by decide +kernel
theorem dX1_tell_24 : decode cX1_tell 24 = .ok (.bastore, 1) := by decide +kernel
theorem dX1_tell_25 : decode cX1_tell 25 = .ok (.aload_n 0, 1) := by decide +kernel
theorem dX1_tell_26 : decode cX1_tell 26 = .ok (.getfield 27, 3) := by decide +kernel
theorem dX1_tell_29 : decode cX1_tell 29 = .ok (.iload_n 1, 1) := by decide +kernel
theorem dX1_tell_30 : decode cX1_tell 30 = .ok (.iload_n 2, 1) := by decide +kernel
theorem dX1_tell_31 : decode cX1_tell 31 = .ok (.iastore, 1) := by decide +kernel
theorem dX1_tell_32 : decode cX1_tell 32 = .ok (.iload_n 3, 1) := by decide +kernel
theorem dX1_tell_33 : decode cX1_tell 33 = .ok (.ireturn, 1) := by decide +kernel
set_option maxRecDepth 20000 in
theorem ggX1_close_X1_requireWithin : GoodIn wsX1_close wsX1_requireWithin := goodIn_ca (goodIn_r _ [11, 12, 13] (by decide +kernel) (by decide +kernel)) (goodIn_sub (fun _ h => List.mem_cons_of_mem _ (List.mem_append_right _ h)) (by decide +kernel))
set_option maxRecDepth 20000 in
theorem gX1_close_X1_requireWithin : GoodIn wsX1_close (va_wsS RX1 60 yX1_requireWithin wsX1_requireWithin) := goodIn_app (goodIn_of _ (by decide +kernel)) ggX1_close_X1_requireWithin
set_option maxRecDepth 20000 in
theorem ggX1_close_X1_writeUses : GoodIn wsX1_close wsX1_writeUses := goodIn_r _ [17, 18, 19, 3, 20, 21, 22, 23, 24, 25, 26, 27, 28, 29, 30, 31, 32, 33, 34, 35, 105, 106, 107, 108, 109, 110, 111, 112, 113, 114, 115, 116, 117, 118, 119, 120, 121, 122, 123, 124, 125] (by decide +kernel) (by decide +kernel)
set_option maxRecDepth 20000 in
theorem gX1_close_X1_writeUses : GoodIn wsX1_close (wsV RX1 84 RX1 yX1_writeUses wsX1_writeUses) := goodIn_app (goodIn_of _ (by decide +kernel)) ggX1_close_X1_writeUses
set_option maxRecDepth 20000 in
theorem ggX1_close_X1_shedUntilCarried : GoodIn wsX1_close wsX1_shedUntilCarried := goodIn_r _ [39, 22, 40, 41, 42, 43, 10, 44, 45, 46, 47, 48, 49, 50, 51, 52, 53, 54, 105, 106, 107, 108, 109, 110, 111, 112, 113, 114, 115, 116] (by decide +kernel) (by decide +kernel)
set_option maxRecDepth 20000 in
theorem gX1_close_X1_shedUntilCarried : GoodIn wsX1_close (wsV RX1 87 RX1 yX1_shedUntilCarried wsX1_shedUntilCarried) := goodIn_app (goodIn_of _ (by decide +kernel)) ggX1_close_X1_shedUntilCarried
set_option maxRecDepth 20000 in
theorem ggX1_close_X1_isOverLine : GoodIn wsX1_close wsX1_isOverLine := goodIn_r _ [49, 50, 51, 52, 53, 10, 54, 22, 105, 106, 107, 108, 109, 110, 111, 112, 113, 114, 115, 116] (by decide +kernel) (by decide +kernel)
set_option maxRecDepth 20000 in
theorem gX1_close_X1_isOverLine : GoodIn wsX1_close (wsV RX1 90 RX1 yX1_isOverLine wsX1_isOverLine) := goodIn_app (goodIn_of _ (by decide +kernel)) ggX1_close_X1_isOverLine
set_option maxRecDepth 20000 in
theorem ggX1_close_X1_writeUsed : GoodIn wsX1_close wsX1_writeUsed := goodIn_r _ [58, 3, 59, 22, 23, 24, 25, 26, 105, 106, 107, 108, 109, 110, 111, 112, 113, 114, 115, 116, 117, 118, 119, 120, 121, 122, 123, 124, 125] (by decide +kernel) (by decide +kernel)
set_option maxRecDepth 20000 in
theorem gX1_close_X1_writeUsed : GoodIn wsX1_close (wsV RX1 94 RX1 yX1_writeUsed wsX1_writeUsed) := goodIn_app (goodIn_of _ (by decide +kernel)) ggX1_close_X1_writeUsed
set_option maxRecDepth 20000 in
theorem ggX1_close_X1_giveByShare : GoodIn wsX1_close wsX1_giveByShare := goodIn_r _ [63, 64, 65, 22, 7, 66, 67, 10, 68, 69, 70, 71, 72, 3, 73, 23, 24, 25, 26, 105, 106, 107, 108, 109, 110, 111, 112, 113, 114, 115, 116, 117, 118, 119, 120, 121, 122, 123, 124, 125] (by decide +kernel) (by decide +kernel)
set_option maxRecDepth 20000 in
theorem gX1_close_X1_giveByShare : GoodIn wsX1_close (wsV RX1 97 RX1 yX1_giveByShare wsX1_giveByShare) := goodIn_app (goodIn_of _ (by decide +kernel)) ggX1_close_X1_giveByShare
set_option maxRecDepth 20000 in
theorem ggX1_close_X1_giveByNeed : GoodIn wsX1_close wsX1_giveByNeed := goodIn_r _ [77, 7, 22, 51, 52, 53, 10, 54, 69, 70, 71, 72, 3, 73, 23, 24, 25, 26, 105, 106, 107, 108, 109, 110, 111, 112, 113, 114, 115, 116, 117, 118, 119, 120, 121, 122, 123, 124, 125] (by decide +kernel) (by decide +kernel)
set_option maxRecDepth 20000 in
theorem gX1_close_X1_giveByNeed : GoodIn wsX1_close (wsV RX1 101 RX1 yX1_giveByNeed wsX1_giveByNeed) := goodIn_app (goodIn_of _ (by decide +kernel)) ggX1_close_X1_giveByNeed
set_option maxRecDepth 20000 in
theorem ggX1_close_X1_storeOrSell : GoodIn wsX1_close wsX1_storeOrSell := goodIn_r _ [81, 82, 83, 7, 3, 84, 105, 106, 107, 108, 109, 110, 111, 112, 113, 114, 115, 116, 117, 118, 119, 120, 121, 122, 123, 124, 125] (by decide +kernel) (by decide +kernel)
set_option maxRecDepth 20000 in
theorem gX1_close_X1_storeOrSell : GoodIn wsX1_close (wsV RX1 104 RX1 yX1_storeOrSell wsX1_storeOrSell) := goodIn_app (goodIn_of _ (by decide +kernel)) ggX1_close_X1_storeOrSell
set_option maxRecDepth 20000 in
theorem ggX1_close_X1_giveFromBattery : GoodIn wsX1_close wsX1_giveFromBattery := goodIn_r _ [88, 89, 22, 83, 3, 90, 66, 67, 10, 68, 23, 24, 25, 26, 91, 92, 93, 94, 95, 96, 97, 105, 106, 107, 108, 109, 110, 111, 112, 113, 114, 115, 116, 117, 118, 119, 120, 121, 122, 123, 124, 125] (by decide +kernel) (by decide +kernel)
set_option maxRecDepth 20000 in
theorem gX1_close_X1_giveFromBattery : GoodIn wsX1_close (wsV RX1 107 RX1 yX1_giveFromBattery wsX1_giveFromBattery) := goodIn_app (goodIn_of _ (by decide +kernel)) ggX1_close_X1_giveFromBattery
set_option maxRecDepth 20000 in
theorem ggX1_close_X1_writeBills : GoodIn wsX1_close wsX1_writeBills := goodIn_r _ [101, 3, 84, 6, 102, 103, 22, 104, 23, 24, 25, 26, 105, 106, 107, 108, 109, 110, 111, 112, 113, 114, 115, 116, 117, 118, 119, 120, 121, 122, 123, 124, 125] (by decide +kernel) (by decide +kernel)
set_option maxRecDepth 20000 in
theorem gX1_close_X1_writeBills : GoodIn wsX1_close (wsV RX1 110 RX1 yX1_writeBills wsX1_writeBills) := goodIn_app (goodIn_of _ (by decide +kernel)) ggX1_close_X1_writeBills
theorem dX1_close_0 : decode cX1_close 0 = .ok (.iload_n 1, 1) := by decide +kernel
theorem dX1_close_1 : decode cX1_close 1 = .ok (.iconst 0, 1) := by decide +kernel
theorem dX1_close_2 : decode cX1_close 2 = .ok (.bipush 100, 2) := by decide +kernel
theorem dX1_close_4 : decode cX1_close 4 = .ok (.invokestatic 60, 3) := by decide +kernel
theorem dX1_close_7 : decode cX1_close 7 = .ok (.aload_n 0, 1) := by decide +kernel
theorem dX1_close_8 : decode cX1_close 8 = .ok (.getfield 33, 3) := by decide +kernel
theorem dX1_close_11 : decode cX1_close 11 = .ok (.getfield 77, 3) := by decide +kernel
theorem dX1_close_14 : decode cX1_close 14 = .ok (.istore_n 2, 1) := by decide +kernel
theorem dX1_close_15 : decode cX1_close 15 = .ok (.iload_n 2, 1) := by decide +kernel
theorem dX1_close_16 : decode cX1_close 16 = .ok (.bipush 60, 2) := by decide +kernel
theorem dX1_close_18 : decode cX1_close 18 = .ok (.if_icmp .lt 13, 3) := by decide +kernel
theorem dX1_close_21 : decode cX1_close 21 = .ok (.new 68, 3) := by decide +kernel
theorem dX1_close_24 : decode cX1_close 24 = .ok (.dup, 1) := by decide +kernel
theorem dX1_close_25 : decode cX1_close 25 = .ok (.ldc 80, 2) := by decide +kernel
theorem dX1_close_27 : decode cX1_close 27 = .ok (.invokespecial 72, 3) := by decide +kernel
theorem dX1_close_30 : decode cX1_close 30 = .ok (.athrow, 1) := by decide +kernel
theorem dX1_close_31 : decode cX1_close 31 = .ok (.aload_n 0, 1) := by decide +kernel
theorem dX1_close_32 : decode cX1_close 32 = .ok (.getfield 33, 3) := by decide +kernel
theorem dX1_close_35 : decode cX1_close 35 = .ok (.getfield 82, 3) := by decide +kernel
theorem dX1_close_38 : decode cX1_close 38 = .ok (.iload_n 2, 1) := by decide +kernel
theorem dX1_close_39 : decode cX1_close 39 = .ok (.aload_n 0, 1) := by decide +kernel
theorem dX1_close_40 : decode cX1_close 40 = .ok (.getfield 39, 3) := by decide +kernel
theorem dX1_close_43 : decode cX1_close 43 = .ok (.dastore, 1) := by decide +kernel
theorem dX1_close_44 : decode cX1_close 44 = .ok (.aload_n 0, 1) := by decide +kernel
theorem dX1_close_45 : decode cX1_close 45 = .ok (.iload_n 2, 1) := by decide +kernel
theorem dX1_close_46 : decode cX1_close 46 = .ok (.invokevirtual 84, 3) := by decide +kernel
theorem dX1_close_49 : decode cX1_close 49 = .ok (.aload_n 0, 1) := by decide +kernel
theorem dX1_close_50 : decode cX1_close 50 = .ok (.invokevirtual 87, 3) := by decide +kernel
theorem dX1_close_53 : decode cX1_close 53 = .ok (.aload_n 0, 1) := by decide +kernel
theorem dX1_close_54 : decode cX1_close 54 = .ok (.invokevirtual 90, 3) := by decide +kernel
theorem dX1_close_57 : decode cX1_close 57 = .ok (.istore_n 3, 1) := by decide +kernel
theorem dX1_close_58 : decode cX1_close 58 = .ok (.aload_n 0, 1) := by decide +kernel
theorem dX1_close_59 : decode cX1_close 59 = .ok (.iload_n 2, 1) := by decide +kernel
theorem dX1_close_60 : decode cX1_close 60 = .ok (.invokevirtual 94, 3) := by decide +kernel
theorem dX1_close_63 : decode cX1_close 63 = .ok (.aload_n 0, 1) := by decide +kernel
theorem dX1_close_64 : decode cX1_close 64 = .ok (.iload_n 1, 1) := by decide +kernel
theorem dX1_close_65 : decode cX1_close 65 = .ok (.i2d, 1) := by decide +kernel
theorem dX1_close_66 : decode cX1_close 66 = .ok (.putfield 53, 3) := by decide +kernel
theorem dX1_close_69 : decode cX1_close 69 = .ok (.aload_n 0, 1) := by decide +kernel
theorem dX1_close_70 : decode cX1_close 70 = .ok (.iload_n 2, 1) := by decide +kernel
theorem dX1_close_71 : decode cX1_close 71 = .ok (.iload_n 1, 1) := by decide +kernel
theorem dX1_close_72 : decode cX1_close 72 = .ok (.invokevirtual 97, 3) := by decide +kernel
theorem dX1_close_75 : decode cX1_close 75 = .ok (.aload_n 0, 1) := by decide +kernel
theorem dX1_close_76 : decode cX1_close 76 = .ok (.iload_n 2, 1) := by decide +kernel
theorem dX1_close_77 : decode cX1_close 77 = .ok (.invokevirtual 101, 3) := by decide +kernel
theorem dX1_close_80 : decode cX1_close 80 = .ok (.aload_n 0, 1) := by decide +kernel
theorem dX1_close_81 : decode cX1_close 81 = .ok (.iload_n 2, 1) := by decide +kernel
theorem dX1_close_82 : decode cX1_close 82 = .ok (.invokevirtual 104, 3) := by decide +kernel
theorem dX1_close_85 : decode cX1_close 85 = .ok (.aload_n 0, 1) := by decide +kernel
theorem dX1_close_86 : decode cX1_close 86 = .ok (.getfield 53, 3) := by decide +kernel
theorem dX1_close_89 : decode cX1_close 89 = .ok (.dconst 0, 1) := by decide +kernel
theorem dX1_close_90 : decode cX1_close 90 = .ok (.dcmp .l, 1) := by decide +kernel
theorem dX1_close_91 : decode cX1_close 91 = .ok (.ifCond .ne 8, 3) := by decide +kernel
theorem dX1_close_94 : decode cX1_close 94 = .ok (.aload_n 0, 1) := by decide +kernel
theorem dX1_close_95 : decode cX1_close 95 = .ok (.iload_n 2, 1) := by decide +kernel
theorem dX1_close_96 : decode cX1_close 96 = .ok (.invokevirtual 107, 3) := by decide +kernel
theorem dX1_close_99 : decode cX1_close 99 = .ok (.aload_n 0, 1) := by decide +kernel
theorem dX1_close_100 : decode cX1_close 100 = .ok (.iload_n 2, 1) := by decide +kernel
theorem dX1_close_101 : decode cX1_close 101 = .ok (.invokevirtual 110, 3) := by decide +kernel
theorem dX1_close_104 : decode cX1_close 104 = .ok (.aload_n 0, 1) := by decide +kernel
theorem dX1_close_105 : decode cX1_close 105 = .ok (.getfield 33, 3) := by decide +kernel
theorem dX1_close_108 : decode cX1_close 108 = .ok (.iload_n 2, 1) := by decide +kernel
theorem dX1_close_109 : decode cX1_close 109 = .ok (.iconst 1, 1) := by decide +kernel
theorem dX1_close_110 : decode cX1_close 110 = .ok (.iadd, 1) := by decide +kernel
theorem dX1_close_111 : decode cX1_close 111 = .ok (.putfield 77, 3) := by decide +kernel
theorem dX1_close_114 : decode cX1_close 114 = .ok (.iload_n 3, 1) := by decide +kernel
theorem dX1_close_115 : decode cX1_close 115 = .ok (.ireturn, 1) := by decide +kernel
theorem dX1_closed_0 : decode cX1_closed 0 = .ok (.aload_n 0, 1) := by decide +kernel
theorem dX1_closed_1 : decode cX1_closed 1 = .ok (.getfield 33, 3) := by decide +kernel
theorem dX1_closed_4 : decode cX1_closed 4 = .ok (.getfield 77, 3) := by decide +kernel
theorem dX1_closed_7 : decode cX1_closed 7 = .ok (.ireturn, 1) := by decide +kernel
set_option maxRecDepth 20000 in
theorem ggX1_replace_X1_requireOwner : GoodIn wsX1_replace wsX1_requireOwner := goodIn_ca (goodIn_r _ [12, 13, 14] (by decide +kernel) (by decide +kernel)) (goodIn_sub (fun _ h => List.mem_cons_of_mem _ (List.mem_append_left _ (List.mem_append_right _ h))) (by decide +kernel))
set_option maxRecDepth 20000 in
theorem gX1_replace_X1_requireOwner : GoodIn wsX1_replace (va_wsS RX1 56 yX1_requireOwner wsX1_requireOwner) := goodIn_app (goodIn_of _ (by decide +kernel)) ggX1_replace_X1_requireOwner
set_option maxRecDepth 20000 in
theorem ggX1_replace_X1_requireWithin : GoodIn wsX1_replace wsX1_requireWithin := goodIn_ca (goodIn_r _ [17, 13, 14] (by decide +kernel) (by decide +kernel)) (goodIn_sub (fun _ h => List.mem_cons_of_mem _ (List.mem_append_left _ (List.mem_append_right _ h))) (by decide +kernel))
set_option maxRecDepth 20000 in
theorem gX1_replace_X1_requireWithin : GoodIn wsX1_replace (va_wsS RX1 60 yX1_requireWithin wsX1_requireWithin) := goodIn_app (goodIn_of _ (by decide +kernel)) ggX1_replace_X1_requireWithin
set_option maxRecDepth 20000 in
theorem ggX1_replace_X1_requireQuarter : GoodIn wsX1_replace wsX1_requireQuarter := goodIn_ca (goodIn_r _ [21, 22, 23, 3, 24, 29, 30, 31, 32, 33, 34, 35, 36, 37, 38, 39, 40, 41, 42, 43, 44, 45, 46, 47, 48, 49] (by decide +kernel) (by decide +kernel)) (goodIn_sub (fun _ h => List.mem_cons_of_mem _ (List.mem_append_right _ h)) (by decide +kernel))
set_option maxRecDepth 20000 in
theorem gX1_replace_X1_requireQuarter : GoodIn wsX1_replace (wsV RX1 113 RX1 yX1_requireQuarter wsX1_requireQuarter) := goodIn_app (goodIn_of _ (by decide +kernel)) ggX1_replace_X1_requireQuarter
set_option maxRecDepth 20000 in
theorem ggX1_replace_X0_slot : GoodIn wsX1_replace wsX0_slot := goodIn_r _ [28] (by decide +kernel) (by decide +kernel)
set_option maxRecDepth 20000 in
theorem gX1_replace_X0_slot : GoodIn wsX1_replace (va_wsS RX1 116 yX0_slot wsX0_slot) := goodIn_app (goodIn_of _ (by decide +kernel)) ggX1_replace_X0_slot
theorem dX1_replace_0 : decode cX1_replace 0 = .ok (.iload_n 1, 1) := by decide +kernel
theorem dX1_replace_1 : decode cX1_replace 1 = .ok (.invokestatic 56, 3) := by decide +kernel
theorem dX1_replace_4 : decode cX1_replace 4 = .ok (.iload_n 3, 1) := by decide +kernel
theorem dX1_replace_5 : decode cX1_replace 5 = .ok (.iconst 0, 1) := by decide +kernel
theorem dX1_replace_6 : decode cX1_replace 6 = .ok (.bipush 50, 2) := by decide +kernel
theorem dX1_replace_8 : decode cX1_replace 8 = .ok (.invokestatic 60, 3) := by decide +kernel
theorem dX1_replace_11 : decode cX1_replace 11 = .ok (.aload_n 0, 1) := by decide +kernel
theorem dX1_replace_12 : decode cX1_replace 12 = .ok (.iload_n 2, 1) := by decide +kernel
theorem dX1_replace_13 : decode cX1_replace 13 = .ok (.invokevirtual 113, 3) := by decide +kernel
theorem dX1_replace_16 : decode cX1_replace 16 = .ok (.iload_n 1, 1) := by decide +kernel
theorem dX1_replace_17 : decode cX1_replace 17 = .ok (.iload_n 2, 1) := by decide +kernel
theorem dX1_replace_18 : decode cX1_replace 18 = .ok (.invokestatic 116, 3) := by decide +kernel
theorem dX1_replace_21 : decode cX1_replace 21 = .ok (.istore 4, 2) := by decide +kernel
theorem dX1_replace_23 : decode cX1_replace 23 = .ok (.aload_n 0, 1) := by decide +kernel
theorem dX1_replace_24 : decode cX1_replace 24 = .ok (.getfield 33, 3) := by decide +kernel
theorem dX1_replace_27 : decode cX1_replace 27 = .ok (.getfield 120, 3) := by decide +kernel
theorem dX1_replace_30 : decode cX1_replace 30 = .ok (.iload 4, 2) := by decide +kernel
theorem dX1_replace_32 : decode cX1_replace 32 = .ok (.baload, 1) := by decide +kernel
theorem dX1_replace_33 : decode cX1_replace 33 = .ok (.ifCond .eq 13, 3) := by decide +kernel
theorem dX1_replace_36 : decode cX1_replace 36 = .ok (.new 68, 3) := by decide +kernel
theorem dX1_replace_39 : decode cX1_replace 39 = .ok (.dup, 1) := by decide +kernel
theorem dX1_replace_40 : decode cX1_replace 40 = .ok (.ldc 123, 2) := by decide +kernel
theorem dX1_replace_42 : decode cX1_replace 42 = .ok (.invokespecial 72, 3) := by decide +kernel
theorem dX1_replace_45 : decode cX1_replace 45 = .ok (.athrow, 1) := by decide +kernel
theorem dX1_replace_46 : decode cX1_replace 46 = .ok (.aload_n 0, 1) := by decide +kernel
theorem dX1_replace_47 : decode cX1_replace 47 = .ok (.getfield 33, 3) := by decide +kernel
theorem dX1_replace_50 : decode cX1_replace 50 = .ok (.getfield 120, 3) := by decide +kernel
theorem dX1_replace_53 : decode cX1_replace 53 = .ok (.iload 4, 2) := by decide +kernel
theorem dX1_replace_55 : decode cX1_replace 55 = .ok (.iconst 1, 1) := by decide +kernel
theorem dX1_replace_56 : decode cX1_replace 56 = .ok (.bastore, 1) := by decide +kernel
theorem dX1_replace_57 : decode cX1_replace 57 = .ok (.aload_n 0, 1) := by decide +kernel
theorem dX1_replace_58 : decode cX1_replace 58 = .ok (.getfield 33, 3) := by decide +kernel
theorem dX1_replace_61 : decode cX1_replace 61 = .ok (.getfield 125, 3) := by decide +kernel
theorem dX1_replace_64 : decode cX1_replace 64 = .ok (.iload 4, 2) := by decide +kernel
theorem dX1_replace_66 : decode cX1_replace 66 = .ok (.iload_n 3, 1) := by decide +kernel
theorem dX1_replace_67 : decode cX1_replace 67 = .ok (.i2d, 1) := by decide +kernel
theorem dX1_replace_68 : decode cX1_replace 68 = .ok (.dastore, 1) := by decide +kernel
theorem dX1_replace_69 : decode cX1_replace 69 = .ok (.iload_n 3, 1) := by decide +kernel
theorem dX1_replace_70 : decode cX1_replace 70 = .ok (.i2d, 1) := by decide +kernel
theorem dX1_replace_71 : decode cX1_replace 71 = .ok (.aload_n 0, 1) := by decide +kernel
theorem dX1_replace_72 : decode cX1_replace 72 = .ok (.getfield 33, 3) := by decide +kernel
theorem dX1_replace_75 : decode cX1_replace 75 = .ok (.getfield 128, 3) := by decide +kernel
theorem dX1_replace_78 : decode cX1_replace 78 = .ok (.iload 4, 2) := by decide +kernel
theorem dX1_replace_80 : decode cX1_replace 80 = .ok (.daload, 1) := by decide +kernel
theorem dX1_replace_81 : decode cX1_replace 81 = .ok (.dsub, 1) := by decide +kernel
theorem dX1_replace_82 : decode cX1_replace 82 = .ok (.aload_n 0, 1) := by decide +kernel
theorem dX1_replace_83 : decode cX1_replace 83 = .ok (.getfield 33, 3) := by decide +kernel
theorem dX1_replace_86 : decode cX1_replace 86 = .ok (.getfield 82, 3) := by decide +kernel
theorem dX1_replace_89 : decode cX1_replace 89 = .ok (.iload_n 2, 1) := by decide +kernel
theorem dX1_replace_90 : decode cX1_replace 90 = .ok (.daload, 1) := by decide +kernel
theorem dX1_replace_91 : decode cX1_replace 91 = .ok (.dmul, 1) := by decide +kernel
theorem dX1_replace_92 : decode cX1_replace 92 = .ok (.dstore 5, 2) := by decide +kernel
theorem dX1_replace_94 : decode cX1_replace 94 = .ok (.aload_n 0, 1) := by decide +kernel
theorem dX1_replace_95 : decode cX1_replace 95 = .ok (.getfield 20, 3) := by decide +kernel
theorem dX1_replace_98 : decode cX1_replace 98 = .ok (.iload_n 1, 1) := by decide +kernel
theorem dX1_replace_99 : decode cX1_replace 99 = .ok (.dup2, 1) := by decide +kernel
theorem dX1_replace_100 : decode cX1_replace 100 = .ok (.daload, 1) := by decide +kernel
theorem dX1_replace_101 : decode cX1_replace 101 = .ok (.dload 5, 2) := by decide +kernel
theorem dX1_replace_103 : decode cX1_replace 103 = .ok (.dadd, 1) := by decide +kernel
theorem dX1_replace_104 : decode cX1_replace 104 = .ok (.dastore, 1) := by decide +kernel
theorem dX1_replace_105 : decode cX1_replace 105 = .ok (.dload 5, 2) := by decide +kernel
theorem dX1_replace_107 : decode cX1_replace 107 = .ok (.dreturn, 1) := by decide +kernel
set_option maxRecDepth 20000 in
theorem ggX1_use_X1_closedSlot : GoodIn wsX1_use wsX1_closedSlot := goodIn_ca (goodIn_ca (goodIn_r _ [7, 8, 9, 6, 10, 11, 12, 13, 14, 15, 16, 17, 18, 1, 19, 20, 21, 22, 23, 24, 25, 26, 27, 28, 29, 30, 31, 32, 33, 34, 35, 36, 37, 38, 39, 40, 41, 42, 43, 44] (by decide +kernel) (by decide +kernel)) (goodIn_sub (fun _ h => List.mem_cons_of_mem _ (List.mem_append_left _ (List.mem_append_right _ h))) (by decide +kernel))) (goodIn_sub (fun _ h => List.mem_cons_of_mem _ (List.mem_append_right _ h)) (by decide +kernel))
set_option maxRecDepth 20000 in
theorem gX1_use_X1_closedSlot : GoodIn wsX1_use (wsV RX1 131 RX1 yX1_closedSlot wsX1_closedSlot) := goodIn_app (goodIn_of _ (by decide +kernel)) ggX1_use_X1_closedSlot
theorem dX1_use_0 : decode cX1_use 0 = .ok (.aload_n 0, 1) := by decide +kernel
theorem dX1_use_1 : decode cX1_use 1 = .ok (.getfield 33, 3) := by decide +kernel
theorem dX1_use_4 : decode cX1_use 4 = .ok (.getfield 125, 3) := by decide +kernel
theorem dX1_use_7 : decode cX1_use 7 = .ok (.aload_n 0, 1) := by decide +kernel
theorem dX1_use_8 : decode cX1_use 8 = .ok (.iload_n 1, 1) := by decide +kernel
theorem dX1_use_9 : decode cX1_use 9 = .ok (.iload_n 2, 1) := by decide +kernel
theorem dX1_use_10 : decode cX1_use 10 = .ok (.invokevirtual 131, 3) := by decide +kernel
theorem dX1_use_13 : decode cX1_use 13 = .ok (.daload, 1) := by decide +kernel
theorem dX1_use_14 : decode cX1_use 14 = .ok (.dreturn, 1) := by decide +kernel
set_option maxRecDepth 20000 in
theorem ggX1_fromSun_X1_closedSlot : GoodIn wsX1_fromSun wsX1_closedSlot := goodIn_ca (goodIn_ca (goodIn_r _ [7, 8, 9, 6, 10, 11, 12, 13, 14, 15, 16, 17, 18, 1, 19, 20, 21, 22, 23, 24, 25, 26, 27, 28, 29, 30, 31, 32, 33, 34, 35, 36, 37, 38, 39, 40, 41, 42, 43, 44] (by decide +kernel) (by decide +kernel)) (goodIn_sub (fun _ h => List.mem_cons_of_mem _ (List.mem_append_left _ (List.mem_append_right _ h))) (by decide +kernel))) (goodIn_sub (fun _ h => List.mem_cons_of_mem _ (List.mem_append_right _ h)) (by decide +kernel))
set_option maxRecDepth 20000 in
theorem gX1_fromSun_X1_closedSlot : GoodIn wsX1_fromSun (wsV RX1 131 RX1 yX1_closedSlot wsX1_closedSlot) := goodIn_app (goodIn_of _ (by decide +kernel)) ggX1_fromSun_X1_closedSlot
theorem dX1_fromSun_0 : decode cX1_fromSun 0 = .ok (.aload_n 0, 1) := by decide +kernel
theorem dX1_fromSun_1 : decode cX1_fromSun 1 = .ok (.getfield 33, 3) := by decide +kernel
theorem dX1_fromSun_4 : decode cX1_fromSun 4 = .ok (.getfield 134, 3) := by decide +kernel
theorem dX1_fromSun_7 : decode cX1_fromSun 7 = .ok (.aload_n 0, 1) := by decide +kernel
theorem dX1_fromSun_8 : decode cX1_fromSun 8 = .ok (.iload_n 1, 1) := by decide +kernel
theorem dX1_fromSun_9 : decode cX1_fromSun 9 = .ok (.iload_n 2, 1) := by decide +kernel
theorem dX1_fromSun_10 : decode cX1_fromSun 10 = .ok (.invokevirtual 131, 3) := by decide +kernel
theorem dX1_fromSun_13 : decode cX1_fromSun 13 = .ok (.daload, 1) := by decide +kernel
theorem dX1_fromSun_14 : decode cX1_fromSun 14 = .ok (.dreturn, 1) := by decide +kernel
set_option maxRecDepth 20000 in
theorem ggX1_fromBattery_X1_closedSlot : GoodIn wsX1_fromBattery wsX1_closedSlot := goodIn_ca (goodIn_ca (goodIn_r _ [7, 8, 9, 6, 10, 11, 12, 13, 14, 15, 16, 17, 18, 1, 19, 20, 21, 22, 23, 24, 25, 26, 27, 28, 29, 30, 31, 32, 33, 34, 35, 36, 37, 38, 39, 40, 41, 42, 43, 44] (by decide +kernel) (by decide +kernel)) (goodIn_sub (fun _ h => List.mem_cons_of_mem _ (List.mem_append_left _ (List.mem_append_right _ h))) (by decide +kernel))) (goodIn_sub (fun _ h => List.mem_cons_of_mem _ (List.mem_append_right _ h)) (by decide +kernel))
set_option maxRecDepth 20000 in
theorem gX1_fromBattery_X1_closedSlot : GoodIn wsX1_fromBattery (wsV RX1 131 RX1 yX1_closedSlot wsX1_closedSlot) := goodIn_app (goodIn_of _ (by decide +kernel)) ggX1_fromBattery_X1_closedSlot
theorem dX1_fromBattery_0 : decode cX1_fromBattery 0 = .ok (.aload_n 0, 1) := by decide +kernel
theorem dX1_fromBattery_1 : decode cX1_fromBattery 1 = .ok (.getfield 33, 3) := by decide +kernel
theorem dX1_fromBattery_4 : decode cX1_fromBattery 4 = .ok (.getfield 137, 3) := by decide +kernel
theorem dX1_fromBattery_7 : decode cX1_fromBattery 7 = .ok (.aload_n 0, 1) := by decide +kernel
theorem dX1_fromBattery_8 : decode cX1_fromBattery 8 = .ok (.iload_n 1, 1) := by decide +kernel
theorem dX1_fromBattery_9 : decode cX1_fromBattery 9 = .ok (.iload_n 2, 1) := by decide +kernel
theorem dX1_fromBattery_10 : decode cX1_fromBattery 10 = .ok (.invokevirtual 131, 3) := by decide +kernel
theorem dX1_fromBattery_13 : decode cX1_fromBattery 13 = .ok (.daload, 1) := by decide +kernel
theorem dX1_fromBattery_14 : decode cX1_fromBattery 14 = .ok (.dreturn, 1) := by decide +kernel
set_option maxRecDepth 20000 in
theorem ggX1_bought_X1_closedSlot : GoodIn wsX1_bought wsX1_closedSlot := goodIn_ca (goodIn_ca (goodIn_r _ [7, 8, 9, 6, 10, 11, 12, 13, 14, 15, 16, 17, 18, 1, 19, 20, 21, 22, 23, 24, 25, 26, 27, 28, 29, 30, 31, 32, 33, 34, 35, 36, 37, 38, 39, 40, 41, 42, 43, 44] (by decide +kernel) (by decide +kernel)) (goodIn_sub (fun _ h => List.mem_cons_of_mem _ (List.mem_append_left _ (List.mem_append_right _ h))) (by decide +kernel))) (goodIn_sub (fun _ h => List.mem_cons_of_mem _ (List.mem_append_right _ h)) (by decide +kernel))
set_option maxRecDepth 20000 in
theorem gX1_bought_X1_closedSlot : GoodIn wsX1_bought (wsV RX1 131 RX1 yX1_closedSlot wsX1_closedSlot) := goodIn_app (goodIn_of _ (by decide +kernel)) ggX1_bought_X1_closedSlot
theorem dX1_bought_0 : decode cX1_bought 0 = .ok (.aload_n 0, 1) := by decide +kernel
theorem dX1_bought_1 : decode cX1_bought 1 = .ok (.getfield 33, 3) := by decide +kernel
theorem dX1_bought_4 : decode cX1_bought 4 = .ok (.getfield 140, 3) := by decide +kernel
theorem dX1_bought_7 : decode cX1_bought 7 = .ok (.aload_n 0, 1) := by decide +kernel
theorem dX1_bought_8 : decode cX1_bought 8 = .ok (.iload_n 1, 1) := by decide +kernel
theorem dX1_bought_9 : decode cX1_bought 9 = .ok (.iload_n 2, 1) := by decide +kernel
theorem dX1_bought_10 : decode cX1_bought 10 = .ok (.invokevirtual 131, 3) := by decide +kernel
theorem dX1_bought_13 : decode cX1_bought 13 = .ok (.daload, 1) := by decide +kernel
theorem dX1_bought_14 : decode cX1_bought 14 = .ok (.dreturn, 1) := by decide +kernel
set_option maxRecDepth 20000 in
theorem ggX1_sold_X1_requireQuarter : GoodIn wsX1_sold wsX1_requireQuarter := goodIn_ca (goodIn_r _ [7, 8, 9, 1, 10, 11, 12, 13, 14, 15, 16, 17, 18, 19, 20, 21, 22, 23, 24, 25, 26, 27, 28, 29, 30, 31] (by decide +kernel) (by decide +kernel)) (goodIn_sub (fun _ h => List.mem_cons_of_mem _ (List.mem_append_right _ h)) (by decide +kernel))
set_option maxRecDepth 20000 in
theorem gX1_sold_X1_requireQuarter : GoodIn wsX1_sold (wsV RX1 113 RX1 yX1_requireQuarter wsX1_requireQuarter) := goodIn_app (goodIn_of _ (by decide +kernel)) ggX1_sold_X1_requireQuarter
theorem dX1_sold_0 : decode cX1_sold 0 = .ok (.aload_n 0, 1) := by decide +kernel
theorem dX1_sold_1 : decode cX1_sold 1 = .ok (.iload_n 1, 1) := by decide +kernel
theorem dX1_sold_2 : decode cX1_sold 2 = .ok (.invokevirtual 113, 3) := by decide +kernel
theorem dX1_sold_5 : decode cX1_sold 5 = .ok (.aload_n 0, 1) := by decide +kernel
theorem dX1_sold_6 : decode cX1_sold 6 = .ok (.getfield 33, 3) := by decide +kernel
theorem dX1_sold_9 : decode cX1_sold 9 = .ok (.getfield 143, 3) := by decide +kernel
theorem dX1_sold_12 : decode cX1_sold 12 = .ok (.iload_n 1, 1) := by decide +kernel
theorem dX1_sold_13 : decode cX1_sold 13 = .ok (.daload, 1) := by decide +kernel
theorem dX1_sold_14 : decode cX1_sold 14 = .ok (.dreturn, 1) := by decide +kernel
theorem dX1_battery_0 : decode cX1_battery 0 = .ok (.aload_n 0, 1) := by decide +kernel
theorem dX1_battery_1 : decode cX1_battery 1 = .ok (.getfield 43, 3) := by decide +kernel
theorem dX1_battery_4 : decode cX1_battery 4 = .ok (.dreturn, 1) := by decide +kernel
theorem dX1_turn_0 : decode cX1_turn 0 = .ok (.aload_n 0, 1) := by decide +kernel
theorem dX1_turn_1 : decode cX1_turn 1 = .ok (.getfield 46, 3) := by decide +kernel
theorem dX1_turn_4 : decode cX1_turn 4 = .ok (.ireturn, 1) := by decide +kernel
set_option maxRecDepth 20000 in
theorem ggX1_sheds_X1_requireOwner : GoodIn wsX1_sheds wsX1_requireOwner := goodIn_ca (goodIn_r _ [5, 6, 7] (by decide +kernel) (by decide +kernel)) (goodIn_sub (fun _ h => List.mem_cons_of_mem _ (List.mem_append_right _ h)) (by decide +kernel))
set_option maxRecDepth 20000 in
theorem gX1_sheds_X1_requireOwner : GoodIn wsX1_sheds (va_wsS RX1 56 yX1_requireOwner wsX1_requireOwner) := goodIn_app (goodIn_of _ (by decide +kernel)) ggX1_sheds_X1_requireOwner
theorem dX1_sheds_0 : decode cX1_sheds 0 = .ok (.iload_n 1, 1) := by decide +kernel
theorem dX1_sheds_1 : decode cX1_sheds 1 = .ok (.invokestatic 56, 3) := by decide +kernel
theorem dX1_sheds_4 : decode cX1_sheds 4 = .ok (.aload_n 0, 1) := by decide +kernel
theorem dX1_sheds_5 : decode cX1_sheds 5 = .ok (.getfield 17, 3) := by decide +kernel
theorem dX1_sheds_8 : decode cX1_sheds 8 = .ok (.iload_n 1, 1) := by decide +kernel
theorem dX1_sheds_9 : decode cX1_sheds 9 = .ok (.iaload, 1) := by decide +kernel
theorem dX1_sheds_10 : decode cX1_sheds 10 = .ok (.ireturn, 1) := by decide +kernel
set_option maxRecDepth 20000 in
theorem ggX1_bill_X1_requireOwner : GoodIn wsX1_bill wsX1_requireOwner := goodIn_ca (goodIn_r _ [5, 6, 7] (by decide +kernel) (by decide +kernel)) (goodIn_sub (fun _ h => List.mem_cons_of_mem _ (List.mem_append_right _ h)) (by decide +kernel))
set_option maxRecDepth 20000 in
theorem gX1_bill_X1_requireOwner : GoodIn wsX1_bill (va_wsS RX1 56 yX1_requireOwner wsX1_requireOwner) := goodIn_app (goodIn_of _ (by decide +kernel)) ggX1_bill_X1_requireOwner
theorem dX1_bill_0 : decode cX1_bill 0 = .ok (.iload_n 1, 1) := by decide +kernel
theorem dX1_bill_1 : decode cX1_bill 1 = .ok (.invokestatic 56, 3) := by decide +kernel
theorem dX1_bill_4 : decode cX1_bill 4 = .ok (.aload_n 0, 1) := by decide +kernel
theorem dX1_bill_5 : decode cX1_bill 5 = .ok (.getfield 20, 3) := by decide +kernel
theorem dX1_bill_8 : decode cX1_bill 8 = .ok (.iload_n 1, 1) := by decide +kernel
theorem dX1_bill_9 : decode cX1_bill 9 = .ok (.daload, 1) := by decide +kernel
theorem dX1_bill_10 : decode cX1_bill 10 = .ok (.dreturn, 1) := by decide +kernel
theorem dX1_requireWithin_0 : decode cX1_requireWithin 0 = .ok (.iload_n 0, 1) := by decide +kernel
theorem dX1_requireWithin_1 : decode cX1_requireWithin 1 = .ok (.iload_n 1, 1) := by decide +kernel
theorem dX1_requireWithin_2 : decode cX1_requireWithin 2 = .ok (.if_icmp .lt 8, 3) := by decide +kernel
theorem dX1_requireWithin_5 : decode cX1_requireWithin 5 = .ok (.iload_n 0, 1) := by decide +kernel
theorem dX1_requireWithin_6 : decode cX1_requireWithin 6 = .ok (.iload_n 2, 1) := by decide +kernel
theorem dX1_requireWithin_7 : decode cX1_requireWithin 7 = .ok (.if_icmp .le 13, 3) := by decide +kernel
theorem dX1_requireWithin_10 : decode cX1_requireWithin 10 = .ok (.new 146, 3) := by decide +kernel
theorem dX1_requireWithin_13 : decode cX1_requireWithin 13 = .ok (.dup, 1) := by decide +kernel
theorem dX1_requireWithin_14 : decode cX1_requireWithin 14 = .ok (.ldc 148, 2) := by decide +kernel
theorem dX1_requireWithin_16 : decode cX1_requireWithin 16 = .ok (.invokespecial 150, 3) := by decide +kernel
theorem dX1_requireWithin_19 : decode cX1_requireWithin 19 = .ok (.athrow, 1) := by decide +kernel
theorem dX1_requireWithin_20 : decode cX1_requireWithin 20 = .ok (.return_, 1) := by decide +kernel
theorem dX1_requireOwner_0 : decode cX1_requireOwner 0 = .ok (.iload_n 0, 1) := by decide +kernel
theorem dX1_requireOwner_1 : decode cX1_requireOwner 1 = .ok (.ifCond .lt 8, 3) := by decide +kernel
theorem dX1_requireOwner_4 : decode cX1_requireOwner 4 = .ok (.iload_n 0, 1) := by decide +kernel
theorem dX1_requireOwner_5 : decode cX1_requireOwner 5 = .ok (.iconst 5, 1) := by decide +kernel
theorem dX1_requireOwner_6 : decode cX1_requireOwner 6 = .ok (.if_icmp .lt 13, 3) := by decide +kernel
theorem dX1_requireOwner_9 : decode cX1_requireOwner 9 = .ok (.new 146, 3) := by decide +kernel
theorem dX1_requireOwner_12 : decode cX1_requireOwner 12 = .ok (.dup, 1) := by decide +kernel
theorem dX1_requireOwner_13 : decode cX1_requireOwner 13 = .ok (.ldc 151, 2) := by decide +kernel
theorem dX1_requireOwner_15 : decode cX1_requireOwner 15 = .ok (.invokespecial 150, 3) := by decide +kernel
theorem dX1_requireOwner_18 : decode cX1_requireOwner 18 = .ok (.athrow, 1) := by decide +kernel
theorem dX1_requireOwner_19 : decode cX1_requireOwner 19 = .ok (.return_, 1) := by decide +kernel
theorem dX1_requireQuarter_0 : decode cX1_requireQuarter 0 = .ok (.iload_n 1, 1) := by decide +kernel
theorem dX1_requireQuarter_1 : decode cX1_requireQuarter 1 = .ok (.ifCond .lt 14, 3) := by decide +kernel
theorem dX1_requireQuarter_4 : decode cX1_requireQuarter 4 = .ok (.iload_n 1, 1) := by decide +kernel
theorem dX1_requireQuarter_5 : decode cX1_requireQuarter 5 = .ok (.aload_n 0, 1) := by decide +kernel
theorem dX1_requireQuarter_6 : decode cX1_requireQuarter 6 = .ok (.getfield 33, 3) := by decide +kernel
theorem dX1_requireQuarter_9 : decode cX1_requireQuarter 9 = .ok (.getfield 77, 3) := by decide +kernel
theorem dX1_requireQuarter_12 : decode cX1_requireQuarter 12 = .ok (.if_icmp .lt 13, 3) := by decide +kernel
theorem dX1_requireQuarter_15 : decode cX1_requireQuarter 15 = .ok (.new 153, 3) := by decide +kernel
theorem dX1_requireQuarter_18 : decode cX1_requireQuarter 18 = .ok (.dup, 1) := by decide +kernel
theorem dX1_requireQuarter_19 : decode cX1_requireQuarter 19 = .ok (.ldc 155, 2) := by decide +kernel
theorem dX1_requireQuarter_21 : decode cX1_requireQuarter 21 = .ok (.invokespecial 157, 3) := by decide +kernel
theorem dX1_requireQuarter_24 : decode cX1_requireQuarter 24 = .ok (.athrow, 1) := by decide +kernel
theorem dX1_requireQuarter_25 : decode cX1_requireQuarter 25 = .ok (.return_, 1) := by decide +kernel
set_option maxRecDepth 20000 in
theorem ggX1_closedSlot_X1_requireOwner : GoodIn wsX1_closedSlot wsX1_requireOwner := goodIn_ca (goodIn_r _ [4, 5, 6] (by decide +kernel) (by decide +kernel)) (goodIn_sub (fun _ h => List.mem_cons_of_mem _ (List.mem_append_left _ (List.mem_append_right _ h))) (by decide +kernel))
set_option maxRecDepth 20000 in
theorem gX1_closedSlot_X1_requireOwner : GoodIn wsX1_closedSlot (va_wsS RX1 56 yX1_requireOwner wsX1_requireOwner) := goodIn_app (goodIn_of _ (by decide +kernel)) ggX1_closedSlot_X1_requireOwner
set_option maxRecDepth 20000 in
theorem ggX1_closedSlot_X1_requireQuarter : GoodIn wsX1_closedSlot wsX1_requireQuarter := goodIn_ca (goodIn_r _ [10, 11, 12, 13, 14, 19, 20, 21, 22, 23, 24, 25, 26, 27, 28, 29, 30, 31, 32, 33, 34, 35, 36, 37, 38, 39] (by decide +kernel) (by decide +kernel)) (goodIn_sub (fun _ h => List.mem_cons_of_mem _ (List.mem_append_right _ h)) (by decide +kernel))
set_option maxRecDepth 20000 in
theorem gX1_closedSlot_X1_requireQuarter : GoodIn wsX1_closedSlot (wsV RX1 113 RX1 yX1_requireQuarter wsX1_requireQuarter) := goodIn_app (goodIn_of _ (by decide +kernel)) ggX1_closedSlot_X1_requireQuarter
set_option maxRecDepth 20000 in
theorem ggX1_closedSlot_X0_slot : GoodIn wsX1_closedSlot wsX0_slot := goodIn_r _ [18] (by decide +kernel) (by decide +kernel)
set_option maxRecDepth 20000 in
theorem gX1_closedSlot_X0_slot : GoodIn wsX1_closedSlot (va_wsS RX1 116 yX0_slot wsX0_slot) := goodIn_app (goodIn_of _ (by decide +kernel)) ggX1_closedSlot_X0_slot
theorem dX1_closedSlot_0 : decode cX1_closedSlot 0 = .ok (.iload_n 1, 1) := by decide +kernel
theorem dX1_closedSlot_1 : decode cX1_closedSlot 1 = .ok (.invokestatic 56, 3) := by decide +kernel
theorem dX1_closedSlot_4 : decode cX1_closedSlot 4 = .ok (.aload_n 0, 1) := by decide +kernel
theorem dX1_closedSlot_5 : decode cX1_closedSlot 5 = .ok (.iload_n 2, 1) := by decide +kernel
theorem dX1_closedSlot_6 : decode cX1_closedSlot 6 = .ok (.invokevirtual 113, 3) := by decide +kernel
theorem dX1_closedSlot_9 : decode cX1_closedSlot 9 = .ok (.iload_n 1, 1) := by decide +kernel
theorem dX1_closedSlot_10 : decode cX1_closedSlot 10 = .ok (.iload_n 2, 1) := by decide +kernel
theorem dX1_closedSlot_11 : decode cX1_closedSlot 11 = .ok (.invokestatic 116, 3) := by decide +kernel
theorem dX1_closedSlot_14 : decode cX1_closedSlot 14 = .ok (.ireturn, 1) := by decide +kernel
set_option maxRecDepth 20000 in
theorem ggX1_writeUses_X0_slot : GoodIn wsX1_writeUses wsX0_slot := goodIn_r _ [10] (by decide +kernel) (by decide +kernel)
set_option maxRecDepth 20000 in
theorem gX1_writeUses_X0_slot : GoodIn wsX1_writeUses (va_wsS RX1 116 yX0_slot wsX0_slot) := goodIn_app (goodIn_of _ (by decide +kernel)) ggX1_writeUses_X0_slot
set_option maxRecDepth 20000 in
theorem ggX1_writeUses_X0_guess : GoodIn wsX1_writeUses wsX0_guess := goodIn_r _ [14, 15, 16, 17, 18, 19, 8, 9, 10, 32, 33, 34, 35, 36, 37, 38, 39, 40] (by decide +kernel) (by decide +kernel)
set_option maxRecDepth 20000 in
theorem gX1_writeUses_X0_guess : GoodIn wsX1_writeUses (wsV RX1 158 RX0 yX0_guess wsX0_guess) := goodIn_app (goodIn_of _ (by decide +kernel)) ggX1_writeUses_X0_guess
theorem dX1_writeUses_0 : decode cX1_writeUses 0 = .ok (.iconst 0, 1) := by decide +kernel
theorem dX1_writeUses_1 : decode cX1_writeUses 1 = .ok (.istore_n 2, 1) := by decide +kernel
theorem dX1_writeUses_2 : decode cX1_writeUses 2 = .ok (.iload_n 2, 1) := by decide +kernel
theorem dX1_writeUses_3 : decode cX1_writeUses 3 = .ok (.iconst 5, 1) := by decide +kernel
theorem dX1_writeUses_4 : decode cX1_writeUses 4 = .ok (.if_icmp .ge 85, 3) := by decide +kernel
theorem dX1_writeUses_7 : decode cX1_writeUses 7 = .ok (.iload_n 2, 1) := by decide +kernel
theorem dX1_writeUses_8 : decode cX1_writeUses 8 = .ok (.iload_n 1, 1) := by decide +kernel
theorem dX1_writeUses_9 : decode cX1_writeUses 9 = .ok (.invokestatic 116, 3) := by decide +kernel
theorem dX1_writeUses_12 : decode cX1_writeUses 12 = .ok (.istore_n 3, 1) := by decide +kernel
theorem dX1_writeUses_13 : decode cX1_writeUses 13 = .ok (.aload_n 0, 1) := by decide +kernel
theorem dX1_writeUses_14 : decode cX1_writeUses 14 = .ok (.getfield 24, 3) := by decide +kernel
theorem dX1_writeUses_17 : decode cX1_writeUses 17 = .ok (.iload_n 2, 1) := by decide +kernel
theorem dX1_writeUses_18 : decode cX1_writeUses 18 = .ok (.baload, 1) := by decide +kernel
theorem dX1_writeUses_19 : decode cX1_writeUses 19 = .ok (.ifCond .eq 13, 3) := by decide +kernel
theorem dX1_writeUses_22 : decode cX1_writeUses 22 = .ok (.aload_n 0, 1) := by decide +kernel
theorem dX1_writeUses_23 : decode cX1_writeUses 23 = .ok (.getfield 27, 3) := by decide +kernel
theorem dX1_writeUses_26 : decode cX1_writeUses 26 = .ok (.iload_n 2, 1) := by decide +kernel
theorem dX1_writeUses_27 : decode cX1_writeUses 27 = .ok (.iaload, 1) := by decide +kernel
theorem dX1_writeUses_28 : decode cX1_writeUses 28 = .ok (.i2d, 1) := by decide +kernel
theorem dX1_writeUses_29 : decode cX1_writeUses 29 = .ok (.goto 11, 3) := by decide +kernel
theorem dX1_writeUses_32 : decode cX1_writeUses 32 = .ok (.aload_n 0, 1) := by decide +kernel
theorem dX1_writeUses_33 : decode cX1_writeUses 33 = .ok (.getfield 33, 3) := by decide +kernel
theorem dX1_writeUses_36 : decode cX1_writeUses 36 = .ok (.iload_n 2, 1) := by decide +kernel
theorem dX1_writeUses_37 : decode cX1_writeUses 37 = .ok (.invokevirtual 158, 3) := by decide +kernel
theorem dX1_writeUses_40 : decode cX1_writeUses 40 = .ok (.dstore 4, 2) := by decide +kernel
theorem dX1_writeUses_42 : decode cX1_writeUses 42 = .ok (.aload_n 0, 1) := by decide +kernel
theorem dX1_writeUses_43 : decode cX1_writeUses 43 = .ok (.getfield 33, 3) := by decide +kernel
theorem dX1_writeUses_46 : decode cX1_writeUses 46 = .ok (.getfield 120, 3) := by decide +kernel
theorem dX1_writeUses_49 : decode cX1_writeUses 49 = .ok (.iload_n 3, 1) := by decide +kernel
theorem dX1_writeUses_50 : decode cX1_writeUses 50 = .ok (.aload_n 0, 1) := by decide +kernel
theorem dX1_writeUses_51 : decode cX1_writeUses 51 = .ok (.getfield 24, 3) := by decide +kernel
theorem dX1_writeUses_54 : decode cX1_writeUses 54 = .ok (.iload_n 2, 1) := by decide +kernel
theorem dX1_writeUses_55 : decode cX1_writeUses 55 = .ok (.baload, 1) := by decide +kernel
theorem dX1_writeUses_56 : decode cX1_writeUses 56 = .ok (.bastore, 1) := by decide +kernel
theorem dX1_writeUses_57 : decode cX1_writeUses 57 = .ok (.aload_n 0, 1) := by decide +kernel
theorem dX1_writeUses_58 : decode cX1_writeUses 58 = .ok (.getfield 33, 3) := by decide +kernel
theorem dX1_writeUses_61 : decode cX1_writeUses 61 = .ok (.getfield 125, 3) := by decide +kernel
theorem dX1_writeUses_64 : decode cX1_writeUses 64 = .ok (.iload_n 3, 1) := by decide +kernel
theorem dX1_writeUses_65 : decode cX1_writeUses 65 = .ok (.dload 4, 2) := by decide +kernel
theorem dX1_writeUses_67 : decode cX1_writeUses 67 = .ok (.dastore, 1) := by decide +kernel
theorem dX1_writeUses_68 : decode cX1_writeUses 68 = .ok (.aload_n 0, 1) := by decide +kernel
theorem dX1_writeUses_69 : decode cX1_writeUses 69 = .ok (.getfield 50, 3) := by decide +kernel
theorem dX1_writeUses_72 : decode cX1_writeUses 72 = .ok (.iload_n 2, 1) := by decide +kernel
theorem dX1_writeUses_73 : decode cX1_writeUses 73 = .ok (.dload 4, 2) := by decide +kernel
theorem dX1_writeUses_75 : decode cX1_writeUses 75 = .ok (.dastore, 1) := by decide +kernel
theorem dX1_writeUses_76 : decode cX1_writeUses 76 = .ok (.aload_n 0, 1) := by decide +kernel
theorem dX1_writeUses_77 : decode cX1_writeUses 77 = .ok (.getfield 24, 3) := by decide +kernel
theorem dX1_writeUses_80 : decode cX1_writeUses 80 = .ok (.iload_n 2, 1) := by decide +kernel
theorem dX1_writeUses_81 : decode cX1_writeUses 81 = .ok (.iconst 0, 1) := by decide +kernel
theorem dX1_writeUses_82 : decode cX1_writeUses 82 = .ok (.bastore, 1) := by decide +kernel
theorem dX1_writeUses_83 : decode cX1_writeUses 83 = .ok (.iinc 2 1, 3) := by decide +kernel
theorem dX1_writeUses_86 : decode cX1_writeUses 86 = .ok (.goto (-84), 3) := by decide +kernel
theorem dX1_writeUses_89 : decode cX1_writeUses 89 = .ok (.return_, 1) := by decide +kernel
set_option maxRecDepth 20000 in
theorem ggX1_shedUntilCarried_X1_nextToShed : GoodIn wsX1_shedUntilCarried wsX1_nextToShed := goodIn_r _ [7, 8, 1, 2, 18, 19, 20, 21, 22, 23, 24, 25, 26, 27, 28, 29] (by decide +kernel) (by decide +kernel)
set_option maxRecDepth 20000 in
theorem gX1_shedUntilCarried_X1_nextToShed : GoodIn wsX1_shedUntilCarried (wsV RX1 162 RX1 yX1_nextToShed wsX1_nextToShed) := goodIn_app (goodIn_of _ (by decide +kernel)) ggX1_shedUntilCarried_X1_nextToShed
set_option maxRecDepth 20000 in
theorem ggX1_shedUntilCarried_X1_isOverLine : GoodIn wsX1_shedUntilCarried wsX1_isOverLine := goodIn_r _ [12, 13, 14, 15, 16, 6, 17, 1, 18, 19, 20, 21, 22, 23, 24, 25, 26, 27, 28, 29] (by decide +kernel) (by decide +kernel)
set_option maxRecDepth 20000 in
theorem gX1_shedUntilCarried_X1_isOverLine : GoodIn wsX1_shedUntilCarried (wsV RX1 90 RX1 yX1_isOverLine wsX1_isOverLine) := goodIn_app (goodIn_of _ (by decide +kernel)) ggX1_shedUntilCarried_X1_isOverLine
theorem dX1_shedUntilCarried_0 : decode cX1_shedUntilCarried 0 = .ok (.aload_n 0, 1) := by decide +kernel
theorem dX1_shedUntilCarried_1 : decode cX1_shedUntilCarried 1 = .ok (.invokevirtual 162, 3) := by decide +kernel
theorem dX1_shedUntilCarried_4 : decode cX1_shedUntilCarried 4 = .ok (.istore_n 1, 1) := by decide +kernel
theorem dX1_shedUntilCarried_5 : decode cX1_shedUntilCarried 5 = .ok (.iconst 0, 1) := by decide +kernel
theorem dX1_shedUntilCarried_6 : decode cX1_shedUntilCarried 6 = .ok (.istore_n 2, 1) := by decide +kernel
theorem dX1_shedUntilCarried_7 : decode cX1_shedUntilCarried 7 = .ok (.iload_n 2, 1) := by decide +kernel
theorem dX1_shedUntilCarried_8 : decode cX1_shedUntilCarried 8 = .ok (.iconst 5, 1) := by decide +kernel
theorem dX1_shedUntilCarried_9 : decode cX1_shedUntilCarried 9 = .ok (.if_icmp .ge 43, 3) := by decide +kernel
theorem dX1_shedUntilCarried_12 : decode cX1_shedUntilCarried 12 = .ok (.iload_n 1, 1) := by decide +kernel
theorem dX1_shedUntilCarried_13 : decode cX1_shedUntilCarried 13 = .ok (.iconst (-1), 1) := by decide +kernel
theorem dX1_shedUntilCarried_14 : decode cX1_shedUntilCarried 14 = .ok (.if_icmp .eq 38, 3) := by decide +kernel
theorem dX1_shedUntilCarried_17 : decode cX1_shedUntilCarried 17 = .ok (.aload_n 0, 1) := by decide +kernel
theorem dX1_shedUntilCarried_18 : decode cX1_shedUntilCarried 18 = .ok (.invokevirtual 90, 3) := by decide +kernel
theorem dX1_shedUntilCarried_21 : decode cX1_shedUntilCarried 21 = .ok (.ifCond .eq 31, 3) := by decide +kernel
theorem dX1_shedUntilCarried_24 : decode cX1_shedUntilCarried 24 = .ok (.aload_n 0, 1) := by decide +kernel
theorem dX1_shedUntilCarried_25 : decode cX1_shedUntilCarried 25 = .ok (.getfield 50, 3) := by decide +kernel
theorem dX1_shedUntilCarried_28 : decode cX1_shedUntilCarried 28 = .ok (.iload_n 1, 1) := by decide +kernel
theorem dX1_shedUntilCarried_29 : decode cX1_shedUntilCarried 29 = .ok (.dconst 0, 1) := by decide +kernel
theorem dX1_shedUntilCarried_30 : decode cX1_shedUntilCarried 30 = .ok (.dastore, 1) := by decide +kernel
theorem dX1_shedUntilCarried_31 : decode cX1_shedUntilCarried 31 = .ok (.aload_n 0, 1) := by decide +kernel
theorem dX1_shedUntilCarried_32 : decode cX1_shedUntilCarried 32 = .ok (.getfield 17, 3) := by decide +kernel
theorem dX1_shedUntilCarried_35 : decode cX1_shedUntilCarried 35 = .ok (.iload_n 1, 1) := by decide +kernel
theorem dX1_shedUntilCarried_36 : decode cX1_shedUntilCarried 36 = .ok (.dup2, 1) := by decide +kernel
theorem dX1_shedUntilCarried_37 : decode cX1_shedUntilCarried 37 = .ok (.iaload, 1) := by decide +kernel
theorem dX1_shedUntilCarried_38 : decode cX1_shedUntilCarried 38 = .ok (.iconst 1, 1) := by decide +kernel
theorem dX1_shedUntilCarried_39 : decode cX1_shedUntilCarried 39 = .ok (.iadd, 1) := by decide +kernel
theorem dX1_shedUntilCarried_40 : decode cX1_shedUntilCarried 40 = .ok (.iastore, 1) := by decide +kernel
theorem dX1_shedUntilCarried_41 : decode cX1_shedUntilCarried 41 = .ok (.aload_n 0, 1) := by decide +kernel
theorem dX1_shedUntilCarried_42 : decode cX1_shedUntilCarried 42 = .ok (.invokevirtual 162, 3) := by decide +kernel
theorem dX1_shedUntilCarried_45 : decode cX1_shedUntilCarried 45 = .ok (.istore_n 1, 1) := by decide +kernel
theorem dX1_shedUntilCarried_46 : decode cX1_shedUntilCarried 46 = .ok (.iinc 2 1, 3) := by decide +kernel
theorem dX1_shedUntilCarried_49 : decode cX1_shedUntilCarried 49 = .ok (.goto (-42), 3) := by decide +kernel
theorem dX1_shedUntilCarried_52 : decode cX1_shedUntilCarried 52 = .ok (.return_, 1) := by decide +kernel
set_option maxRecDepth 20000 in
theorem ggX1_isOverLine_X1_sumOfNeeds : GoodIn wsX1_isOverLine wsX1_sumOfNeeds := goodIn_r _ [6, 7, 8, 9, 10, 11, 12, 13, 14, 15, 16, 17, 18, 19] (by decide +kernel) (by decide +kernel)
set_option maxRecDepth 20000 in
theorem gX1_isOverLine_X1_sumOfNeeds : GoodIn wsX1_isOverLine (wsV RX1 165 RX1 yX1_sumOfNeeds wsX1_sumOfNeeds) := goodIn_app (goodIn_of _ (by decide +kernel)) ggX1_isOverLine_X1_sumOfNeeds
theorem dX1_isOverLine_0 : decode cX1_isOverLine 0 = .ok (.aload_n 0, 1) := by decide +kernel
theorem dX1_isOverLine_1 : decode cX1_isOverLine 1 = .ok (.invokevirtual 165, 3) := by decide +kernel
theorem dX1_isOverLine_4 : decode cX1_isOverLine 4 = .ok (.ldc2_w 169, 3) := by decide +kernel
theorem dX1_isOverLine_7 : decode cX1_isOverLine 7 = .ok (.dcmp .l, 1) := by decide +kernel
theorem dX1_isOverLine_8 : decode cX1_isOverLine 8 = .ok (.ifCond .le 7, 3) := by decide +kernel
theorem dX1_isOverLine_11 : decode cX1_isOverLine 11 = .ok (.iconst 1, 1) := by decide +kernel
theorem dX1_isOverLine_12 : decode cX1_isOverLine 12 = .ok (.goto 4, 3) := by decide +kernel
theorem dX1_isOverLine_15 : decode cX1_isOverLine 15 = .ok (.iconst 0, 1) := by decide +kernel
theorem dX1_isOverLine_16 : decode cX1_isOverLine 16 = .ok (.ireturn, 1) := by decide +kernel
theorem dX1_nextToShed_0 : decode cX1_nextToShed 0 = .ok (.iconst (-1), 1) := by decide +kernel
theorem dX1_nextToShed_1 : decode cX1_nextToShed 1 = .ok (.istore_n 1, 1) := by decide +kernel
theorem dX1_nextToShed_2 : decode cX1_nextToShed 2 = .ok (.iconst 0, 1) := by decide +kernel
theorem dX1_nextToShed_3 : decode cX1_nextToShed 3 = .ok (.istore_n 2, 1) := by decide +kernel
theorem dX1_nextToShed_4 : decode cX1_nextToShed 4 = .ok (.iload_n 2, 1) := by decide +kernel
theorem dX1_nextToShed_5 : decode cX1_nextToShed 5 = .ok (.iconst 5, 1) := by decide +kernel
theorem dX1_nextToShed_6 : decode cX1_nextToShed 6 = .ok (.if_icmp .ge 61, 3) := by decide +kernel
theorem dX1_nextToShed_9 : decode cX1_nextToShed 9 = .ok (.aload_n 0, 1) := by decide +kernel
theorem dX1_nextToShed_10 : decode cX1_nextToShed 10 = .ok (.getfield 13, 3) := by decide +kernel
theorem dX1_nextToShed_13 : decode cX1_nextToShed 13 = .ok (.iload_n 2, 1) := by decide +kernel
theorem dX1_nextToShed_14 : decode cX1_nextToShed 14 = .ok (.baload, 1) := by decide +kernel
theorem dX1_nextToShed_15 : decode cX1_nextToShed 15 = .ok (.ifCond .eq 18, 3) := by decide +kernel
theorem dX1_nextToShed_18 : decode cX1_nextToShed 18 = .ok (.aload_n 0, 1) := by decide +kernel
theorem dX1_nextToShed_19 : decode cX1_nextToShed 19 = .ok (.getfield 50, 3) := by decide +kernel
theorem dX1_nextToShed_22 : decode cX1_nextToShed 22 = .ok (.iload_n 2, 1) := by decide +kernel
theorem dX1_nextToShed_23 : decode cX1_nextToShed 23 = .ok (.daload, 1) := by decide +kernel
theorem dX1_nextToShed_24 : decode cX1_nextToShed 24 = .ok (.dconst 0, 1) := by decide +kernel
theorem dX1_nextToShed_25 : decode cX1_nextToShed 25 = .ok (.dcmp .l, 1) := by decide +kernel
theorem dX1_nextToShed_26 : decode cX1_nextToShed 26 = .ok (.ifCond .le 7, 3) := by decide +kernel
theorem dX1_nextToShed_29 : decode cX1_nextToShed 29 = .ok (.iconst 1, 1) := by decide +kernel
theorem dX1_nextToShed_30 : decode cX1_nextToShed 30 = .ok (.goto 4, 3) := by decide +kernel
theorem dX1_nextToShed_33 : decode cX1_nextToShed 33 = .ok (.iconst 0, 1) := by decide +kernel
theorem dX1_nextToShed_34 : decode cX1_nextToShed 34 = .ok (.istore_n 3, 1) := by decide +kernel
theorem dX1_nextToShed_35 : decode cX1_nextToShed 35 = .ok (.iload_n 3, 1) := by decide +kernel
theorem dX1_nextToShed_36 : decode cX1_nextToShed 36 = .ok (.ifCond .eq 25, 3) := by decide +kernel
theorem dX1_nextToShed_39 : decode cX1_nextToShed 39 = .ok (.iload_n 1, 1) := by decide +kernel
theorem dX1_nextToShed_40 : decode cX1_nextToShed 40 = .ok (.iconst (-1), 1) := by decide +kernel
theorem dX1_nextToShed_41 : decode cX1_nextToShed 41 = .ok (.if_icmp .eq 18, 3) := by decide +kernel
theorem dX1_nextToShed_44 : decode cX1_nextToShed 44 = .ok (.aload_n 0, 1) := by decide +kernel
theorem dX1_nextToShed_45 : decode cX1_nextToShed 45 = .ok (.getfield 17, 3) := by decide +kernel
theorem dX1_nextToShed_48 : decode cX1_nextToShed 48 = .ok (.iload_n 2, 1) := by decide +kernel
theorem dX1_nextToShed_49 : decode cX1_nextToShed 49 = .ok (.iaload, 1) := by decide +kernel
theorem dX1_nextToShed_50 : decode cX1_nextToShed 50 = .ok (.aload_n 0, 1) := by decide +kernel
theorem dX1_nextToShed_51 : decode cX1_nextToShed 51 = .ok (.getfield 17, 3) := by decide +kernel
theorem dX1_nextToShed_54 : decode cX1_nextToShed 54 = .ok (.iload_n 1, 1) := by decide +kernel
theorem dX1_nextToShed_55 : decode cX1_nextToShed 55 = .ok (.iaload, 1) := by decide +kernel
theorem dX1_nextToShed_56 : decode cX1_nextToShed 56 = .ok (.if_icmp .ge 5, 3) := by decide +kernel
theorem dX1_nextToShed_59 : decode cX1_nextToShed 59 = .ok (.iload_n 2, 1) := by decide +kernel
theorem dX1_nextToShed_60 : decode cX1_nextToShed 60 = .ok (.istore_n 1, 1) := by decide +kernel
theorem dX1_nextToShed_61 : decode cX1_nextToShed 61 = .ok (.iinc 2 1, 3) := by decide +kernel
theorem dX1_nextToShed_64 : decode cX1_nextToShed 64 = .ok (.goto (-60), 3) := by decide +kernel
theorem dX1_nextToShed_67 : decode cX1_nextToShed 67 = .ok (.iload_n 1, 1) := by decide +kernel
theorem dX1_nextToShed_68 : decode cX1_nextToShed 68 = .ok (.ireturn, 1) := by decide +kernel
set_option maxRecDepth 20000 in
theorem ggX1_writeUsed_X0_slot : GoodIn wsX1_writeUsed wsX0_slot := goodIn_r _ [7] (by decide +kernel) (by decide +kernel)
set_option maxRecDepth 20000 in
theorem gX1_writeUsed_X0_slot : GoodIn wsX1_writeUsed (va_wsS RX1 116 yX0_slot wsX0_slot) := goodIn_app (goodIn_of _ (by decide +kernel)) ggX1_writeUsed_X0_slot
theorem dX1_writeUsed_0 : decode cX1_writeUsed 0 = .ok (.iconst 0, 1) := by decide +kernel
theorem dX1_writeUsed_1 : decode cX1_writeUsed 1 = .ok (.istore_n 2, 1) := by decide +kernel
theorem dX1_writeUsed_2 : decode cX1_writeUsed 2 = .ok (.iload_n 2, 1) := by decide +kernel
theorem dX1_writeUsed_3 : decode cX1_writeUsed 3 = .ok (.iconst 5, 1) := by decide +kernel
theorem dX1_writeUsed_4 : decode cX1_writeUsed 4 = .ok (.if_icmp .ge 28, 3) := by decide +kernel
theorem dX1_writeUsed_7 : decode cX1_writeUsed 7 = .ok (.aload_n 0, 1) := by decide +kernel
theorem dX1_writeUsed_8 : decode cX1_writeUsed 8 = .ok (.getfield 33, 3) := by decide +kernel
theorem dX1_writeUsed_11 : decode cX1_writeUsed 11 = .ok (.getfield 128, 3) := by decide +kernel
theorem dX1_writeUsed_14 : decode cX1_writeUsed 14 = .ok (.iload_n 2, 1) := by decide +kernel
theorem dX1_writeUsed_15 : decode cX1_writeUsed 15 = .ok (.iload_n 1, 1) := by decide +kernel
theorem dX1_writeUsed_16 : decode cX1_writeUsed 16 = .ok (.invokestatic 116, 3) := by decide +kernel
theorem dX1_writeUsed_19 : decode cX1_writeUsed 19 = .ok (.aload_n 0, 1) := by decide +kernel
theorem dX1_writeUsed_20 : decode cX1_writeUsed 20 = .ok (.getfield 50, 3) := by decide +kernel
theorem dX1_writeUsed_23 : decode cX1_writeUsed 23 = .ok (.iload_n 2, 1) := by decide +kernel
theorem dX1_writeUsed_24 : decode cX1_writeUsed 24 = .ok (.daload, 1) := by decide +kernel
theorem dX1_writeUsed_25 : decode cX1_writeUsed 25 = .ok (.dastore, 1) := by decide +kernel
theorem dX1_writeUsed_26 : decode cX1_writeUsed 26 = .ok (.iinc 2 1, 3) := by decide +kernel
theorem dX1_writeUsed_29 : decode cX1_writeUsed 29 = .ok (.goto (-27), 3) := by decide +kernel
theorem dX1_writeUsed_32 : decode cX1_writeUsed 32 = .ok (.return_, 1) := by decide +kernel
set_option maxRecDepth 20000 in
theorem ggX1_giveByShare_X1_lesser : GoodIn wsX1_giveByShare wsX1_lesser := goodIn_r _ [8] (by decide +kernel) (by decide +kernel)
set_option maxRecDepth 20000 in
theorem gX1_giveByShare_X1_lesser : GoodIn wsX1_giveByShare (va_wsS RX1 171 yX1_lesser wsX1_lesser) := goodIn_app (goodIn_of _ (by decide +kernel)) ggX1_giveByShare_X1_lesser
set_option maxRecDepth 20000 in
theorem ggX1_giveByShare_X1_giveSun : GoodIn wsX1_giveByShare wsX1_giveSun := goodIn_r _ [12, 13, 14, 3, 15, 16, 17, 18, 19, 20, 21, 22, 23, 24, 25, 26, 27, 28, 29, 30, 31, 32, 33, 34, 35, 36, 37, 38, 39] (by decide +kernel) (by decide +kernel)
set_option maxRecDepth 20000 in
theorem gX1_giveByShare_X1_giveSun : GoodIn wsX1_giveByShare (wsV RX1 175 RX1 yX1_giveSun wsX1_giveSun) := goodIn_app (goodIn_of _ (by decide +kernel)) ggX1_giveByShare_X1_giveSun
theorem dX1_giveByShare_0 : decode cX1_giveByShare 0 = .ok (.iconst 0, 1) := by decide +kernel
theorem dX1_giveByShare_1 : decode cX1_giveByShare 1 = .ok (.istore_n 3, 1) := by decide +kernel
theorem dX1_giveByShare_2 : decode cX1_giveByShare 2 = .ok (.iload_n 3, 1) := by decide +kernel
theorem dX1_giveByShare_3 : decode cX1_giveByShare 3 = .ok (.iconst 5, 1) := by decide +kernel
theorem dX1_giveByShare_4 : decode cX1_giveByShare 4 = .ok (.if_icmp .ge 53, 3) := by decide +kernel
theorem dX1_giveByShare_7 : decode cX1_giveByShare 7 = .ok (.iload_n 2, 1) := by decide +kernel
theorem dX1_giveByShare_8 : decode cX1_giveByShare 8 = .ok (.i2d, 1) := by decide +kernel
theorem dX1_giveByShare_9 : decode cX1_giveByShare 9 = .ok (.aload_n 0, 1) := by decide +kernel
theorem dX1_giveByShare_10 : decode cX1_giveByShare 10 = .ok (.getfield 9, 3) := by decide +kernel
theorem dX1_giveByShare_13 : decode cX1_giveByShare 13 = .ok (.iload_n 3, 1) := by decide +kernel
theorem dX1_giveByShare_14 : decode cX1_giveByShare 14 = .ok (.iaload, 1) := by decide +kernel
theorem dX1_giveByShare_15 : decode cX1_giveByShare 15 = .ok (.i2d, 1) := by decide +kernel
theorem dX1_giveByShare_16 : decode cX1_giveByShare 16 = .ok (.dmul, 1) := by decide +kernel
theorem dX1_giveByShare_17 : decode cX1_giveByShare 17 = .ok (.ldc2_w 75, 3) := by decide +kernel
theorem dX1_giveByShare_20 : decode cX1_giveByShare 20 = .ok (.ddiv, 1) := by decide +kernel
theorem dX1_giveByShare_21 : decode cX1_giveByShare 21 = .ok (.aload_n 0, 1) := by decide +kernel
theorem dX1_giveByShare_22 : decode cX1_giveByShare 22 = .ok (.getfield 50, 3) := by decide +kernel
theorem dX1_giveByShare_25 : decode cX1_giveByShare 25 = .ok (.iload_n 3, 1) := by decide +kernel
theorem dX1_giveByShare_26 : decode cX1_giveByShare 26 = .ok (.daload, 1) := by decide +kernel
theorem dX1_giveByShare_27 : decode cX1_giveByShare 27 = .ok (.invokestatic 171, 3) := by decide +kernel
theorem dX1_giveByShare_30 : decode cX1_giveByShare 30 = .ok (.dstore 4, 2) := by decide +kernel
theorem dX1_giveByShare_32 : decode cX1_giveByShare 32 = .ok (.aload_n 0, 1) := by decide +kernel
theorem dX1_giveByShare_33 : decode cX1_giveByShare 33 = .ok (.iload_n 3, 1) := by decide +kernel
theorem dX1_giveByShare_34 : decode cX1_giveByShare 34 = .ok (.iload_n 1, 1) := by decide +kernel
theorem dX1_giveByShare_35 : decode cX1_giveByShare 35 = .ok (.dload 4, 2) := by decide +kernel
theorem dX1_giveByShare_37 : decode cX1_giveByShare 37 = .ok (.invokevirtual 175, 3) := by decide +kernel
theorem dX1_giveByShare_40 : decode cX1_giveByShare 40 = .ok (.aload_n 0, 1) := by decide +kernel
theorem dX1_giveByShare_41 : decode cX1_giveByShare 41 = .ok (.dup, 1) := by decide +kernel
theorem dX1_giveByShare_42 : decode cX1_giveByShare 42 = .ok (.getfield 53, 3) := by decide +kernel
theorem dX1_giveByShare_45 : decode cX1_giveByShare 45 = .ok (.dload 4, 2) := by decide +kernel
theorem dX1_giveByShare_47 : decode cX1_giveByShare 47 = .ok (.dsub, 1) := by decide +kernel
theorem dX1_giveByShare_48 : decode cX1_giveByShare 48 = .ok (.putfield 53, 3) := by decide +kernel
theorem dX1_giveByShare_51 : decode cX1_giveByShare 51 = .ok (.iinc 3 1, 3) := by decide +kernel
theorem dX1_giveByShare_54 : decode cX1_giveByShare 54 = .ok (.goto (-52), 3) := by decide +kernel
theorem dX1_giveByShare_57 : decode cX1_giveByShare 57 = .ok (.return_, 1) := by decide +kernel
set_option maxRecDepth 20000 in
theorem ggX1_giveByNeed_X1_sumOfNeeds : GoodIn wsX1_giveByNeed wsX1_sumOfNeeds := goodIn_r _ [7, 2, 18, 19, 20, 21, 22, 23, 24, 25, 26, 27, 28, 29] (by decide +kernel) (by decide +kernel)
set_option maxRecDepth 20000 in
theorem gX1_giveByNeed_X1_sumOfNeeds : GoodIn wsX1_giveByNeed (wsV RX1 165 RX1 yX1_sumOfNeeds wsX1_sumOfNeeds) := goodIn_app (goodIn_of _ (by decide +kernel)) ggX1_giveByNeed_X1_sumOfNeeds
set_option maxRecDepth 20000 in
theorem ggX1_giveByNeed_X1_giveSun : GoodIn wsX1_giveByNeed wsX1_giveSun := goodIn_r _ [11, 12, 13, 2, 14, 15, 16, 17, 18, 19, 20, 21, 22, 23, 24, 25, 26, 27, 28, 29, 30, 31, 32, 33, 34, 35, 36, 37, 38] (by decide +kernel) (by decide +kernel)
set_option maxRecDepth 20000 in
theorem gX1_giveByNeed_X1_giveSun : GoodIn wsX1_giveByNeed (wsV RX1 175 RX1 yX1_giveSun wsX1_giveSun) := goodIn_app (goodIn_of _ (by decide +kernel)) ggX1_giveByNeed_X1_giveSun
theorem dX1_giveByNeed_0 : decode cX1_giveByNeed 0 = .ok (.aload_n 0, 1) := by decide +kernel
theorem dX1_giveByNeed_1 : decode cX1_giveByNeed 1 = .ok (.invokevirtual 165, 3) := by decide +kernel
theorem dX1_giveByNeed_4 : decode cX1_giveByNeed 4 = .ok (.dstore_n 2, 1) := by decide +kernel
theorem dX1_giveByNeed_5 : decode cX1_giveByNeed 5 = .ok (.dload_n 2, 1) := by decide +kernel
theorem dX1_giveByNeed_6 : decode cX1_giveByNeed 6 = .ok (.dconst 0, 1) := by decide +kernel
theorem dX1_giveByNeed_7 : decode cX1_giveByNeed 7 = .ok (.dcmp .l, 1) := by decide +kernel
theorem dX1_giveByNeed_8 : decode cX1_giveByNeed 8 = .ok (.ifCond .ne 4, 3) := by decide +kernel
theorem dX1_giveByNeed_11 : decode cX1_giveByNeed 11 = .ok (.return_, 1) := by decide +kernel
theorem dX1_giveByNeed_12 : decode cX1_giveByNeed 12 = .ok (.dload_n 2, 1) := by decide +kernel
theorem dX1_giveByNeed_13 : decode cX1_giveByNeed 13 = .ok (.aload_n 0, 1) := by decide +kernel
theorem dX1_giveByNeed_14 : decode cX1_giveByNeed 14 = .ok (.getfield 53, 3) := by decide +kernel
theorem dX1_giveByNeed_17 : decode cX1_giveByNeed 17 = .ok (.dcmp .g, 1) := by decide +kernel
theorem dX1_giveByNeed_18 : decode cX1_giveByNeed 18 = .ok (.ifCond .gt 43, 3) := by decide +kernel
theorem dX1_giveByNeed_21 : decode cX1_giveByNeed 21 = .ok (.aload_n 0, 1) := by decide +kernel
theorem dX1_giveByNeed_22 : decode cX1_giveByNeed 22 = .ok (.dup, 1) := by decide +kernel
theorem dX1_giveByNeed_23 : decode cX1_giveByNeed 23 = .ok (.getfield 53, 3) := by decide +kernel
theorem dX1_giveByNeed_26 : decode cX1_giveByNeed 26 = .ok (.dload_n 2, 1) := by decide +kernel
theorem dX1_giveByNeed_27 : decode cX1_giveByNeed 27 = .ok (.dsub, 1) := by decide +kernel
theorem dX1_giveByNeed_28 : decode cX1_giveByNeed 28 = .ok (.putfield 53, 3) := by decide +kernel
theorem dX1_giveByNeed_31 : decode cX1_giveByNeed 31 = .ok (.iconst 0, 1) := by decide +kernel
theorem dX1_giveByNeed_32 : decode cX1_giveByNeed 32 = .ok (.istore 4, 2) := by decide +kernel
theorem dX1_giveByNeed_34 : decode cX1_giveByNeed 34 = .ok (.iload 4, 2) := by decide +kernel
theorem dX1_giveByNeed_36 : decode cX1_giveByNeed 36 = .ok (.iconst 5, 1) := by decide +kernel
theorem dX1_giveByNeed_37 : decode cX1_giveByNeed 37 = .ok (.if_icmp .ge 23, 3) := by decide +kernel
theorem dX1_giveByNeed_40 : decode cX1_giveByNeed 40 = .ok (.aload_n 0, 1) := by decide +kernel
theorem dX1_giveByNeed_41 : decode cX1_giveByNeed 41 = .ok (.iload 4, 2) := by decide +kernel
theorem dX1_giveByNeed_43 : decode cX1_giveByNeed 43 = .ok (.iload_n 1, 1) := by decide +kernel
theorem dX1_giveByNeed_44 : decode cX1_giveByNeed 44 = .ok (.aload_n 0, 1) := by decide +kernel
theorem dX1_giveByNeed_45 : decode cX1_giveByNeed 45 = .ok (.getfield 50, 3) := by decide +kernel
theorem dX1_giveByNeed_48 : decode cX1_giveByNeed 48 = .ok (.iload 4, 2) := by decide +kernel
theorem dX1_giveByNeed_50 : decode cX1_giveByNeed 50 = .ok (.daload, 1) := by decide +kernel
theorem dX1_giveByNeed_51 : decode cX1_giveByNeed 51 = .ok (.invokevirtual 175, 3) := by decide +kernel
theorem dX1_giveByNeed_54 : decode cX1_giveByNeed 54 = .ok (.iinc 4 1, 3) := by decide +kernel
theorem dX1_giveByNeed_57 : decode cX1_giveByNeed 57 = .ok (.goto (-23), 3) := by decide +kernel
theorem dX1_giveByNeed_60 : decode cX1_giveByNeed 60 = .ok (.return_, 1) := by decide +kernel
theorem dX1_giveByNeed_61 : decode cX1_giveByNeed 61 = .ok (.iconst 0, 1) := by decide +kernel
theorem dX1_giveByNeed_62 : decode cX1_giveByNeed 62 = .ok (.istore 4, 2) := by decide +kernel
theorem dX1_giveByNeed_64 : decode cX1_giveByNeed 64 = .ok (.iload 4, 2) := by decide +kernel
theorem dX1_giveByNeed_66 : decode cX1_giveByNeed 66 = .ok (.iconst 5, 1) := by decide +kernel
theorem dX1_giveByNeed_67 : decode cX1_giveByNeed 67 = .ok (.if_icmp .ge 30, 3) := by decide +kernel
theorem dX1_giveByNeed_70 : decode cX1_giveByNeed 70 = .ok (.aload_n 0, 1) := by decide +kernel
theorem dX1_giveByNeed_71 : decode cX1_giveByNeed 71 = .ok (.iload 4, 2) := by decide +kernel
theorem dX1_giveByNeed_73 : decode cX1_giveByNeed 73 = .ok (.iload_n 1, 1) := by decide +kernel
theorem dX1_giveByNeed_74 : decode cX1_giveByNeed 74 = .ok (.aload_n 0, 1) := by decide +kernel
theorem dX1_giveByNeed_75 : decode cX1_giveByNeed 75 = .ok (.getfield 53, 3) := by decide +kernel
theorem dX1_giveByNeed_78 : decode cX1_giveByNeed 78 = .ok (.aload_n 0, 1) := by decide +kernel
theorem dX1_giveByNeed_79 : decode cX1_giveByNeed 79 = .ok (.getfield 50, 3) := by decide +kernel
theorem dX1_giveByNeed_82 : decode cX1_giveByNeed 82 = .ok (.iload 4, 2) := by decide +kernel
theorem dX1_giveByNeed_84 : decode cX1_giveByNeed 84 = .ok (.daload, 1) := by decide +kernel
theorem dX1_giveByNeed_85 : decode cX1_giveByNeed 85 = .ok (.dmul, 1) := by decide +kernel
theorem dX1_giveByNeed_86 : decode cX1_giveByNeed 86 = .ok (.dload_n 2, 1) := by decide +kernel
theorem dX1_giveByNeed_87 : decode cX1_giveByNeed 87 = .ok (.ddiv, 1) := by decide +kernel
theorem dX1_giveByNeed_88 : decode cX1_giveByNeed 88 = .ok (.invokevirtual 175, 3) := by decide +kernel
theorem dX1_giveByNeed_91 : decode cX1_giveByNeed 91 = .ok (.iinc 4 1, 3) := by decide +kernel
theorem dX1_giveByNeed_94 : decode cX1_giveByNeed 94 = .ok (.goto (-30), 3) := by decide +kernel
theorem dX1_giveByNeed_97 : decode cX1_giveByNeed 97 = .ok (.aload_n 0, 1) := by decide +kernel
theorem dX1_giveByNeed_98 : decode cX1_giveByNeed 98 = .ok (.dconst 0, 1) := by decide +kernel
theorem dX1_giveByNeed_99 : decode cX1_giveByNeed 99 = .ok (.putfield 53, 3) := by decide +kernel
theorem dX1_giveByNeed_102 : decode cX1_giveByNeed 102 = .ok (.return_, 1) := by decide +kernel
set_option maxRecDepth 20000 in
theorem ggX1_giveSun_X0_slot : GoodIn wsX1_giveSun wsX0_slot := goodIn_r _ [7] (by decide +kernel) (by decide +kernel)
set_option maxRecDepth 20000 in
theorem gX1_giveSun_X0_slot : GoodIn wsX1_giveSun (va_wsS RX1 116 yX0_slot wsX0_slot) := goodIn_app (goodIn_of _ (by decide +kernel)) ggX1_giveSun_X0_slot
theorem dX1_giveSun_0 : decode cX1_giveSun 0 = .ok (.aload_n 0, 1) := by decide +kernel
theorem dX1_giveSun_1 : decode cX1_giveSun 1 = .ok (.getfield 33, 3) := by decide +kernel
theorem dX1_giveSun_4 : decode cX1_giveSun 4 = .ok (.getfield 134, 3) := by decide +kernel
theorem dX1_giveSun_7 : decode cX1_giveSun 7 = .ok (.iload_n 1, 1) := by decide +kernel
theorem dX1_giveSun_8 : decode cX1_giveSun 8 = .ok (.iload_n 2, 1) := by decide +kernel
theorem dX1_giveSun_9 : decode cX1_giveSun 9 = .ok (.invokestatic 116, 3) := by decide +kernel
theorem dX1_giveSun_12 : decode cX1_giveSun 12 = .ok (.dup2, 1) := by decide +kernel
theorem dX1_giveSun_13 : decode cX1_giveSun 13 = .ok (.daload, 1) := by decide +kernel
theorem dX1_giveSun_14 : decode cX1_giveSun 14 = .ok (.dload_n 3, 1) := by decide +kernel
theorem dX1_giveSun_15 : decode cX1_giveSun 15 = .ok (.dadd, 1) := by decide +kernel
theorem dX1_giveSun_16 : decode cX1_giveSun 16 = .ok (.dastore, 1) := by decide +kernel
theorem dX1_giveSun_17 : decode cX1_giveSun 17 = .ok (.aload_n 0, 1) := by decide +kernel
theorem dX1_giveSun_18 : decode cX1_giveSun 18 = .ok (.getfield 50, 3) := by decide +kernel
theorem dX1_giveSun_21 : decode cX1_giveSun 21 = .ok (.iload_n 1, 1) := by decide +kernel
theorem dX1_giveSun_22 : decode cX1_giveSun 22 = .ok (.dup2, 1) := by decide +kernel
theorem dX1_giveSun_23 : decode cX1_giveSun 23 = .ok (.daload, 1) := by decide +kernel
theorem dX1_giveSun_24 : decode cX1_giveSun 24 = .ok (.dload_n 3, 1) := by decide +kernel
theorem dX1_giveSun_25 : decode cX1_giveSun 25 = .ok (.dsub, 1) := by decide +kernel
theorem dX1_giveSun_26 : decode cX1_giveSun 26 = .ok (.dastore, 1) := by decide +kernel
theorem dX1_giveSun_27 : decode cX1_giveSun 27 = .ok (.return_, 1) := by decide +kernel
theorem dX1_storeOrSell_0 : decode cX1_storeOrSell 0 = .ok (.ldc2_w 179, 3) := by decide +kernel
theorem dX1_storeOrSell_3 : decode cX1_storeOrSell 3 = .ok (.aload_n 0, 1) := by decide +kernel
theorem dX1_storeOrSell_4 : decode cX1_storeOrSell 4 = .ok (.getfield 43, 3) := by decide +kernel
theorem dX1_storeOrSell_7 : decode cX1_storeOrSell 7 = .ok (.dsub, 1) := by decide +kernel
theorem dX1_storeOrSell_8 : decode cX1_storeOrSell 8 = .ok (.dstore_n 2, 1) := by decide +kernel
theorem dX1_storeOrSell_9 : decode cX1_storeOrSell 9 = .ok (.aload_n 0, 1) := by decide +kernel
theorem dX1_storeOrSell_10 : decode cX1_storeOrSell 10 = .ok (.getfield 53, 3) := by decide +kernel
theorem dX1_storeOrSell_13 : decode cX1_storeOrSell 13 = .ok (.dload_n 2, 1) := by decide +kernel
theorem dX1_storeOrSell_14 : decode cX1_storeOrSell 14 = .ok (.dcmp .g, 1) := by decide +kernel
theorem dX1_storeOrSell_15 : decode cX1_storeOrSell 15 = .ok (.ifCond .ge 29, 3) := by decide +kernel
theorem dX1_storeOrSell_18 : decode cX1_storeOrSell 18 = .ok (.aload_n 0, 1) := by decide +kernel
theorem dX1_storeOrSell_19 : decode cX1_storeOrSell 19 = .ok (.dup, 1) := by decide +kernel
theorem dX1_storeOrSell_20 : decode cX1_storeOrSell 20 = .ok (.getfield 43, 3) := by decide +kernel
theorem dX1_storeOrSell_23 : decode cX1_storeOrSell 23 = .ok (.aload_n 0, 1) := by decide +kernel
theorem dX1_storeOrSell_24 : decode cX1_storeOrSell 24 = .ok (.getfield 53, 3) := by decide +kernel
theorem dX1_storeOrSell_27 : decode cX1_storeOrSell 27 = .ok (.dadd, 1) := by decide +kernel
theorem dX1_storeOrSell_28 : decode cX1_storeOrSell 28 = .ok (.putfield 43, 3) := by decide +kernel
theorem dX1_storeOrSell_31 : decode cX1_storeOrSell 31 = .ok (.aload_n 0, 1) := by decide +kernel
theorem dX1_storeOrSell_32 : decode cX1_storeOrSell 32 = .ok (.getfield 33, 3) := by decide +kernel
theorem dX1_storeOrSell_35 : decode cX1_storeOrSell 35 = .ok (.getfield 143, 3) := by decide +kernel
theorem dX1_storeOrSell_38 : decode cX1_storeOrSell 38 = .ok (.iload_n 1, 1) := by decide +kernel
theorem dX1_storeOrSell_39 : decode cX1_storeOrSell 39 = .ok (.dconst 0, 1) := by decide +kernel
theorem dX1_storeOrSell_40 : decode cX1_storeOrSell 40 = .ok (.dastore, 1) := by decide +kernel
theorem dX1_storeOrSell_41 : decode cX1_storeOrSell 41 = .ok (.goto 25, 3) := by decide +kernel
theorem dX1_storeOrSell_44 : decode cX1_storeOrSell 44 = .ok (.aload_n 0, 1) := by decide +kernel
theorem dX1_storeOrSell_45 : decode cX1_storeOrSell 45 = .ok (.ldc2_w 179, 3) := by decide +kernel
theorem dX1_storeOrSell_48 : decode cX1_storeOrSell 48 = .ok (.putfield 43, 3) := by decide +kernel
theorem dX1_storeOrSell_51 : decode cX1_storeOrSell 51 = .ok (.aload_n 0, 1) := by decide +kernel
theorem dX1_storeOrSell_52 : decode cX1_storeOrSell 52 = .ok (.getfield 33, 3) := by decide +kernel
theorem dX1_storeOrSell_55 : decode cX1_storeOrSell 55 = .ok (.getfield 143, 3) := by decide +kernel
theorem dX1_storeOrSell_58 : decode cX1_storeOrSell 58 = .ok (.iload_n 1, 1) := by decide +kernel
theorem dX1_storeOrSell_59 : decode cX1_storeOrSell 59 = .ok (.aload_n 0, 1) := by decide +kernel
theorem dX1_storeOrSell_60 : decode cX1_storeOrSell 60 = .ok (.getfield 53, 3) := by decide +kernel
theorem dX1_storeOrSell_63 : decode cX1_storeOrSell 63 = .ok (.dload_n 2, 1) := by decide +kernel
theorem dX1_storeOrSell_64 : decode cX1_storeOrSell 64 = .ok (.dsub, 1) := by decide +kernel
theorem dX1_storeOrSell_65 : decode cX1_storeOrSell 65 = .ok (.dastore, 1) := by decide +kernel
theorem dX1_storeOrSell_66 : decode cX1_storeOrSell 66 = .ok (.return_, 1) := by decide +kernel
set_option maxRecDepth 20000 in
theorem ggX1_giveFromBattery_X1_lesser : GoodIn wsX1_giveFromBattery wsX1_lesser := goodIn_r _ [9] (by decide +kernel) (by decide +kernel)
set_option maxRecDepth 20000 in
theorem gX1_giveFromBattery_X1_lesser : GoodIn wsX1_giveFromBattery (va_wsS RX1 171 yX1_lesser wsX1_lesser) := goodIn_app (goodIn_of _ (by decide +kernel)) ggX1_giveFromBattery_X1_lesser
set_option maxRecDepth 20000 in
theorem ggX1_giveFromBattery_X0_slot : GoodIn wsX1_giveFromBattery wsX0_slot := goodIn_r _ [13] (by decide +kernel) (by decide +kernel)
set_option maxRecDepth 20000 in
theorem gX1_giveFromBattery_X0_slot : GoodIn wsX1_giveFromBattery (va_wsS RX1 116 yX0_slot wsX0_slot) := goodIn_app (goodIn_of _ (by decide +kernel)) ggX1_giveFromBattery_X0_slot
set_option maxRecDepth 20000 in
theorem ggX1_giveFromBattery_X1_behind : GoodIn wsX1_giveFromBattery wsX1_behind := goodIn_r _ [16, 17, 18, 19, 20] (by decide +kernel) (by decide +kernel)
set_option maxRecDepth 20000 in
theorem gX1_giveFromBattery_X1_behind : GoodIn wsX1_giveFromBattery (va_wsS RX1 181 yX1_behind wsX1_behind) := goodIn_app (goodIn_of _ (by decide +kernel)) ggX1_giveFromBattery_X1_behind
theorem dX1_giveFromBattery_0 : decode cX1_giveFromBattery 0 = .ok (.iconst (-1), 1) := by decide +kernel
theorem dX1_giveFromBattery_1 : decode cX1_giveFromBattery 1 = .ok (.istore_n 2, 1) := by decide +kernel
theorem dX1_giveFromBattery_2 : decode cX1_giveFromBattery 2 = .ok (.aload_n 0, 1) := by decide +kernel
theorem dX1_giveFromBattery_3 : decode cX1_giveFromBattery 3 = .ok (.getfield 46, 3) := by decide +kernel
theorem dX1_giveFromBattery_6 : decode cX1_giveFromBattery 6 = .ok (.istore_n 3, 1) := by decide +kernel
theorem dX1_giveFromBattery_7 : decode cX1_giveFromBattery 7 = .ok (.iconst 0, 1) := by decide +kernel
theorem dX1_giveFromBattery_8 : decode cX1_giveFromBattery 8 = .ok (.istore 4, 2) := by decide +kernel
theorem dX1_giveFromBattery_10 : decode cX1_giveFromBattery 10 = .ok (.iload 4, 2) := by decide +kernel
theorem dX1_giveFromBattery_12 : decode cX1_giveFromBattery 12 = .ok (.iconst 5, 1) := by decide +kernel
theorem dX1_giveFromBattery_13 : decode cX1_giveFromBattery 13 = .ok (.if_icmp .ge 75, 3) := by decide +kernel
theorem dX1_giveFromBattery_16 : decode cX1_giveFromBattery 16 = .ok (.aload_n 0, 1) := by decide +kernel
theorem dX1_giveFromBattery_17 : decode cX1_giveFromBattery 17 = .ok (.getfield 50, 3) := by decide +kernel
theorem dX1_giveFromBattery_20 : decode cX1_giveFromBattery 20 = .ok (.iload_n 3, 1) := by decide +kernel
theorem dX1_giveFromBattery_21 : decode cX1_giveFromBattery 21 = .ok (.daload, 1) := by decide +kernel
theorem dX1_giveFromBattery_22 : decode cX1_giveFromBattery 22 = .ok (.aload_n 0, 1) := by decide +kernel
theorem dX1_giveFromBattery_23 : decode cX1_giveFromBattery 23 = .ok (.getfield 43, 3) := by decide +kernel
theorem dX1_giveFromBattery_26 : decode cX1_giveFromBattery 26 = .ok (.invokestatic 171, 3) := by decide +kernel
theorem dX1_giveFromBattery_29 : decode cX1_giveFromBattery 29 = .ok (.dstore 5, 2) := by decide +kernel
theorem dX1_giveFromBattery_31 : decode cX1_giveFromBattery 31 = .ok (.aload_n 0, 1) := by decide +kernel
theorem dX1_giveFromBattery_32 : decode cX1_giveFromBattery 32 = .ok (.getfield 33, 3) := by decide +kernel
theorem dX1_giveFromBattery_35 : decode cX1_giveFromBattery 35 = .ok (.getfield 137, 3) := by decide +kernel
theorem dX1_giveFromBattery_38 : decode cX1_giveFromBattery 38 = .ok (.iload_n 3, 1) := by decide +kernel
theorem dX1_giveFromBattery_39 : decode cX1_giveFromBattery 39 = .ok (.iload_n 1, 1) := by decide +kernel
theorem dX1_giveFromBattery_40 : decode cX1_giveFromBattery 40 = .ok (.invokestatic 116, 3) := by decide +kernel
theorem dX1_giveFromBattery_43 : decode cX1_giveFromBattery 43 = .ok (.dload 5, 2) := by decide +kernel
theorem dX1_giveFromBattery_45 : decode cX1_giveFromBattery 45 = .ok (.dastore, 1) := by decide +kernel
theorem dX1_giveFromBattery_46 : decode cX1_giveFromBattery 46 = .ok (.aload_n 0, 1) := by decide +kernel
theorem dX1_giveFromBattery_47 : decode cX1_giveFromBattery 47 = .ok (.getfield 50, 3) := by decide +kernel
theorem dX1_giveFromBattery_50 : decode cX1_giveFromBattery 50 = .ok (.iload_n 3, 1) := by decide +kernel
theorem dX1_giveFromBattery_51 : decode cX1_giveFromBattery 51 = .ok (.dup2, 1) := by decide +kernel
theorem dX1_giveFromBattery_52 : decode cX1_giveFromBattery 52 = .ok (.daload, 1) := by decide +kernel
theorem dX1_giveFromBattery_53 : decode cX1_giveFromBattery 53 = .ok (.dload 5, 2) := by decide +kernel
theorem dX1_giveFromBattery_55 : decode cX1_giveFromBattery 55 = .ok (.dsub, 1) := by decide +kernel
theorem dX1_giveFromBattery_56 : decode cX1_giveFromBattery 56 = .ok (.dastore, 1) := by decide +kernel
theorem dX1_giveFromBattery_57 : decode cX1_giveFromBattery 57 = .ok (.aload_n 0, 1) := by decide +kernel
theorem dX1_giveFromBattery_58 : decode cX1_giveFromBattery 58 = .ok (.dup, 1) := by decide +kernel
theorem dX1_giveFromBattery_59 : decode cX1_giveFromBattery 59 = .ok (.getfield 43, 3) := by decide +kernel
theorem dX1_giveFromBattery_62 : decode cX1_giveFromBattery 62 = .ok (.dload 5, 2) := by decide +kernel
theorem dX1_giveFromBattery_64 : decode cX1_giveFromBattery 64 = .ok (.dsub, 1) := by decide +kernel
theorem dX1_giveFromBattery_65 : decode cX1_giveFromBattery 65 = .ok (.putfield 43, 3) := by decide +kernel
theorem dX1_giveFromBattery_68 : decode cX1_giveFromBattery 68 = .ok (.dload 5, 2) := by decide +kernel
theorem dX1_giveFromBattery_70 : decode cX1_giveFromBattery 70 = .ok (.dconst 0, 1) := by decide +kernel
theorem dX1_giveFromBattery_71 : decode cX1_giveFromBattery 71 = .ok (.dcmp .l, 1) := by decide +kernel
theorem dX1_giveFromBattery_72 : decode cX1_giveFromBattery 72 = .ok (.ifCond .le 5, 3) := by decide +kernel
theorem dX1_giveFromBattery_75 : decode cX1_giveFromBattery 75 = .ok (.iload_n 3, 1) := by decide +kernel
theorem dX1_giveFromBattery_76 : decode cX1_giveFromBattery 76 = .ok (.istore_n 2, 1) := by decide +kernel
theorem dX1_giveFromBattery_77 : decode cX1_giveFromBattery 77 = .ok (.iload_n 3, 1) := by decide +kernel
theorem dX1_giveFromBattery_78 : decode cX1_giveFromBattery 78 = .ok (.invokestatic 181, 3) := by decide +kernel
theorem dX1_giveFromBattery_81 : decode cX1_giveFromBattery 81 = .ok (.istore_n 3, 1) := by decide +kernel
theorem dX1_giveFromBattery_82 : decode cX1_giveFromBattery 82 = .ok (.iinc 4 1, 3) := by decide +kernel
theorem dX1_giveFromBattery_85 : decode cX1_giveFromBattery 85 = .ok (.goto (-75), 3) := by decide +kernel
theorem dX1_giveFromBattery_88 : decode cX1_giveFromBattery 88 = .ok (.iload_n 2, 1) := by decide +kernel
theorem dX1_giveFromBattery_89 : decode cX1_giveFromBattery 89 = .ok (.iconst (-1), 1) := by decide +kernel
theorem dX1_giveFromBattery_90 : decode cX1_giveFromBattery 90 = .ok (.if_icmp .eq 11, 3) := by decide +kernel
theorem dX1_giveFromBattery_93 : decode cX1_giveFromBattery 93 = .ok (.aload_n 0, 1) := by decide +kernel
theorem dX1_giveFromBattery_94 : decode cX1_giveFromBattery 94 = .ok (.iload_n 2, 1) := by decide +kernel
theorem dX1_giveFromBattery_95 : decode cX1_giveFromBattery 95 = .ok (.invokestatic 181, 3) := by decide +kernel
theorem dX1_giveFromBattery_98 : decode cX1_giveFromBattery 98 = .ok (.putfield 46, 3) := by decide +kernel
theorem dX1_giveFromBattery_101 : decode cX1_giveFromBattery 101 = .ok (.return_, 1) := by decide +kernel
set_option maxRecDepth 20000 in
theorem ggX1_writeBills_X0_slot : GoodIn wsX1_writeBills wsX0_slot := goodIn_r _ [11] (by decide +kernel) (by decide +kernel)
set_option maxRecDepth 20000 in
theorem gX1_writeBills_X0_slot : GoodIn wsX1_writeBills (va_wsS RX1 116 yX0_slot wsX0_slot) := goodIn_app (goodIn_of _ (by decide +kernel)) ggX1_writeBills_X0_slot
theorem dX1_writeBills_0 : decode cX1_writeBills 0 = .ok (.aload_n 0, 1) := by decide +kernel
theorem dX1_writeBills_1 : decode cX1_writeBills 1 = .ok (.getfield 33, 3) := by decide +kernel
theorem dX1_writeBills_4 : decode cX1_writeBills 4 = .ok (.getfield 143, 3) := by decide +kernel
theorem dX1_writeBills_7 : decode cX1_writeBills 7 = .ok (.iload_n 1, 1) := by decide +kernel
theorem dX1_writeBills_8 : decode cX1_writeBills 8 = .ok (.daload, 1) := by decide +kernel
theorem dX1_writeBills_9 : decode cX1_writeBills 9 = .ok (.aload_n 0, 1) := by decide +kernel
theorem dX1_writeBills_10 : decode cX1_writeBills 10 = .ok (.getfield 39, 3) := by decide +kernel
theorem dX1_writeBills_13 : decode cX1_writeBills 13 = .ok (.dmul, 1) := by decide +kernel
theorem dX1_writeBills_14 : decode cX1_writeBills 14 = .ok (.ldc2_w 185, 3) := by decide +kernel
theorem dX1_writeBills_17 : decode cX1_writeBills 17 = .ok (.ddiv, 1) := by decide +kernel
theorem dX1_writeBills_18 : decode cX1_writeBills 18 = .ok (.dstore_n 2, 1) := by decide +kernel
theorem dX1_writeBills_19 : decode cX1_writeBills 19 = .ok (.iconst 0, 1) := by decide +kernel
theorem dX1_writeBills_20 : decode cX1_writeBills 20 = .ok (.istore 4, 2) := by decide +kernel
theorem dX1_writeBills_22 : decode cX1_writeBills 22 = .ok (.iload 4, 2) := by decide +kernel
theorem dX1_writeBills_24 : decode cX1_writeBills 24 = .ok (.iconst 5, 1) := by decide +kernel
theorem dX1_writeBills_25 : decode cX1_writeBills 25 = .ok (.if_icmp .ge 63, 3) := by decide +kernel
theorem dX1_writeBills_28 : decode cX1_writeBills 28 = .ok (.aload_n 0, 1) := by decide +kernel
theorem dX1_writeBills_29 : decode cX1_writeBills 29 = .ok (.getfield 33, 3) := by decide +kernel
theorem dX1_writeBills_32 : decode cX1_writeBills 32 = .ok (.getfield 140, 3) := by decide +kernel
theorem dX1_writeBills_35 : decode cX1_writeBills 35 = .ok (.iload 4, 2) := by decide +kernel
theorem dX1_writeBills_37 : decode cX1_writeBills 37 = .ok (.iload_n 1, 1) := by decide +kernel
theorem dX1_writeBills_38 : decode cX1_writeBills 38 = .ok (.invokestatic 116, 3) := by decide +kernel
theorem dX1_writeBills_41 : decode cX1_writeBills 41 = .ok (.aload_n 0, 1) := by decide +kernel
theorem dX1_writeBills_42 : decode cX1_writeBills 42 = .ok (.getfield 50, 3) := by decide +kernel
theorem dX1_writeBills_45 : decode cX1_writeBills 45 = .ok (.iload 4, 2) := by decide +kernel
theorem dX1_writeBills_47 : decode cX1_writeBills 47 = .ok (.daload, 1) := by decide +kernel
theorem dX1_writeBills_48 : decode cX1_writeBills 48 = .ok (.dastore, 1) := by decide +kernel
theorem dX1_writeBills_49 : decode cX1_writeBills 49 = .ok (.aload_n 0, 1) := by decide +kernel
theorem dX1_writeBills_50 : decode cX1_writeBills 50 = .ok (.getfield 20, 3) := by decide +kernel
theorem dX1_writeBills_53 : decode cX1_writeBills 53 = .ok (.iload 4, 2) := by decide +kernel
theorem dX1_writeBills_55 : decode cX1_writeBills 55 = .ok (.dup2, 1) := by decide +kernel
theorem dX1_writeBills_56 : decode cX1_writeBills 56 = .ok (.daload, 1) := by decide +kernel
theorem dX1_writeBills_57 : decode cX1_writeBills 57 = .ok (.aload_n 0, 1) := by decide +kernel
theorem dX1_writeBills_58 : decode cX1_writeBills 58 = .ok (.getfield 50, 3) := by decide +kernel
theorem dX1_writeBills_61 : decode cX1_writeBills 61 = .ok (.iload 4, 2) := by decide +kernel
theorem dX1_writeBills_63 : decode cX1_writeBills 63 = .ok (.daload, 1) := by decide +kernel
theorem dX1_writeBills_64 : decode cX1_writeBills 64 = .ok (.aload_n 0, 1) := by decide +kernel
theorem dX1_writeBills_65 : decode cX1_writeBills 65 = .ok (.getfield 39, 3) := by decide +kernel
theorem dX1_writeBills_68 : decode cX1_writeBills 68 = .ok (.dmul, 1) := by decide +kernel
theorem dX1_writeBills_69 : decode cX1_writeBills 69 = .ok (.dadd, 1) := by decide +kernel
theorem dX1_writeBills_70 : decode cX1_writeBills 70 = .ok (.dastore, 1) := by decide +kernel
theorem dX1_writeBills_71 : decode cX1_writeBills 71 = .ok (.aload_n 0, 1) := by decide +kernel
theorem dX1_writeBills_72 : decode cX1_writeBills 72 = .ok (.getfield 20, 3) := by decide +kernel
theorem dX1_writeBills_75 : decode cX1_writeBills 75 = .ok (.iload 4, 2) := by decide +kernel
theorem dX1_writeBills_77 : decode cX1_writeBills 77 = .ok (.dup2, 1) := by decide +kernel
theorem dX1_writeBills_78 : decode cX1_writeBills 78 = .ok (.daload, 1) := by decide +kernel
theorem dX1_writeBills_79 : decode cX1_writeBills 79 = .ok (.dload_n 2, 1) := by decide +kernel
theorem dX1_writeBills_80 : decode cX1_writeBills 80 = .ok (.dsub, 1) := by decide +kernel
theorem dX1_writeBills_81 : decode cX1_writeBills 81 = .ok (.dastore, 1) := by decide +kernel
theorem dX1_writeBills_82 : decode cX1_writeBills 82 = .ok (.iinc 4 1, 3) := by decide +kernel
theorem dX1_writeBills_85 : decode cX1_writeBills 85 = .ok (.goto (-63), 3) := by decide +kernel
theorem dX1_writeBills_88 : decode cX1_writeBills 88 = .ok (.return_, 1) := by decide +kernel
theorem dX1_sumOfShares_0 : decode cX1_sumOfShares 0 = .ok (.iconst 0, 1) := by decide +kernel
theorem dX1_sumOfShares_1 : decode cX1_sumOfShares 1 = .ok (.istore_n 1, 1) := by decide +kernel
theorem dX1_sumOfShares_2 : decode cX1_sumOfShares 2 = .ok (.iconst 0, 1) := by decide +kernel
theorem dX1_sumOfShares_3 : decode cX1_sumOfShares 3 = .ok (.istore_n 2, 1) := by decide +kernel
theorem dX1_sumOfShares_4 : decode cX1_sumOfShares 4 = .ok (.iload_n 2, 1) := by decide +kernel
theorem dX1_sumOfShares_5 : decode cX1_sumOfShares 5 = .ok (.iconst 5, 1) := by decide +kernel
theorem dX1_sumOfShares_6 : decode cX1_sumOfShares 6 = .ok (.if_icmp .ge 18, 3) := by decide +kernel
theorem dX1_sumOfShares_9 : decode cX1_sumOfShares 9 = .ok (.iload_n 1, 1) := by decide +kernel
theorem dX1_sumOfShares_10 : decode cX1_sumOfShares 10 = .ok (.aload_n 0, 1) := by decide +kernel
theorem dX1_sumOfShares_11 : decode cX1_sumOfShares 11 = .ok (.getfield 9, 3) := by decide +kernel
theorem dX1_sumOfShares_14 : decode cX1_sumOfShares 14 = .ok (.iload_n 2, 1) := by decide +kernel
theorem dX1_sumOfShares_15 : decode cX1_sumOfShares 15 = .ok (.iaload, 1) := by decide +kernel
theorem dX1_sumOfShares_16 : decode cX1_sumOfShares 16 = .ok (.iadd, 1) := by decide +kernel
theorem dX1_sumOfShares_17 : decode cX1_sumOfShares 17 = .ok (.istore_n 1, 1) := by decide +kernel
theorem dX1_sumOfShares_18 : decode cX1_sumOfShares 18 = .ok (.iinc 2 1, 3) := by decide +kernel
theorem dX1_sumOfShares_21 : decode cX1_sumOfShares 21 = .ok (.goto (-17), 3) := by decide +kernel
theorem dX1_sumOfShares_24 : decode cX1_sumOfShares 24 = .ok (.iload_n 1, 1) := by decide +kernel
theorem dX1_sumOfShares_25 : decode cX1_sumOfShares 25 = .ok (.ireturn, 1) := by decide +kernel
theorem dX1_sumOfNeeds_0 : decode cX1_sumOfNeeds 0 = .ok (.dconst 0, 1) := by decide +kernel
theorem dX1_sumOfNeeds_1 : decode cX1_sumOfNeeds 1 = .ok (.dstore_n 1, 1) := by decide +kernel
theorem dX1_sumOfNeeds_2 : decode cX1_sumOfNeeds 2 = .ok (.iconst 0, 1) := by decide +kernel
theorem dX1_sumOfNeeds_3 : decode cX1_sumOfNeeds 3 = .ok (.istore_n 3, 1) := by decide +kernel
theorem dX1_sumOfNeeds_4 : decode cX1_sumOfNeeds 4 = .ok (.iload_n 3, 1) := by decide +kernel
theorem dX1_sumOfNeeds_5 : decode cX1_sumOfNeeds 5 = .ok (.iconst 5, 1) := by decide +kernel
theorem dX1_sumOfNeeds_6 : decode cX1_sumOfNeeds 6 = .ok (.if_icmp .ge 18, 3) := by decide +kernel
theorem dX1_sumOfNeeds_9 : decode cX1_sumOfNeeds 9 = .ok (.dload_n 1, 1) := by decide +kernel
theorem dX1_sumOfNeeds_10 : decode cX1_sumOfNeeds 10 = .ok (.aload_n 0, 1) := by decide +kernel
theorem dX1_sumOfNeeds_11 : decode cX1_sumOfNeeds 11 = .ok (.getfield 50, 3) := by decide +kernel
theorem dX1_sumOfNeeds_14 : decode cX1_sumOfNeeds 14 = .ok (.iload_n 3, 1) := by decide +kernel
theorem dX1_sumOfNeeds_15 : decode cX1_sumOfNeeds 15 = .ok (.daload, 1) := by decide +kernel
theorem dX1_sumOfNeeds_16 : decode cX1_sumOfNeeds 16 = .ok (.dadd, 1) := by decide +kernel
theorem dX1_sumOfNeeds_17 : decode cX1_sumOfNeeds 17 = .ok (.dstore_n 1, 1) := by decide +kernel
theorem dX1_sumOfNeeds_18 : decode cX1_sumOfNeeds 18 = .ok (.iinc 3 1, 3) := by decide +kernel
theorem dX1_sumOfNeeds_21 : decode cX1_sumOfNeeds 21 = .ok (.goto (-17), 3) := by decide +kernel
theorem dX1_sumOfNeeds_24 : decode cX1_sumOfNeeds 24 = .ok (.dload_n 1, 1) := by decide +kernel
theorem dX1_sumOfNeeds_25 : decode cX1_sumOfNeeds 25 = .ok (.dreturn, 1) := by decide +kernel
set_option maxRecDepth 20000 in
theorem ggX1_behind_J9_floorMod_7cf53 : GoodIn wsX1_behind wsJ9_floorMod_7cf53 := goodIn_r _ [4] (by decide +kernel) (by decide +kernel)
set_option maxRecDepth 20000 in
theorem gX1_behind_J9_floorMod_7cf53 : GoodIn wsX1_behind (va_wsS RX1 187 yJ9_floorMod_7cf53 wsJ9_floorMod_7cf53) := goodIn_app (goodIn_of _ (by decide +kernel)) ggX1_behind_J9_floorMod_7cf53
theorem dX1_behind_0 : decode cX1_behind 0 = .ok (.iload_n 0, 1) := by decide +kernel
theorem dX1_behind_1 : decode cX1_behind 1 = .ok (.iconst 1, 1) := by decide +kernel
theorem dX1_behind_2 : decode cX1_behind 2 = .ok (.iadd, 1) := by decide +kernel
theorem dX1_behind_3 : decode cX1_behind 3 = .ok (.iconst 5, 1) := by decide +kernel
theorem dX1_behind_4 : decode cX1_behind 4 = .ok (.invokestatic 187, 3) := by decide +kernel
theorem dX1_behind_7 : decode cX1_behind 7 = .ok (.ireturn, 1) := by decide +kernel
theorem dX1_lesser_0 : decode cX1_lesser 0 = .ok (.dload_n 0, 1) := by decide +kernel
theorem dX1_lesser_1 : decode cX1_lesser 1 = .ok (.dload_n 2, 1) := by decide +kernel
theorem dX1_lesser_2 : decode cX1_lesser 2 = .ok (.dcmp .g, 1) := by decide +kernel
theorem dX1_lesser_3 : decode cX1_lesser 3 = .ok (.ifCond .ge 7, 3) := by decide +kernel
theorem dX1_lesser_6 : decode cX1_lesser 6 = .ok (.dload_n 0, 1) := by decide +kernel
theorem dX1_lesser_7 : decode cX1_lesser 7 = .ok (.goto 4, 3) := by decide +kernel
theorem dX1_lesser_10 : decode cX1_lesser 10 = .ok (.dload_n 2, 1) := by decide +kernel
theorem dX1_lesser_11 : decode cX1_lesser 11 = .ok (.dreturn, 1) := by decide +kernel
theorem dX2_init_0 : decode cX2_init 0 = .ok (.aload_n 0, 1) := by decide +kernel
theorem dX2_init_1 : decode cX2_init 1 = .ok (.invokespecial 1, 3) := by decide +kernel
theorem dX2_init_4 : decode cX2_init 4 = .ok (.aload_n 0, 1) := by decide +kernel
theorem dX2_init_5 : decode cX2_init 5 = .ok (.iconst 5, 1) := by decide +kernel
theorem dX2_init_6 : decode cX2_init 6 = .ok (.newarray .int, 2) := by decide +kernel
theorem dX2_init_8 : decode cX2_init 8 = .ok (.putfield 7, 3) := by decide +kernel
theorem dX2_init_11 : decode cX2_init 11 = .ok (.aload_n 0, 1) := by decide +kernel
theorem dX2_init_12 : decode cX2_init 12 = .ok (.iconst 5, 1) := by decide +kernel
theorem dX2_init_13 : decode cX2_init 13 = .ok (.newarray .boolean, 2) := by decide +kernel
theorem dX2_init_15 : decode cX2_init 15 = .ok (.putfield 13, 3) := by decide +kernel
theorem dX2_init_18 : decode cX2_init 18 = .ok (.aload_n 0, 1) := by decide +kernel
theorem dX2_init_19 : decode cX2_init 19 = .ok (.iconst 5, 1) := by decide +kernel
theorem dX2_init_20 : decode cX2_init 20 = .ok (.newarray .int, 2) := by decide +kernel
theorem dX2_init_22 : decode cX2_init 22 = .ok (.putfield 17, 3) := by decide +kernel
theorem dX2_init_25 : decode cX2_init 25 = .ok (.aload_n 0, 1) := by decide +kernel
theorem dX2_init_26 : decode cX2_init 26 = .ok (.iconst 5, 1) := by decide +kernel
theorem dX2_init_27 : decode cX2_init 27 = .ok (.newarray .double, 2) := by decide +kernel
theorem dX2_init_29 : decode cX2_init 29 = .ok (.putfield 20, 3) := by decide +kernel
theorem dX2_init_32 : decode cX2_init 32 = .ok (.aload_n 0, 1) := by decide +kernel
theorem dX2_init_33 : decode cX2_init 33 = .ok (.ldc2_w 24, 3) := by decide +kernel
theorem dX2_init_36 : decode cX2_init 36 = .ok (.putfield 26, 3) := by decide +kernel
theorem dX2_init_39 : decode cX2_init 39 = .ok (.aload_n 0, 1) := by decide +kernel
theorem dX2_init_40 : decode cX2_init 40 = .ok (.iconst 5, 1) := by decide +kernel
theorem dX2_init_41 : decode cX2_init 41 = .ok (.newarray .boolean, 2) := by decide +kernel
theorem dX2_init_43 : decode cX2_init 43 = .ok (.putfield 30, 3) := by decide +kernel
theorem dX2_init_46 : decode cX2_init 46 = .ok (.aload_n 0, 1) := by decide +kernel
theorem dX2_init_47 : decode cX2_init 47 = .ok (.iconst 5, 1) := by decide +kernel
theorem dX2_init_48 : decode cX2_init 48 = .ok (.newarray .int, 2) := by decide +kernel
theorem dX2_init_50 : decode cX2_init 50 = .ok (.putfield 33, 3) := by decide +kernel
theorem dX2_init_53 : decode cX2_init 53 = .ok (.aload_n 0, 1) := by decide +kernel
theorem dX2_init_54 : decode cX2_init 54 = .ok (.sipush 300, 3) := by decide +kernel
theorem dX2_init_57 : decode cX2_init 57 = .ok (.newarray .boolean, 2) := by decide +kernel
theorem dX2_init_59 : decode cX2_init 59 = .ok (.putfield 36, 3) := by decide +kernel
theorem dX2_init_62 : decode cX2_init 62 = .ok (.aload_n 0, 1) := by decide +kernel
theorem dX2_init_63 : decode cX2_init 63 = .ok (.sipush 300, 3) := by decide +kernel
theorem dX2_init_66 : decode cX2_init 66 = .ok (.newarray .double, 2) := by decide +kernel
theorem dX2_init_68 : decode cX2_init 68 = .ok (.putfield 39, 3) := by decide +kernel
theorem dX2_init_71 : decode cX2_init 71 = .ok (.aload_n 0, 1) := by decide +kernel
theorem dX2_init_72 : decode cX2_init 72 = .ok (.sipush 300, 3) := by decide +kernel
theorem dX2_init_75 : decode cX2_init 75 = .ok (.newarray .double, 2) := by decide +kernel
theorem dX2_init_77 : decode cX2_init 77 = .ok (.putfield 42, 3) := by decide +kernel
theorem dX2_init_80 : decode cX2_init 80 = .ok (.aload_n 0, 1) := by decide +kernel
theorem dX2_init_81 : decode cX2_init 81 = .ok (.sipush 300, 3) := by decide +kernel
theorem dX2_init_84 : decode cX2_init 84 = .ok (.newarray .double, 2) := by decide +kernel
theorem dX2_init_86 : decode cX2_init 86 = .ok (.putfield 45, 3) := by decide +kernel
theorem dX2_init_89 : decode cX2_init 89 = .ok (.aload_n 0, 1) := by decide +kernel
theorem dX2_init_90 : decode cX2_init 90 = .ok (.sipush 300, 3) := by decide +kernel
theorem dX2_init_93 : decode cX2_init 93 = .ok (.newarray .double, 2) := by decide +kernel
theorem dX2_init_95 : decode cX2_init 95 = .ok (.putfield 48, 3) := by decide +kernel
theorem dX2_init_98 : decode cX2_init 98 = .ok (.aload_n 0, 1) := by decide +kernel
theorem dX2_init_99 : decode cX2_init 99 = .ok (.sipush 300, 3) := by decide +kernel
theorem dX2_init_102 : decode cX2_init 102 = .ok (.newarray .double, 2) := by decide +kernel
theorem dX2_init_104 : decode cX2_init 104 = .ok (.putfield 51, 3) := by decide +kernel
theorem dX2_init_107 : decode cX2_init 107 = .ok (.aload_n 0, 1) := by decide +kernel
theorem dX2_init_108 : decode cX2_init 108 = .ok (.bipush 60, 2) := by decide +kernel
theorem dX2_init_110 : decode cX2_init 110 = .ok (.newarray .double, 2) := by decide +kernel
theorem dX2_init_112 : decode cX2_init 112 = .ok (.putfield 54, 3) := by decide +kernel
theorem dX2_init_115 : decode cX2_init 115 = .ok (.aload_n 0, 1) := by decide +kernel
theorem dX2_init_116 : decode cX2_init 116 = .ok (.bipush 60, 2) := by decide +kernel
theorem dX2_init_118 : decode cX2_init 118 = .ok (.newarray .double, 2) := by decide +kernel
theorem dX2_init_120 : decode cX2_init 120 = .ok (.putfield 57, 3) := by decide +kernel
theorem dX2_init_123 : decode cX2_init 123 = .ok (.aload_n 0, 1) := by decide +kernel
theorem dX2_init_124 : decode cX2_init 124 = .ok (.iconst 5, 1) := by decide +kernel
theorem dX2_init_125 : decode cX2_init 125 = .ok (.newarray .double, 2) := by decide +kernel
theorem dX2_init_127 : decode cX2_init 127 = .ok (.putfield 60, 3) := by decide +kernel
theorem dX2_init_130 : decode cX2_init 130 = .ok (.return_, 1) := by decide +kernel
theorem dX2_thrown_0 : decode cX2_thrown 0 = .ok (.aload_n 0, 1) := by decide +kernel
theorem dX2_thrown_1 : decode cX2_thrown 1 = .ok (.getfield 63, 3) := by decide +kernel
theorem dX2_thrown_4 : decode cX2_thrown 4 = .ok (.ireturn, 1) := by decide +kernel
theorem dX2_holds_0 : decode cX2_holds 0 = .ok (.aload_n 0, 1) := by decide +kernel
theorem dX2_holds_1 : decode cX2_holds 1 = .ok (.iload_n 1, 1) := by decide +kernel
theorem dX2_holds_2 : decode cX2_holds 2 = .ok (.putfield 63, 3) := by decide +kernel
theorem dX2_holds_5 : decode cX2_holds 5 = .ok (.iload_n 1, 1) := by decide +kernel
theorem dX2_holds_6 : decode cX2_holds 6 = .ok (.ifCond .ne 7, 3) := by decide +kernel
theorem dX2_holds_9 : decode cX2_holds 9 = .ok (.iconst 1, 1) := by decide +kernel
theorem dX2_holds_10 : decode cX2_holds 10 = .ok (.goto 4, 3) := by decide +kernel
theorem dX2_holds_13 : decode cX2_holds 13 = .ok (.iconst 0, 1) := by decide +kernel
theorem dX2_holds_14 : decode cX2_holds 14 = .ok (.ireturn, 1) := by decide +kernel
theorem dX2_in_0 : decode cX2_in 0 = .ok (.iload_n 0, 1) := by decide +kernel
theorem dX2_in_1 : decode cX2_in 1 = .ok (.iload_n 1, 1) := by decide +kernel
theorem dX2_in_2 : decode cX2_in 2 = .ok (.if_icmp .lt 12, 3) := by decide +kernel
theorem dX2_in_5 : decode cX2_in 5 = .ok (.iload_n 0, 1) := by decide +kernel
theorem dX2_in_6 : decode cX2_in 6 = .ok (.iload_n 2, 1) := by decide +kernel
theorem dX2_in_7 : decode cX2_in 7 = .ok (.if_icmp .gt 7, 3) := by decide +kernel
theorem dX2_in_10 : decode cX2_in 10 = .ok (.iconst 1, 1) := by decide +kernel
theorem dX2_in_11 : decode cX2_in 11 = .ok (.goto 4, 3) := by decide +kernel
theorem dX2_in_14 : decode cX2_in 14 = .ok (.iconst 0, 1) := by decide +kernel
theorem dX2_in_15 : decode cX2_in 15 = .ok (.ireturn, 1) := by decide +kernel
set_option maxRecDepth 20000 in
theorem ggX2_isOwner_X2_in : GoodIn wsX2_isOwner wsX2_in := goodIn_r _ [4] (by decide +kernel) (by decide +kernel)
set_option maxRecDepth 20000 in
theorem gX2_isOwner_X2_in : GoodIn wsX2_isOwner (va_wsS RX2 67 yX2_in wsX2_in) := goodIn_app (goodIn_of _ (by decide +kernel)) ggX2_isOwner_X2_in
theorem dX2_isOwner_0 : decode cX2_isOwner 0 = .ok (.iload_n 0, 1) := by decide +kernel
theorem dX2_isOwner_1 : decode cX2_isOwner 1 = .ok (.iconst 0, 1) := by decide +kernel
theorem dX2_isOwner_2 : decode cX2_isOwner 2 = .ok (.iconst 4, 1) := by decide +kernel
theorem dX2_isOwner_3 : decode cX2_isOwner 3 = .ok (.invokestatic 67, 3) := by decide +kernel
theorem dX2_isOwner_6 : decode cX2_isOwner 6 = .ok (.ireturn, 1) := by decide +kernel
theorem dX2_least_0 : decode cX2_least 0 = .ok (.dload_n 0, 1) := by decide +kernel
theorem dX2_least_1 : decode cX2_least 1 = .ok (.dload_n 2, 1) := by decide +kernel
theorem dX2_least_2 : decode cX2_least 2 = .ok (.dcmp .g, 1) := by decide +kernel
theorem dX2_least_3 : decode cX2_least 3 = .ok (.ifCond .ge 7, 3) := by decide +kernel
theorem dX2_least_6 : decode cX2_least 6 = .ok (.dload_n 0, 1) := by decide +kernel
theorem dX2_least_7 : decode cX2_least 7 = .ok (.goto 4, 3) := by decide +kernel
theorem dX2_least_10 : decode cX2_least 10 = .ok (.dload_n 2, 1) := by decide +kernel
theorem dX2_least_11 : decode cX2_least 11 = .ok (.dreturn, 1) := by decide +kernel
theorem dX2_others_0 : decode cX2_others 0 = .ok (.iconst 0, 1) := by decide +kernel
theorem dX2_others_1 : decode cX2_others 1 = .ok (.istore_n 2, 1) := by decide +kernel
theorem dX2_others_2 : decode cX2_others 2 = .ok (.iconst 0, 1) := by decide +kernel
theorem dX2_others_3 : decode cX2_others 3 = .ok (.istore_n 3, 1) := by decide +kernel
theorem dX2_others_4 : decode cX2_others 4 = .ok (.iload_n 3, 1) := by decide +kernel
theorem dX2_others_5 : decode cX2_others 5 = .ok (.iconst 5, 1) := by decide +kernel
theorem dX2_others_6 : decode cX2_others 6 = .ok (.if_icmp .ge 27, 3) := by decide +kernel
theorem dX2_others_9 : decode cX2_others 9 = .ok (.iload_n 2, 1) := by decide +kernel
theorem dX2_others_10 : decode cX2_others 10 = .ok (.iload_n 3, 1) := by decide +kernel
theorem dX2_others_11 : decode cX2_others 11 = .ok (.iload_n 1, 1) := by decide +kernel
theorem dX2_others_12 : decode cX2_others 12 = .ok (.if_icmp .ne 7, 3) := by decide +kernel
theorem dX2_others_15 : decode cX2_others 15 = .ok (.iconst 0, 1) := by decide +kernel
theorem dX2_others_16 : decode cX2_others 16 = .ok (.goto 9, 3) := by decide +kernel
theorem dX2_others_19 : decode cX2_others 19 = .ok (.aload_n 0, 1) := by decide +kernel
theorem dX2_others_20 : decode cX2_others 20 = .ok (.getfield 7, 3) := by decide +kernel
theorem dX2_others_23 : decode cX2_others 23 = .ok (.iload_n 3, 1) := by decide +kernel
theorem dX2_others_24 : decode cX2_others 24 = .ok (.iaload, 1) := by decide +kernel
theorem dX2_others_25 : decode cX2_others 25 = .ok (.iadd, 1) := by decide +kernel
theorem dX2_others_26 : decode cX2_others 26 = .ok (.istore_n 2, 1) := by decide +kernel
theorem dX2_others_27 : decode cX2_others 27 = .ok (.iinc 3 1, 3) := by decide +kernel
theorem dX2_others_30 : decode cX2_others 30 = .ok (.goto (-26), 3) := by decide +kernel
theorem dX2_others_33 : decode cX2_others 33 = .ok (.iload_n 2, 1) := by decide +kernel
theorem dX2_others_34 : decode cX2_others 34 = .ok (.ireturn, 1) := by decide +kernel
set_option maxRecDepth 20000 in
theorem ggX2_setShare_X2_isOwner : GoodIn wsX2_setShare wsX2_isOwner := goodIn_r _ [5, 6, 7, 4, 8] (by decide +kernel) (by decide +kernel)
set_option maxRecDepth 20000 in
theorem gX2_setShare_X2_isOwner : GoodIn wsX2_setShare (va_wsS RX2 71 yX2_isOwner wsX2_isOwner) := goodIn_app (goodIn_of _ (by decide +kernel)) ggX2_setShare_X2_isOwner
set_option maxRecDepth 20000 in
theorem ggX2_setShare_X2_in : GoodIn wsX2_setShare wsX2_in := goodIn_r _ [8] (by decide +kernel) (by decide +kernel)
set_option maxRecDepth 20000 in
theorem gX2_setShare_X2_in : GoodIn wsX2_setShare (va_wsS RX2 67 yX2_in wsX2_in) := goodIn_app (goodIn_of _ (by decide +kernel)) ggX2_setShare_X2_in
set_option maxRecDepth 20000 in
theorem ggX2_setShare_X2_others : GoodIn wsX2_setShare wsX2_others := goodIn_r _ [12, 1, 18, 19, 20, 21, 22, 23, 24, 25, 26, 27, 28, 29, 30, 31, 32, 33, 34, 35, 36, 37] (by decide +kernel) (by decide +kernel)
set_option maxRecDepth 20000 in
theorem gX2_setShare_X2_others : GoodIn wsX2_setShare (wsV RX2 75 RX2 yX2_others wsX2_others) := goodIn_app (goodIn_of _ (by decide +kernel)) ggX2_setShare_X2_others
set_option maxRecDepth 20000 in
theorem ggX2_setShare_X2_holds : GoodIn wsX2_setShare wsX2_holds := goodIn_r _ [16, 17, 18, 19, 20, 21, 22, 23, 24, 25, 26, 27, 28, 29, 30, 31, 32, 33, 34, 35, 36, 37] (by decide +kernel) (by decide +kernel)
set_option maxRecDepth 20000 in
theorem gX2_setShare_X2_holds : GoodIn wsX2_setShare (wsV RX2 79 RX2 yX2_holds wsX2_holds) := goodIn_app (goodIn_of _ (by decide +kernel)) ggX2_setShare_X2_holds
theorem dX2_setShare_0 : decode cX2_setShare 0 = .ok (.iload_n 1, 1) := by decide +kernel
theorem dX2_setShare_1 : decode cX2_setShare 1 = .ok (.invokestatic 71, 3) := by decide +kernel
theorem dX2_setShare_4 : decode cX2_setShare 4 = .ok (.ifCond .eq 16, 3) := by decide +kernel
theorem dX2_setShare_7 : decode cX2_setShare 7 = .ok (.iload_n 2, 1) := by decide +kernel
theorem dX2_setShare_8 : decode cX2_setShare 8 = .ok (.iconst 0, 1) := by decide +kernel
theorem dX2_setShare_9 : decode cX2_setShare 9 = .ok (.iconst 4, 1) := by decide +kernel
theorem dX2_setShare_10 : decode cX2_setShare 10 = .ok (.invokestatic 67, 3) := by decide +kernel
theorem dX2_setShare_13 : decode cX2_setShare 13 = .ok (.ifCond .eq 7, 3) := by decide +kernel
theorem dX2_setShare_16 : decode cX2_setShare 16 = .ok (.iconst 1, 1) := by decide +kernel
theorem dX2_setShare_17 : decode cX2_setShare 17 = .ok (.goto 4, 3) := by decide +kernel
theorem dX2_setShare_20 : decode cX2_setShare 20 = .ok (.iconst 0, 1) := by decide +kernel
theorem dX2_setShare_21 : decode cX2_setShare 21 = .ok (.istore_n 3, 1) := by decide +kernel
theorem dX2_setShare_22 : decode cX2_setShare 22 = .ok (.aload_n 0, 1) := by decide +kernel
theorem dX2_setShare_23 : decode cX2_setShare 23 = .ok (.iload_n 3, 1) := by decide +kernel
theorem dX2_setShare_24 : decode cX2_setShare 24 = .ok (.ifCond .ne 7, 3) := by decide +kernel
theorem dX2_setShare_27 : decode cX2_setShare 27 = .ok (.iconst 1, 1) := by decide +kernel
theorem dX2_setShare_28 : decode cX2_setShare 28 = .ok (.goto 19, 3) := by decide +kernel
theorem dX2_setShare_31 : decode cX2_setShare 31 = .ok (.aload_n 0, 1) := by decide +kernel
theorem dX2_setShare_32 : decode cX2_setShare 32 = .ok (.iload_n 1, 1) := by decide +kernel
theorem dX2_setShare_33 : decode cX2_setShare 33 = .ok (.invokevirtual 75, 3) := by decide +kernel
theorem dX2_setShare_36 : decode cX2_setShare 36 = .ok (.iload_n 2, 1) := by decide +kernel
theorem dX2_setShare_37 : decode cX2_setShare 37 = .ok (.iadd, 1) := by decide +kernel
theorem dX2_setShare_38 : decode cX2_setShare 38 = .ok (.iconst 4, 1) := by decide +kernel
theorem dX2_setShare_39 : decode cX2_setShare 39 = .ok (.if_icmp .le 7, 3) := by decide +kernel
theorem dX2_setShare_42 : decode cX2_setShare 42 = .ok (.iconst 2, 1) := by decide +kernel
theorem dX2_setShare_43 : decode cX2_setShare 43 = .ok (.goto 4, 3) := by decide +kernel
theorem dX2_setShare_46 : decode cX2_setShare 46 = .ok (.iconst 0, 1) := by decide +kernel
theorem dX2_setShare_47 : decode cX2_setShare 47 = .ok (.invokevirtual 79, 3) := by decide +kernel
theorem dX2_setShare_50 : decode cX2_setShare 50 = .ok (.ifCond .ne 5, 3) := by decide +kernel
theorem dX2_setShare_53 : decode cX2_setShare 53 = .ok (.iconst 0, 1) := by decide +kernel
theorem dX2_setShare_54 : decode cX2_setShare 54 = .ok (.ireturn, 1) := by decide +kernel
theorem dX2_setShare_55 : decode cX2_setShare 55 = .ok (.aload_n 0, 1) := by decide +kernel
theorem dX2_setShare_56 : decode cX2_setShare 56 = .ok (.getfield 7, 3) := by decide +kernel
theorem dX2_setShare_59 : decode cX2_setShare 59 = .ok (.iload_n 1, 1) := by decide +kernel
theorem dX2_setShare_60 : decode cX2_setShare 60 = .ok (.iaload, 1) := by decide +kernel
theorem dX2_setShare_61 : decode cX2_setShare 61 = .ok (.istore 4, 2) := by decide +kernel
theorem dX2_setShare_63 : decode cX2_setShare 63 = .ok (.aload_n 0, 1) := by decide +kernel
theorem dX2_setShare_64 : decode cX2_setShare 64 = .ok (.getfield 7, 3) := by decide +kernel
theorem dX2_setShare_67 : decode cX2_setShare 67 = .ok (.iload_n 1, 1) := by decide +kernel
theorem dX2_setShare_68 : decode cX2_setShare 68 = .ok (.iload_n 2, 1) := by decide +kernel
theorem dX2_setShare_69 : decode cX2_setShare 69 = .ok (.iastore, 1) := by decide +kernel
theorem dX2_setShare_70 : decode cX2_setShare 70 = .ok (.iload 4, 2) := by decide +kernel
theorem dX2_setShare_72 : decode cX2_setShare 72 = .ok (.ireturn, 1) := by decide +kernel
set_option maxRecDepth 20000 in
theorem ggX2_setSwitch_X2_isOwner : GoodIn wsX2_setSwitch wsX2_isOwner := goodIn_r _ [5, 6, 7, 4, 8] (by decide +kernel) (by decide +kernel)
set_option maxRecDepth 20000 in
theorem gX2_setSwitch_X2_isOwner : GoodIn wsX2_setSwitch (va_wsS RX2 71 yX2_isOwner wsX2_isOwner) := goodIn_app (goodIn_of _ (by decide +kernel)) ggX2_setSwitch_X2_isOwner
set_option maxRecDepth 20000 in
theorem ggX2_setSwitch_X2_holds : GoodIn wsX2_setSwitch wsX2_holds := goodIn_r _ [12, 13, 14, 15, 16, 17, 18, 19, 20, 21, 22, 23, 24, 25, 26, 27, 28, 29, 30, 31, 32, 33] (by decide +kernel) (by decide +kernel)
set_option maxRecDepth 20000 in
theorem gX2_setSwitch_X2_holds : GoodIn wsX2_setSwitch (wsV RX2 79 RX2 yX2_holds wsX2_holds) := goodIn_app (goodIn_of _ (by decide +kernel)) ggX2_setSwitch_X2_holds
theorem dX2_setSwitch_0 : decode cX2_setSwitch 0 = .ok (.aload_n 0, 1) := by decide +kernel
theorem dX2_setSwitch_1 : decode cX2_setSwitch 1 = .ok (.iload_n 1, 1) := by decide +kernel
theorem dX2_setSwitch_2 : decode cX2_setSwitch 2 = .ok (.invokestatic 71, 3) := by decide +kernel
theorem dX2_setSwitch_5 : decode cX2_setSwitch 5 = .ok (.ifCond .eq 7, 3) := by decide +kernel
theorem dX2_setSwitch_8 : decode cX2_setSwitch 8 = .ok (.iconst 0, 1) := by decide +kernel
theorem dX2_setSwitch_9 : decode cX2_setSwitch 9 = .ok (.goto 4, 3) := by decide +kernel
theorem dX2_setSwitch_12 : decode cX2_setSwitch 12 = .ok (.iconst 1, 1) := by decide +kernel
theorem dX2_setSwitch_13 : decode cX2_setSwitch 13 = .ok (.invokevirtual 79, 3) := by decide +kernel
theorem dX2_setSwitch_16 : decode cX2_setSwitch 16 = .ok (.ifCond .ne 5, 3) := by decide +kernel
theorem dX2_setSwitch_19 : decode cX2_setSwitch 19 = .ok (.iconst 0, 1) := by decide +kernel
theorem dX2_setSwitch_20 : decode cX2_setSwitch 20 = .ok (.ireturn, 1) := by decide +kernel
theorem dX2_setSwitch_21 : decode cX2_setSwitch 21 = .ok (.aload_n 0, 1) := by decide +kernel
theorem dX2_setSwitch_22 : decode cX2_setSwitch 22 = .ok (.getfield 13, 3) := by decide +kernel
theorem dX2_setSwitch_25 : decode cX2_setSwitch 25 = .ok (.iload_n 1, 1) := by decide +kernel
theorem dX2_setSwitch_26 : decode cX2_setSwitch 26 = .ok (.baload, 1) := by decide +kernel
theorem dX2_setSwitch_27 : decode cX2_setSwitch 27 = .ok (.ifCond .ne 7, 3) := by decide +kernel
theorem dX2_setSwitch_30 : decode cX2_setSwitch 30 = .ok (.iconst 1, 1) := by decide +kernel
theorem dX2_setSwitch_31 : decode cX2_setSwitch 31 = .ok (.goto 4, 3) := by decide +kernel
theorem dX2_setSwitch_34 : decode cX2_setSwitch 34 = .ok (.iconst 0, 1) := by decide +kernel
theorem dX2_setSwitch_35 : decode cX2_setSwitch 35 = .ok (.istore_n 3, 1) := by decide +kernel
theorem dX2_setSwitch_36 : decode cX2_setSwitch 36 = .ok (.aload_n 0, 1) := by decide +kernel
theorem dX2_setSwitch_37 : decode cX2_setSwitch 37 = .ok (.getfield 13, 3) := by decide +kernel
theorem dX2_setSwitch_40 : decode cX2_setSwitch 40 = .ok (.iload_n 1, 1) := by decide +kernel
theorem dX2_setSwitch_41 : decode cX2_setSwitch 41 = .ok (.iload_n 2, 1) := by decide +kernel
theorem dX2_setSwitch_42 : decode cX2_setSwitch 42 = .ok (.ifCond .ne 7, 3) := by decide +kernel
theorem dX2_setSwitch_45 : decode cX2_setSwitch 45 = .ok (.iconst 1, 1) := by decide +kernel
theorem dX2_setSwitch_46 : decode cX2_setSwitch 46 = .ok (.goto 4, 3) := by decide +kernel
theorem dX2_setSwitch_49 : decode cX2_setSwitch 49 = .ok (.iconst 0, 1) := by decide +kernel
theorem dX2_setSwitch_50 : decode cX2_setSwitch 50 = .ok (.bastore, 1) := by decide +kernel
theorem dX2_setSwitch_51 : decode cX2_setSwitch 51 = .ok (.iload_n 3, 1) := by decide +kernel
theorem dX2_setSwitch_52 : decode cX2_setSwitch 52 = .ok (.ireturn, 1) := by decide +kernel
set_option maxRecDepth 20000 in
theorem ggX2_setPrice_X2_in : GoodIn wsX2_setPrice wsX2_in := goodIn_r _ [6] (by decide +kernel) (by decide +kernel)
set_option maxRecDepth 20000 in
theorem gX2_setPrice_X2_in : GoodIn wsX2_setPrice (va_wsS RX2 67 yX2_in wsX2_in) := goodIn_app (goodIn_of _ (by decide +kernel)) ggX2_setPrice_X2_in
set_option maxRecDepth 20000 in
theorem ggX2_setPrice_X2_holds : GoodIn wsX2_setPrice wsX2_holds := goodIn_r _ [10, 11, 12, 13, 14, 15, 16, 17, 18, 19, 20, 21, 22, 23, 24, 25, 26, 27, 28, 29, 30, 31] (by decide +kernel) (by decide +kernel)
set_option maxRecDepth 20000 in
theorem gX2_setPrice_X2_holds : GoodIn wsX2_setPrice (wsV RX2 79 RX2 yX2_holds wsX2_holds) := goodIn_app (goodIn_of _ (by decide +kernel)) ggX2_setPrice_X2_holds
theorem dX2_setPrice_0 : decode cX2_setPrice 0 = .ok (.aload_n 0, 1) := by decide +kernel
theorem dX2_setPrice_1 : decode cX2_setPrice 1 = .ok (.iload_n 1, 1) := by decide +kernel
theorem dX2_setPrice_2 : decode cX2_setPrice 2 = .ok (.iconst 1, 1) := by decide +kernel
theorem dX2_setPrice_3 : decode cX2_setPrice 3 = .ok (.iconst 4, 1) := by decide +kernel
theorem dX2_setPrice_4 : decode cX2_setPrice 4 = .ok (.invokestatic 67, 3) := by decide +kernel
theorem dX2_setPrice_7 : decode cX2_setPrice 7 = .ok (.ifCond .eq 7, 3) := by decide +kernel
theorem dX2_setPrice_10 : decode cX2_setPrice 10 = .ok (.iconst 0, 1) := by decide +kernel
theorem dX2_setPrice_11 : decode cX2_setPrice 11 = .ok (.goto 4, 3) := by decide +kernel
theorem dX2_setPrice_14 : decode cX2_setPrice 14 = .ok (.iconst 1, 1) := by decide +kernel
theorem dX2_setPrice_15 : decode cX2_setPrice 15 = .ok (.invokevirtual 79, 3) := by decide +kernel
theorem dX2_setPrice_18 : decode cX2_setPrice 18 = .ok (.ifCond .ne 5, 3) := by decide +kernel
theorem dX2_setPrice_21 : decode cX2_setPrice 21 = .ok (.dconst 0, 1) := by decide +kernel
theorem dX2_setPrice_22 : decode cX2_setPrice 22 = .ok (.dreturn, 1) := by decide +kernel
theorem dX2_setPrice_23 : decode cX2_setPrice 23 = .ok (.aload_n 0, 1) := by decide +kernel
theorem dX2_setPrice_24 : decode cX2_setPrice 24 = .ok (.iload_n 1, 1) := by decide +kernel
theorem dX2_setPrice_25 : decode cX2_setPrice 25 = .ok (.i2d, 1) := by decide +kernel
theorem dX2_setPrice_26 : decode cX2_setPrice 26 = .ok (.ldc2_w 82, 3) := by decide +kernel
theorem dX2_setPrice_29 : decode cX2_setPrice 29 = .ok (.ddiv, 1) := by decide +kernel
theorem dX2_setPrice_30 : decode cX2_setPrice 30 = .ok (.putfield 26, 3) := by decide +kernel
theorem dX2_setPrice_33 : decode cX2_setPrice 33 = .ok (.aload_n 0, 1) := by decide +kernel
theorem dX2_setPrice_34 : decode cX2_setPrice 34 = .ok (.getfield 26, 3) := by decide +kernel
theorem dX2_setPrice_37 : decode cX2_setPrice 37 = .ok (.dreturn, 1) := by decide +kernel
set_option maxRecDepth 20000 in
theorem ggX2_tell_X2_isOwner : GoodIn wsX2_tell wsX2_isOwner := goodIn_r _ [6, 7, 8, 5, 9] (by decide +kernel) (by decide +kernel)
set_option maxRecDepth 20000 in
theorem gX2_tell_X2_isOwner : GoodIn wsX2_tell (va_wsS RX2 71 yX2_isOwner wsX2_isOwner) := goodIn_app (goodIn_of _ (by decide +kernel)) ggX2_tell_X2_isOwner
set_option maxRecDepth 20000 in
theorem ggX2_tell_X2_in : GoodIn wsX2_tell wsX2_in := goodIn_r _ [9] (by decide +kernel) (by decide +kernel)
set_option maxRecDepth 20000 in
theorem gX2_tell_X2_in : GoodIn wsX2_tell (va_wsS RX2 67 yX2_in wsX2_in) := goodIn_app (goodIn_of _ (by decide +kernel)) ggX2_tell_X2_in
set_option maxRecDepth 20000 in
theorem ggX2_tell_X2_holds : GoodIn wsX2_tell wsX2_holds := goodIn_r _ [13, 14, 15, 16, 17, 18, 19, 20, 21, 22, 23, 24, 25, 26, 27, 28, 29, 30, 31, 32, 33, 34] (by decide +kernel) (by decide +kernel)
set_option maxRecDepth 20000 in
theorem gX2_tell_X2_holds : GoodIn wsX2_tell (wsV RX2 79 RX2 yX2_holds wsX2_holds) := goodIn_app (goodIn_of _ (by decide +kernel)) ggX2_tell_X2_holds
theorem dX2_tell_0 : decode cX2_tell 0 = .ok (.aload_n 0, 1) := by decide +kernel
theorem dX2_tell_1 : decode cX2_tell 1 = .ok (.iload_n 1, 1) := by decide +kernel
theorem dX2_tell_2 : decode cX2_tell 2 = .ok (.invokestatic 71, 3) := by decide +kernel
theorem dX2_tell_5 : decode cX2_tell 5 = .ok (.ifCond .eq 17, 3) := by decide +kernel
theorem dX2_tell_8 : decode cX2_tell 8 = .ok (.iload_n 2, 1) := by decide +kernel
theorem dX2_tell_9 : decode cX2_tell 9 = .ok (.iconst 0, 1) := by decide +kernel
theorem dX2_tell_10 : decode cX2_tell 10 = .ok (.bipush 50, 2) := by decide +kernel
theorem dX2_tell_12 : decode cX2_tell 12 = .ok (.invokestatic 67, 3) := by decide +kernel
theorem dX2_tell_15 : decode cX2_tell 15 = .ok (.ifCond .eq 7, 3) := by decide +kernel
theorem dX2_tell_18 : decode cX2_tell 18 = .ok (.iconst 0, 1) := by decide +kernel
theorem dX2_tell_19 : decode cX2_tell 19 = .ok (.goto 4, 3) := by decide +kernel
theorem dX2_tell_22 : decode cX2_tell 22 = .ok (.iconst 1, 1) := by decide +kernel
theorem dX2_tell_23 : decode cX2_tell 23 = .ok (.invokevirtual 79, 3) := by decide +kernel
theorem dX2_tell_26 : decode cX2_tell 26 = .ok (.ifCond .ne 5, 3) := by decide +kernel
theorem dX2_tell_29 : decode cX2_tell 29 = .ok (.iconst 0, 1) := by decide +kernel
theorem dX2_tell_30 : decode cX2_tell 30 = .ok (.ireturn, 1) := by decide +kernel
theorem dX2_tell_31 : decode cX2_tell 31 = .ok (.aload_n 0, 1) := by decide +kernel
theorem dX2_tell_32 : decode cX2_tell 32 = .ok (.getfield 30, 3) := by decide +kernel
theorem dX2_tell_35 : decode cX2_tell 35 = .ok (.iload_n 1, 1) := by decide +kernel
theorem dX2_tell_36 : decode cX2_tell 36 = .ok (.baload, 1) := by decide +kernel
theorem dX2_tell_37 : decode cX2_tell 37 = .ok (.istore_n 3, 1) := by decide +kernel
theorem dX2_tell_38 : decode cX2_tell 38 = .ok (.aload_n 0, 1) := by decide +kernel
theorem dX2_tell_39 : decode cX2_tell 39 = .ok (.getfield 30, 3) := by decide +kernel
theorem dX2_tell_42 : decode cX2_tell 42 = .ok (.iload_n 1, 1) := by decide +kernel
theorem dX2_tell_43 : decode cX2_tell 43 = .ok (.iconst 1, 1) := by decide +kernel
theorem dX2_tell_44 : decode cX2_tell 44 = .ok (.bastore, 1) := by decide +kernel
theorem dX2_tell_45 : decode cX2_tell 45 = .ok (.aload_n 0, 1) := by decide +kernel
theorem dX2_tell_46 : decode cX2_tell 46 = .ok (.getfield 33, 3) := by decide +kernel
theorem dX2_tell_49 : decode cX2_tell 49 = .ok (.iload_n 1, 1) := by decide +kernel
theorem dX2_tell_50 : decode cX2_tell 50 = .ok (.iload_n 2, 1) := by decide +kernel
theorem dX2_tell_51 : decode cX2_tell 51 = .ok (.iastore, 1) := by decide +kernel
theorem dX2_tell_52 : decode cX2_tell 52 = .ok (.iload_n 3, 1) := by decide +kernel
theorem dX2_tell_53 : decode cX2_tell 53 = .ok (.ireturn, 1) := by decide +kernel
theorem dX2_guess_0 : decode cX2_guess 0 = .ok (.iconst 0, 1) := by decide +kernel
theorem dX2_guess_1 : decode cX2_guess 1 = .ok (.istore_n 2, 1) := by decide +kernel
theorem dX2_guess_2 : decode cX2_guess 2 = .ok (.dconst 0, 1) := by decide +kernel
theorem dX2_guess_3 : decode cX2_guess 3 = .ok (.dstore_n 3, 1) := by decide +kernel
theorem dX2_guess_4 : decode cX2_guess 4 = .ok (.aload_n 0, 1) := by decide +kernel
theorem dX2_guess_5 : decode cX2_guess 5 = .ok (.getfield 84, 3) := by decide +kernel
theorem dX2_guess_8 : decode cX2_guess 8 = .ok (.iconst 1, 1) := by decide +kernel
theorem dX2_guess_9 : decode cX2_guess 9 = .ok (.isub, 1) := by decide +kernel
theorem dX2_guess_10 : decode cX2_guess 10 = .ok (.istore 5, 2) := by decide +kernel
theorem dX2_guess_12 : decode cX2_guess 12 = .ok (.iload 5, 2) := by decide +kernel
theorem dX2_guess_14 : decode cX2_guess 14 = .ok (.ifCond .lt 45, 3) := by decide +kernel
theorem dX2_guess_17 : decode cX2_guess 17 = .ok (.iload_n 2, 1) := by decide +kernel
theorem dX2_guess_18 : decode cX2_guess 18 = .ok (.iconst 2, 1) := by decide +kernel
theorem dX2_guess_19 : decode cX2_guess 19 = .ok (.if_icmp .ge 40, 3) := by decide +kernel
theorem dX2_guess_22 : decode cX2_guess 22 = .ok (.aload_n 0, 1) := by decide +kernel
theorem dX2_guess_23 : decode cX2_guess 23 = .ok (.getfield 36, 3) := by decide +kernel
theorem dX2_guess_26 : decode cX2_guess 26 = .ok (.iconst 5, 1) := by decide +kernel
theorem dX2_guess_27 : decode cX2_guess 27 = .ok (.iload 5, 2) := by decide +kernel
theorem dX2_guess_29 : decode cX2_guess 29 = .ok (.imul, 1) := by decide +kernel
theorem dX2_guess_30 : decode cX2_guess 30 = .ok (.iload_n 1, 1) := by decide +kernel
theorem dX2_guess_31 : decode cX2_guess 31 = .ok (.iadd, 1) := by decide +kernel
theorem dX2_guess_32 : decode cX2_guess 32 = .ok (.baload, 1) := by decide +kernel
theorem dX2_guess_33 : decode cX2_guess 33 = .ok (.ifCond .eq 20, 3) := by decide +kernel
theorem dX2_guess_36 : decode cX2_guess 36 = .ok (.dload_n 3, 1) := by decide +kernel
theorem dX2_guess_37 : decode cX2_guess 37 = .ok (.aload_n 0, 1) := by decide +kernel
theorem dX2_guess_38 : decode cX2_guess 38 = .ok (.getfield 39, 3) := by decide +kernel
theorem dX2_guess_41 : decode cX2_guess 41 = .ok (.iconst 5, 1) := by decide +kernel
theorem dX2_guess_42 : decode cX2_guess 42 = .ok (.iload 5, 2) := by decide +kernel
theorem dX2_guess_44 : decode cX2_guess 44 = .ok (.imul, 1) := by decide +kernel
theorem dX2_guess_45 : decode cX2_guess 45 = .ok (.iload_n 1, 1) := by decide +kernel
theorem dX2_guess_46 : decode cX2_guess 46 = .ok (.iadd, 1) := by decide +kernel
theorem dX2_guess_47 : decode cX2_guess 47 = .ok (.daload, 1) := by decide +kernel
theorem dX2_guess_48 : decode cX2_guess 48 = .ok (.dadd, 1) := by decide +kernel
theorem dX2_guess_49 : decode cX2_guess 49 = .ok (.dstore_n 3, 1) := by decide +kernel
theorem dX2_guess_50 : decode cX2_guess 50 = .ok (.iinc 2 1, 3) := by decide +kernel
theorem dX2_guess_53 : decode cX2_guess 53 = .ok (.iinc 5 (-1), 3) := by decide +kernel
theorem dX2_guess_56 : decode cX2_guess 56 = .ok (.goto (-44), 3) := by decide +kernel
theorem dX2_guess_59 : decode cX2_guess 59 = .ok (.iload_n 2, 1) := by decide +kernel
theorem dX2_guess_60 : decode cX2_guess 60 = .ok (.iconst 2, 1) := by decide +kernel
theorem dX2_guess_61 : decode cX2_guess 61 = .ok (.if_icmp .ne 11, 3) := by decide +kernel
theorem dX2_guess_64 : decode cX2_guess 64 = .ok (.dload_n 3, 1) := by decide +kernel
theorem dX2_guess_65 : decode cX2_guess 65 = .ok (.ldc2_w 87, 3) := by decide +kernel
theorem dX2_guess_68 : decode cX2_guess 68 = .ok (.ddiv, 1) := by decide +kernel
theorem dX2_guess_69 : decode cX2_guess 69 = .ok (.goto 4, 3) := by decide +kernel
theorem dX2_guess_72 : decode cX2_guess 72 = .ok (.dload_n 3, 1) := by decide +kernel
theorem dX2_guess_73 : decode cX2_guess 73 = .ok (.dreturn, 1) := by decide +kernel
theorem dX2_sum_0 : decode cX2_sum 0 = .ok (.dconst 0, 1) := by decide +kernel
theorem dX2_sum_1 : decode cX2_sum 1 = .ok (.dstore_n 3, 1) := by decide +kernel
theorem dX2_sum_2 : decode cX2_sum 2 = .ok (.iconst 0, 1) := by decide +kernel
theorem dX2_sum_3 : decode cX2_sum 3 = .ok (.istore 5, 2) := by decide +kernel
theorem dX2_sum_5 : decode cX2_sum 5 = .ok (.iload 5, 2) := by decide +kernel
theorem dX2_sum_7 : decode cX2_sum 7 = .ok (.iconst 5, 1) := by decide +kernel
theorem dX2_sum_8 : decode cX2_sum 8 = .ok (.if_icmp .ge 18, 3) := by decide +kernel
theorem dX2_sum_11 : decode cX2_sum 11 = .ok (.dload_n 3, 1) := by decide +kernel
theorem dX2_sum_12 : decode cX2_sum 12 = .ok (.aload_n 1, 1) := by decide +kernel
theorem dX2_sum_13 : decode cX2_sum 13 = .ok (.iload_n 2, 1) := by decide +kernel
theorem dX2_sum_14 : decode cX2_sum 14 = .ok (.iload 5, 2) := by decide +kernel
theorem dX2_sum_16 : decode cX2_sum 16 = .ok (.iadd, 1) := by decide +kernel
theorem dX2_sum_17 : decode cX2_sum 17 = .ok (.daload, 1) := by decide +kernel
theorem dX2_sum_18 : decode cX2_sum 18 = .ok (.dadd, 1) := by decide +kernel
theorem dX2_sum_19 : decode cX2_sum 19 = .ok (.dstore_n 3, 1) := by decide +kernel
theorem dX2_sum_20 : decode cX2_sum 20 = .ok (.iinc 5 1, 3) := by decide +kernel
theorem dX2_sum_23 : decode cX2_sum 23 = .ok (.goto (-18), 3) := by decide +kernel
theorem dX2_sum_26 : decode cX2_sum 26 = .ok (.dload_n 3, 1) := by decide +kernel
theorem dX2_sum_27 : decode cX2_sum 27 = .ok (.dreturn, 1) := by decide +kernel
theorem dX2_nextToShed_0 : decode cX2_nextToShed 0 = .ok (.iconst (-1), 1) := by decide +kernel
theorem dX2_nextToShed_1 : decode cX2_nextToShed 1 = .ok (.istore_n 2, 1) := by decide +kernel
theorem dX2_nextToShed_2 : decode cX2_nextToShed 2 = .ok (.iconst 0, 1) := by decide +kernel
theorem dX2_nextToShed_3 : decode cX2_nextToShed 3 = .ok (.istore_n 3, 1) := by decide +kernel
theorem dX2_nextToShed_4 : decode cX2_nextToShed 4 = .ok (.iload_n 3, 1) := by decide +kernel
theorem dX2_nextToShed_5 : decode cX2_nextToShed 5 = .ok (.iconst 5, 1) := by decide +kernel
theorem dX2_nextToShed_6 : decode cX2_nextToShed 6 = .ok (.if_icmp .ge 64, 3) := by decide +kernel
theorem dX2_nextToShed_9 : decode cX2_nextToShed 9 = .ok (.aload_n 0, 1) := by decide +kernel
theorem dX2_nextToShed_10 : decode cX2_nextToShed 10 = .ok (.getfield 42, 3) := by decide +kernel
theorem dX2_nextToShed_13 : decode cX2_nextToShed 13 = .ok (.iload_n 1, 1) := by decide +kernel
theorem dX2_nextToShed_14 : decode cX2_nextToShed 14 = .ok (.iload_n 3, 1) := by decide +kernel
theorem dX2_nextToShed_15 : decode cX2_nextToShed 15 = .ok (.iadd, 1) := by decide +kernel
theorem dX2_nextToShed_16 : decode cX2_nextToShed 16 = .ok (.daload, 1) := by decide +kernel
theorem dX2_nextToShed_17 : decode cX2_nextToShed 17 = .ok (.dconst 0, 1) := by decide +kernel
theorem dX2_nextToShed_18 : decode cX2_nextToShed 18 = .ok (.dcmp .l, 1) := by decide +kernel
theorem dX2_nextToShed_19 : decode cX2_nextToShed 19 = .ok (.ifCond .le 16, 3) := by decide +kernel
theorem dX2_nextToShed_22 : decode cX2_nextToShed 22 = .ok (.aload_n 0, 1) := by decide +kernel
theorem dX2_nextToShed_23 : decode cX2_nextToShed 23 = .ok (.getfield 13, 3) := by decide +kernel
theorem dX2_nextToShed_26 : decode cX2_nextToShed 26 = .ok (.iload_n 3, 1) := by decide +kernel
theorem dX2_nextToShed_27 : decode cX2_nextToShed 27 = .ok (.baload, 1) := by decide +kernel
theorem dX2_nextToShed_28 : decode cX2_nextToShed 28 = .ok (.ifCond .ne 7, 3) := by decide +kernel
theorem dX2_nextToShed_31 : decode cX2_nextToShed 31 = .ok (.iconst 1, 1) := by decide +kernel
theorem dX2_nextToShed_32 : decode cX2_nextToShed 32 = .ok (.goto 4, 3) := by decide +kernel
theorem dX2_nextToShed_35 : decode cX2_nextToShed 35 = .ok (.iconst 0, 1) := by decide +kernel
theorem dX2_nextToShed_36 : decode cX2_nextToShed 36 = .ok (.istore 4, 2) := by decide +kernel
theorem dX2_nextToShed_38 : decode cX2_nextToShed 38 = .ok (.iload 4, 2) := by decide +kernel
theorem dX2_nextToShed_40 : decode cX2_nextToShed 40 = .ok (.ifCond .eq 24, 3) := by decide +kernel
theorem dX2_nextToShed_43 : decode cX2_nextToShed 43 = .ok (.iload_n 2, 1) := by decide +kernel
theorem dX2_nextToShed_44 : decode cX2_nextToShed 44 = .ok (.ifCond .lt 18, 3) := by decide +kernel
theorem dX2_nextToShed_47 : decode cX2_nextToShed 47 = .ok (.aload_n 0, 1) := by decide +kernel
theorem dX2_nextToShed_48 : decode cX2_nextToShed 48 = .ok (.getfield 17, 3) := by decide +kernel
theorem dX2_nextToShed_51 : decode cX2_nextToShed 51 = .ok (.iload_n 3, 1) := by decide +kernel
theorem dX2_nextToShed_52 : decode cX2_nextToShed 52 = .ok (.iaload, 1) := by decide +kernel
theorem dX2_nextToShed_53 : decode cX2_nextToShed 53 = .ok (.aload_n 0, 1) := by decide +kernel
theorem dX2_nextToShed_54 : decode cX2_nextToShed 54 = .ok (.getfield 17, 3) := by decide +kernel
theorem dX2_nextToShed_57 : decode cX2_nextToShed 57 = .ok (.iload_n 2, 1) := by decide +kernel
theorem dX2_nextToShed_58 : decode cX2_nextToShed 58 = .ok (.iaload, 1) := by decide +kernel
theorem dX2_nextToShed_59 : decode cX2_nextToShed 59 = .ok (.if_icmp .ge 5, 3) := by decide +kernel
theorem dX2_nextToShed_62 : decode cX2_nextToShed 62 = .ok (.iload_n 3, 1) := by decide +kernel
theorem dX2_nextToShed_63 : decode cX2_nextToShed 63 = .ok (.istore_n 2, 1) := by decide +kernel
theorem dX2_nextToShed_64 : decode cX2_nextToShed 64 = .ok (.iinc 3 1, 3) := by decide +kernel
theorem dX2_nextToShed_67 : decode cX2_nextToShed 67 = .ok (.goto (-63), 3) := by decide +kernel
theorem dX2_nextToShed_70 : decode cX2_nextToShed 70 = .ok (.iload_n 2, 1) := by decide +kernel
theorem dX2_nextToShed_71 : decode cX2_nextToShed 71 = .ok (.ireturn, 1) := by decide +kernel
set_option maxRecDepth 20000 in
theorem ggX2_shed_X2_sum : GoodIn wsX2_shed wsX2_sum := goodIn_r _ [8] (by decide +kernel) (by decide +kernel)
set_option maxRecDepth 20000 in
theorem gX2_shed_X2_sum : GoodIn wsX2_shed (wsV RX2 89 RX2 yX2_sum wsX2_sum) := goodIn_app (goodIn_of _ (by decide +kernel)) ggX2_shed_X2_sum
set_option maxRecDepth 20000 in
theorem ggX2_shed_X2_nextToShed : GoodIn wsX2_shed wsX2_nextToShed := goodIn_r _ [12, 1, 13, 3, 14, 15, 16, 17, 18, 19, 20, 21, 22, 23, 24, 25, 26, 27, 28, 29, 30, 31, 32, 33] (by decide +kernel) (by decide +kernel)
set_option maxRecDepth 20000 in
theorem gX2_shed_X2_nextToShed : GoodIn wsX2_shed (wsV RX2 95 RX2 yX2_nextToShed wsX2_nextToShed) := goodIn_app (goodIn_of _ (by decide +kernel)) ggX2_shed_X2_nextToShed
theorem dX2_shed_0 : decode cX2_shed 0 = .ok (.aload_n 0, 1) := by decide +kernel
theorem dX2_shed_1 : decode cX2_shed 1 = .ok (.aload_n 0, 1) := by decide +kernel
theorem dX2_shed_2 : decode cX2_shed 2 = .ok (.getfield 42, 3) := by decide +kernel
theorem dX2_shed_5 : decode cX2_shed 5 = .ok (.iload_n 1, 1) := by decide +kernel
theorem dX2_shed_6 : decode cX2_shed 6 = .ok (.invokevirtual 89, 3) := by decide +kernel
theorem dX2_shed_9 : decode cX2_shed 9 = .ok (.ldc2_w 93, 3) := by decide +kernel
theorem dX2_shed_12 : decode cX2_shed 12 = .ok (.dcmp .l, 1) := by decide +kernel
theorem dX2_shed_13 : decode cX2_shed 13 = .ok (.ifCond .le 37, 3) := by decide +kernel
theorem dX2_shed_16 : decode cX2_shed 16 = .ok (.aload_n 0, 1) := by decide +kernel
theorem dX2_shed_17 : decode cX2_shed 17 = .ok (.iload_n 1, 1) := by decide +kernel
theorem dX2_shed_18 : decode cX2_shed 18 = .ok (.invokevirtual 95, 3) := by decide +kernel
theorem dX2_shed_21 : decode cX2_shed 21 = .ok (.istore_n 2, 1) := by decide +kernel
theorem dX2_shed_22 : decode cX2_shed 22 = .ok (.iload_n 2, 1) := by decide +kernel
theorem dX2_shed_23 : decode cX2_shed 23 = .ok (.ifCond .ge 5, 3) := by decide +kernel
theorem dX2_shed_26 : decode cX2_shed 26 = .ok (.iconst 1, 1) := by decide +kernel
theorem dX2_shed_27 : decode cX2_shed 27 = .ok (.ireturn, 1) := by decide +kernel
theorem dX2_shed_28 : decode cX2_shed 28 = .ok (.aload_n 0, 1) := by decide +kernel
theorem dX2_shed_29 : decode cX2_shed 29 = .ok (.getfield 42, 3) := by decide +kernel
theorem dX2_shed_32 : decode cX2_shed 32 = .ok (.iload_n 1, 1) := by decide +kernel
theorem dX2_shed_33 : decode cX2_shed 33 = .ok (.iload_n 2, 1) := by decide +kernel
theorem dX2_shed_34 : decode cX2_shed 34 = .ok (.iadd, 1) := by decide +kernel
theorem dX2_shed_35 : decode cX2_shed 35 = .ok (.dconst 0, 1) := by decide +kernel
theorem dX2_shed_36 : decode cX2_shed 36 = .ok (.dastore, 1) := by decide +kernel
theorem dX2_shed_37 : decode cX2_shed 37 = .ok (.aload_n 0, 1) := by decide +kernel
theorem dX2_shed_38 : decode cX2_shed 38 = .ok (.getfield 17, 3) := by decide +kernel
theorem dX2_shed_41 : decode cX2_shed 41 = .ok (.iload_n 2, 1) := by decide +kernel
theorem dX2_shed_42 : decode cX2_shed 42 = .ok (.dup2, 1) := by decide +kernel
theorem dX2_shed_43 : decode cX2_shed 43 = .ok (.iaload, 1) := by decide +kernel
theorem dX2_shed_44 : decode cX2_shed 44 = .ok (.iconst 1, 1) := by decide +kernel
theorem dX2_shed_45 : decode cX2_shed 45 = .ok (.iadd, 1) := by decide +kernel
theorem dX2_shed_46 : decode cX2_shed 46 = .ok (.iastore, 1) := by decide +kernel
theorem dX2_shed_47 : decode cX2_shed 47 = .ok (.goto (-47), 3) := by decide +kernel
theorem dX2_shed_50 : decode cX2_shed 50 = .ok (.iconst 0, 1) := by decide +kernel
theorem dX2_shed_51 : decode cX2_shed 51 = .ok (.ireturn, 1) := by decide +kernel
set_option maxRecDepth 20000 in
theorem ggX2_shares_X2_least : GoodIn wsX2_shares wsX2_least := goodIn_r _ [8] (by decide +kernel) (by decide +kernel)
set_option maxRecDepth 20000 in
theorem gX2_shares_X2_least : GoodIn wsX2_shares (va_wsS RX2 98 yX2_least wsX2_least) := goodIn_app (goodIn_of _ (by decide +kernel)) ggX2_shares_X2_least
set_option maxRecDepth 20000 in
theorem ggX2_shares_X2_sum : GoodIn wsX2_shares wsX2_sum := goodIn_r _ [12] (by decide +kernel) (by decide +kernel)
set_option maxRecDepth 20000 in
theorem gX2_shares_X2_sum : GoodIn wsX2_shares (wsV RX2 89 RX2 yX2_sum wsX2_sum) := goodIn_app (goodIn_of _ (by decide +kernel)) ggX2_shares_X2_sum
theorem dX2_shares_0 : decode cX2_shares 0 = .ok (.iload_n 2, 1) := by decide +kernel
theorem dX2_shares_1 : decode cX2_shares 1 = .ok (.i2d, 1) := by decide +kernel
theorem dX2_shares_2 : decode cX2_shares 2 = .ok (.dstore_n 3, 1) := by decide +kernel
theorem dX2_shares_3 : decode cX2_shares 3 = .ok (.iconst 0, 1) := by decide +kernel
theorem dX2_shares_4 : decode cX2_shares 4 = .ok (.istore 5, 2) := by decide +kernel
theorem dX2_shares_6 : decode cX2_shares 6 = .ok (.iload 5, 2) := by decide +kernel
theorem dX2_shares_8 : decode cX2_shares 8 = .ok (.iconst 5, 1) := by decide +kernel
theorem dX2_shares_9 : decode cX2_shares 9 = .ok (.if_icmp .ge 64, 3) := by decide +kernel
theorem dX2_shares_12 : decode cX2_shares 12 = .ok (.iload_n 2, 1) := by decide +kernel
theorem dX2_shares_13 : decode cX2_shares 13 = .ok (.i2d, 1) := by decide +kernel
theorem dX2_shares_14 : decode cX2_shares 14 = .ok (.aload_n 0, 1) := by decide +kernel
theorem dX2_shares_15 : decode cX2_shares 15 = .ok (.getfield 7, 3) := by decide +kernel
theorem dX2_shares_18 : decode cX2_shares 18 = .ok (.iload 5, 2) := by decide +kernel
theorem dX2_shares_20 : decode cX2_shares 20 = .ok (.iaload, 1) := by decide +kernel
theorem dX2_shares_21 : decode cX2_shares 21 = .ok (.i2d, 1) := by decide +kernel
theorem dX2_shares_22 : decode cX2_shares 22 = .ok (.dmul, 1) := by decide +kernel
theorem dX2_shares_23 : decode cX2_shares 23 = .ok (.ldc2_w 82, 3) := by decide +kernel
theorem dX2_shares_26 : decode cX2_shares 26 = .ok (.ddiv, 1) := by decide +kernel
theorem dX2_shares_27 : decode cX2_shares 27 = .ok (.aload_n 0, 1) := by decide +kernel
theorem dX2_shares_28 : decode cX2_shares 28 = .ok (.getfield 60, 3) := by decide +kernel
theorem dX2_shares_31 : decode cX2_shares 31 = .ok (.iload 5, 2) := by decide +kernel
theorem dX2_shares_33 : decode cX2_shares 33 = .ok (.daload, 1) := by decide +kernel
theorem dX2_shares_34 : decode cX2_shares 34 = .ok (.invokestatic 98, 3) := by decide +kernel
theorem dX2_shares_37 : decode cX2_shares 37 = .ok (.dstore 6, 2) := by decide +kernel
theorem dX2_shares_39 : decode cX2_shares 39 = .ok (.aload_n 0, 1) := by decide +kernel
theorem dX2_shares_40 : decode cX2_shares 40 = .ok (.getfield 45, 3) := by decide +kernel
theorem dX2_shares_43 : decode cX2_shares 43 = .ok (.iload_n 1, 1) := by decide +kernel
theorem dX2_shares_44 : decode cX2_shares 44 = .ok (.iload 5, 2) := by decide +kernel
theorem dX2_shares_46 : decode cX2_shares 46 = .ok (.iadd, 1) := by decide +kernel
theorem dX2_shares_47 : decode cX2_shares 47 = .ok (.dload 6, 2) := by decide +kernel
theorem dX2_shares_49 : decode cX2_shares 49 = .ok (.dastore, 1) := by decide +kernel
theorem dX2_shares_50 : decode cX2_shares 50 = .ok (.aload_n 0, 1) := by decide +kernel
theorem dX2_shares_51 : decode cX2_shares 51 = .ok (.getfield 60, 3) := by decide +kernel
theorem dX2_shares_54 : decode cX2_shares 54 = .ok (.iload 5, 2) := by decide +kernel
theorem dX2_shares_56 : decode cX2_shares 56 = .ok (.dup2, 1) := by decide +kernel
theorem dX2_shares_57 : decode cX2_shares 57 = .ok (.daload, 1) := by decide +kernel
theorem dX2_shares_58 : decode cX2_shares 58 = .ok (.dload 6, 2) := by decide +kernel
theorem dX2_shares_60 : decode cX2_shares 60 = .ok (.dsub, 1) := by decide +kernel
theorem dX2_shares_61 : decode cX2_shares 61 = .ok (.dastore, 1) := by decide +kernel
theorem dX2_shares_62 : decode cX2_shares 62 = .ok (.dload_n 3, 1) := by decide +kernel
theorem dX2_shares_63 : decode cX2_shares 63 = .ok (.dload 6, 2) := by decide +kernel
theorem dX2_shares_65 : decode cX2_shares 65 = .ok (.dsub, 1) := by decide +kernel
theorem dX2_shares_66 : decode cX2_shares 66 = .ok (.dstore_n 3, 1) := by decide +kernel
theorem dX2_shares_67 : decode cX2_shares 67 = .ok (.iinc 5 1, 3) := by decide +kernel
theorem dX2_shares_70 : decode cX2_shares 70 = .ok (.goto (-64), 3) := by decide +kernel
theorem dX2_shares_73 : decode cX2_shares 73 = .ok (.aload_n 0, 1) := by decide +kernel
theorem dX2_shares_74 : decode cX2_shares 74 = .ok (.aload_n 0, 1) := by decide +kernel
theorem dX2_shares_75 : decode cX2_shares 75 = .ok (.getfield 60, 3) := by decide +kernel
theorem dX2_shares_78 : decode cX2_shares 78 = .ok (.iconst 0, 1) := by decide +kernel
theorem dX2_shares_79 : decode cX2_shares 79 = .ok (.invokevirtual 89, 3) := by decide +kernel
theorem dX2_shares_82 : decode cX2_shares 82 = .ok (.dstore 5, 2) := by decide +kernel
theorem dX2_shares_84 : decode cX2_shares 84 = .ok (.dload 5, 2) := by decide +kernel
theorem dX2_shares_86 : decode cX2_shares 86 = .ok (.dconst 0, 1) := by decide +kernel
theorem dX2_shares_87 : decode cX2_shares 87 = .ok (.dcmp .l, 1) := by decide +kernel
theorem dX2_shares_88 : decode cX2_shares 88 = .ok (.ifCond .ne 5, 3) := by decide +kernel
theorem dX2_shares_91 : decode cX2_shares 91 = .ok (.dload_n 3, 1) := by decide +kernel
theorem dX2_shares_92 : decode cX2_shares 92 = .ok (.dreturn, 1) := by decide +kernel
theorem dX2_shares_93 : decode cX2_shares 93 = .ok (.dload 5, 2) := by decide +kernel
theorem dX2_shares_95 : decode cX2_shares 95 = .ok (.dload_n 3, 1) := by decide +kernel
theorem dX2_shares_96 : decode cX2_shares 96 = .ok (.dcmp .g, 1) := by decide +kernel
theorem dX2_shares_97 : decode cX2_shares 97 = .ok (.ifCond .gt 7, 3) := by decide +kernel
theorem dX2_shares_100 : decode cX2_shares 100 = .ok (.iconst 1, 1) := by decide +kernel
theorem dX2_shares_101 : decode cX2_shares 101 = .ok (.goto 4, 3) := by decide +kernel
theorem dX2_shares_104 : decode cX2_shares 104 = .ok (.iconst 0, 1) := by decide +kernel
theorem dX2_shares_105 : decode cX2_shares 105 = .ok (.istore 7, 2) := by decide +kernel
theorem dX2_shares_107 : decode cX2_shares 107 = .ok (.iconst 0, 1) := by decide +kernel
theorem dX2_shares_108 : decode cX2_shares 108 = .ok (.istore 8, 2) := by decide +kernel
theorem dX2_shares_110 : decode cX2_shares 110 = .ok (.iload 8, 2) := by decide +kernel
theorem dX2_shares_112 : decode cX2_shares 112 = .ok (.iconst 5, 1) := by decide +kernel
theorem dX2_shares_113 : decode cX2_shares 113 = .ok (.if_icmp .ge 64, 3) := by decide +kernel
theorem dX2_shares_116 : decode cX2_shares 116 = .ok (.iload 7, 2) := by decide +kernel
theorem dX2_shares_118 : decode cX2_shares 118 = .ok (.ifCond .eq 13, 3) := by decide +kernel
theorem dX2_shares_121 : decode cX2_shares 121 = .ok (.aload_n 0, 1) := by decide +kernel
theorem dX2_shares_122 : decode cX2_shares 122 = .ok (.getfield 60, 3) := by decide +kernel
theorem dX2_shares_125 : decode cX2_shares 125 = .ok (.iload 8, 2) := by decide +kernel
theorem dX2_shares_127 : decode cX2_shares 127 = .ok (.daload, 1) := by decide +kernel
theorem dX2_shares_128 : decode cX2_shares 128 = .ok (.goto 15, 3) := by decide +kernel
theorem dX2_shares_131 : decode cX2_shares 131 = .ok (.dload_n 3, 1) := by decide +kernel
theorem dX2_shares_132 : decode cX2_shares 132 = .ok (.aload_n 0, 1) := by decide +kernel
theorem dX2_shares_133 : decode cX2_shares 133 = .ok (.getfield 60, 3) := by decide +kernel
theorem dX2_shares_136 : decode cX2_shares 136 = .ok (.iload 8, 2) := by decide +kernel
theorem dX2_shares_138 : decode cX2_shares 138 = .ok (.daload, 1) := by decide +kernel
theorem dX2_shares_139 : decode cX2_shares 139 = .ok (.dmul, 1) := by decide +kernel
theorem dX2_shares_140 : decode cX2_shares 140 = .ok (.dload 5, 2) := by decide +kernel
theorem dX2_shares_142 : decode cX2_shares 142 = .ok (.ddiv, 1) := by decide +kernel
theorem dX2_shares_143 : decode cX2_shares 143 = .ok (.dstore 9, 2) := by decide +kernel
theorem dX2_shares_145 : decode cX2_shares 145 = .ok (.aload_n 0, 1) := by decide +kernel
theorem dX2_shares_146 : decode cX2_shares 146 = .ok (.getfield 45, 3) := by decide +kernel
theorem dX2_shares_149 : decode cX2_shares 149 = .ok (.iload_n 1, 1) := by decide +kernel
theorem dX2_shares_150 : decode cX2_shares 150 = .ok (.iload 8, 2) := by decide +kernel
theorem dX2_shares_152 : decode cX2_shares 152 = .ok (.iadd, 1) := by decide +kernel
theorem dX2_shares_153 : decode cX2_shares 153 = .ok (.dup2, 1) := by decide +kernel
theorem dX2_shares_154 : decode cX2_shares 154 = .ok (.daload, 1) := by decide +kernel
theorem dX2_shares_155 : decode cX2_shares 155 = .ok (.dload 9, 2) := by decide +kernel
theorem dX2_shares_157 : decode cX2_shares 157 = .ok (.dadd, 1) := by decide +kernel
theorem dX2_shares_158 : decode cX2_shares 158 = .ok (.dastore, 1) := by decide +kernel
theorem dX2_shares_159 : decode cX2_shares 159 = .ok (.aload_n 0, 1) := by decide +kernel
theorem dX2_shares_160 : decode cX2_shares 160 = .ok (.getfield 60, 3) := by decide +kernel
theorem dX2_shares_163 : decode cX2_shares 163 = .ok (.iload 8, 2) := by decide +kernel
theorem dX2_shares_165 : decode cX2_shares 165 = .ok (.dup2, 1) := by decide +kernel
theorem dX2_shares_166 : decode cX2_shares 166 = .ok (.daload, 1) := by decide +kernel
theorem dX2_shares_167 : decode cX2_shares 167 = .ok (.dload 9, 2) := by decide +kernel
theorem dX2_shares_169 : decode cX2_shares 169 = .ok (.dsub, 1) := by decide +kernel
theorem dX2_shares_170 : decode cX2_shares 170 = .ok (.dastore, 1) := by decide +kernel
theorem dX2_shares_171 : decode cX2_shares 171 = .ok (.iinc 8 1, 3) := by decide +kernel
theorem dX2_shares_174 : decode cX2_shares 174 = .ok (.goto (-64), 3) := by decide +kernel
theorem dX2_shares_177 : decode cX2_shares 177 = .ok (.iload 7, 2) := by decide +kernel
theorem dX2_shares_179 : decode cX2_shares 179 = .ok (.ifCond .eq 10, 3) := by decide +kernel
theorem dX2_shares_182 : decode cX2_shares 182 = .ok (.dload_n 3, 1) := by decide +kernel
theorem dX2_shares_183 : decode cX2_shares 183 = .ok (.dload 5, 2) := by decide +kernel
theorem dX2_shares_185 : decode cX2_shares 185 = .ok (.dsub, 1) := by decide +kernel
theorem dX2_shares_186 : decode cX2_shares 186 = .ok (.goto 4, 3) := by decide +kernel
theorem dX2_shares_189 : decode cX2_shares 189 = .ok (.dconst 0, 1) := by decide +kernel
theorem dX2_shares_190 : decode cX2_shares 190 = .ok (.dreturn, 1) := by decide +kernel
set_option maxRecDepth 20000 in
theorem ggX2_gives_X2_least : GoodIn wsX2_gives wsX2_least := goodIn_r _ [8] (by decide +kernel) (by decide +kernel)
set_option maxRecDepth 20000 in
theorem gX2_gives_X2_least : GoodIn wsX2_gives (va_wsS RX2 98 yX2_least wsX2_least) := goodIn_app (goodIn_of _ (by decide +kernel)) ggX2_gives_X2_least
theorem dX2_gives_0 : decode cX2_gives 0 = .ok (.aload_n 0, 1) := by decide +kernel
theorem dX2_gives_1 : decode cX2_gives 1 = .ok (.getfield 102, 3) := by decide +kernel
theorem dX2_gives_4 : decode cX2_gives 4 = .ok (.istore_n 2, 1) := by decide +kernel
theorem dX2_gives_5 : decode cX2_gives 5 = .ok (.iconst 0, 1) := by decide +kernel
theorem dX2_gives_6 : decode cX2_gives 6 = .ok (.istore_n 3, 1) := by decide +kernel
theorem dX2_gives_7 : decode cX2_gives 7 = .ok (.iload_n 3, 1) := by decide +kernel
theorem dX2_gives_8 : decode cX2_gives 8 = .ok (.iconst 5, 1) := by decide +kernel
theorem dX2_gives_9 : decode cX2_gives 9 = .ok (.if_icmp .ge 90, 3) := by decide +kernel
theorem dX2_gives_12 : decode cX2_gives 12 = .ok (.iload_n 2, 1) := by decide +kernel
theorem dX2_gives_13 : decode cX2_gives 13 = .ok (.iload_n 3, 1) := by decide +kernel
theorem dX2_gives_14 : decode cX2_gives 14 = .ok (.iadd, 1) := by decide +kernel
theorem dX2_gives_15 : decode cX2_gives 15 = .ok (.iconst 5, 1) := by decide +kernel
theorem dX2_gives_16 : decode cX2_gives 16 = .ok (.irem, 1) := by decide +kernel
theorem dX2_gives_17 : decode cX2_gives 17 = .ok (.istore 4, 2) := by decide +kernel
theorem dX2_gives_19 : decode cX2_gives 19 = .ok (.aload_n 0, 1) := by decide +kernel
theorem dX2_gives_20 : decode cX2_gives 20 = .ok (.getfield 60, 3) := by decide +kernel
theorem dX2_gives_23 : decode cX2_gives 23 = .ok (.iload 4, 2) := by decide +kernel
theorem dX2_gives_25 : decode cX2_gives 25 = .ok (.daload, 1) := by decide +kernel
theorem dX2_gives_26 : decode cX2_gives 26 = .ok (.aload_n 0, 1) := by decide +kernel
theorem dX2_gives_27 : decode cX2_gives 27 = .ok (.getfield 105, 3) := by decide +kernel
theorem dX2_gives_30 : decode cX2_gives 30 = .ok (.invokestatic 98, 3) := by decide +kernel
theorem dX2_gives_33 : decode cX2_gives 33 = .ok (.dstore 5, 2) := by decide +kernel
theorem dX2_gives_35 : decode cX2_gives 35 = .ok (.aload_n 0, 1) := by decide +kernel
theorem dX2_gives_36 : decode cX2_gives 36 = .ok (.getfield 48, 3) := by decide +kernel
theorem dX2_gives_39 : decode cX2_gives 39 = .ok (.iload_n 1, 1) := by decide +kernel
theorem dX2_gives_40 : decode cX2_gives 40 = .ok (.iload 4, 2) := by decide +kernel
theorem dX2_gives_42 : decode cX2_gives 42 = .ok (.iadd, 1) := by decide +kernel
theorem dX2_gives_43 : decode cX2_gives 43 = .ok (.dload 5, 2) := by decide +kernel
theorem dX2_gives_45 : decode cX2_gives 45 = .ok (.dastore, 1) := by decide +kernel
theorem dX2_gives_46 : decode cX2_gives 46 = .ok (.aload_n 0, 1) := by decide +kernel
theorem dX2_gives_47 : decode cX2_gives 47 = .ok (.getfield 60, 3) := by decide +kernel
theorem dX2_gives_50 : decode cX2_gives 50 = .ok (.iload 4, 2) := by decide +kernel
theorem dX2_gives_52 : decode cX2_gives 52 = .ok (.dup2, 1) := by decide +kernel
theorem dX2_gives_53 : decode cX2_gives 53 = .ok (.daload, 1) := by decide +kernel
theorem dX2_gives_54 : decode cX2_gives 54 = .ok (.dload 5, 2) := by decide +kernel
theorem dX2_gives_56 : decode cX2_gives 56 = .ok (.dsub, 1) := by decide +kernel
theorem dX2_gives_57 : decode cX2_gives 57 = .ok (.dastore, 1) := by decide +kernel
theorem dX2_gives_58 : decode cX2_gives 58 = .ok (.aload_n 0, 1) := by decide +kernel
theorem dX2_gives_59 : decode cX2_gives 59 = .ok (.dup, 1) := by decide +kernel
theorem dX2_gives_60 : decode cX2_gives 60 = .ok (.getfield 105, 3) := by decide +kernel
theorem dX2_gives_63 : decode cX2_gives 63 = .ok (.dload 5, 2) := by decide +kernel
theorem dX2_gives_65 : decode cX2_gives 65 = .ok (.dsub, 1) := by decide +kernel
theorem dX2_gives_66 : decode cX2_gives 66 = .ok (.putfield 105, 3) := by decide +kernel
theorem dX2_gives_69 : decode cX2_gives 69 = .ok (.aload_n 0, 1) := by decide +kernel
theorem dX2_gives_70 : decode cX2_gives 70 = .ok (.dload 5, 2) := by decide +kernel
theorem dX2_gives_72 : decode cX2_gives 72 = .ok (.dconst 0, 1) := by decide +kernel
theorem dX2_gives_73 : decode cX2_gives 73 = .ok (.dcmp .l, 1) := by decide +kernel
theorem dX2_gives_74 : decode cX2_gives 74 = .ok (.ifCond .le 12, 3) := by decide +kernel
theorem dX2_gives_77 : decode cX2_gives 77 = .ok (.iload 4, 2) := by decide +kernel
theorem dX2_gives_79 : decode cX2_gives 79 = .ok (.iconst 1, 1) := by decide +kernel
theorem dX2_gives_80 : decode cX2_gives 80 = .ok (.iadd, 1) := by decide +kernel
theorem dX2_gives_81 : decode cX2_gives 81 = .ok (.iconst 5, 1) := by decide +kernel
theorem dX2_gives_82 : decode cX2_gives 82 = .ok (.irem, 1) := by decide +kernel
theorem dX2_gives_83 : decode cX2_gives 83 = .ok (.goto 7, 3) := by decide +kernel
theorem dX2_gives_86 : decode cX2_gives 86 = .ok (.aload_n 0, 1) := by decide +kernel
theorem dX2_gives_87 : decode cX2_gives 87 = .ok (.getfield 102, 3) := by decide +kernel
theorem dX2_gives_90 : decode cX2_gives 90 = .ok (.putfield 102, 3) := by decide +kernel
theorem dX2_gives_93 : decode cX2_gives 93 = .ok (.iinc 3 1, 3) := by decide +kernel
theorem dX2_gives_96 : decode cX2_gives 96 = .ok (.goto (-89), 3) := by decide +kernel
theorem dX2_gives_99 : decode cX2_gives 99 = .ok (.return_, 1) := by decide +kernel
theorem dX2_pays_0 : decode cX2_pays 0 = .ok (.iconst 0, 1) := by decide +kernel
theorem dX2_pays_1 : decode cX2_pays 1 = .ok (.istore_n 2, 1) := by decide +kernel
theorem dX2_pays_2 : decode cX2_pays 2 = .ok (.iload_n 2, 1) := by decide +kernel
theorem dX2_pays_3 : decode cX2_pays 3 = .ok (.iconst 5, 1) := by decide +kernel
theorem dX2_pays_4 : decode cX2_pays 4 = .ok (.if_icmp .ge 43, 3) := by decide +kernel
theorem dX2_pays_7 : decode cX2_pays 7 = .ok (.aload_n 0, 1) := by decide +kernel
theorem dX2_pays_8 : decode cX2_pays 8 = .ok (.getfield 51, 3) := by decide +kernel
theorem dX2_pays_11 : decode cX2_pays 11 = .ok (.iload_n 1, 1) := by decide +kernel
theorem dX2_pays_12 : decode cX2_pays 12 = .ok (.iload_n 2, 1) := by decide +kernel
theorem dX2_pays_13 : decode cX2_pays 13 = .ok (.iadd, 1) := by decide +kernel
theorem dX2_pays_14 : decode cX2_pays 14 = .ok (.aload_n 0, 1) := by decide +kernel
theorem dX2_pays_15 : decode cX2_pays 15 = .ok (.getfield 60, 3) := by decide +kernel
theorem dX2_pays_18 : decode cX2_pays 18 = .ok (.iload_n 2, 1) := by decide +kernel
theorem dX2_pays_19 : decode cX2_pays 19 = .ok (.daload, 1) := by decide +kernel
theorem dX2_pays_20 : decode cX2_pays 20 = .ok (.dastore, 1) := by decide +kernel
theorem dX2_pays_21 : decode cX2_pays 21 = .ok (.aload_n 0, 1) := by decide +kernel
theorem dX2_pays_22 : decode cX2_pays 22 = .ok (.getfield 20, 3) := by decide +kernel
theorem dX2_pays_25 : decode cX2_pays 25 = .ok (.iload_n 2, 1) := by decide +kernel
theorem dX2_pays_26 : decode cX2_pays 26 = .ok (.dup2, 1) := by decide +kernel
theorem dX2_pays_27 : decode cX2_pays 27 = .ok (.daload, 1) := by decide +kernel
theorem dX2_pays_28 : decode cX2_pays 28 = .ok (.aload_n 0, 1) := by decide +kernel
theorem dX2_pays_29 : decode cX2_pays 29 = .ok (.getfield 60, 3) := by decide +kernel
theorem dX2_pays_32 : decode cX2_pays 32 = .ok (.iload_n 2, 1) := by decide +kernel
theorem dX2_pays_33 : decode cX2_pays 33 = .ok (.daload, 1) := by decide +kernel
theorem dX2_pays_34 : decode cX2_pays 34 = .ok (.aload_n 0, 1) := by decide +kernel
theorem dX2_pays_35 : decode cX2_pays 35 = .ok (.getfield 26, 3) := by decide +kernel
theorem dX2_pays_38 : decode cX2_pays 38 = .ok (.dmul, 1) := by decide +kernel
theorem dX2_pays_39 : decode cX2_pays 39 = .ok (.dadd, 1) := by decide +kernel
theorem dX2_pays_40 : decode cX2_pays 40 = .ok (.dastore, 1) := by decide +kernel
theorem dX2_pays_41 : decode cX2_pays 41 = .ok (.iinc 2 1, 3) := by decide +kernel
theorem dX2_pays_44 : decode cX2_pays 44 = .ok (.goto (-42), 3) := by decide +kernel
theorem dX2_pays_47 : decode cX2_pays 47 = .ok (.iconst 0, 1) := by decide +kernel
theorem dX2_pays_48 : decode cX2_pays 48 = .ok (.istore_n 2, 1) := by decide +kernel
theorem dX2_pays_49 : decode cX2_pays 49 = .ok (.iload_n 2, 1) := by decide +kernel
theorem dX2_pays_50 : decode cX2_pays 50 = .ok (.iconst 5, 1) := by decide +kernel
theorem dX2_pays_51 : decode cX2_pays 51 = .ok (.if_icmp .ge 36, 3) := by decide +kernel
theorem dX2_pays_54 : decode cX2_pays 54 = .ok (.aload_n 0, 1) := by decide +kernel
theorem dX2_pays_55 : decode cX2_pays 55 = .ok (.getfield 20, 3) := by decide +kernel
theorem dX2_pays_58 : decode cX2_pays 58 = .ok (.iload_n 2, 1) := by decide +kernel
theorem dX2_pays_59 : decode cX2_pays 59 = .ok (.dup2, 1) := by decide +kernel
theorem dX2_pays_60 : decode cX2_pays 60 = .ok (.daload, 1) := by decide +kernel
theorem dX2_pays_61 : decode cX2_pays 61 = .ok (.aload_n 0, 1) := by decide +kernel
theorem dX2_pays_62 : decode cX2_pays 62 = .ok (.getfield 54, 3) := by decide +kernel
theorem dX2_pays_65 : decode cX2_pays 65 = .ok (.aload_n 0, 1) := by decide +kernel
theorem dX2_pays_66 : decode cX2_pays 66 = .ok (.getfield 84, 3) := by decide +kernel
theorem dX2_pays_69 : decode cX2_pays 69 = .ok (.daload, 1) := by decide +kernel
theorem dX2_pays_70 : decode cX2_pays 70 = .ok (.aload_n 0, 1) := by decide +kernel
theorem dX2_pays_71 : decode cX2_pays 71 = .ok (.getfield 26, 3) := by decide +kernel
theorem dX2_pays_74 : decode cX2_pays 74 = .ok (.dmul, 1) := by decide +kernel
theorem dX2_pays_75 : decode cX2_pays 75 = .ok (.ldc2_w 108, 3) := by decide +kernel
theorem dX2_pays_78 : decode cX2_pays 78 = .ok (.ddiv, 1) := by decide +kernel
theorem dX2_pays_79 : decode cX2_pays 79 = .ok (.dsub, 1) := by decide +kernel
theorem dX2_pays_80 : decode cX2_pays 80 = .ok (.dastore, 1) := by decide +kernel
theorem dX2_pays_81 : decode cX2_pays 81 = .ok (.iinc 2 1, 3) := by decide +kernel
theorem dX2_pays_84 : decode cX2_pays 84 = .ok (.goto (-35), 3) := by decide +kernel
theorem dX2_pays_87 : decode cX2_pays 87 = .ok (.return_, 1) := by decide +kernel
set_option maxRecDepth 20000 in
theorem ggX2_close_X2_in : GoodIn wsX2_close wsX2_in := goodIn_r _ [16] (by decide +kernel) (by decide +kernel)
set_option maxRecDepth 20000 in
theorem gX2_close_X2_in : GoodIn wsX2_close (va_wsS RX2 67 yX2_in wsX2_in) := goodIn_app (goodIn_of _ (by decide +kernel)) ggX2_close_X2_in
set_option maxRecDepth 20000 in
theorem ggX2_close_X2_holds : GoodIn wsX2_close wsX2_holds := goodIn_r _ [20, 21, 65, 66, 67, 68, 69, 70, 71, 72, 73, 74, 75, 76, 77, 78, 79, 80, 81, 82, 83, 84] (by decide +kernel) (by decide +kernel)
set_option maxRecDepth 20000 in
theorem gX2_close_X2_holds : GoodIn wsX2_close (wsV RX2 79 RX2 yX2_holds wsX2_holds) := goodIn_app (goodIn_of _ (by decide +kernel)) ggX2_close_X2_holds
set_option maxRecDepth 20000 in
theorem ggX2_close_X2_guess : GoodIn wsX2_close wsX2_guess := goodIn_r _ [25, 1, 2, 4, 26, 65, 66, 67, 68, 69, 70, 71, 72, 73, 74, 75, 76, 77, 78, 79, 80, 81, 82, 83, 84] (by decide +kernel) (by decide +kernel)
set_option maxRecDepth 20000 in
theorem gX2_close_X2_guess : GoodIn wsX2_close (wsV RX2 110 RX2 yX2_guess wsX2_guess) := goodIn_app (goodIn_of _ (by decide +kernel)) ggX2_close_X2_guess
set_option maxRecDepth 20000 in
theorem ggX2_close_X2_shed : GoodIn wsX2_close wsX2_shed := goodIn_r _ [30, 6, 31, 32, 33, 34, 35, 15, 36, 37, 38, 39, 40, 41, 65, 66, 67, 68, 69, 70, 71, 72, 73, 74, 75, 76, 77, 78, 79, 80, 81, 82, 83, 84] (by decide +kernel) (by decide +kernel)
set_option maxRecDepth 20000 in
theorem gX2_close_X2_shed : GoodIn wsX2_close (wsV RX2 114 RX2 yX2_shed wsX2_shed) := goodIn_app (goodIn_of _ (by decide +kernel)) ggX2_close_X2_shed
set_option maxRecDepth 20000 in
theorem ggX2_close_X2_shares : GoodIn wsX2_close wsX2_shares := goodIn_r _ [45, 46, 47, 7, 48, 49, 50, 15, 51, 33, 34, 35, 36, 65, 66, 67, 68, 69, 70, 71, 72, 73, 74, 75, 76, 77, 78, 79, 80, 81, 82, 83, 84] (by decide +kernel) (by decide +kernel)
set_option maxRecDepth 20000 in
theorem gX2_close_X2_shares : GoodIn wsX2_close (wsV RX2 117 RX2 yX2_shares wsX2_shares) := goodIn_app (goodIn_of _ (by decide +kernel)) ggX2_close_X2_shares
set_option maxRecDepth 20000 in
theorem ggX2_close_X2_gives : GoodIn wsX2_close wsX2_gives := goodIn_r _ [55, 56, 7, 9, 57, 49, 50, 15, 51, 65, 66, 67, 68, 69, 70, 71, 72, 73, 74, 75, 76, 77, 78, 79, 80, 81, 82, 83, 84] (by decide +kernel) (by decide +kernel)
set_option maxRecDepth 20000 in
theorem gX2_close_X2_gives : GoodIn wsX2_close (wsV RX2 122 RX2 yX2_gives wsX2_gives) := goodIn_app (goodIn_of _ (by decide +kernel)) ggX2_close_X2_gives
set_option maxRecDepth 20000 in
theorem ggX2_close_X2_pays : GoodIn wsX2_close wsX2_pays := goodIn_r _ [61, 62, 7, 63, 12, 10, 1, 64, 65, 66, 67, 68, 69, 70, 71, 72, 73, 74, 75, 76, 77, 78, 79, 80, 81, 82, 83, 84] (by decide +kernel) (by decide +kernel)
set_option maxRecDepth 20000 in
theorem gX2_close_X2_pays : GoodIn wsX2_close (wsV RX2 126 RX2 yX2_pays wsX2_pays) := goodIn_app (goodIn_of _ (by decide +kernel)) ggX2_close_X2_pays
theorem dX2_close_0 : decode cX2_close 0 = .ok (.aload_n 0, 1) := by decide +kernel
theorem dX2_close_1 : decode cX2_close 1 = .ok (.iload_n 1, 1) := by decide +kernel
theorem dX2_close_2 : decode cX2_close 2 = .ok (.iconst 0, 1) := by decide +kernel
theorem dX2_close_3 : decode cX2_close 3 = .ok (.bipush 100, 2) := by decide +kernel
theorem dX2_close_5 : decode cX2_close 5 = .ok (.invokestatic 67, 3) := by decide +kernel
theorem dX2_close_8 : decode cX2_close 8 = .ok (.ifCond .ne 7, 3) := by decide +kernel
theorem dX2_close_11 : decode cX2_close 11 = .ok (.iconst 1, 1) := by decide +kernel
theorem dX2_close_12 : decode cX2_close 12 = .ok (.goto 17, 3) := by decide +kernel
theorem dX2_close_15 : decode cX2_close 15 = .ok (.aload_n 0, 1) := by decide +kernel
theorem dX2_close_16 : decode cX2_close 16 = .ok (.getfield 84, 3) := by decide +kernel
theorem dX2_close_19 : decode cX2_close 19 = .ok (.bipush 60, 2) := by decide +kernel
theorem dX2_close_21 : decode cX2_close 21 = .ok (.if_icmp .ne 7, 3) := by decide +kernel
theorem dX2_close_24 : decode cX2_close 24 = .ok (.iconst 2, 1) := by decide +kernel
theorem dX2_close_25 : decode cX2_close 25 = .ok (.goto 4, 3) := by decide +kernel
theorem dX2_close_28 : decode cX2_close 28 = .ok (.iconst 0, 1) := by decide +kernel
theorem dX2_close_29 : decode cX2_close 29 = .ok (.invokevirtual 79, 3) := by decide +kernel
theorem dX2_close_32 : decode cX2_close 32 = .ok (.ifCond .ne 5, 3) := by decide +kernel
theorem dX2_close_35 : decode cX2_close 35 = .ok (.iconst 0, 1) := by decide +kernel
theorem dX2_close_36 : decode cX2_close 36 = .ok (.ireturn, 1) := by decide +kernel
theorem dX2_close_37 : decode cX2_close 37 = .ok (.iconst 5, 1) := by decide +kernel
theorem dX2_close_38 : decode cX2_close 38 = .ok (.aload_n 0, 1) := by decide +kernel
theorem dX2_close_39 : decode cX2_close 39 = .ok (.getfield 84, 3) := by decide +kernel
theorem dX2_close_42 : decode cX2_close 42 = .ok (.imul, 1) := by decide +kernel
theorem dX2_close_43 : decode cX2_close 43 = .ok (.istore_n 2, 1) := by decide +kernel
theorem dX2_close_44 : decode cX2_close 44 = .ok (.iconst 0, 1) := by decide +kernel
theorem dX2_close_45 : decode cX2_close 45 = .ok (.istore_n 3, 1) := by decide +kernel
theorem dX2_close_46 : decode cX2_close 46 = .ok (.iload_n 3, 1) := by decide +kernel
theorem dX2_close_47 : decode cX2_close 47 = .ok (.iconst 5, 1) := by decide +kernel
theorem dX2_close_48 : decode cX2_close 48 = .ok (.if_icmp .ge 78, 3) := by decide +kernel
theorem dX2_close_51 : decode cX2_close 51 = .ok (.aload_n 0, 1) := by decide +kernel
theorem dX2_close_52 : decode cX2_close 52 = .ok (.getfield 36, 3) := by decide +kernel
theorem dX2_close_55 : decode cX2_close 55 = .ok (.iload_n 2, 1) := by decide +kernel
theorem dX2_close_56 : decode cX2_close 56 = .ok (.iload_n 3, 1) := by decide +kernel
theorem dX2_close_57 : decode cX2_close 57 = .ok (.iadd, 1) := by decide +kernel
theorem dX2_close_58 : decode cX2_close 58 = .ok (.aload_n 0, 1) := by decide +kernel
theorem dX2_close_59 : decode cX2_close 59 = .ok (.getfield 30, 3) := by decide +kernel
theorem dX2_close_62 : decode cX2_close 62 = .ok (.iload_n 3, 1) := by decide +kernel
theorem dX2_close_63 : decode cX2_close 63 = .ok (.baload, 1) := by decide +kernel
theorem dX2_close_64 : decode cX2_close 64 = .ok (.bastore, 1) := by decide +kernel
theorem dX2_close_65 : decode cX2_close 65 = .ok (.aload_n 0, 1) := by decide +kernel
theorem dX2_close_66 : decode cX2_close 66 = .ok (.getfield 39, 3) := by decide +kernel
theorem dX2_close_69 : decode cX2_close 69 = .ok (.iload_n 2, 1) := by decide +kernel
theorem dX2_close_70 : decode cX2_close 70 = .ok (.iload_n 3, 1) := by decide +kernel
theorem dX2_close_71 : decode cX2_close 71 = .ok (.iadd, 1) := by decide +kernel
theorem dX2_close_72 : decode cX2_close 72 = .ok (.aload_n 0, 1) := by decide +kernel
theorem dX2_close_73 : decode cX2_close 73 = .ok (.getfield 30, 3) := by decide +kernel
theorem dX2_close_76 : decode cX2_close 76 = .ok (.iload_n 3, 1) := by decide +kernel
theorem dX2_close_77 : decode cX2_close 77 = .ok (.baload, 1) := by decide +kernel
theorem dX2_close_78 : decode cX2_close 78 = .ok (.ifCond .eq 13, 3) := by decide +kernel
theorem dX2_close_81 : decode cX2_close 81 = .ok (.aload_n 0, 1) := by decide +kernel
theorem dX2_close_82 : decode cX2_close 82 = .ok (.getfield 33, 3) := by decide +kernel
theorem dX2_close_85 : decode cX2_close 85 = .ok (.iload_n 3, 1) := by decide +kernel
theorem dX2_close_86 : decode cX2_close 86 = .ok (.iaload, 1) := by decide +kernel
theorem dX2_close_87 : decode cX2_close 87 = .ok (.i2d, 1) := by decide +kernel
theorem dX2_close_88 : decode cX2_close 88 = .ok (.goto 8, 3) := by decide +kernel
theorem dX2_close_91 : decode cX2_close 91 = .ok (.aload_n 0, 1) := by decide +kernel
theorem dX2_close_92 : decode cX2_close 92 = .ok (.iload_n 3, 1) := by decide +kernel
theorem dX2_close_93 : decode cX2_close 93 = .ok (.invokevirtual 110, 3) := by decide +kernel
theorem dX2_close_96 : decode cX2_close 96 = .ok (.dastore, 1) := by decide +kernel
theorem dX2_close_97 : decode cX2_close 97 = .ok (.aload_n 0, 1) := by decide +kernel
theorem dX2_close_98 : decode cX2_close 98 = .ok (.getfield 42, 3) := by decide +kernel
theorem dX2_close_101 : decode cX2_close 101 = .ok (.iload_n 2, 1) := by decide +kernel
theorem dX2_close_102 : decode cX2_close 102 = .ok (.iload_n 3, 1) := by decide +kernel
theorem dX2_close_103 : decode cX2_close 103 = .ok (.iadd, 1) := by decide +kernel
theorem dX2_close_104 : decode cX2_close 104 = .ok (.aload_n 0, 1) := by decide +kernel
theorem dX2_close_105 : decode cX2_close 105 = .ok (.getfield 39, 3) := by decide +kernel
theorem dX2_close_108 : decode cX2_close 108 = .ok (.iload_n 2, 1) := by decide +kernel
theorem dX2_close_109 : decode cX2_close 109 = .ok (.iload_n 3, 1) := by decide +kernel
theorem dX2_close_110 : decode cX2_close 110 = .ok (.iadd, 1) := by decide +kernel
theorem dX2_close_111 : decode cX2_close 111 = .ok (.daload, 1) := by decide +kernel
theorem dX2_close_112 : decode cX2_close 112 = .ok (.dastore, 1) := by decide +kernel
theorem dX2_close_113 : decode cX2_close 113 = .ok (.aload_n 0, 1) := by decide +kernel
theorem dX2_close_114 : decode cX2_close 114 = .ok (.getfield 30, 3) := by decide +kernel
theorem dX2_close_117 : decode cX2_close 117 = .ok (.iload_n 3, 1) := by decide +kernel
theorem dX2_close_118 : decode cX2_close 118 = .ok (.iconst 0, 1) := by decide +kernel
theorem dX2_close_119 : decode cX2_close 119 = .ok (.bastore, 1) := by decide +kernel
theorem dX2_close_120 : decode cX2_close 120 = .ok (.iinc 3 1, 3) := by decide +kernel
theorem dX2_close_123 : decode cX2_close 123 = .ok (.goto (-77), 3) := by decide +kernel
theorem dX2_close_126 : decode cX2_close 126 = .ok (.aload_n 0, 1) := by decide +kernel
theorem dX2_close_127 : decode cX2_close 127 = .ok (.iload_n 2, 1) := by decide +kernel
theorem dX2_close_128 : decode cX2_close 128 = .ok (.invokevirtual 114, 3) := by decide +kernel
theorem dX2_close_131 : decode cX2_close 131 = .ok (.istore_n 3, 1) := by decide +kernel
theorem dX2_close_132 : decode cX2_close 132 = .ok (.iconst 0, 1) := by decide +kernel
theorem dX2_close_133 : decode cX2_close 133 = .ok (.istore 4, 2) := by decide +kernel
theorem dX2_close_135 : decode cX2_close 135 = .ok (.iload 4, 2) := by decide +kernel
theorem dX2_close_137 : decode cX2_close 137 = .ok (.iconst 5, 1) := by decide +kernel
theorem dX2_close_138 : decode cX2_close 138 = .ok (.if_icmp .ge 25, 3) := by decide +kernel
theorem dX2_close_141 : decode cX2_close 141 = .ok (.aload_n 0, 1) := by decide +kernel
theorem dX2_close_142 : decode cX2_close 142 = .ok (.getfield 60, 3) := by decide +kernel
theorem dX2_close_145 : decode cX2_close 145 = .ok (.iload 4, 2) := by decide +kernel
theorem dX2_close_147 : decode cX2_close 147 = .ok (.aload_n 0, 1) := by decide +kernel
theorem dX2_close_148 : decode cX2_close 148 = .ok (.getfield 42, 3) := by decide +kernel
theorem dX2_close_151 : decode cX2_close 151 = .ok (.iload_n 2, 1) := by decide +kernel
theorem dX2_close_152 : decode cX2_close 152 = .ok (.iload 4, 2) := by decide +kernel
theorem dX2_close_154 : decode cX2_close 154 = .ok (.iadd, 1) := by decide +kernel
theorem dX2_close_155 : decode cX2_close 155 = .ok (.daload, 1) := by decide +kernel
theorem dX2_close_156 : decode cX2_close 156 = .ok (.dastore, 1) := by decide +kernel
theorem dX2_close_157 : decode cX2_close 157 = .ok (.iinc 4 1, 3) := by decide +kernel
theorem dX2_close_160 : decode cX2_close 160 = .ok (.goto (-25), 3) := by decide +kernel
theorem dX2_close_163 : decode cX2_close 163 = .ok (.aload_n 0, 1) := by decide +kernel
theorem dX2_close_164 : decode cX2_close 164 = .ok (.iload_n 2, 1) := by decide +kernel
theorem dX2_close_165 : decode cX2_close 165 = .ok (.iload_n 1, 1) := by decide +kernel
theorem dX2_close_166 : decode cX2_close 166 = .ok (.invokevirtual 117, 3) := by decide +kernel
theorem dX2_close_169 : decode cX2_close 169 = .ok (.dstore 4, 2) := by decide +kernel
theorem dX2_close_171 : decode cX2_close 171 = .ok (.ldc2_w 120, 3) := by decide +kernel
theorem dX2_close_174 : decode cX2_close 174 = .ok (.aload_n 0, 1) := by decide +kernel
theorem dX2_close_175 : decode cX2_close 175 = .ok (.getfield 105, 3) := by decide +kernel
theorem dX2_close_178 : decode cX2_close 178 = .ok (.dsub, 1) := by decide +kernel
theorem dX2_close_179 : decode cX2_close 179 = .ok (.dstore 6, 2) := by decide +kernel
theorem dX2_close_181 : decode cX2_close 181 = .ok (.aload_n 0, 1) := by decide +kernel
theorem dX2_close_182 : decode cX2_close 182 = .ok (.getfield 54, 3) := by decide +kernel
theorem dX2_close_185 : decode cX2_close 185 = .ok (.aload_n 0, 1) := by decide +kernel
theorem dX2_close_186 : decode cX2_close 186 = .ok (.getfield 84, 3) := by decide +kernel
theorem dX2_close_189 : decode cX2_close 189 = .ok (.dload 4, 2) := by decide +kernel
theorem dX2_close_191 : decode cX2_close 191 = .ok (.dload 6, 2) := by decide +kernel
theorem dX2_close_193 : decode cX2_close 193 = .ok (.dcmp .g, 1) := by decide +kernel
theorem dX2_close_194 : decode cX2_close 194 = .ok (.ifCond .ge 7, 3) := by decide +kernel
theorem dX2_close_197 : decode cX2_close 197 = .ok (.dconst 0, 1) := by decide +kernel
theorem dX2_close_198 : decode cX2_close 198 = .ok (.goto 8, 3) := by decide +kernel
theorem dX2_close_201 : decode cX2_close 201 = .ok (.dload 4, 2) := by decide +kernel
theorem dX2_close_203 : decode cX2_close 203 = .ok (.dload 6, 2) := by decide +kernel
theorem dX2_close_205 : decode cX2_close 205 = .ok (.dsub, 1) := by decide +kernel
theorem dX2_close_206 : decode cX2_close 206 = .ok (.dastore, 1) := by decide +kernel
theorem dX2_close_207 : decode cX2_close 207 = .ok (.aload_n 0, 1) := by decide +kernel
theorem dX2_close_208 : decode cX2_close 208 = .ok (.dload 4, 2) := by decide +kernel
theorem dX2_close_210 : decode cX2_close 210 = .ok (.dload 6, 2) := by decide +kernel
theorem dX2_close_212 : decode cX2_close 212 = .ok (.dcmp .g, 1) := by decide +kernel
theorem dX2_close_213 : decode cX2_close 213 = .ok (.ifCond .ge 13, 3) := by decide +kernel
theorem dX2_close_216 : decode cX2_close 216 = .ok (.aload_n 0, 1) := by decide +kernel
theorem dX2_close_217 : decode cX2_close 217 = .ok (.getfield 105, 3) := by decide +kernel
theorem dX2_close_220 : decode cX2_close 220 = .ok (.dload 4, 2) := by decide +kernel
theorem dX2_close_222 : decode cX2_close 222 = .ok (.dadd, 1) := by decide +kernel
theorem dX2_close_223 : decode cX2_close 223 = .ok (.goto 6, 3) := by decide +kernel
theorem dX2_close_226 : decode cX2_close 226 = .ok (.ldc2_w 120, 3) := by decide +kernel
theorem dX2_close_229 : decode cX2_close 229 = .ok (.putfield 105, 3) := by decide +kernel
theorem dX2_close_232 : decode cX2_close 232 = .ok (.dload 4, 2) := by decide +kernel
theorem dX2_close_234 : decode cX2_close 234 = .ok (.dconst 0, 1) := by decide +kernel
theorem dX2_close_235 : decode cX2_close 235 = .ok (.dcmp .l, 1) := by decide +kernel
theorem dX2_close_236 : decode cX2_close 236 = .ok (.ifCond .ne 8, 3) := by decide +kernel
theorem dX2_close_239 : decode cX2_close 239 = .ok (.aload_n 0, 1) := by decide +kernel
theorem dX2_close_240 : decode cX2_close 240 = .ok (.iload_n 2, 1) := by decide +kernel
theorem dX2_close_241 : decode cX2_close 241 = .ok (.invokevirtual 122, 3) := by decide +kernel
theorem dX2_close_244 : decode cX2_close 244 = .ok (.aload_n 0, 1) := by decide +kernel
theorem dX2_close_245 : decode cX2_close 245 = .ok (.iload_n 2, 1) := by decide +kernel
theorem dX2_close_246 : decode cX2_close 246 = .ok (.invokevirtual 126, 3) := by decide +kernel
theorem dX2_close_249 : decode cX2_close 249 = .ok (.aload_n 0, 1) := by decide +kernel
theorem dX2_close_250 : decode cX2_close 250 = .ok (.getfield 57, 3) := by decide +kernel
theorem dX2_close_253 : decode cX2_close 253 = .ok (.aload_n 0, 1) := by decide +kernel
theorem dX2_close_254 : decode cX2_close 254 = .ok (.getfield 84, 3) := by decide +kernel
theorem dX2_close_257 : decode cX2_close 257 = .ok (.aload_n 0, 1) := by decide +kernel
theorem dX2_close_258 : decode cX2_close 258 = .ok (.getfield 26, 3) := by decide +kernel
theorem dX2_close_261 : decode cX2_close 261 = .ok (.dastore, 1) := by decide +kernel
theorem dX2_close_262 : decode cX2_close 262 = .ok (.aload_n 0, 1) := by decide +kernel
theorem dX2_close_263 : decode cX2_close 263 = .ok (.dup, 1) := by decide +kernel
theorem dX2_close_264 : decode cX2_close 264 = .ok (.getfield 84, 3) := by decide +kernel
theorem dX2_close_267 : decode cX2_close 267 = .ok (.iconst 1, 1) := by decide +kernel
theorem dX2_close_268 : decode cX2_close 268 = .ok (.iadd, 1) := by decide +kernel
theorem dX2_close_269 : decode cX2_close 269 = .ok (.putfield 84, 3) := by decide +kernel
theorem dX2_close_272 : decode cX2_close 272 = .ok (.iload_n 3, 1) := by decide +kernel
theorem dX2_close_273 : decode cX2_close 273 = .ok (.ireturn, 1) := by decide +kernel
theorem dX2_closed_0 : decode cX2_closed 0 = .ok (.aload_n 0, 1) := by decide +kernel
theorem dX2_closed_1 : decode cX2_closed 1 = .ok (.iconst 0, 1) := by decide +kernel
theorem dX2_closed_2 : decode cX2_closed 2 = .ok (.putfield 63, 3) := by decide +kernel
theorem dX2_closed_5 : decode cX2_closed 5 = .ok (.aload_n 0, 1) := by decide +kernel
theorem dX2_closed_6 : decode cX2_closed 6 = .ok (.getfield 84, 3) := by decide +kernel
theorem dX2_closed_9 : decode cX2_closed 9 = .ok (.ireturn, 1) := by decide +kernel
set_option maxRecDepth 20000 in
theorem ggX2_isQuarter_X2_in : GoodIn wsX2_isQuarter wsX2_in := goodIn_r _ [5] (by decide +kernel) (by decide +kernel)
set_option maxRecDepth 20000 in
theorem gX2_isQuarter_X2_in : GoodIn wsX2_isQuarter (va_wsS RX2 67 yX2_in wsX2_in) := goodIn_app (goodIn_of _ (by decide +kernel)) ggX2_isQuarter_X2_in
theorem dX2_isQuarter_0 : decode cX2_isQuarter 0 = .ok (.iload_n 1, 1) := by decide +kernel
theorem dX2_isQuarter_1 : decode cX2_isQuarter 1 = .ok (.iconst 0, 1) := by decide +kernel
theorem dX2_isQuarter_2 : decode cX2_isQuarter 2 = .ok (.aload_n 0, 1) := by decide +kernel
theorem dX2_isQuarter_3 : decode cX2_isQuarter 3 = .ok (.getfield 84, 3) := by decide +kernel
theorem dX2_isQuarter_6 : decode cX2_isQuarter 6 = .ok (.iconst 1, 1) := by decide +kernel
theorem dX2_isQuarter_7 : decode cX2_isQuarter 7 = .ok (.isub, 1) := by decide +kernel
theorem dX2_isQuarter_8 : decode cX2_isQuarter 8 = .ok (.invokestatic 67, 3) := by decide +kernel
theorem dX2_isQuarter_11 : decode cX2_isQuarter 11 = .ok (.ireturn, 1) := by decide +kernel
set_option maxRecDepth 20000 in
theorem ggX2_errorOfReplace_X2_isOwner : GoodIn wsX2_errorOfReplace wsX2_isOwner := goodIn_r _ [5, 6, 7, 4, 8] (by decide +kernel) (by decide +kernel)
set_option maxRecDepth 20000 in
theorem gX2_errorOfReplace_X2_isOwner : GoodIn wsX2_errorOfReplace (va_wsS RX2 71 yX2_isOwner wsX2_isOwner) := goodIn_app (goodIn_of _ (by decide +kernel)) ggX2_errorOfReplace_X2_isOwner
set_option maxRecDepth 20000 in
theorem ggX2_errorOfReplace_X2_in : GoodIn wsX2_errorOfReplace wsX2_in := goodIn_r _ [8] (by decide +kernel) (by decide +kernel)
set_option maxRecDepth 20000 in
theorem gX2_errorOfReplace_X2_in : GoodIn wsX2_errorOfReplace (va_wsS RX2 67 yX2_in wsX2_in) := goodIn_app (goodIn_of _ (by decide +kernel)) ggX2_errorOfReplace_X2_in
set_option maxRecDepth 20000 in
theorem ggX2_errorOfReplace_X2_isQuarter : GoodIn wsX2_errorOfReplace wsX2_isQuarter := goodIn_r _ [12, 13, 6, 7, 4, 8, 14, 15, 16, 17, 18, 19, 20, 21, 22, 23, 24, 25, 26, 27, 28, 29, 30, 31, 32, 33] (by decide +kernel) (by decide +kernel)
set_option maxRecDepth 20000 in
theorem gX2_errorOfReplace_X2_isQuarter : GoodIn wsX2_errorOfReplace (wsV RX2 129 RX2 yX2_isQuarter wsX2_isQuarter) := goodIn_app (goodIn_of _ (by decide +kernel)) ggX2_errorOfReplace_X2_isQuarter
theorem dX2_errorOfReplace_0 : decode cX2_errorOfReplace 0 = .ok (.iload_n 1, 1) := by decide +kernel
theorem dX2_errorOfReplace_1 : decode cX2_errorOfReplace 1 = .ok (.invokestatic 71, 3) := by decide +kernel
theorem dX2_errorOfReplace_4 : decode cX2_errorOfReplace 4 = .ok (.ifCond .eq 13, 3) := by decide +kernel
theorem dX2_errorOfReplace_7 : decode cX2_errorOfReplace 7 = .ok (.iload_n 3, 1) := by decide +kernel
theorem dX2_errorOfReplace_8 : decode cX2_errorOfReplace 8 = .ok (.iconst 0, 1) := by decide +kernel
theorem dX2_errorOfReplace_9 : decode cX2_errorOfReplace 9 = .ok (.bipush 50, 2) := by decide +kernel
theorem dX2_errorOfReplace_11 : decode cX2_errorOfReplace 11 = .ok (.invokestatic 67, 3) := by decide +kernel
theorem dX2_errorOfReplace_14 : decode cX2_errorOfReplace 14 = .ok (.ifCond .ne 5, 3) := by decide +kernel
theorem dX2_errorOfReplace_17 : decode cX2_errorOfReplace 17 = .ok (.iconst 1, 1) := by decide +kernel
theorem dX2_errorOfReplace_18 : decode cX2_errorOfReplace 18 = .ok (.ireturn, 1) := by decide +kernel
theorem dX2_errorOfReplace_19 : decode cX2_errorOfReplace 19 = .ok (.aload_n 0, 1) := by decide +kernel
theorem dX2_errorOfReplace_20 : decode cX2_errorOfReplace 20 = .ok (.iload_n 2, 1) := by decide +kernel
theorem dX2_errorOfReplace_21 : decode cX2_errorOfReplace 21 = .ok (.invokevirtual 129, 3) := by decide +kernel
theorem dX2_errorOfReplace_24 : decode cX2_errorOfReplace 24 = .ok (.ifCond .ne 7, 3) := by decide +kernel
theorem dX2_errorOfReplace_27 : decode cX2_errorOfReplace 27 = .ok (.iconst 2, 1) := by decide +kernel
theorem dX2_errorOfReplace_28 : decode cX2_errorOfReplace 28 = .ok (.goto 21, 3) := by decide +kernel
theorem dX2_errorOfReplace_31 : decode cX2_errorOfReplace 31 = .ok (.aload_n 0, 1) := by decide +kernel
theorem dX2_errorOfReplace_32 : decode cX2_errorOfReplace 32 = .ok (.getfield 36, 3) := by decide +kernel
theorem dX2_errorOfReplace_35 : decode cX2_errorOfReplace 35 = .ok (.iconst 5, 1) := by decide +kernel
theorem dX2_errorOfReplace_36 : decode cX2_errorOfReplace 36 = .ok (.iload_n 2, 1) := by decide +kernel
theorem dX2_errorOfReplace_37 : decode cX2_errorOfReplace 37 = .ok (.imul, 1) := by decide +kernel
theorem dX2_errorOfReplace_38 : decode cX2_errorOfReplace 38 = .ok (.iload_n 1, 1) := by decide +kernel
theorem dX2_errorOfReplace_39 : decode cX2_errorOfReplace 39 = .ok (.iadd, 1) := by decide +kernel
theorem dX2_errorOfReplace_40 : decode cX2_errorOfReplace 40 = .ok (.baload, 1) := by decide +kernel
theorem dX2_errorOfReplace_41 : decode cX2_errorOfReplace 41 = .ok (.ifCond .eq 7, 3) := by decide +kernel
theorem dX2_errorOfReplace_44 : decode cX2_errorOfReplace 44 = .ok (.iconst 3, 1) := by decide +kernel
theorem dX2_errorOfReplace_45 : decode cX2_errorOfReplace 45 = .ok (.goto 4, 3) := by decide +kernel
theorem dX2_errorOfReplace_48 : decode cX2_errorOfReplace 48 = .ok (.iconst 0, 1) := by decide +kernel
theorem dX2_errorOfReplace_49 : decode cX2_errorOfReplace 49 = .ok (.ireturn, 1) := by decide +kernel
set_option maxRecDepth 20000 in
theorem ggX2_replace_X2_errorOfReplace : GoodIn wsX2_replace wsX2_errorOfReplace := goodIn_r _ [10, 3, 11, 12, 9, 13, 14, 15, 16, 17, 18, 19, 20, 21, 27, 28, 29, 30, 31, 32, 33, 34, 35, 36, 37, 38, 39, 40, 41, 42, 43, 44, 45, 46] (by decide +kernel) (by decide +kernel)
set_option maxRecDepth 20000 in
theorem gX2_replace_X2_errorOfReplace : GoodIn wsX2_replace (wsV RX2 132 RX2 yX2_errorOfReplace wsX2_errorOfReplace) := goodIn_app (goodIn_of _ (by decide +kernel)) ggX2_replace_X2_errorOfReplace
set_option maxRecDepth 20000 in
theorem ggX2_replace_X2_holds : GoodIn wsX2_replace wsX2_holds := goodIn_r _ [25, 26, 27, 28, 29, 30, 31, 32, 33, 34, 35, 36, 37, 38, 39, 40, 41, 42, 43, 44, 45, 46] (by decide +kernel) (by decide +kernel)
set_option maxRecDepth 20000 in
theorem gX2_replace_X2_holds : GoodIn wsX2_replace (wsV RX2 79 RX2 yX2_holds wsX2_holds) := goodIn_app (goodIn_of _ (by decide +kernel)) ggX2_replace_X2_holds
theorem dX2_replace_0 : decode cX2_replace 0 = .ok (.aload_n 0, 1) := by decide +kernel
theorem dX2_replace_1 : decode cX2_replace 1 = .ok (.aload_n 0, 1) := by decide +kernel
theorem dX2_replace_2 : decode cX2_replace 2 = .ok (.iload_n 1, 1) := by decide +kernel
theorem dX2_replace_3 : decode cX2_replace 3 = .ok (.iload_n 2, 1) := by decide +kernel
theorem dX2_replace_4 : decode cX2_replace 4 = .ok (.iload_n 3, 1) := by decide +kernel
theorem dX2_replace_5 : decode cX2_replace 5 = .ok (.invokevirtual 132, 3) := by decide +kernel
theorem dX2_replace_8 : decode cX2_replace 8 = .ok (.invokevirtual 79, 3) := by decide +kernel
theorem dX2_replace_11 : decode cX2_replace 11 = .ok (.ifCond .ne 5, 3) := by decide +kernel
theorem dX2_replace_14 : decode cX2_replace 14 = .ok (.dconst 0, 1) := by decide +kernel
theorem dX2_replace_15 : decode cX2_replace 15 = .ok (.dreturn, 1) := by decide +kernel
theorem dX2_replace_16 : decode cX2_replace 16 = .ok (.iconst 5, 1) := by decide +kernel
theorem dX2_replace_17 : decode cX2_replace 17 = .ok (.iload_n 2, 1) := by decide +kernel
theorem dX2_replace_18 : decode cX2_replace 18 = .ok (.imul, 1) := by decide +kernel
theorem dX2_replace_19 : decode cX2_replace 19 = .ok (.iload_n 1, 1) := by decide +kernel
theorem dX2_replace_20 : decode cX2_replace 20 = .ok (.iadd, 1) := by decide +kernel
theorem dX2_replace_21 : decode cX2_replace 21 = .ok (.istore 4, 2) := by decide +kernel
theorem dX2_replace_23 : decode cX2_replace 23 = .ok (.iload_n 3, 1) := by decide +kernel
theorem dX2_replace_24 : decode cX2_replace 24 = .ok (.i2d, 1) := by decide +kernel
theorem dX2_replace_25 : decode cX2_replace 25 = .ok (.aload_n 0, 1) := by decide +kernel
theorem dX2_replace_26 : decode cX2_replace 26 = .ok (.getfield 42, 3) := by decide +kernel
theorem dX2_replace_29 : decode cX2_replace 29 = .ok (.iload 4, 2) := by decide +kernel
theorem dX2_replace_31 : decode cX2_replace 31 = .ok (.daload, 1) := by decide +kernel
theorem dX2_replace_32 : decode cX2_replace 32 = .ok (.dsub, 1) := by decide +kernel
theorem dX2_replace_33 : decode cX2_replace 33 = .ok (.aload_n 0, 1) := by decide +kernel
theorem dX2_replace_34 : decode cX2_replace 34 = .ok (.getfield 57, 3) := by decide +kernel
theorem dX2_replace_37 : decode cX2_replace 37 = .ok (.iload_n 2, 1) := by decide +kernel
theorem dX2_replace_38 : decode cX2_replace 38 = .ok (.daload, 1) := by decide +kernel
theorem dX2_replace_39 : decode cX2_replace 39 = .ok (.dmul, 1) := by decide +kernel
theorem dX2_replace_40 : decode cX2_replace 40 = .ok (.dstore 5, 2) := by decide +kernel
theorem dX2_replace_42 : decode cX2_replace 42 = .ok (.aload_n 0, 1) := by decide +kernel
theorem dX2_replace_43 : decode cX2_replace 43 = .ok (.getfield 36, 3) := by decide +kernel
theorem dX2_replace_46 : decode cX2_replace 46 = .ok (.iload 4, 2) := by decide +kernel
theorem dX2_replace_48 : decode cX2_replace 48 = .ok (.iconst 1, 1) := by decide +kernel
theorem dX2_replace_49 : decode cX2_replace 49 = .ok (.bastore, 1) := by decide +kernel
theorem dX2_replace_50 : decode cX2_replace 50 = .ok (.aload_n 0, 1) := by decide +kernel
theorem dX2_replace_51 : decode cX2_replace 51 = .ok (.getfield 39, 3) := by decide +kernel
theorem dX2_replace_54 : decode cX2_replace 54 = .ok (.iload 4, 2) := by decide +kernel
theorem dX2_replace_56 : decode cX2_replace 56 = .ok (.iload_n 3, 1) := by decide +kernel
theorem dX2_replace_57 : decode cX2_replace 57 = .ok (.i2d, 1) := by decide +kernel
theorem dX2_replace_58 : decode cX2_replace 58 = .ok (.dastore, 1) := by decide +kernel
theorem dX2_replace_59 : decode cX2_replace 59 = .ok (.aload_n 0, 1) := by decide +kernel
theorem dX2_replace_60 : decode cX2_replace 60 = .ok (.getfield 20, 3) := by decide +kernel
theorem dX2_replace_63 : decode cX2_replace 63 = .ok (.iload_n 1, 1) := by decide +kernel
theorem dX2_replace_64 : decode cX2_replace 64 = .ok (.dup2, 1) := by decide +kernel
theorem dX2_replace_65 : decode cX2_replace 65 = .ok (.daload, 1) := by decide +kernel
theorem dX2_replace_66 : decode cX2_replace 66 = .ok (.dload 5, 2) := by decide +kernel
theorem dX2_replace_68 : decode cX2_replace 68 = .ok (.dadd, 1) := by decide +kernel
theorem dX2_replace_69 : decode cX2_replace 69 = .ok (.dastore, 1) := by decide +kernel
theorem dX2_replace_70 : decode cX2_replace 70 = .ok (.dload 5, 2) := by decide +kernel
theorem dX2_replace_72 : decode cX2_replace 72 = .ok (.dreturn, 1) := by decide +kernel
set_option maxRecDepth 20000 in
theorem ggX2_isAt_X2_isOwner : GoodIn wsX2_isAt wsX2_isOwner := goodIn_r _ [4, 5, 6, 3, 7] (by decide +kernel) (by decide +kernel)
set_option maxRecDepth 20000 in
theorem gX2_isAt_X2_isOwner : GoodIn wsX2_isAt (va_wsS RX2 71 yX2_isOwner wsX2_isOwner) := goodIn_app (goodIn_of _ (by decide +kernel)) ggX2_isAt_X2_isOwner
set_option maxRecDepth 20000 in
theorem ggX2_isAt_X2_isQuarter : GoodIn wsX2_isAt wsX2_isQuarter := goodIn_r _ [11, 12, 5, 6, 3, 7, 18, 19, 20, 21, 22, 23, 24, 25, 26, 27, 28, 29, 30, 31, 32, 33, 34, 35, 36, 37] (by decide +kernel) (by decide +kernel)
set_option maxRecDepth 20000 in
theorem gX2_isAt_X2_isQuarter : GoodIn wsX2_isAt (wsV RX2 129 RX2 yX2_isQuarter wsX2_isQuarter) := goodIn_app (goodIn_of _ (by decide +kernel)) ggX2_isAt_X2_isQuarter
set_option maxRecDepth 20000 in
theorem ggX2_isAt_X2_holds : GoodIn wsX2_isAt wsX2_holds := goodIn_r _ [16, 17, 18, 19, 20, 21, 22, 23, 24, 25, 26, 27, 28, 29, 30, 31, 32, 33, 34, 35, 36, 37] (by decide +kernel) (by decide +kernel)
set_option maxRecDepth 20000 in
theorem gX2_isAt_X2_holds : GoodIn wsX2_isAt (wsV RX2 79 RX2 yX2_holds wsX2_holds) := goodIn_app (goodIn_of _ (by decide +kernel)) ggX2_isAt_X2_holds
theorem dX2_isAt_0 : decode cX2_isAt 0 = .ok (.aload_n 0, 1) := by decide +kernel
theorem dX2_isAt_1 : decode cX2_isAt 1 = .ok (.iload_n 1, 1) := by decide +kernel
theorem dX2_isAt_2 : decode cX2_isAt 2 = .ok (.invokestatic 71, 3) := by decide +kernel
theorem dX2_isAt_5 : decode cX2_isAt 5 = .ok (.ifCond .ne 7, 3) := by decide +kernel
theorem dX2_isAt_8 : decode cX2_isAt 8 = .ok (.iconst 1, 1) := by decide +kernel
theorem dX2_isAt_9 : decode cX2_isAt 9 = .ok (.goto 16, 3) := by decide +kernel
theorem dX2_isAt_12 : decode cX2_isAt 12 = .ok (.aload_n 0, 1) := by decide +kernel
theorem dX2_isAt_13 : decode cX2_isAt 13 = .ok (.iload_n 2, 1) := by decide +kernel
theorem dX2_isAt_14 : decode cX2_isAt 14 = .ok (.invokevirtual 129, 3) := by decide +kernel
theorem dX2_isAt_17 : decode cX2_isAt 17 = .ok (.ifCond .eq 7, 3) := by decide +kernel
theorem dX2_isAt_20 : decode cX2_isAt 20 = .ok (.iconst 0, 1) := by decide +kernel
theorem dX2_isAt_21 : decode cX2_isAt 21 = .ok (.goto 4, 3) := by decide +kernel
theorem dX2_isAt_24 : decode cX2_isAt 24 = .ok (.iconst 2, 1) := by decide +kernel
theorem dX2_isAt_25 : decode cX2_isAt 25 = .ok (.invokevirtual 79, 3) := by decide +kernel
theorem dX2_isAt_28 : decode cX2_isAt 28 = .ok (.ireturn, 1) := by decide +kernel
set_option maxRecDepth 20000 in
theorem ggX2_use_X2_isAt : GoodIn wsX2_use wsX2_isAt := goodIn_r _ [6, 7, 8, 5, 9, 10, 11, 12, 13, 14, 15, 16, 17, 18, 19, 20, 21, 22, 23, 24, 25, 26, 27, 28, 29, 30, 31, 32, 33, 34, 35, 36, 37, 38, 39, 40, 41, 42] (by decide +kernel) (by decide +kernel)
set_option maxRecDepth 20000 in
theorem gX2_use_X2_isAt : GoodIn wsX2_use (wsV RX2 136 RX2 yX2_isAt wsX2_isAt) := goodIn_app (goodIn_of _ (by decide +kernel)) ggX2_use_X2_isAt
theorem dX2_use_0 : decode cX2_use 0 = .ok (.aload_n 0, 1) := by decide +kernel
theorem dX2_use_1 : decode cX2_use 1 = .ok (.iload_n 1, 1) := by decide +kernel
theorem dX2_use_2 : decode cX2_use 2 = .ok (.iload_n 2, 1) := by decide +kernel
theorem dX2_use_3 : decode cX2_use 3 = .ok (.invokevirtual 136, 3) := by decide +kernel
theorem dX2_use_6 : decode cX2_use 6 = .ok (.ifCond .eq 16, 3) := by decide +kernel
theorem dX2_use_9 : decode cX2_use 9 = .ok (.aload_n 0, 1) := by decide +kernel
theorem dX2_use_10 : decode cX2_use 10 = .ok (.getfield 39, 3) := by decide +kernel
theorem dX2_use_13 : decode cX2_use 13 = .ok (.iconst 5, 1) := by decide +kernel
theorem dX2_use_14 : decode cX2_use 14 = .ok (.iload_n 2, 1) := by decide +kernel
theorem dX2_use_15 : decode cX2_use 15 = .ok (.imul, 1) := by decide +kernel
theorem dX2_use_16 : decode cX2_use 16 = .ok (.iload_n 1, 1) := by decide +kernel
theorem dX2_use_17 : decode cX2_use 17 = .ok (.iadd, 1) := by decide +kernel
theorem dX2_use_18 : decode cX2_use 18 = .ok (.daload, 1) := by decide +kernel
theorem dX2_use_19 : decode cX2_use 19 = .ok (.goto 4, 3) := by decide +kernel
theorem dX2_use_22 : decode cX2_use 22 = .ok (.dconst 0, 1) := by decide +kernel
theorem dX2_use_23 : decode cX2_use 23 = .ok (.dreturn, 1) := by decide +kernel
set_option maxRecDepth 20000 in
theorem ggX2_fromSun_X2_isAt : GoodIn wsX2_fromSun wsX2_isAt := goodIn_r _ [6, 7, 8, 5, 9, 10, 11, 12, 13, 14, 15, 16, 17, 18, 19, 20, 21, 22, 23, 24, 25, 26, 27, 28, 29, 30, 31, 32, 33, 34, 35, 36, 37, 38, 39, 40, 41, 42] (by decide +kernel) (by decide +kernel)
set_option maxRecDepth 20000 in
theorem gX2_fromSun_X2_isAt : GoodIn wsX2_fromSun (wsV RX2 136 RX2 yX2_isAt wsX2_isAt) := goodIn_app (goodIn_of _ (by decide +kernel)) ggX2_fromSun_X2_isAt
theorem dX2_fromSun_0 : decode cX2_fromSun 0 = .ok (.aload_n 0, 1) := by decide +kernel
theorem dX2_fromSun_1 : decode cX2_fromSun 1 = .ok (.iload_n 1, 1) := by decide +kernel
theorem dX2_fromSun_2 : decode cX2_fromSun 2 = .ok (.iload_n 2, 1) := by decide +kernel
theorem dX2_fromSun_3 : decode cX2_fromSun 3 = .ok (.invokevirtual 136, 3) := by decide +kernel
theorem dX2_fromSun_6 : decode cX2_fromSun 6 = .ok (.ifCond .eq 16, 3) := by decide +kernel
theorem dX2_fromSun_9 : decode cX2_fromSun 9 = .ok (.aload_n 0, 1) := by decide +kernel
theorem dX2_fromSun_10 : decode cX2_fromSun 10 = .ok (.getfield 45, 3) := by decide +kernel
theorem dX2_fromSun_13 : decode cX2_fromSun 13 = .ok (.iconst 5, 1) := by decide +kernel
theorem dX2_fromSun_14 : decode cX2_fromSun 14 = .ok (.iload_n 2, 1) := by decide +kernel
theorem dX2_fromSun_15 : decode cX2_fromSun 15 = .ok (.imul, 1) := by decide +kernel
theorem dX2_fromSun_16 : decode cX2_fromSun 16 = .ok (.iload_n 1, 1) := by decide +kernel
theorem dX2_fromSun_17 : decode cX2_fromSun 17 = .ok (.iadd, 1) := by decide +kernel
theorem dX2_fromSun_18 : decode cX2_fromSun 18 = .ok (.daload, 1) := by decide +kernel
theorem dX2_fromSun_19 : decode cX2_fromSun 19 = .ok (.goto 4, 3) := by decide +kernel
theorem dX2_fromSun_22 : decode cX2_fromSun 22 = .ok (.dconst 0, 1) := by decide +kernel
theorem dX2_fromSun_23 : decode cX2_fromSun 23 = .ok (.dreturn, 1) := by decide +kernel
set_option maxRecDepth 20000 in
theorem ggX2_fromBattery_X2_isAt : GoodIn wsX2_fromBattery wsX2_isAt := goodIn_r _ [6, 7, 8, 5, 9, 10, 11, 12, 13, 14, 15, 16, 17, 18, 19, 20, 21, 22, 23, 24, 25, 26, 27, 28, 29, 30, 31, 32, 33, 34, 35, 36, 37, 38, 39, 40, 41, 42] (by decide +kernel) (by decide +kernel)
set_option maxRecDepth 20000 in
theorem gX2_fromBattery_X2_isAt : GoodIn wsX2_fromBattery (wsV RX2 136 RX2 yX2_isAt wsX2_isAt) := goodIn_app (goodIn_of _ (by decide +kernel)) ggX2_fromBattery_X2_isAt
theorem dX2_fromBattery_0 : decode cX2_fromBattery 0 = .ok (.aload_n 0, 1) := by decide +kernel
theorem dX2_fromBattery_1 : decode cX2_fromBattery 1 = .ok (.iload_n 1, 1) := by decide +kernel
theorem dX2_fromBattery_2 : decode cX2_fromBattery 2 = .ok (.iload_n 2, 1) := by decide +kernel
theorem dX2_fromBattery_3 : decode cX2_fromBattery 3 = .ok (.invokevirtual 136, 3) := by decide +kernel
theorem dX2_fromBattery_6 : decode cX2_fromBattery 6 = .ok (.ifCond .eq 16, 3) := by decide +kernel
theorem dX2_fromBattery_9 : decode cX2_fromBattery 9 = .ok (.aload_n 0, 1) := by decide +kernel
theorem dX2_fromBattery_10 : decode cX2_fromBattery 10 = .ok (.getfield 48, 3) := by decide +kernel
theorem dX2_fromBattery_13 : decode cX2_fromBattery 13 = .ok (.iconst 5, 1) := by decide +kernel
theorem dX2_fromBattery_14 : decode cX2_fromBattery 14 = .ok (.iload_n 2, 1) := by decide +kernel
theorem dX2_fromBattery_15 : decode cX2_fromBattery 15 = .ok (.imul, 1) := by decide +kernel
theorem dX2_fromBattery_16 : decode cX2_fromBattery 16 = .ok (.iload_n 1, 1) := by decide +kernel
theorem dX2_fromBattery_17 : decode cX2_fromBattery 17 = .ok (.iadd, 1) := by decide +kernel
theorem dX2_fromBattery_18 : decode cX2_fromBattery 18 = .ok (.daload, 1) := by decide +kernel
theorem dX2_fromBattery_19 : decode cX2_fromBattery 19 = .ok (.goto 4, 3) := by decide +kernel
theorem dX2_fromBattery_22 : decode cX2_fromBattery 22 = .ok (.dconst 0, 1) := by decide +kernel
theorem dX2_fromBattery_23 : decode cX2_fromBattery 23 = .ok (.dreturn, 1) := by decide +kernel
set_option maxRecDepth 20000 in
theorem ggX2_bought_X2_isAt : GoodIn wsX2_bought wsX2_isAt := goodIn_r _ [6, 7, 8, 5, 9, 10, 11, 12, 13, 14, 15, 16, 17, 18, 19, 20, 21, 22, 23, 24, 25, 26, 27, 28, 29, 30, 31, 32, 33, 34, 35, 36, 37, 38, 39, 40, 41, 42] (by decide +kernel) (by decide +kernel)
set_option maxRecDepth 20000 in
theorem gX2_bought_X2_isAt : GoodIn wsX2_bought (wsV RX2 136 RX2 yX2_isAt wsX2_isAt) := goodIn_app (goodIn_of _ (by decide +kernel)) ggX2_bought_X2_isAt
theorem dX2_bought_0 : decode cX2_bought 0 = .ok (.aload_n 0, 1) := by decide +kernel
theorem dX2_bought_1 : decode cX2_bought 1 = .ok (.iload_n 1, 1) := by decide +kernel
theorem dX2_bought_2 : decode cX2_bought 2 = .ok (.iload_n 2, 1) := by decide +kernel
theorem dX2_bought_3 : decode cX2_bought 3 = .ok (.invokevirtual 136, 3) := by decide +kernel
theorem dX2_bought_6 : decode cX2_bought 6 = .ok (.ifCond .eq 16, 3) := by decide +kernel
theorem dX2_bought_9 : decode cX2_bought 9 = .ok (.aload_n 0, 1) := by decide +kernel
theorem dX2_bought_10 : decode cX2_bought 10 = .ok (.getfield 51, 3) := by decide +kernel
theorem dX2_bought_13 : decode cX2_bought 13 = .ok (.iconst 5, 1) := by decide +kernel
theorem dX2_bought_14 : decode cX2_bought 14 = .ok (.iload_n 2, 1) := by decide +kernel
theorem dX2_bought_15 : decode cX2_bought 15 = .ok (.imul, 1) := by decide +kernel
theorem dX2_bought_16 : decode cX2_bought 16 = .ok (.iload_n 1, 1) := by decide +kernel
theorem dX2_bought_17 : decode cX2_bought 17 = .ok (.iadd, 1) := by decide +kernel
theorem dX2_bought_18 : decode cX2_bought 18 = .ok (.daload, 1) := by decide +kernel
theorem dX2_bought_19 : decode cX2_bought 19 = .ok (.goto 4, 3) := by decide +kernel
theorem dX2_bought_22 : decode cX2_bought 22 = .ok (.dconst 0, 1) := by decide +kernel
theorem dX2_bought_23 : decode cX2_bought 23 = .ok (.dreturn, 1) := by decide +kernel
set_option maxRecDepth 20000 in
theorem ggX2_sold_X2_isQuarter : GoodIn wsX2_sold wsX2_isQuarter := goodIn_r _ [6, 7, 8, 9, 5, 10, 16, 17, 18, 19, 20, 21, 22, 23, 24, 25, 26, 27, 28, 29, 30, 31, 32, 33, 34, 35] (by decide +kernel) (by decide +kernel)
set_option maxRecDepth 20000 in
theorem gX2_sold_X2_isQuarter : GoodIn wsX2_sold (wsV RX2 129 RX2 yX2_isQuarter wsX2_isQuarter) := goodIn_app (goodIn_of _ (by decide +kernel)) ggX2_sold_X2_isQuarter
set_option maxRecDepth 20000 in
theorem ggX2_sold_X2_holds : GoodIn wsX2_sold wsX2_holds := goodIn_r _ [14, 15, 16, 17, 18, 19, 20, 21, 22, 23, 24, 25, 26, 27, 28, 29, 30, 31, 32, 33, 34, 35] (by decide +kernel) (by decide +kernel)
set_option maxRecDepth 20000 in
theorem gX2_sold_X2_holds : GoodIn wsX2_sold (wsV RX2 79 RX2 yX2_holds wsX2_holds) := goodIn_app (goodIn_of _ (by decide +kernel)) ggX2_sold_X2_holds
theorem dX2_sold_0 : decode cX2_sold 0 = .ok (.aload_n 0, 1) := by decide +kernel
theorem dX2_sold_1 : decode cX2_sold 1 = .ok (.aload_n 0, 1) := by decide +kernel
theorem dX2_sold_2 : decode cX2_sold 2 = .ok (.iload_n 1, 1) := by decide +kernel
theorem dX2_sold_3 : decode cX2_sold 3 = .ok (.invokevirtual 129, 3) := by decide +kernel
theorem dX2_sold_6 : decode cX2_sold 6 = .ok (.ifCond .eq 7, 3) := by decide +kernel
theorem dX2_sold_9 : decode cX2_sold 9 = .ok (.iconst 0, 1) := by decide +kernel
theorem dX2_sold_10 : decode cX2_sold 10 = .ok (.goto 4, 3) := by decide +kernel
theorem dX2_sold_13 : decode cX2_sold 13 = .ok (.iconst 1, 1) := by decide +kernel
theorem dX2_sold_14 : decode cX2_sold 14 = .ok (.invokevirtual 79, 3) := by decide +kernel
theorem dX2_sold_17 : decode cX2_sold 17 = .ok (.ifCond .eq 12, 3) := by decide +kernel
theorem dX2_sold_20 : decode cX2_sold 20 = .ok (.aload_n 0, 1) := by decide +kernel
theorem dX2_sold_21 : decode cX2_sold 21 = .ok (.getfield 54, 3) := by decide +kernel
theorem dX2_sold_24 : decode cX2_sold 24 = .ok (.iload_n 1, 1) := by decide +kernel
theorem dX2_sold_25 : decode cX2_sold 25 = .ok (.daload, 1) := by decide +kernel
theorem dX2_sold_26 : decode cX2_sold 26 = .ok (.goto 4, 3) := by decide +kernel
theorem dX2_sold_29 : decode cX2_sold 29 = .ok (.dconst 0, 1) := by decide +kernel
theorem dX2_sold_30 : decode cX2_sold 30 = .ok (.dreturn, 1) := by decide +kernel
theorem dX2_battery_0 : decode cX2_battery 0 = .ok (.aload_n 0, 1) := by decide +kernel
theorem dX2_battery_1 : decode cX2_battery 1 = .ok (.iconst 0, 1) := by decide +kernel
theorem dX2_battery_2 : decode cX2_battery 2 = .ok (.putfield 63, 3) := by decide +kernel
theorem dX2_battery_5 : decode cX2_battery 5 = .ok (.aload_n 0, 1) := by decide +kernel
theorem dX2_battery_6 : decode cX2_battery 6 = .ok (.getfield 105, 3) := by decide +kernel
theorem dX2_battery_9 : decode cX2_battery 9 = .ok (.dreturn, 1) := by decide +kernel
theorem dX2_turn_0 : decode cX2_turn 0 = .ok (.aload_n 0, 1) := by decide +kernel
theorem dX2_turn_1 : decode cX2_turn 1 = .ok (.iconst 0, 1) := by decide +kernel
theorem dX2_turn_2 : decode cX2_turn 2 = .ok (.putfield 63, 3) := by decide +kernel
theorem dX2_turn_5 : decode cX2_turn 5 = .ok (.aload_n 0, 1) := by decide +kernel
theorem dX2_turn_6 : decode cX2_turn 6 = .ok (.getfield 102, 3) := by decide +kernel
theorem dX2_turn_9 : decode cX2_turn 9 = .ok (.ireturn, 1) := by decide +kernel
set_option maxRecDepth 20000 in
theorem ggX2_sheds_X2_isOwner : GoodIn wsX2_sheds wsX2_isOwner := goodIn_r _ [5, 6, 7, 4, 8] (by decide +kernel) (by decide +kernel)
set_option maxRecDepth 20000 in
theorem gX2_sheds_X2_isOwner : GoodIn wsX2_sheds (va_wsS RX2 71 yX2_isOwner wsX2_isOwner) := goodIn_app (goodIn_of _ (by decide +kernel)) ggX2_sheds_X2_isOwner
set_option maxRecDepth 20000 in
theorem ggX2_sheds_X2_holds : GoodIn wsX2_sheds wsX2_holds := goodIn_r _ [12, 13, 14, 15, 16, 17, 18, 19, 20, 21, 22, 23, 24, 25, 26, 27, 28, 29, 30, 31, 32, 33] (by decide +kernel) (by decide +kernel)
set_option maxRecDepth 20000 in
theorem gX2_sheds_X2_holds : GoodIn wsX2_sheds (wsV RX2 79 RX2 yX2_holds wsX2_holds) := goodIn_app (goodIn_of _ (by decide +kernel)) ggX2_sheds_X2_holds
theorem dX2_sheds_0 : decode cX2_sheds 0 = .ok (.aload_n 0, 1) := by decide +kernel
theorem dX2_sheds_1 : decode cX2_sheds 1 = .ok (.iload_n 1, 1) := by decide +kernel
theorem dX2_sheds_2 : decode cX2_sheds 2 = .ok (.invokestatic 71, 3) := by decide +kernel
theorem dX2_sheds_5 : decode cX2_sheds 5 = .ok (.ifCond .eq 7, 3) := by decide +kernel
theorem dX2_sheds_8 : decode cX2_sheds 8 = .ok (.iconst 0, 1) := by decide +kernel
theorem dX2_sheds_9 : decode cX2_sheds 9 = .ok (.goto 4, 3) := by decide +kernel
theorem dX2_sheds_12 : decode cX2_sheds 12 = .ok (.iconst 1, 1) := by decide +kernel
theorem dX2_sheds_13 : decode cX2_sheds 13 = .ok (.invokevirtual 79, 3) := by decide +kernel
theorem dX2_sheds_16 : decode cX2_sheds 16 = .ok (.ifCond .eq 12, 3) := by decide +kernel
theorem dX2_sheds_19 : decode cX2_sheds 19 = .ok (.aload_n 0, 1) := by decide +kernel
theorem dX2_sheds_20 : decode cX2_sheds 20 = .ok (.getfield 17, 3) := by decide +kernel
theorem dX2_sheds_23 : decode cX2_sheds 23 = .ok (.iload_n 1, 1) := by decide +kernel
theorem dX2_sheds_24 : decode cX2_sheds 24 = .ok (.iaload, 1) := by decide +kernel
theorem dX2_sheds_25 : decode cX2_sheds 25 = .ok (.goto 4, 3) := by decide +kernel
theorem dX2_sheds_28 : decode cX2_sheds 28 = .ok (.iconst 0, 1) := by decide +kernel
theorem dX2_sheds_29 : decode cX2_sheds 29 = .ok (.ireturn, 1) := by decide +kernel
set_option maxRecDepth 20000 in
theorem ggX2_bill_X2_isOwner : GoodIn wsX2_bill wsX2_isOwner := goodIn_r _ [5, 6, 7, 4, 8] (by decide +kernel) (by decide +kernel)
set_option maxRecDepth 20000 in
theorem gX2_bill_X2_isOwner : GoodIn wsX2_bill (va_wsS RX2 71 yX2_isOwner wsX2_isOwner) := goodIn_app (goodIn_of _ (by decide +kernel)) ggX2_bill_X2_isOwner
set_option maxRecDepth 20000 in
theorem ggX2_bill_X2_holds : GoodIn wsX2_bill wsX2_holds := goodIn_r _ [12, 13, 14, 15, 16, 17, 18, 19, 20, 21, 22, 23, 24, 25, 26, 27, 28, 29, 30, 31, 32, 33] (by decide +kernel) (by decide +kernel)
set_option maxRecDepth 20000 in
theorem gX2_bill_X2_holds : GoodIn wsX2_bill (wsV RX2 79 RX2 yX2_holds wsX2_holds) := goodIn_app (goodIn_of _ (by decide +kernel)) ggX2_bill_X2_holds
theorem dX2_bill_0 : decode cX2_bill 0 = .ok (.aload_n 0, 1) := by decide +kernel
theorem dX2_bill_1 : decode cX2_bill 1 = .ok (.iload_n 1, 1) := by decide +kernel
theorem dX2_bill_2 : decode cX2_bill 2 = .ok (.invokestatic 71, 3) := by decide +kernel
theorem dX2_bill_5 : decode cX2_bill 5 = .ok (.ifCond .eq 7, 3) := by decide +kernel
theorem dX2_bill_8 : decode cX2_bill 8 = .ok (.iconst 0, 1) := by decide +kernel
theorem dX2_bill_9 : decode cX2_bill 9 = .ok (.goto 4, 3) := by decide +kernel
theorem dX2_bill_12 : decode cX2_bill 12 = .ok (.iconst 1, 1) := by decide +kernel
theorem dX2_bill_13 : decode cX2_bill 13 = .ok (.invokevirtual 79, 3) := by decide +kernel
theorem dX2_bill_16 : decode cX2_bill 16 = .ok (.ifCond .eq 12, 3) := by decide +kernel
theorem dX2_bill_19 : decode cX2_bill 19 = .ok (.aload_n 0, 1) := by decide +kernel
theorem dX2_bill_20 : decode cX2_bill 20 = .ok (.getfield 20, 3) := by decide +kernel
theorem dX2_bill_23 : decode cX2_bill 23 = .ok (.iload_n 1, 1) := by decide +kernel
theorem dX2_bill_24 : decode cX2_bill 24 = .ok (.daload, 1) := by decide +kernel
theorem dX2_bill_25 : decode cX2_bill 25 = .ok (.goto 4, 3) := by decide +kernel
theorem dX2_bill_28 : decode cX2_bill 28 = .ok (.dconst 0, 1) := by decide +kernel
theorem dX2_bill_29 : decode cX2_bill 29 = .ok (.dreturn, 1) := by decide +kernel
theorem dJ9_floorMod_7cf53_0 : decode cJ9_floorMod_7cf53 0 = .ok (.iload_n 0, 1) := by decide +kernel
theorem dJ9_floorMod_7cf53_1 : decode cJ9_floorMod_7cf53 1 = .ok (.iload_n 1, 1) := by decide +kernel
theorem dJ9_floorMod_7cf53_2 : decode cJ9_floorMod_7cf53 2 = .ok (.irem, 1) := by decide +kernel
theorem dJ9_floorMod_7cf53_3 : decode cJ9_floorMod_7cf53 3 = .ok (.istore_n 2, 1) := by decide +kernel
theorem dJ9_floorMod_7cf53_4 : decode cJ9_floorMod_7cf53 4 = .ok (.iload_n 0, 1) := by decide +kernel
theorem dJ9_floorMod_7cf53_5 : decode cJ9_floorMod_7cf53 5 = .ok (.iload_n 1, 1) := by decide +kernel
theorem dJ9_floorMod_7cf53_6 : decode cJ9_floorMod_7cf53 6 = .ok (.ixor, 1) := by decide +kernel
theorem dJ9_floorMod_7cf53_7 : decode cJ9_floorMod_7cf53 7 = .ok (.ifCond .ge 11, 3) := by decide +kernel
theorem dJ9_floorMod_7cf53_10 : decode cJ9_floorMod_7cf53 10 = .ok (.iload_n 2, 1) := by decide +kernel
theorem dJ9_floorMod_7cf53_11 : decode cJ9_floorMod_7cf53 11 = .ok (.ifCond .eq 7, 3) := by decide +kernel
theorem dJ9_floorMod_7cf53_14 : decode cJ9_floorMod_7cf53 14 = .ok (.iload_n 2, 1) := by decide +kernel
theorem dJ9_floorMod_7cf53_15 : decode cJ9_floorMod_7cf53 15 = .ok (.iload_n 1, 1) := by decide +kernel
theorem dJ9_floorMod_7cf53_16 : decode cJ9_floorMod_7cf53 16 = .ok (.iadd, 1) := by decide +kernel
theorem dJ9_floorMod_7cf53_17 : decode cJ9_floorMod_7cf53 17 = .ok (.ireturn, 1) := by decide +kernel
theorem dJ9_floorMod_7cf53_18 : decode cJ9_floorMod_7cf53 18 = .ok (.iload_n 2, 1) := by decide +kernel
theorem dJ9_floorMod_7cf53_19 : decode cJ9_floorMod_7cf53 19 = .ok (.ireturn, 1) := by decide +kernel
set_option maxRecDepth 20000 in
theorem ggL_setShare_X1_setShare : GoodIn wsL_setShare wsX1_setShare := goodIn_ca (goodIn_ca (goodIn_r _ [7, 8, 9, 10, 11, 12, 6, 13, 14, 15, 16, 17, 18, 19, 20, 21, 22, 23, 24, 25, 26, 27, 28, 29, 30, 31, 32, 33, 34] (by decide +kernel) (by decide +kernel)) (goodIn_sub (fun _ h => List.mem_cons_of_mem _ (List.mem_append_left _ (List.mem_append_right _ h))) (by decide +kernel))) (goodIn_sub (fun _ h => List.mem_cons_of_mem _ (List.mem_append_right _ h)) (by decide +kernel))
set_option maxRecDepth 20000 in
theorem gL_setShare_X1_setShare : GoodIn wsL_setShare (wsV RL 7 RX1 yX1_setShare wsX1_setShare) := goodIn_app (goodIn_of _ (by decide +kernel)) ggL_setShare_X1_setShare
theorem dL_setShare_0 : decode cL_setShare 0 = .ok (.aload_n 3, 1) := by decide +kernel
theorem dL_setShare_1 : decode cL_setShare 1 = .ok (.iconst 0, 1) := by decide +kernel
theorem dL_setShare_2 : decode cL_setShare 2 = .ok (.aload_n 0, 1) := by decide +kernel
theorem dL_setShare_3 : decode cL_setShare 3 = .ok (.iload_n 1, 1) := by decide +kernel
theorem dL_setShare_4 : decode cL_setShare 4 = .ok (.iload_n 2, 1) := by decide +kernel
theorem dL_setShare_5 : decode cL_setShare 5 = .ok (.invokevirtual 7, 3) := by decide +kernel
theorem dL_setShare_8 : decode cL_setShare 8 = .ok (.i2l, 1) := by decide +kernel
theorem dL_setShare_9 : decode cL_setShare 9 = .ok (.lastore, 1) := by decide +kernel
theorem dL_setShare_10 : decode cL_setShare 10 = .ok (.goto 11, 3) := by decide +kernel
theorem dL_setShare_13 : decode cL_setShare 13 = .ok (.astore 4, 2) := by decide +kernel
theorem dL_setShare_15 : decode cL_setShare 15 = .ok (.iconst 1, 1) := by decide +kernel
theorem dL_setShare_16 : decode cL_setShare 16 = .ok (.ireturn, 1) := by decide +kernel
theorem dL_setShare_17 : decode cL_setShare 17 = .ok (.astore 4, 2) := by decide +kernel
theorem dL_setShare_19 : decode cL_setShare 19 = .ok (.iconst 2, 1) := by decide +kernel
theorem dL_setShare_20 : decode cL_setShare 20 = .ok (.ireturn, 1) := by decide +kernel
theorem dL_setShare_21 : decode cL_setShare 21 = .ok (.iconst 0, 1) := by decide +kernel
theorem dL_setShare_22 : decode cL_setShare 22 = .ok (.ireturn, 1) := by decide +kernel
set_option maxRecDepth 20000 in
theorem ggL_setSwitch_X1_setSwitch : GoodIn wsL_setSwitch wsX1_setSwitch := goodIn_ca (goodIn_r _ [6, 7, 8, 9, 5, 10, 11, 12, 13, 14, 15, 16, 17, 18, 19, 20, 21, 22, 23, 24] (by decide +kernel) (by decide +kernel)) (goodIn_sub (fun _ h => List.mem_cons_of_mem _ (List.mem_append_right _ h)) (by decide +kernel))
set_option maxRecDepth 20000 in
theorem gL_setSwitch_X1_setSwitch : GoodIn wsL_setSwitch (wsV RL 17 RX1 yX1_setSwitch wsX1_setSwitch) := goodIn_app (goodIn_of _ (by decide +kernel)) ggL_setSwitch_X1_setSwitch
theorem dL_setSwitch_0 : decode cL_setSwitch 0 = .ok (.aload_n 3, 1) := by decide +kernel
theorem dL_setSwitch_1 : decode cL_setSwitch 1 = .ok (.iconst 0, 1) := by decide +kernel
theorem dL_setSwitch_2 : decode cL_setSwitch 2 = .ok (.aload_n 0, 1) := by decide +kernel
theorem dL_setSwitch_3 : decode cL_setSwitch 3 = .ok (.iload_n 1, 1) := by decide +kernel
theorem dL_setSwitch_4 : decode cL_setSwitch 4 = .ok (.iload_n 2, 1) := by decide +kernel
theorem dL_setSwitch_5 : decode cL_setSwitch 5 = .ok (.invokevirtual 17, 3) := by decide +kernel
theorem dL_setSwitch_8 : decode cL_setSwitch 8 = .ok (.ifCond .eq 7, 3) := by decide +kernel
theorem dL_setSwitch_11 : decode cL_setSwitch 11 = .ok (.lconst 1, 1) := by decide +kernel
theorem dL_setSwitch_12 : decode cL_setSwitch 12 = .ok (.goto 4, 3) := by decide +kernel
theorem dL_setSwitch_15 : decode cL_setSwitch 15 = .ok (.lconst 0, 1) := by decide +kernel
theorem dL_setSwitch_16 : decode cL_setSwitch 16 = .ok (.lastore, 1) := by decide +kernel
theorem dL_setSwitch_17 : decode cL_setSwitch 17 = .ok (.goto 7, 3) := by decide +kernel
theorem dL_setSwitch_20 : decode cL_setSwitch 20 = .ok (.astore 4, 2) := by decide +kernel
theorem dL_setSwitch_22 : decode cL_setSwitch 22 = .ok (.iconst 1, 1) := by decide +kernel
theorem dL_setSwitch_23 : decode cL_setSwitch 23 = .ok (.ireturn, 1) := by decide +kernel
theorem dL_setSwitch_24 : decode cL_setSwitch 24 = .ok (.iconst 0, 1) := by decide +kernel
theorem dL_setSwitch_25 : decode cL_setSwitch 25 = .ok (.ireturn, 1) := by decide +kernel
set_option maxRecDepth 20000 in
theorem ggL_setPrice_X1_setPrice : GoodIn wsL_setPrice wsX1_setPrice := goodIn_ca (goodIn_r _ [6, 7, 8, 9, 10, 5, 11, 12, 13, 14, 15, 16, 17, 18, 19, 20, 21, 22, 23, 24, 25] (by decide +kernel) (by decide +kernel)) (goodIn_sub (fun _ h => List.mem_cons_of_mem _ (List.mem_append_right _ h)) (by decide +kernel))
set_option maxRecDepth 20000 in
theorem gL_setPrice_X1_setPrice : GoodIn wsL_setPrice (wsV RL 21 RX1 yX1_setPrice wsX1_setPrice) := goodIn_app (goodIn_of _ (by decide +kernel)) ggL_setPrice_X1_setPrice
theorem dL_setPrice_0 : decode cL_setPrice 0 = .ok (.aload_n 2, 1) := by decide +kernel
theorem dL_setPrice_1 : decode cL_setPrice 1 = .ok (.iconst 0, 1) := by decide +kernel
theorem dL_setPrice_2 : decode cL_setPrice 2 = .ok (.aload_n 0, 1) := by decide +kernel
theorem dL_setPrice_3 : decode cL_setPrice 3 = .ok (.iload_n 1, 1) := by decide +kernel
theorem dL_setPrice_4 : decode cL_setPrice 4 = .ok (.invokevirtual 21, 3) := by decide +kernel
theorem dL_setPrice_7 : decode cL_setPrice 7 = .ok (.dastore, 1) := by decide +kernel
theorem dL_setPrice_8 : decode cL_setPrice 8 = .ok (.goto 6, 3) := by decide +kernel
theorem dL_setPrice_11 : decode cL_setPrice 11 = .ok (.astore_n 3, 1) := by decide +kernel
theorem dL_setPrice_12 : decode cL_setPrice 12 = .ok (.iconst 1, 1) := by decide +kernel
theorem dL_setPrice_13 : decode cL_setPrice 13 = .ok (.ireturn, 1) := by decide +kernel
theorem dL_setPrice_14 : decode cL_setPrice 14 = .ok (.iconst 0, 1) := by decide +kernel
theorem dL_setPrice_15 : decode cL_setPrice 15 = .ok (.ireturn, 1) := by decide +kernel
set_option maxRecDepth 20000 in
theorem ggL_tell_X1_tell : GoodIn wsL_tell wsX1_tell := goodIn_ca (goodIn_r _ [6, 7, 8, 9, 10, 5, 11, 12, 13, 14, 15, 16, 17, 18, 19, 20, 21, 22, 23, 24, 25, 26, 27, 28] (by decide +kernel) (by decide +kernel)) (goodIn_sub (fun _ h => List.mem_cons_of_mem _ (List.mem_append_right _ h)) (by decide +kernel))
set_option maxRecDepth 20000 in
theorem gL_tell_X1_tell : GoodIn wsL_tell (wsV RL 25 RX1 yX1_tell wsX1_tell) := goodIn_app (goodIn_of _ (by decide +kernel)) ggL_tell_X1_tell
theorem dL_tell_0 : decode cL_tell 0 = .ok (.aload_n 3, 1) := by decide +kernel
theorem dL_tell_1 : decode cL_tell 1 = .ok (.iconst 0, 1) := by decide +kernel
theorem dL_tell_2 : decode cL_tell 2 = .ok (.aload_n 0, 1) := by decide +kernel
theorem dL_tell_3 : decode cL_tell 3 = .ok (.iload_n 1, 1) := by decide +kernel
theorem dL_tell_4 : decode cL_tell 4 = .ok (.iload_n 2, 1) := by decide +kernel
theorem dL_tell_5 : decode cL_tell 5 = .ok (.invokevirtual 25, 3) := by decide +kernel
theorem dL_tell_8 : decode cL_tell 8 = .ok (.ifCond .eq 7, 3) := by decide +kernel
theorem dL_tell_11 : decode cL_tell 11 = .ok (.lconst 1, 1) := by decide +kernel
theorem dL_tell_12 : decode cL_tell 12 = .ok (.goto 4, 3) := by decide +kernel
theorem dL_tell_15 : decode cL_tell 15 = .ok (.lconst 0, 1) := by decide +kernel
theorem dL_tell_16 : decode cL_tell 16 = .ok (.lastore, 1) := by decide +kernel
theorem dL_tell_17 : decode cL_tell 17 = .ok (.goto 7, 3) := by decide +kernel
theorem dL_tell_20 : decode cL_tell 20 = .ok (.astore 4, 2) := by decide +kernel
theorem dL_tell_22 : decode cL_tell 22 = .ok (.iconst 1, 1) := by decide +kernel
theorem dL_tell_23 : decode cL_tell 23 = .ok (.ireturn, 1) := by decide +kernel
theorem dL_tell_24 : decode cL_tell 24 = .ok (.iconst 0, 1) := by decide +kernel
theorem dL_tell_25 : decode cL_tell 25 = .ok (.ireturn, 1) := by decide +kernel
set_option maxRecDepth 20000 in
theorem ggL_close_X1_close : GoodIn wsL_close wsX1_close := goodIn_ca (goodIn_ca (goodIn_r _ [7, 8, 9, 10, 11, 12, 13, 14, 15, 16, 6, 17, 18, 19, 20, 21, 22, 23, 24, 25, 26, 27, 28, 29, 30, 31, 32, 33, 34, 35, 36, 37, 38, 39, 40, 41, 42, 43, 44, 45, 46, 47, 48, 49, 50, 51, 52, 53, 54, 55, 56, 57, 58, 59, 60, 61, 62, 63, 64, 65, 66, 67, 68, 69, 70, 71, 72, 73, 74, 75, 76, 77, 78, 79, 80, 81, 82, 83, 84, 85, 86, 87, 88, 89, 90, 91, 92, 93, 94, 95, 96, 97, 98, 99, 100, 101, 102, 103, 104, 105, 106, 107, 108, 109, 110, 111, 112, 113, 114, 115, 116, 117, 118, 119, 120, 121, 122, 123, 124, 125, 126, 127, 128, 129, 130, 131] (by decide +kernel) (by decide +kernel)) (goodIn_sub (fun _ h => List.mem_cons_of_mem _ (List.mem_append_left _ (List.mem_append_right _ h))) (by decide +kernel))) (goodIn_sub (fun _ h => List.mem_cons_of_mem _ (List.mem_append_right _ h)) (by decide +kernel))
set_option maxRecDepth 20000 in
theorem gL_close_X1_close : GoodIn wsL_close (wsV RL 29 RX1 yX1_close wsX1_close) := goodIn_app (goodIn_of _ (by decide +kernel)) ggL_close_X1_close
theorem dL_close_0 : decode cL_close 0 = .ok (.aload_n 2, 1) := by decide +kernel
theorem dL_close_1 : decode cL_close 1 = .ok (.iconst 0, 1) := by decide +kernel
theorem dL_close_2 : decode cL_close 2 = .ok (.aload_n 0, 1) := by decide +kernel
theorem dL_close_3 : decode cL_close 3 = .ok (.iload_n 1, 1) := by decide +kernel
theorem dL_close_4 : decode cL_close 4 = .ok (.invokevirtual 29, 3) := by decide +kernel
theorem dL_close_7 : decode cL_close 7 = .ok (.ifCond .eq 7, 3) := by decide +kernel
theorem dL_close_10 : decode cL_close 10 = .ok (.lconst 1, 1) := by decide +kernel
theorem dL_close_11 : decode cL_close 11 = .ok (.goto 4, 3) := by decide +kernel
theorem dL_close_14 : decode cL_close 14 = .ok (.lconst 0, 1) := by decide +kernel
theorem dL_close_15 : decode cL_close 15 = .ok (.lastore, 1) := by decide +kernel
theorem dL_close_16 : decode cL_close 16 = .ok (.goto 9, 3) := by decide +kernel
theorem dL_close_19 : decode cL_close 19 = .ok (.astore_n 3, 1) := by decide +kernel
theorem dL_close_20 : decode cL_close 20 = .ok (.iconst 1, 1) := by decide +kernel
theorem dL_close_21 : decode cL_close 21 = .ok (.ireturn, 1) := by decide +kernel
theorem dL_close_22 : decode cL_close 22 = .ok (.astore_n 3, 1) := by decide +kernel
theorem dL_close_23 : decode cL_close 23 = .ok (.iconst 2, 1) := by decide +kernel
theorem dL_close_24 : decode cL_close 24 = .ok (.ireturn, 1) := by decide +kernel
theorem dL_close_25 : decode cL_close 25 = .ok (.iconst 0, 1) := by decide +kernel
theorem dL_close_26 : decode cL_close 26 = .ok (.ireturn, 1) := by decide +kernel
set_option maxRecDepth 20000 in
theorem ggL_replace_X1_replace : GoodIn wsL_replace wsX1_replace := goodIn_ca (goodIn_ca (goodIn_ca (goodIn_r _ [8, 9, 10, 11, 12, 13, 14, 15, 16, 17, 18, 7, 19, 20, 21, 22, 23, 24, 25, 26, 27, 28, 29, 30, 31, 32, 33, 34, 35, 36, 37, 38, 39, 40, 41, 42, 43, 44, 45, 46, 47, 48, 49, 50, 51, 52, 53, 54, 55, 56] (by decide +kernel) (by decide +kernel)) (goodIn_sub (fun _ h => List.mem_cons_of_mem _ (List.mem_append_left _ (List.mem_append_left _ (List.mem_append_right _ h)))) (by decide +kernel))) (goodIn_sub (fun _ h => List.mem_cons_of_mem _ (List.mem_append_left _ (List.mem_append_right _ h))) (by decide +kernel))) (goodIn_sub (fun _ h => List.mem_cons_of_mem _ (List.mem_append_right _ h)) (by decide +kernel))
set_option maxRecDepth 20000 in
theorem gL_replace_X1_replace : GoodIn wsL_replace (wsV RL 33 RX1 yX1_replace wsX1_replace) := goodIn_app (goodIn_of _ (by decide +kernel)) ggL_replace_X1_replace
theorem dL_replace_0 : decode cL_replace 0 = .ok (.aload 4, 2) := by decide +kernel
theorem dL_replace_2 : decode cL_replace 2 = .ok (.iconst 0, 1) := by decide +kernel
theorem dL_replace_3 : decode cL_replace 3 = .ok (.aload_n 0, 1) := by decide +kernel
theorem dL_replace_4 : decode cL_replace 4 = .ok (.iload_n 1, 1) := by decide +kernel
theorem dL_replace_5 : decode cL_replace 5 = .ok (.iload_n 2, 1) := by decide +kernel
theorem dL_replace_6 : decode cL_replace 6 = .ok (.iload_n 3, 1) := by decide +kernel
theorem dL_replace_7 : decode cL_replace 7 = .ok (.invokevirtual 33, 3) := by decide +kernel
theorem dL_replace_10 : decode cL_replace 10 = .ok (.dastore, 1) := by decide +kernel
theorem dL_replace_11 : decode cL_replace 11 = .ok (.goto 15, 3) := by decide +kernel
theorem dL_replace_14 : decode cL_replace 14 = .ok (.astore 5, 2) := by decide +kernel
theorem dL_replace_16 : decode cL_replace 16 = .ok (.iconst 1, 1) := by decide +kernel
theorem dL_replace_17 : decode cL_replace 17 = .ok (.ireturn, 1) := by decide +kernel
theorem dL_replace_18 : decode cL_replace 18 = .ok (.astore 5, 2) := by decide +kernel
theorem dL_replace_20 : decode cL_replace 20 = .ok (.iconst 2, 1) := by decide +kernel
theorem dL_replace_21 : decode cL_replace 21 = .ok (.ireturn, 1) := by decide +kernel
theorem dL_replace_22 : decode cL_replace 22 = .ok (.astore 5, 2) := by decide +kernel
theorem dL_replace_24 : decode cL_replace 24 = .ok (.iconst 3, 1) := by decide +kernel
theorem dL_replace_25 : decode cL_replace 25 = .ok (.ireturn, 1) := by decide +kernel
theorem dL_replace_26 : decode cL_replace 26 = .ok (.iconst 0, 1) := by decide +kernel
theorem dL_replace_27 : decode cL_replace 27 = .ok (.ireturn, 1) := by decide +kernel
set_option maxRecDepth 20000 in
theorem ggL_use_X1_use : GoodIn wsL_use wsX1_use := goodIn_ca (goodIn_ca (goodIn_r _ [7, 8, 9, 10, 11, 12, 6, 13, 14, 15, 16, 17, 18, 19, 20, 21, 22, 23, 24, 25, 26, 27, 28, 29, 30, 31, 32, 33, 34, 35, 36, 37, 38, 39, 40, 41, 42, 43, 44, 45, 46, 47, 48, 49, 50] (by decide +kernel) (by decide +kernel)) (goodIn_sub (fun _ h => List.mem_cons_of_mem _ (List.mem_append_left _ (List.mem_append_right _ h))) (by decide +kernel))) (goodIn_sub (fun _ h => List.mem_cons_of_mem _ (List.mem_append_right _ h)) (by decide +kernel))
set_option maxRecDepth 20000 in
theorem gL_use_X1_use : GoodIn wsL_use (wsV RL 39 RX1 yX1_use wsX1_use) := goodIn_app (goodIn_of _ (by decide +kernel)) ggL_use_X1_use
theorem dL_use_0 : decode cL_use 0 = .ok (.aload_n 3, 1) := by decide +kernel
theorem dL_use_1 : decode cL_use 1 = .ok (.iconst 0, 1) := by decide +kernel
theorem dL_use_2 : decode cL_use 2 = .ok (.aload_n 0, 1) := by decide +kernel
theorem dL_use_3 : decode cL_use 3 = .ok (.iload_n 1, 1) := by decide +kernel
theorem dL_use_4 : decode cL_use 4 = .ok (.iload_n 2, 1) := by decide +kernel
theorem dL_use_5 : decode cL_use 5 = .ok (.invokevirtual 39, 3) := by decide +kernel
theorem dL_use_8 : decode cL_use 8 = .ok (.dastore, 1) := by decide +kernel
theorem dL_use_9 : decode cL_use 9 = .ok (.goto 11, 3) := by decide +kernel
theorem dL_use_12 : decode cL_use 12 = .ok (.astore 4, 2) := by decide +kernel
theorem dL_use_14 : decode cL_use 14 = .ok (.iconst 1, 1) := by decide +kernel
theorem dL_use_15 : decode cL_use 15 = .ok (.ireturn, 1) := by decide +kernel
theorem dL_use_16 : decode cL_use 16 = .ok (.astore 4, 2) := by decide +kernel
theorem dL_use_18 : decode cL_use 18 = .ok (.iconst 2, 1) := by decide +kernel
theorem dL_use_19 : decode cL_use 19 = .ok (.ireturn, 1) := by decide +kernel
theorem dL_use_20 : decode cL_use 20 = .ok (.iconst 0, 1) := by decide +kernel
theorem dL_use_21 : decode cL_use 21 = .ok (.ireturn, 1) := by decide +kernel
set_option maxRecDepth 20000 in
theorem ggL_fromSun_X1_fromSun : GoodIn wsL_fromSun wsX1_fromSun := goodIn_ca (goodIn_ca (goodIn_r _ [7, 8, 9, 10, 11, 12, 6, 13, 14, 15, 16, 17, 18, 19, 20, 21, 22, 23, 24, 25, 26, 27, 28, 29, 30, 31, 32, 33, 34, 35, 36, 37, 38, 39, 40, 41, 42, 43, 44, 45, 46, 47, 48, 49, 50] (by decide +kernel) (by decide +kernel)) (goodIn_sub (fun _ h => List.mem_cons_of_mem _ (List.mem_append_left _ (List.mem_append_right _ h))) (by decide +kernel))) (goodIn_sub (fun _ h => List.mem_cons_of_mem _ (List.mem_append_right _ h)) (by decide +kernel))
set_option maxRecDepth 20000 in
theorem gL_fromSun_X1_fromSun : GoodIn wsL_fromSun (wsV RL 43 RX1 yX1_fromSun wsX1_fromSun) := goodIn_app (goodIn_of _ (by decide +kernel)) ggL_fromSun_X1_fromSun
theorem dL_fromSun_0 : decode cL_fromSun 0 = .ok (.aload_n 3, 1) := by decide +kernel
theorem dL_fromSun_1 : decode cL_fromSun 1 = .ok (.iconst 0, 1) := by decide +kernel
theorem dL_fromSun_2 : decode cL_fromSun 2 = .ok (.aload_n 0, 1) := by decide +kernel
theorem dL_fromSun_3 : decode cL_fromSun 3 = .ok (.iload_n 1, 1) := by decide +kernel
theorem dL_fromSun_4 : decode cL_fromSun 4 = .ok (.iload_n 2, 1) := by decide +kernel
theorem dL_fromSun_5 : decode cL_fromSun 5 = .ok (.invokevirtual 43, 3) := by decide +kernel
theorem dL_fromSun_8 : decode cL_fromSun 8 = .ok (.dastore, 1) := by decide +kernel
theorem dL_fromSun_9 : decode cL_fromSun 9 = .ok (.goto 11, 3) := by decide +kernel
theorem dL_fromSun_12 : decode cL_fromSun 12 = .ok (.astore 4, 2) := by decide +kernel
theorem dL_fromSun_14 : decode cL_fromSun 14 = .ok (.iconst 1, 1) := by decide +kernel
theorem dL_fromSun_15 : decode cL_fromSun 15 = .ok (.ireturn, 1) := by decide +kernel
theorem dL_fromSun_16 : decode cL_fromSun 16 = .ok (.astore 4, 2) := by decide +kernel
theorem dL_fromSun_18 : decode cL_fromSun 18 = .ok (.iconst 2, 1) := by decide +kernel
theorem dL_fromSun_19 : decode cL_fromSun 19 = .ok (.ireturn, 1) := by decide +kernel
theorem dL_fromSun_20 : decode cL_fromSun 20 = .ok (.iconst 0, 1) := by decide +kernel
theorem dL_fromSun_21 : decode cL_fromSun 21 = .ok (.ireturn, 1) := by decide +kernel
set_option maxRecDepth 20000 in
theorem ggL_fromBattery_X1_fromBattery : GoodIn wsL_fromBattery wsX1_fromBattery := goodIn_ca (goodIn_ca (goodIn_r _ [7, 8, 9, 10, 11, 12, 6, 13, 14, 15, 16, 17, 18, 19, 20, 21, 22, 23, 24, 25, 26, 27, 28, 29, 30, 31, 32, 33, 34, 35, 36, 37, 38, 39, 40, 41, 42, 43, 44, 45, 46, 47, 48, 49, 50] (by decide +kernel) (by decide +kernel)) (goodIn_sub (fun _ h => List.mem_cons_of_mem _ (List.mem_append_left _ (List.mem_append_right _ h))) (by decide +kernel))) (goodIn_sub (fun _ h => List.mem_cons_of_mem _ (List.mem_append_right _ h)) (by decide +kernel))
set_option maxRecDepth 20000 in
theorem gL_fromBattery_X1_fromBattery : GoodIn wsL_fromBattery (wsV RL 46 RX1 yX1_fromBattery wsX1_fromBattery) := goodIn_app (goodIn_of _ (by decide +kernel)) ggL_fromBattery_X1_fromBattery
theorem dL_fromBattery_0 : decode cL_fromBattery 0 = .ok (.aload_n 3, 1) := by decide +kernel
theorem dL_fromBattery_1 : decode cL_fromBattery 1 = .ok (.iconst 0, 1) := by decide +kernel
theorem dL_fromBattery_2 : decode cL_fromBattery 2 = .ok (.aload_n 0, 1) := by decide +kernel
theorem dL_fromBattery_3 : decode cL_fromBattery 3 = .ok (.iload_n 1, 1) := by decide +kernel
theorem dL_fromBattery_4 : decode cL_fromBattery 4 = .ok (.iload_n 2, 1) := by decide +kernel
theorem dL_fromBattery_5 : decode cL_fromBattery 5 = .ok (.invokevirtual 46, 3) := by decide +kernel
theorem dL_fromBattery_8 : decode cL_fromBattery 8 = .ok (.dastore, 1) := by decide +kernel
theorem dL_fromBattery_9 : decode cL_fromBattery 9 = .ok (.goto 11, 3) := by decide +kernel
theorem dL_fromBattery_12 : decode cL_fromBattery 12 = .ok (.astore 4, 2) := by decide +kernel
theorem dL_fromBattery_14 : decode cL_fromBattery 14 = .ok (.iconst 1, 1) := by decide +kernel
theorem dL_fromBattery_15 : decode cL_fromBattery 15 = .ok (.ireturn, 1) := by decide +kernel
theorem dL_fromBattery_16 : decode cL_fromBattery 16 = .ok (.astore 4, 2) := by decide +kernel
theorem dL_fromBattery_18 : decode cL_fromBattery 18 = .ok (.iconst 2, 1) := by decide +kernel
theorem dL_fromBattery_19 : decode cL_fromBattery 19 = .ok (.ireturn, 1) := by decide +kernel
theorem dL_fromBattery_20 : decode cL_fromBattery 20 = .ok (.iconst 0, 1) := by decide +kernel
theorem dL_fromBattery_21 : decode cL_fromBattery 21 = .ok (.ireturn, 1) := by decide +kernel
set_option maxRecDepth 20000 in
theorem ggL_bought_X1_bought : GoodIn wsL_bought wsX1_bought := goodIn_ca (goodIn_ca (goodIn_r _ [7, 8, 9, 10, 11, 12, 6, 13, 14, 15, 16, 17, 18, 19, 20, 21, 22, 23, 24, 25, 26, 27, 28, 29, 30, 31, 32, 33, 34, 35, 36, 37, 38, 39, 40, 41, 42, 43, 44, 45, 46, 47, 48, 49, 50] (by decide +kernel) (by decide +kernel)) (goodIn_sub (fun _ h => List.mem_cons_of_mem _ (List.mem_append_left _ (List.mem_append_right _ h))) (by decide +kernel))) (goodIn_sub (fun _ h => List.mem_cons_of_mem _ (List.mem_append_right _ h)) (by decide +kernel))
set_option maxRecDepth 20000 in
theorem gL_bought_X1_bought : GoodIn wsL_bought (wsV RL 49 RX1 yX1_bought wsX1_bought) := goodIn_app (goodIn_of _ (by decide +kernel)) ggL_bought_X1_bought
theorem dL_bought_0 : decode cL_bought 0 = .ok (.aload_n 3, 1) := by decide +kernel
theorem dL_bought_1 : decode cL_bought 1 = .ok (.iconst 0, 1) := by decide +kernel
theorem dL_bought_2 : decode cL_bought 2 = .ok (.aload_n 0, 1) := by decide +kernel
theorem dL_bought_3 : decode cL_bought 3 = .ok (.iload_n 1, 1) := by decide +kernel
theorem dL_bought_4 : decode cL_bought 4 = .ok (.iload_n 2, 1) := by decide +kernel
theorem dL_bought_5 : decode cL_bought 5 = .ok (.invokevirtual 49, 3) := by decide +kernel
theorem dL_bought_8 : decode cL_bought 8 = .ok (.dastore, 1) := by decide +kernel
theorem dL_bought_9 : decode cL_bought 9 = .ok (.goto 11, 3) := by decide +kernel
theorem dL_bought_12 : decode cL_bought 12 = .ok (.astore 4, 2) := by decide +kernel
theorem dL_bought_14 : decode cL_bought 14 = .ok (.iconst 1, 1) := by decide +kernel
theorem dL_bought_15 : decode cL_bought 15 = .ok (.ireturn, 1) := by decide +kernel
theorem dL_bought_16 : decode cL_bought 16 = .ok (.astore 4, 2) := by decide +kernel
theorem dL_bought_18 : decode cL_bought 18 = .ok (.iconst 2, 1) := by decide +kernel
theorem dL_bought_19 : decode cL_bought 19 = .ok (.ireturn, 1) := by decide +kernel
theorem dL_bought_20 : decode cL_bought 20 = .ok (.iconst 0, 1) := by decide +kernel
theorem dL_bought_21 : decode cL_bought 21 = .ok (.ireturn, 1) := by decide +kernel
set_option maxRecDepth 20000 in
theorem ggL_sold_X1_sold : GoodIn wsL_sold wsX1_sold := goodIn_ca (goodIn_r _ [6, 7, 8, 9, 10, 11, 5, 12, 13, 14, 15, 16, 17, 18, 19, 20, 21, 22, 23, 24, 25, 26, 27, 28, 29, 30, 31, 32, 33, 34, 35, 36] (by decide +kernel) (by decide +kernel)) (goodIn_sub (fun _ h => List.mem_cons_of_mem _ (List.mem_append_right _ h)) (by decide +kernel))
set_option maxRecDepth 20000 in
theorem gL_sold_X1_sold : GoodIn wsL_sold (wsV RL 52 RX1 yX1_sold wsX1_sold) := goodIn_app (goodIn_of _ (by decide +kernel)) ggL_sold_X1_sold
theorem dL_sold_0 : decode cL_sold 0 = .ok (.aload_n 2, 1) := by decide +kernel
theorem dL_sold_1 : decode cL_sold 1 = .ok (.iconst 0, 1) := by decide +kernel
theorem dL_sold_2 : decode cL_sold 2 = .ok (.aload_n 0, 1) := by decide +kernel
theorem dL_sold_3 : decode cL_sold 3 = .ok (.iload_n 1, 1) := by decide +kernel
theorem dL_sold_4 : decode cL_sold 4 = .ok (.invokevirtual 52, 3) := by decide +kernel
theorem dL_sold_7 : decode cL_sold 7 = .ok (.dastore, 1) := by decide +kernel
theorem dL_sold_8 : decode cL_sold 8 = .ok (.goto 6, 3) := by decide +kernel
theorem dL_sold_11 : decode cL_sold 11 = .ok (.astore_n 3, 1) := by decide +kernel
theorem dL_sold_12 : decode cL_sold 12 = .ok (.iconst 1, 1) := by decide +kernel
theorem dL_sold_13 : decode cL_sold 13 = .ok (.ireturn, 1) := by decide +kernel
theorem dL_sold_14 : decode cL_sold 14 = .ok (.iconst 0, 1) := by decide +kernel
theorem dL_sold_15 : decode cL_sold 15 = .ok (.ireturn, 1) := by decide +kernel
set_option maxRecDepth 20000 in
theorem ggL_sheds_X1_sheds : GoodIn wsL_sheds wsX1_sheds := goodIn_ca (goodIn_r _ [6, 7, 8, 9, 5, 10, 11, 12, 13, 14, 15, 16, 17, 18, 19, 20, 21, 22, 23, 24] (by decide +kernel) (by decide +kernel)) (goodIn_sub (fun _ h => List.mem_cons_of_mem _ (List.mem_append_right _ h)) (by decide +kernel))
set_option maxRecDepth 20000 in
theorem gL_sheds_X1_sheds : GoodIn wsL_sheds (wsV RL 55 RX1 yX1_sheds wsX1_sheds) := goodIn_app (goodIn_of _ (by decide +kernel)) ggL_sheds_X1_sheds
theorem dL_sheds_0 : decode cL_sheds 0 = .ok (.aload_n 2, 1) := by decide +kernel
theorem dL_sheds_1 : decode cL_sheds 1 = .ok (.iconst 0, 1) := by decide +kernel
theorem dL_sheds_2 : decode cL_sheds 2 = .ok (.aload_n 0, 1) := by decide +kernel
theorem dL_sheds_3 : decode cL_sheds 3 = .ok (.iload_n 1, 1) := by decide +kernel
theorem dL_sheds_4 : decode cL_sheds 4 = .ok (.invokevirtual 55, 3) := by decide +kernel
theorem dL_sheds_7 : decode cL_sheds 7 = .ok (.i2l, 1) := by decide +kernel
theorem dL_sheds_8 : decode cL_sheds 8 = .ok (.lastore, 1) := by decide +kernel
theorem dL_sheds_9 : decode cL_sheds 9 = .ok (.goto 6, 3) := by decide +kernel
theorem dL_sheds_12 : decode cL_sheds 12 = .ok (.astore_n 3, 1) := by decide +kernel
theorem dL_sheds_13 : decode cL_sheds 13 = .ok (.iconst 1, 1) := by decide +kernel
theorem dL_sheds_14 : decode cL_sheds 14 = .ok (.ireturn, 1) := by decide +kernel
theorem dL_sheds_15 : decode cL_sheds 15 = .ok (.iconst 0, 1) := by decide +kernel
theorem dL_sheds_16 : decode cL_sheds 16 = .ok (.ireturn, 1) := by decide +kernel
set_option maxRecDepth 20000 in
theorem ggL_bill_X1_bill : GoodIn wsL_bill wsX1_bill := goodIn_ca (goodIn_r _ [6, 7, 8, 9, 5, 10, 11, 12, 13, 14, 15, 16, 17, 18, 19, 20, 21, 22, 23, 24] (by decide +kernel) (by decide +kernel)) (goodIn_sub (fun _ h => List.mem_cons_of_mem _ (List.mem_append_right _ h)) (by decide +kernel))
set_option maxRecDepth 20000 in
theorem gL_bill_X1_bill : GoodIn wsL_bill (wsV RL 59 RX1 yX1_bill wsX1_bill) := goodIn_app (goodIn_of _ (by decide +kernel)) ggL_bill_X1_bill
theorem dL_bill_0 : decode cL_bill 0 = .ok (.aload_n 2, 1) := by decide +kernel
theorem dL_bill_1 : decode cL_bill 1 = .ok (.iconst 0, 1) := by decide +kernel
theorem dL_bill_2 : decode cL_bill 2 = .ok (.aload_n 0, 1) := by decide +kernel
theorem dL_bill_3 : decode cL_bill 3 = .ok (.iload_n 1, 1) := by decide +kernel
theorem dL_bill_4 : decode cL_bill 4 = .ok (.invokevirtual 59, 3) := by decide +kernel
theorem dL_bill_7 : decode cL_bill 7 = .ok (.dastore, 1) := by decide +kernel
theorem dL_bill_8 : decode cL_bill 8 = .ok (.goto 6, 3) := by decide +kernel
theorem dL_bill_11 : decode cL_bill 11 = .ok (.astore_n 3, 1) := by decide +kernel
theorem dL_bill_12 : decode cL_bill 12 = .ok (.iconst 1, 1) := by decide +kernel
theorem dL_bill_13 : decode cL_bill 13 = .ok (.ireturn, 1) := by decide +kernel
theorem dL_bill_14 : decode cL_bill 14 = .ok (.iconst 0, 1) := by decide +kernel
theorem dL_bill_15 : decode cL_bill 15 = .ok (.ireturn, 1) := by decide +kernel
set_option maxRecDepth 20000 in
theorem ggL_law_X1_init : GoodIn wsL_law wsX1_init := goodIn_r _ [10, 11, 12, 13, 14, 15, 16, 17, 18, 7, 19, 20, 21, 22, 23, 24, 25, 26, 27, 28, 29, 30, 31, 32, 33, 34, 35, 36, 37, 38, 39, 40, 41, 42, 43, 410, 411, 412, 413, 414, 415, 416, 417, 418, 419, 420, 421, 442, 443, 444, 445, 446, 447, 448, 449, 450] (by decide +kernel) (by decide +kernel)
set_option maxRecDepth 20000 in
theorem gL_law_X1_init : GoodIn wsL_law (wsX1_init) := ggL_law_X1_init
set_option maxRecDepth 20000 in
theorem ggL_law_X2_init : GoodIn wsL_law wsX2_init := goodIn_r _ [46, 47, 12, 13, 14, 48, 16, 49, 50, 7, 51, 52, 53, 54, 55, 56, 57, 58, 59, 60, 61, 62, 63, 64, 422, 423, 424, 425, 426, 427, 428, 429, 430, 431, 432, 433, 434, 435, 436, 437, 438, 439, 440, 441] (by decide +kernel) (by decide +kernel)
set_option maxRecDepth 20000 in
theorem gL_law_X2_init : GoodIn wsL_law (wsX2_init) := ggL_law_X2_init
set_option maxRecDepth 20000 in
theorem ggL_law_L_setShare : GoodIn wsL_law wsL_setShare := goodIn_ca (goodIn_ca (goodIn_r _ [68, 69, 70, 71, 72, 73, 2, 74, 75, 76, 15, 77, 78, 79, 80, 81, 82, 83, 84, 85, 86, 87, 88, 410, 411, 412, 413, 414, 415, 416, 417, 418, 419, 420, 421] (by decide +kernel) (by decide +kernel)) (goodIn_sub (fun _ h => List.mem_append_left _ (List.mem_append_left _ (List.mem_append_right _ h))) (by decide +kernel))) (goodIn_sub (fun _ h => List.mem_append_left _ (List.mem_append_right _ h)) (by decide +kernel))
set_option maxRecDepth 20000 in
theorem gL_law_L_setShare : GoodIn wsL_law (va_wsS RL 66 yL_setShare wsL_setShare) := goodIn_app (goodIn_of _ (by decide +kernel)) ggL_law_L_setShare
set_option maxRecDepth 20000 in
theorem ggL_law_X2_setShare : GoodIn wsL_law wsX2_setShare := goodIn_r _ [92, 48, 93, 94, 5, 95, 96, 97, 98, 99, 100, 101, 102, 103, 104, 105, 106, 107, 422, 423, 424, 425, 426, 427, 428, 429, 430, 431, 432, 433, 434, 435, 436, 437, 438, 439, 440, 441] (by decide +kernel) (by decide +kernel)
set_option maxRecDepth 20000 in
theorem gL_law_X2_setShare : GoodIn wsL_law (wsV RL 71 RX2 yX2_setShare wsX2_setShare) := goodIn_app (goodIn_of _ (by decide +kernel)) ggL_law_X2_setShare
set_option maxRecDepth 20000 in
theorem ggL_law_X2_thrown : GoodIn wsL_law wsX2_thrown := goodIn_r _ [111, 107, 422, 423, 424, 425, 426, 427, 428, 429, 430, 431, 432, 433, 434, 435, 436, 437, 438, 439, 440, 441] (by decide +kernel) (by decide +kernel)
set_option maxRecDepth 20000 in
theorem gL_law_X2_thrown : GoodIn wsL_law (wsV RL 72 RX2 yX2_thrown wsX2_thrown) := goodIn_app (goodIn_of _ (by decide +kernel)) ggL_law_X2_thrown
set_option maxRecDepth 20000 in
theorem ggL_law_L_setSwitch : GoodIn wsL_law wsL_setSwitch := goodIn_ca (goodIn_r _ [114, 69, 115, 116, 117, 2, 118, 17, 77, 78, 79, 80, 81, 410, 411, 412, 413, 414, 415, 416, 417, 418, 419, 420, 421] (by decide +kernel) (by decide +kernel)) (goodIn_sub (fun _ h => List.mem_append_left _ (List.mem_append_right _ h)) (by decide +kernel))
set_option maxRecDepth 20000 in
theorem gL_law_L_setSwitch : GoodIn wsL_law (va_wsS RL 76 yL_setSwitch wsL_setSwitch) := goodIn_app (goodIn_of _ (by decide +kernel)) ggL_law_L_setSwitch
set_option maxRecDepth 20000 in
theorem ggL_law_X2_setSwitch : GoodIn wsL_law wsX2_setSwitch := goodIn_r _ [122, 49, 93, 94, 5, 95, 96, 97, 98, 103, 104, 105, 106, 107, 422, 423, 424, 425, 426, 427, 428, 429, 430, 431, 432, 433, 434, 435, 436, 437, 438, 439, 440, 441] (by decide +kernel) (by decide +kernel)
set_option maxRecDepth 20000 in
theorem gL_law_X2_setSwitch : GoodIn wsL_law (wsV RL 79 RX2 yX2_setSwitch wsX2_setSwitch) := goodIn_app (goodIn_of _ (by decide +kernel)) ggL_law_X2_setSwitch
set_option maxRecDepth 20000 in
theorem ggL_law_L_setPrice : GoodIn wsL_law wsL_setPrice := goodIn_ca (goodIn_r _ [125, 69, 126, 127, 128, 2, 129, 130, 27, 82, 83, 84, 80, 81, 410, 411, 412, 413, 414, 415, 416, 417, 418, 419, 420, 421] (by decide +kernel) (by decide +kernel)) (goodIn_sub (fun _ h => List.mem_append_left _ (List.mem_append_right _ h)) (by decide +kernel))
set_option maxRecDepth 20000 in
theorem gL_law_L_setPrice : GoodIn wsL_law (va_wsS RL 80 yL_setPrice wsL_setPrice) := goodIn_app (goodIn_of _ (by decide +kernel)) ggL_law_L_setPrice
set_option maxRecDepth 20000 in
theorem ggL_law_X2_setPrice : GoodIn wsL_law wsX2_setPrice := goodIn_r _ [134, 135, 53, 96, 97, 5, 98, 103, 104, 105, 106, 107, 422, 423, 424, 425, 426, 427, 428, 429, 430, 431, 432, 433, 434, 435, 436, 437, 438, 439, 440, 441] (by decide +kernel) (by decide +kernel)
set_option maxRecDepth 20000 in
theorem gL_law_X2_setPrice : GoodIn wsL_law (wsV RL 83 RX2 yX2_setPrice wsX2_setPrice) := goodIn_app (goodIn_of _ (by decide +kernel)) ggL_law_X2_setPrice
set_option maxRecDepth 20000 in
theorem ggL_law_L_tell : GoodIn wsL_law wsL_tell := goodIn_ca (goodIn_r _ [138, 69, 139, 140, 141, 2, 142, 20, 21, 77, 78, 79, 80, 81, 82, 83, 84, 410, 411, 412, 413, 414, 415, 416, 417, 418, 419, 420, 421] (by decide +kernel) (by decide +kernel)) (goodIn_sub (fun _ h => List.mem_append_left _ (List.mem_append_right _ h)) (by decide +kernel))
set_option maxRecDepth 20000 in
theorem gL_law_L_tell : GoodIn wsL_law (va_wsS RL 84 yL_tell wsL_tell) := goodIn_app (goodIn_of _ (by decide +kernel)) ggL_law_L_tell
set_option maxRecDepth 20000 in
theorem ggL_law_X2_tell : GoodIn wsL_law wsX2_tell := goodIn_r _ [146, 54, 55, 93, 94, 5, 95, 96, 97, 98, 103, 104, 105, 106, 107, 422, 423, 424, 425, 426, 427, 428, 429, 430, 431, 432, 433, 434, 435, 436, 437, 438, 439, 440, 441] (by decide +kernel) (by decide +kernel)
set_option maxRecDepth 20000 in
theorem gL_law_X2_tell : GoodIn wsL_law (wsV RL 86 RX2 yX2_tell wsX2_tell) := goodIn_app (goodIn_of _ (by decide +kernel)) ggL_law_X2_tell
set_option maxRecDepth 20000 in
theorem ggL_law_L_close : GoodIn wsL_law wsL_close := goodIn_ca (goodIn_ca (goodIn_r _ [149, 69, 70, 150, 151, 152, 2, 153, 75, 76, 25, 154, 155, 27, 31, 82, 83, 84, 80, 81, 156, 157, 158, 159, 20, 21, 160, 161, 30, 162, 163, 24, 164, 165, 166, 167, 168, 35, 39, 38, 169, 170, 171, 172, 173, 174, 18, 175, 176, 177, 178, 17, 179, 180, 181, 182, 183, 184, 185, 186, 187, 188, 189, 190, 191, 192, 193, 194, 195, 196, 15, 130, 197, 198, 199, 200, 201, 202, 203, 204, 205, 206, 207, 208, 209, 210, 211, 212, 213, 28, 214, 215, 216, 217, 218, 29, 219, 220, 221, 222, 223, 224, 225, 226, 227, 228, 229, 230, 231, 232, 19, 410, 411, 412, 413, 414, 415, 416, 417, 418, 419, 420, 421, 442, 443, 444, 445, 446, 447, 448, 449, 450] (by decide +kernel) (by decide +kernel)) (goodIn_sub (fun _ h => List.mem_append_left _ (List.mem_append_left _ (List.mem_append_right _ h))) (by decide +kernel))) (goodIn_sub (fun _ h => List.mem_append_left _ (List.mem_append_right _ h)) (by decide +kernel))
set_option maxRecDepth 20000 in
theorem gL_law_L_close : GoodIn wsL_law (va_wsS RL 87 yL_close wsL_close) := goodIn_app (goodIn_of _ (by decide +kernel)) ggL_law_L_close
set_option maxRecDepth 20000 in
theorem ggL_law_X2_close : GoodIn wsL_law wsX2_close := goodIn_r _ [236, 237, 56, 54, 57, 55, 58, 64, 238, 239, 62, 63, 53, 96, 97, 5, 98, 103, 104, 105, 106, 107, 240, 241, 242, 243, 244, 245, 246, 247, 248, 249, 50, 250, 251, 252, 253, 254, 255, 256, 257, 49, 258, 259, 260, 261, 48, 135, 59, 262, 263, 264, 265, 266, 267, 268, 269, 60, 270, 271, 272, 273, 61, 51, 274, 422, 423, 424, 425, 426, 427, 428, 429, 430, 431, 432, 433, 434, 435, 436, 437, 438, 439, 440, 441] (by decide +kernel) (by decide +kernel)
set_option maxRecDepth 20000 in
theorem gL_law_X2_close : GoodIn wsL_law (wsV RL 90 RX2 yX2_close wsX2_close) := goodIn_app (goodIn_of _ (by decide +kernel)) ggL_law_X2_close
set_option maxRecDepth 20000 in
theorem ggL_law_X1_closed : GoodIn wsL_law wsX1_closed := goodIn_r _ [278, 25, 154, 410, 411, 412, 413, 414, 415, 416, 417, 418, 419, 420, 421, 442, 443, 444, 445, 446, 447, 448, 449, 450] (by decide +kernel) (by decide +kernel)
set_option maxRecDepth 20000 in
theorem gL_law_X1_closed : GoodIn wsL_law (wsV RL 91 RX1 yX1_closed wsX1_closed) := goodIn_app (goodIn_of _ (by decide +kernel)) ggL_law_X1_closed
set_option maxRecDepth 20000 in
theorem ggL_law_X2_closed : GoodIn wsL_law wsX2_closed := goodIn_r _ [282, 107, 237, 422, 423, 424, 425, 426, 427, 428, 429, 430, 431, 432, 433, 434, 435, 436, 437, 438, 439, 440, 441] (by decide +kernel) (by decide +kernel)
set_option maxRecDepth 20000 in
theorem gL_law_X2_closed : GoodIn wsL_law (wsV RL 94 RX2 yX2_closed wsX2_closed) := goodIn_app (goodIn_of _ (by decide +kernel)) ggL_law_X2_closed
set_option maxRecDepth 20000 in
theorem ggL_law_L_replace : GoodIn wsL_law wsL_replace := goodIn_ca (goodIn_ca (goodIn_ca (goodIn_r _ [285, 69, 286, 70, 287, 288, 289, 2, 290, 75, 76, 25, 160, 161, 192, 155, 19, 77, 78, 79, 80, 81, 82, 83, 84, 291, 292, 293, 294, 295, 296, 154, 162, 163, 24, 164, 410, 411, 412, 413, 414, 415, 416, 417, 418, 419, 420, 421, 442, 443, 444, 445, 446, 447, 448, 449, 450] (by decide +kernel) (by decide +kernel)) (goodIn_sub (fun _ h => List.mem_append_left _ (List.mem_append_left _ (List.mem_append_right _ h))) (by decide +kernel))) (goodIn_sub (fun _ h => List.mem_append_left _ (List.mem_append_right _ h)) (by decide +kernel))) (goodIn_sub (fun _ h => List.mem_append_right _ h) (by decide +kernel))
set_option maxRecDepth 20000 in
theorem gL_law_L_replace : GoodIn wsL_law (va_wsS RL 95 yL_replace wsL_replace) := goodIn_app (goodIn_of _ (by decide +kernel)) ggL_law_L_replace
set_option maxRecDepth 20000 in
theorem ggL_law_X2_replace : GoodIn wsL_law wsX2_replace := goodIn_r _ [300, 58, 63, 56, 57, 51, 301, 302, 303, 5, 304, 93, 94, 95, 96, 97, 98, 305, 306, 307, 308, 237, 103, 104, 105, 106, 107, 422, 423, 424, 425, 426, 427, 428, 429, 430, 431, 432, 433, 434, 435, 436, 437, 438, 439, 440, 441] (by decide +kernel) (by decide +kernel)
set_option maxRecDepth 20000 in
theorem gL_law_X2_replace : GoodIn wsL_law (wsV RL 98 RX2 yX2_replace wsX2_replace) := goodIn_app (goodIn_of _ (by decide +kernel)) ggL_law_X2_replace
set_option maxRecDepth 20000 in
theorem ggL_law_L_use : GoodIn wsL_law wsL_use := goodIn_ca (goodIn_ca (goodIn_r _ [311, 69, 286, 312, 313, 314, 2, 315, 25, 161, 316, 317, 318, 319, 77, 78, 79, 80, 81, 291, 292, 293, 294, 295, 296, 154, 162, 163, 24, 164, 410, 411, 412, 413, 414, 415, 416, 417, 418, 419, 420, 421, 442, 443, 444, 445, 446, 447, 448, 449, 450] (by decide +kernel) (by decide +kernel)) (goodIn_sub (fun _ h => List.mem_append_left _ (List.mem_append_right _ h)) (by decide +kernel))) (goodIn_sub (fun _ h => List.mem_append_right _ h) (by decide +kernel))
set_option maxRecDepth 20000 in
theorem gL_law_L_use : GoodIn wsL_law (va_wsS RL 99 yL_use wsL_use) := goodIn_app (goodIn_of _ (by decide +kernel)) ggL_law_L_use
set_option maxRecDepth 20000 in
theorem ggL_law_X2_use : GoodIn wsL_law wsX2_use := goodIn_r _ [323, 57, 324, 325, 326, 5, 327, 93, 94, 95, 96, 97, 98, 305, 306, 307, 308, 237, 103, 104, 105, 106, 107, 422, 423, 424, 425, 426, 427, 428, 429, 430, 431, 432, 433, 434, 435, 436, 437, 438, 439, 440, 441] (by decide +kernel) (by decide +kernel)
set_option maxRecDepth 20000 in
theorem gL_law_X2_use : GoodIn wsL_law (wsV RL 102 RX2 yX2_use wsX2_use) := goodIn_app (goodIn_of _ (by decide +kernel)) ggL_law_X2_use
set_option maxRecDepth 20000 in
theorem ggL_law_L_fromSun : GoodIn wsL_law wsL_fromSun := goodIn_ca (goodIn_ca (goodIn_r _ [330, 69, 286, 331, 332, 333, 2, 334, 25, 204, 316, 317, 318, 319, 77, 78, 79, 80, 81, 291, 292, 293, 294, 295, 296, 154, 162, 163, 24, 164, 410, 411, 412, 413, 414, 415, 416, 417, 418, 419, 420, 421, 442, 443, 444, 445, 446, 447, 448, 449, 450] (by decide +kernel) (by decide +kernel)) (goodIn_sub (fun _ h => List.mem_append_left _ (List.mem_append_right _ h)) (by decide +kernel))) (goodIn_sub (fun _ h => List.mem_append_right _ h) (by decide +kernel))
set_option maxRecDepth 20000 in
theorem gL_law_L_fromSun : GoodIn wsL_law (va_wsS RL 103 yL_fromSun wsL_fromSun) := goodIn_app (goodIn_of _ (by decide +kernel)) ggL_law_L_fromSun
set_option maxRecDepth 20000 in
theorem ggL_law_X2_fromSun : GoodIn wsL_law wsX2_fromSun := goodIn_r _ [338, 59, 324, 325, 326, 5, 327, 93, 94, 95, 96, 97, 98, 305, 306, 307, 308, 237, 103, 104, 105, 106, 107, 422, 423, 424, 425, 426, 427, 428, 429, 430, 431, 432, 433, 434, 435, 436, 437, 438, 439, 440, 441] (by decide +kernel) (by decide +kernel)
set_option maxRecDepth 20000 in
theorem gL_law_X2_fromSun : GoodIn wsL_law (wsV RL 105 RX2 yX2_fromSun wsX2_fromSun) := goodIn_app (goodIn_of _ (by decide +kernel)) ggL_law_X2_fromSun
set_option maxRecDepth 20000 in
theorem ggL_law_L_fromBattery : GoodIn wsL_law wsL_fromBattery := goodIn_ca (goodIn_ca (goodIn_r _ [341, 69, 286, 342, 343, 344, 2, 345, 25, 219, 316, 317, 318, 319, 77, 78, 79, 80, 81, 291, 292, 293, 294, 295, 296, 154, 162, 163, 24, 164, 410, 411, 412, 413, 414, 415, 416, 417, 418, 419, 420, 421, 442, 443, 444, 445, 446, 447, 448, 449, 450] (by decide +kernel) (by decide +kernel)) (goodIn_sub (fun _ h => List.mem_append_left _ (List.mem_append_right _ h)) (by decide +kernel))) (goodIn_sub (fun _ h => List.mem_append_right _ h) (by decide +kernel))
set_option maxRecDepth 20000 in
theorem gL_law_L_fromBattery : GoodIn wsL_law (va_wsS RL 106 yL_fromBattery wsL_fromBattery) := goodIn_app (goodIn_of _ (by decide +kernel)) ggL_law_L_fromBattery
set_option maxRecDepth 20000 in
theorem ggL_law_X2_fromBattery : GoodIn wsL_law wsX2_fromBattery := goodIn_r _ [349, 60, 324, 325, 326, 5, 327, 93, 94, 95, 96, 97, 98, 305, 306, 307, 308, 237, 103, 104, 105, 106, 107, 422, 423, 424, 425, 426, 427, 428, 429, 430, 431, 432, 433, 434, 435, 436, 437, 438, 439, 440, 441] (by decide +kernel) (by decide +kernel)
set_option maxRecDepth 20000 in
theorem gL_law_X2_fromBattery : GoodIn wsL_law (wsV RL 108 RX2 yX2_fromBattery wsX2_fromBattery) := goodIn_app (goodIn_of _ (by decide +kernel)) ggL_law_X2_fromBattery
set_option maxRecDepth 20000 in
theorem ggL_law_L_bought : GoodIn wsL_law wsL_bought := goodIn_ca (goodIn_ca (goodIn_r _ [352, 69, 286, 353, 354, 355, 2, 356, 25, 232, 316, 317, 318, 319, 77, 78, 79, 80, 81, 291, 292, 293, 294, 295, 296, 154, 162, 163, 24, 164, 410, 411, 412, 413, 414, 415, 416, 417, 418, 419, 420, 421, 442, 443, 444, 445, 446, 447, 448, 449, 450] (by decide +kernel) (by decide +kernel)) (goodIn_sub (fun _ h => List.mem_append_left _ (List.mem_append_right _ h)) (by decide +kernel))) (goodIn_sub (fun _ h => List.mem_append_right _ h) (by decide +kernel))
set_option maxRecDepth 20000 in
theorem gL_law_L_bought : GoodIn wsL_law (va_wsS RL 109 yL_bought wsL_bought) := goodIn_app (goodIn_of _ (by decide +kernel)) ggL_law_L_bought
set_option maxRecDepth 20000 in
theorem ggL_law_X2_bought : GoodIn wsL_law wsX2_bought := goodIn_r _ [360, 61, 324, 325, 326, 5, 327, 93, 94, 95, 96, 97, 98, 305, 306, 307, 308, 237, 103, 104, 105, 106, 107, 422, 423, 424, 425, 426, 427, 428, 429, 430, 431, 432, 433, 434, 435, 436, 437, 438, 439, 440, 441] (by decide +kernel) (by decide +kernel)
set_option maxRecDepth 20000 in
theorem gL_law_X2_bought : GoodIn wsL_law (wsV RL 111 RX2 yX2_bought wsX2_bought) := goodIn_app (goodIn_of _ (by decide +kernel)) ggL_law_X2_bought
set_option maxRecDepth 20000 in
theorem ggL_law_L_sold : GoodIn wsL_law wsL_sold := goodIn_ca (goodIn_r _ [363, 286, 364, 365, 366, 2, 367, 25, 214, 291, 292, 293, 294, 295, 296, 154, 410, 411, 412, 413, 414, 415, 416, 417, 418, 419, 420, 421, 442, 443, 444, 445, 446, 447, 448, 449, 450] (by decide +kernel) (by decide +kernel)) (goodIn_sub (fun _ h => List.mem_append_right _ h) (by decide +kernel))
set_option maxRecDepth 20000 in
theorem gL_law_L_sold : GoodIn wsL_law (va_wsS RL 112 yL_sold wsL_sold) := goodIn_app (goodIn_of _ (by decide +kernel)) ggL_law_L_sold
set_option maxRecDepth 20000 in
theorem ggL_law_X2_sold : GoodIn wsL_law wsX2_sold := goodIn_r _ [371, 62, 305, 306, 307, 5, 308, 237, 96, 97, 98, 103, 104, 105, 106, 107, 422, 423, 424, 425, 426, 427, 428, 429, 430, 431, 432, 433, 434, 435, 436, 437, 438, 439, 440, 441] (by decide +kernel) (by decide +kernel)
set_option maxRecDepth 20000 in
theorem gL_law_X2_sold : GoodIn wsL_law (wsV RL 114 RX2 yX2_sold wsX2_sold) := goodIn_app (goodIn_of _ (by decide +kernel)) ggL_law_X2_sold
set_option maxRecDepth 20000 in
theorem ggL_law_X1_battery : GoodIn wsL_law wsX1_battery := goodIn_r _ [375, 28, 410, 411, 412, 413, 414, 415, 416, 417, 418, 419, 420, 421] (by decide +kernel) (by decide +kernel)
set_option maxRecDepth 20000 in
theorem gL_law_X1_battery : GoodIn wsL_law (wsV RL 115 RX1 yX1_battery wsX1_battery) := goodIn_app (goodIn_of _ (by decide +kernel)) ggL_law_X1_battery
set_option maxRecDepth 20000 in
theorem ggL_law_X2_battery : GoodIn wsL_law wsX2_battery := goodIn_r _ [379, 107, 239, 422, 423, 424, 425, 426, 427, 428, 429, 430, 431, 432, 433, 434, 435, 436, 437, 438, 439, 440, 441] (by decide +kernel) (by decide +kernel)
set_option maxRecDepth 20000 in
theorem gL_law_X2_battery : GoodIn wsL_law (wsV RL 119 RX2 yX2_battery wsX2_battery) := goodIn_app (goodIn_of _ (by decide +kernel)) ggL_law_X2_battery
set_option maxRecDepth 20000 in
theorem ggL_law_X1_turn : GoodIn wsL_law wsX1_turn := goodIn_r _ [383, 29, 410, 411, 412, 413, 414, 415, 416, 417, 418, 419, 420, 421] (by decide +kernel) (by decide +kernel)
set_option maxRecDepth 20000 in
theorem gL_law_X1_turn : GoodIn wsL_law (wsV RL 120 RX1 yX1_turn wsX1_turn) := goodIn_app (goodIn_of _ (by decide +kernel)) ggL_law_X1_turn
set_option maxRecDepth 20000 in
theorem ggL_law_X2_turn : GoodIn wsL_law wsX2_turn := goodIn_r _ [387, 107, 269, 422, 423, 424, 425, 426, 427, 428, 429, 430, 431, 432, 433, 434, 435, 436, 437, 438, 439, 440, 441] (by decide +kernel) (by decide +kernel)
set_option maxRecDepth 20000 in
theorem gL_law_X2_turn : GoodIn wsL_law (wsV RL 123 RX2 yX2_turn wsX2_turn) := goodIn_app (goodIn_of _ (by decide +kernel)) ggL_law_X2_turn
set_option maxRecDepth 20000 in
theorem ggL_law_L_sheds : GoodIn wsL_law wsL_sheds := goodIn_ca (goodIn_r _ [390, 69, 391, 392, 393, 2, 394, 18, 77, 78, 79, 80, 81, 410, 411, 412, 413, 414, 415, 416, 417, 418, 419, 420, 421] (by decide +kernel) (by decide +kernel)) (goodIn_sub (fun _ h => List.mem_append_left _ (List.mem_append_right _ h)) (by decide +kernel))
set_option maxRecDepth 20000 in
theorem gL_law_L_sheds : GoodIn wsL_law (va_wsS RL 124 yL_sheds wsL_sheds) := goodIn_app (goodIn_of _ (by decide +kernel)) ggL_law_L_sheds
set_option maxRecDepth 20000 in
theorem ggL_law_X2_sheds : GoodIn wsL_law wsX2_sheds := goodIn_r _ [398, 50, 93, 94, 5, 95, 96, 97, 98, 103, 104, 105, 106, 107, 422, 423, 424, 425, 426, 427, 428, 429, 430, 431, 432, 433, 434, 435, 436, 437, 438, 439, 440, 441] (by decide +kernel) (by decide +kernel)
set_option maxRecDepth 20000 in
theorem gL_law_X2_sheds : GoodIn wsL_law (wsV RL 126 RX2 yX2_sheds wsX2_sheds) := goodIn_app (goodIn_of _ (by decide +kernel)) ggL_law_X2_sheds
set_option maxRecDepth 20000 in
theorem ggL_law_L_bill : GoodIn wsL_law wsL_bill := goodIn_ca (goodIn_r _ [401, 69, 402, 403, 404, 2, 405, 19, 77, 78, 79, 80, 81, 410, 411, 412, 413, 414, 415, 416, 417, 418, 419, 420, 421] (by decide +kernel) (by decide +kernel)) (goodIn_sub (fun _ h => List.mem_append_left _ (List.mem_append_right _ h)) (by decide +kernel))
set_option maxRecDepth 20000 in
theorem gL_law_L_bill : GoodIn wsL_law (va_wsS RL 127 yL_bill wsL_bill) := goodIn_app (goodIn_of _ (by decide +kernel)) ggL_law_L_bill
set_option maxRecDepth 20000 in
theorem ggL_law_X2_bill : GoodIn wsL_law wsX2_bill := goodIn_r _ [409, 51, 93, 94, 5, 95, 96, 97, 98, 103, 104, 105, 106, 107, 422, 423, 424, 425, 426, 427, 428, 429, 430, 431, 432, 433, 434, 435, 436, 437, 438, 439, 440, 441] (by decide +kernel) (by decide +kernel)
set_option maxRecDepth 20000 in
theorem gL_law_X2_bill : GoodIn wsL_law (wsV RL 129 RX2 yX2_bill wsX2_bill) := goodIn_app (goodIn_of _ (by decide +kernel)) ggL_law_X2_bill
theorem dL_law_0 : decode cL_law 0 = .ok (.new 8, 3) := by decide +kernel
theorem dL_law_3 : decode cL_law 3 = .ok (.dup, 1) := by decide +kernel
theorem dL_law_4 : decode cL_law 4 = .ok (.invokespecial 62, 3) := by decide +kernel
theorem dL_law_7 : decode cL_law 7 = .ok (.astore_n 1, 1) := by decide +kernel
theorem dL_law_8 : decode cL_law 8 = .ok (.new 63, 3) := by decide +kernel
theorem dL_law_11 : decode cL_law 11 = .ok (.dup, 1) := by decide +kernel
theorem dL_law_12 : decode cL_law 12 = .ok (.invokespecial 65, 3) := by decide +kernel
theorem dL_law_15 : decode cL_law 15 = .ok (.astore_n 2, 1) := by decide +kernel
theorem dL_law_16 : decode cL_law 16 = .ok (.iconst 1, 1) := by decide +kernel
theorem dL_law_17 : decode cL_law 17 = .ok (.newarray .long, 2) := by decide +kernel
theorem dL_law_19 : decode cL_law 19 = .ok (.astore_n 3, 1) := by decide +kernel
theorem dL_law_20 : decode cL_law 20 = .ok (.iconst 1, 1) := by decide +kernel
theorem dL_law_21 : decode cL_law 21 = .ok (.newarray .double, 2) := by decide +kernel
theorem dL_law_23 : decode cL_law 23 = .ok (.astore 4, 2) := by decide +kernel
theorem dL_law_25 : decode cL_law 25 = .ok (.iconst 0, 1) := by decide +kernel
theorem dL_law_26 : decode cL_law 26 = .ok (.istore 5, 2) := by decide +kernel
theorem dL_law_28 : decode cL_law 28 = .ok (.iload 5, 2) := by decide +kernel
theorem dL_law_30 : decode cL_law 30 = .ok (.aload_n 0, 1) := by decide +kernel
theorem dL_law_31 : decode cL_law 31 = .ok (.arraylength, 1) := by decide +kernel
theorem dL_law_32 : decode cL_law 32 = .ok (.iconst 4, 1) := by decide +kernel
theorem dL_law_33 : decode cL_law 33 = .ok (.isub, 1) := by decide +kernel
theorem dL_law_34 : decode cL_law 34 = .ok (.if_icmp .gt 1204, 3) := by decide +kernel
theorem dL_law_37 : decode cL_law 37 = .ok (.aload_n 0, 1) := by decide +kernel
theorem dL_law_38 : decode cL_law 38 = .ok (.iload 5, 2) := by decide +kernel
theorem dL_law_40 : decode cL_law 40 = .ok (.iaload, 1) := by decide +kernel
theorem dL_law_41 : decode cL_law 41 = .ok (.bipush 15, 2) := by decide +kernel
theorem dL_law_43 : decode cL_law 43 = .ok (.iand, 1) := by decide +kernel
theorem dL_law_44 : decode cL_law 44 = .ok (.tableswitch 1188 0 15 #[80, 148, 239, 316, 391, 454, 467, 568, 657, 746, 835, 924, 1001, 1042, 1055, 1111], 80) := by decide +kernel
theorem dL_law_124 : decode cL_law 124 = .ok (.aload_n 1, 1) := by decide +kernel
theorem dL_law_125 : decode cL_law 125 = .ok (.aload_n 0, 1) := by decide +kernel
theorem dL_law_126 : decode cL_law 126 = .ok (.iload 5, 2) := by decide +kernel
theorem dL_law_128 : decode cL_law 128 = .ok (.iconst 1, 1) := by decide +kernel
theorem dL_law_129 : decode cL_law 129 = .ok (.iadd, 1) := by decide +kernel
theorem dL_law_130 : decode cL_law 130 = .ok (.iaload, 1) := by decide +kernel
theorem dL_law_131 : decode cL_law 131 = .ok (.aload_n 0, 1) := by decide +kernel
theorem dL_law_132 : decode cL_law 132 = .ok (.iload 5, 2) := by decide +kernel
theorem dL_law_134 : decode cL_law 134 = .ok (.iconst 2, 1) := by decide +kernel
theorem dL_law_135 : decode cL_law 135 = .ok (.iadd, 1) := by decide +kernel
theorem dL_law_136 : decode cL_law 136 = .ok (.iaload, 1) := by decide +kernel
theorem dL_law_137 : decode cL_law 137 = .ok (.aload_n 3, 1) := by decide +kernel
theorem dL_law_138 : decode cL_law 138 = .ok (.invokestatic 66, 3) := by decide +kernel
theorem dL_law_141 : decode cL_law 141 = .ok (.istore 6, 2) := by decide +kernel
theorem dL_law_143 : decode cL_law 143 = .ok (.aload_n 2, 1) := by decide +kernel
theorem dL_law_144 : decode cL_law 144 = .ok (.aload_n 0, 1) := by decide +kernel
theorem dL_law_145 : decode cL_law 145 = .ok (.iload 5, 2) := by decide +kernel
theorem dL_law_147 : decode cL_law 147 = .ok (.iconst 1, 1) := by decide +kernel
theorem dL_law_148 : decode cL_law 148 = .ok (.iadd, 1) := by decide +kernel
theorem dL_law_149 : decode cL_law 149 = .ok (.iaload, 1) := by decide +kernel
theorem dL_law_150 : decode cL_law 150 = .ok (.aload_n 0, 1) := by decide +kernel
theorem dL_law_151 : decode cL_law 151 = .ok (.iload 5, 2) := by decide +kernel
theorem dL_law_153 : decode cL_law 153 = .ok (.iconst 2, 1) := by decide +kernel
theorem dL_law_154 : decode cL_law 154 = .ok (.iadd, 1) := by decide +kernel
theorem dL_law_155 : decode cL_law 155 = .ok (.iaload, 1) := by decide +kernel
theorem dL_law_156 : decode cL_law 156 = .ok (.invokevirtual 71, 3) := by decide +kernel
theorem dL_law_159 : decode cL_law 159 = .ok (.istore 7, 2) := by decide +kernel
theorem dL_law_161 : decode cL_law 161 = .ok (.aload_n 2, 1) := by decide +kernel
theorem dL_law_162 : decode cL_law 162 = .ok (.invokevirtual 72, 3) := by decide +kernel
theorem dL_law_165 : decode cL_law 165 = .ok (.iload 6, 2) := by decide +kernel
theorem dL_law_167 : decode cL_law 167 = .ok (.if_icmp .eq 5, 3) := by decide +kernel
theorem dL_law_170 : decode cL_law 170 = .ok (.iconst 0, 1) := by decide +kernel
theorem dL_law_171 : decode cL_law 171 = .ok (.ireturn, 1) := by decide +kernel
theorem dL_law_172 : decode cL_law 172 = .ok (.iload 6, 2) := by decide +kernel
theorem dL_law_174 : decode cL_law 174 = .ok (.ifCond .ne 15, 3) := by decide +kernel
theorem dL_law_177 : decode cL_law 177 = .ok (.aload_n 3, 1) := by decide +kernel
theorem dL_law_178 : decode cL_law 178 = .ok (.iconst 0, 1) := by decide +kernel
theorem dL_law_179 : decode cL_law 179 = .ok (.laload, 1) := by decide +kernel
theorem dL_law_180 : decode cL_law 180 = .ok (.iload 7, 2) := by decide +kernel
theorem dL_law_182 : decode cL_law 182 = .ok (.i2l, 1) := by decide +kernel
theorem dL_law_183 : decode cL_law 183 = .ok (.lcmp, 1) := by decide +kernel
theorem dL_law_184 : decode cL_law 184 = .ok (.ifCond .eq 5, 3) := by decide +kernel
theorem dL_law_187 : decode cL_law 187 = .ok (.iconst 0, 1) := by decide +kernel
theorem dL_law_188 : decode cL_law 188 = .ok (.ireturn, 1) := by decide +kernel
theorem dL_law_189 : decode cL_law 189 = .ok (.goto 1043, 3) := by decide +kernel
theorem dL_law_192 : decode cL_law 192 = .ok (.aload_n 1, 1) := by decide +kernel
theorem dL_law_193 : decode cL_law 193 = .ok (.aload_n 0, 1) := by decide +kernel
theorem dL_law_194 : decode cL_law 194 = .ok (.iload 5, 2) := by decide +kernel
theorem dL_law_196 : decode cL_law 196 = .ok (.iconst 1, 1) := by decide +kernel
theorem dL_law_197 : decode cL_law 197 = .ok (.iadd, 1) := by decide +kernel
theorem dL_law_198 : decode cL_law 198 = .ok (.iaload, 1) := by decide +kernel
theorem dL_law_199 : decode cL_law 199 = .ok (.aload_n 0, 1) := by decide +kernel
theorem dL_law_200 : decode cL_law 200 = .ok (.iload 5, 2) := by decide +kernel
theorem dL_law_202 : decode cL_law 202 = .ok (.iconst 2, 1) := by decide +kernel
theorem dL_law_203 : decode cL_law 203 = .ok (.iadd, 1) := by decide +kernel
theorem dL_law_204 : decode cL_law 204 = .ok (.iaload, 1) := by decide +kernel
theorem dL_law_205 : decode cL_law 205 = .ok (.ifCond .eq 7, 3) := by decide +kernel
theorem dL_law_208 : decode cL_law 208 = .ok (.iconst 1, 1) := by decide +kernel
theorem dL_law_209 : decode cL_law 209 = .ok (.goto 4, 3) := by decide +kernel
theorem dL_law_212 : decode cL_law 212 = .ok (.iconst 0, 1) := by decide +kernel
theorem dL_law_213 : decode cL_law 213 = .ok (.aload_n 3, 1) := by decide +kernel
theorem dL_law_214 : decode cL_law 214 = .ok (.invokestatic 76, 3) := by decide +kernel
theorem dL_law_217 : decode cL_law 217 = .ok (.istore 6, 2) := by decide +kernel
theorem dL_law_219 : decode cL_law 219 = .ok (.aload_n 2, 1) := by decide +kernel
theorem dL_law_220 : decode cL_law 220 = .ok (.aload_n 0, 1) := by decide +kernel
theorem dL_law_221 : decode cL_law 221 = .ok (.iload 5, 2) := by decide +kernel
theorem dL_law_223 : decode cL_law 223 = .ok (.iconst 1, 1) := by decide +kernel
theorem dL_law_224 : decode cL_law 224 = .ok (.iadd, 1) := by decide +kernel
theorem dL_law_225 : decode cL_law 225 = .ok (.iaload, 1) := by decide +kernel
theorem dL_law_226 : decode cL_law 226 = .ok (.aload_n 0, 1) := by decide +kernel
theorem dL_law_227 : decode cL_law 227 = .ok (.iload 5, 2) := by decide +kernel
theorem dL_law_229 : decode cL_law 229 = .ok (.iconst 2, 1) := by decide +kernel
theorem dL_law_230 : decode cL_law 230 = .ok (.iadd, 1) := by decide +kernel
theorem dL_law_231 : decode cL_law 231 = .ok (.iaload, 1) := by decide +kernel
theorem dL_law_232 : decode cL_law 232 = .ok (.ifCond .eq 7, 3) := by decide +kernel
theorem dL_law_235 : decode cL_law 235 = .ok (.iconst 1, 1) := by decide +kernel
theorem dL_law_236 : decode cL_law 236 = .ok (.goto 4, 3) := by decide +kernel
theorem dL_law_239 : decode cL_law 239 = .ok (.iconst 0, 1) := by decide +kernel
theorem dL_law_240 : decode cL_law 240 = .ok (.invokevirtual 79, 3) := by decide +kernel
theorem dL_law_243 : decode cL_law 243 = .ok (.istore 7, 2) := by decide +kernel
theorem dL_law_245 : decode cL_law 245 = .ok (.aload_n 2, 1) := by decide +kernel
theorem dL_law_246 : decode cL_law 246 = .ok (.invokevirtual 72, 3) := by decide +kernel
theorem dL_law_249 : decode cL_law 249 = .ok (.iload 6, 2) := by decide +kernel
theorem dL_law_251 : decode cL_law 251 = .ok (.if_icmp .eq 5, 3) := by decide +kernel
theorem dL_law_254 : decode cL_law 254 = .ok (.iconst 0, 1) := by decide +kernel
theorem dL_law_255 : decode cL_law 255 = .ok (.ireturn, 1) := by decide +kernel
theorem dL_law_256 : decode cL_law 256 = .ok (.iload 6, 2) := by decide +kernel
theorem dL_law_258 : decode cL_law 258 = .ok (.ifCond .ne 22, 3) := by decide +kernel
theorem dL_law_261 : decode cL_law 261 = .ok (.aload_n 3, 1) := by decide +kernel
theorem dL_law_262 : decode cL_law 262 = .ok (.iconst 0, 1) := by decide +kernel
theorem dL_law_263 : decode cL_law 263 = .ok (.laload, 1) := by decide +kernel
theorem dL_law_264 : decode cL_law 264 = .ok (.iload 7, 2) := by decide +kernel
theorem dL_law_266 : decode cL_law 266 = .ok (.ifCond .eq 7, 3) := by decide +kernel
theorem dL_law_269 : decode cL_law 269 = .ok (.lconst 1, 1) := by decide +kernel
theorem dL_law_270 : decode cL_law 270 = .ok (.goto 4, 3) := by decide +kernel
theorem dL_law_273 : decode cL_law 273 = .ok (.lconst 0, 1) := by decide +kernel
theorem dL_law_274 : decode cL_law 274 = .ok (.lcmp, 1) := by decide +kernel
theorem dL_law_275 : decode cL_law 275 = .ok (.ifCond .eq 5, 3) := by decide +kernel
theorem dL_law_278 : decode cL_law 278 = .ok (.iconst 0, 1) := by decide +kernel
theorem dL_law_279 : decode cL_law 279 = .ok (.ireturn, 1) := by decide +kernel
theorem dL_law_280 : decode cL_law 280 = .ok (.goto 952, 3) := by decide +kernel
theorem dL_law_283 : decode cL_law 283 = .ok (.aload_n 1, 1) := by decide +kernel
theorem dL_law_284 : decode cL_law 284 = .ok (.aload_n 0, 1) := by decide +kernel
theorem dL_law_285 : decode cL_law 285 = .ok (.iload 5, 2) := by decide +kernel
theorem dL_law_287 : decode cL_law 287 = .ok (.iconst 1, 1) := by decide +kernel
theorem dL_law_288 : decode cL_law 288 = .ok (.iadd, 1) := by decide +kernel
theorem dL_law_289 : decode cL_law 289 = .ok (.iaload, 1) := by decide +kernel
theorem dL_law_290 : decode cL_law 290 = .ok (.aload 4, 2) := by decide +kernel
theorem dL_law_292 : decode cL_law 292 = .ok (.invokestatic 80, 3) := by decide +kernel
theorem dL_law_295 : decode cL_law 295 = .ok (.istore 6, 2) := by decide +kernel
theorem dL_law_297 : decode cL_law 297 = .ok (.aload_n 2, 1) := by decide +kernel
theorem dL_law_298 : decode cL_law 298 = .ok (.aload_n 0, 1) := by decide +kernel
theorem dL_law_299 : decode cL_law 299 = .ok (.iload 5, 2) := by decide +kernel
theorem dL_law_301 : decode cL_law 301 = .ok (.iconst 1, 1) := by decide +kernel
theorem dL_law_302 : decode cL_law 302 = .ok (.iadd, 1) := by decide +kernel
theorem dL_law_303 : decode cL_law 303 = .ok (.iaload, 1) := by decide +kernel
theorem dL_law_304 : decode cL_law 304 = .ok (.invokevirtual 83, 3) := by decide +kernel
theorem dL_law_307 : decode cL_law 307 = .ok (.dstore 7, 2) := by decide +kernel
theorem dL_law_309 : decode cL_law 309 = .ok (.aload_n 2, 1) := by decide +kernel
theorem dL_law_310 : decode cL_law 310 = .ok (.invokevirtual 72, 3) := by decide +kernel
theorem dL_law_313 : decode cL_law 313 = .ok (.iload 6, 2) := by decide +kernel
theorem dL_law_315 : decode cL_law 315 = .ok (.if_icmp .eq 5, 3) := by decide +kernel
theorem dL_law_318 : decode cL_law 318 = .ok (.iconst 0, 1) := by decide +kernel
theorem dL_law_319 : decode cL_law 319 = .ok (.ireturn, 1) := by decide +kernel
theorem dL_law_320 : decode cL_law 320 = .ok (.iload 6, 2) := by decide +kernel
theorem dL_law_322 : decode cL_law 322 = .ok (.ifCond .ne 35, 3) := by decide +kernel
theorem dL_law_325 : decode cL_law 325 = .ok (.aload 4, 2) := by decide +kernel
theorem dL_law_327 : decode cL_law 327 = .ok (.iconst 0, 1) := by decide +kernel
theorem dL_law_328 : decode cL_law 328 = .ok (.daload, 1) := by decide +kernel
theorem dL_law_329 : decode cL_law 329 = .ok (.dload 7, 2) := by decide +kernel
theorem dL_law_331 : decode cL_law 331 = .ok (.dcmp .l, 1) := by decide +kernel
theorem dL_law_332 : decode cL_law 332 = .ok (.ifCond .eq 25, 3) := by decide +kernel
theorem dL_law_335 : decode cL_law 335 = .ok (.aload 4, 2) := by decide +kernel
theorem dL_law_337 : decode cL_law 337 = .ok (.iconst 0, 1) := by decide +kernel
theorem dL_law_338 : decode cL_law 338 = .ok (.daload, 1) := by decide +kernel
theorem dL_law_339 : decode cL_law 339 = .ok (.aload 4, 2) := by decide +kernel
theorem dL_law_341 : decode cL_law 341 = .ok (.iconst 0, 1) := by decide +kernel
theorem dL_law_342 : decode cL_law 342 = .ok (.daload, 1) := by decide +kernel
theorem dL_law_343 : decode cL_law 343 = .ok (.dcmp .l, 1) := by decide +kernel
theorem dL_law_344 : decode cL_law 344 = .ok (.ifCond .eq 11, 3) := by decide +kernel
theorem dL_law_347 : decode cL_law 347 = .ok (.dload 7, 2) := by decide +kernel
theorem dL_law_349 : decode cL_law 349 = .ok (.dload 7, 2) := by decide +kernel
theorem dL_law_351 : decode cL_law 351 = .ok (.dcmp .l, 1) := by decide +kernel
theorem dL_law_352 : decode cL_law 352 = .ok (.ifCond .ne 5, 3) := by decide +kernel
theorem dL_law_355 : decode cL_law 355 = .ok (.iconst 0, 1) := by decide +kernel
theorem dL_law_356 : decode cL_law 356 = .ok (.ireturn, 1) := by decide +kernel
theorem dL_law_357 : decode cL_law 357 = .ok (.goto 875, 3) := by decide +kernel
theorem dL_law_360 : decode cL_law 360 = .ok (.aload_n 1, 1) := by decide +kernel
theorem dL_law_361 : decode cL_law 361 = .ok (.aload_n 0, 1) := by decide +kernel
theorem dL_law_362 : decode cL_law 362 = .ok (.iload 5, 2) := by decide +kernel
theorem dL_law_364 : decode cL_law 364 = .ok (.iconst 1, 1) := by decide +kernel
theorem dL_law_365 : decode cL_law 365 = .ok (.iadd, 1) := by decide +kernel
theorem dL_law_366 : decode cL_law 366 = .ok (.iaload, 1) := by decide +kernel
theorem dL_law_367 : decode cL_law 367 = .ok (.aload_n 0, 1) := by decide +kernel
theorem dL_law_368 : decode cL_law 368 = .ok (.iload 5, 2) := by decide +kernel
theorem dL_law_370 : decode cL_law 370 = .ok (.iconst 2, 1) := by decide +kernel
theorem dL_law_371 : decode cL_law 371 = .ok (.iadd, 1) := by decide +kernel
theorem dL_law_372 : decode cL_law 372 = .ok (.iaload, 1) := by decide +kernel
theorem dL_law_373 : decode cL_law 373 = .ok (.aload_n 3, 1) := by decide +kernel
theorem dL_law_374 : decode cL_law 374 = .ok (.invokestatic 84, 3) := by decide +kernel
theorem dL_law_377 : decode cL_law 377 = .ok (.istore 6, 2) := by decide +kernel
theorem dL_law_379 : decode cL_law 379 = .ok (.aload_n 2, 1) := by decide +kernel
theorem dL_law_380 : decode cL_law 380 = .ok (.aload_n 0, 1) := by decide +kernel
theorem dL_law_381 : decode cL_law 381 = .ok (.iload 5, 2) := by decide +kernel
theorem dL_law_383 : decode cL_law 383 = .ok (.iconst 1, 1) := by decide +kernel
theorem dL_law_384 : decode cL_law 384 = .ok (.iadd, 1) := by decide +kernel
theorem dL_law_385 : decode cL_law 385 = .ok (.iaload, 1) := by decide +kernel
theorem dL_law_386 : decode cL_law 386 = .ok (.aload_n 0, 1) := by decide +kernel
theorem dL_law_387 : decode cL_law 387 = .ok (.iload 5, 2) := by decide +kernel
theorem dL_law_389 : decode cL_law 389 = .ok (.iconst 2, 1) := by decide +kernel
theorem dL_law_390 : decode cL_law 390 = .ok (.iadd, 1) := by decide +kernel
theorem dL_law_391 : decode cL_law 391 = .ok (.iaload, 1) := by decide +kernel
theorem dL_law_392 : decode cL_law 392 = .ok (.invokevirtual 86, 3) := by decide +kernel
theorem dL_law_395 : decode cL_law 395 = .ok (.istore 7, 2) := by decide +kernel
theorem dL_law_397 : decode cL_law 397 = .ok (.aload_n 2, 1) := by decide +kernel
theorem dL_law_398 : decode cL_law 398 = .ok (.invokevirtual 72, 3) := by decide +kernel
theorem dL_law_401 : decode cL_law 401 = .ok (.iload 6, 2) := by decide +kernel
theorem dL_law_403 : decode cL_law 403 = .ok (.if_icmp .eq 5, 3) := by decide +kernel
theorem dL_law_406 : decode cL_law 406 = .ok (.iconst 0, 1) := by decide +kernel
theorem dL_law_407 : decode cL_law 407 = .ok (.ireturn, 1) := by decide +kernel
theorem dL_law_408 : decode cL_law 408 = .ok (.iload 6, 2) := by decide +kernel
theorem dL_law_410 : decode cL_law 410 = .ok (.ifCond .ne 22, 3) := by decide +kernel
theorem dL_law_413 : decode cL_law 413 = .ok (.aload_n 3, 1) := by decide +kernel
theorem dL_law_414 : decode cL_law 414 = .ok (.iconst 0, 1) := by decide +kernel
theorem dL_law_415 : decode cL_law 415 = .ok (.laload, 1) := by decide +kernel
theorem dL_law_416 : decode cL_law 416 = .ok (.iload 7, 2) := by decide +kernel
theorem dL_law_418 : decode cL_law 418 = .ok (.ifCond .eq 7, 3) := by decide +kernel
theorem dL_law_421 : decode cL_law 421 = .ok (.lconst 1, 1) := by decide +kernel
theorem dL_law_422 : decode cL_law 422 = .ok (.goto 4, 3) := by decide +kernel
theorem dL_law_425 : decode cL_law 425 = .ok (.lconst 0, 1) := by decide +kernel
theorem dL_law_426 : decode cL_law 426 = .ok (.lcmp, 1) := by decide +kernel
theorem dL_law_427 : decode cL_law 427 = .ok (.ifCond .eq 5, 3) := by decide +kernel
theorem dL_law_430 : decode cL_law 430 = .ok (.iconst 0, 1) := by decide +kernel
theorem dL_law_431 : decode cL_law 431 = .ok (.ireturn, 1) := by decide +kernel
theorem dL_law_432 : decode cL_law 432 = .ok (.goto 800, 3) := by decide +kernel
theorem dL_law_435 : decode cL_law 435 = .ok (.aload_n 1, 1) := by decide +kernel
theorem dL_law_436 : decode cL_law 436 = .ok (.aload_n 0, 1) := by decide +kernel
theorem dL_law_437 : decode cL_law 437 = .ok (.iload 5, 2) := by decide +kernel
theorem dL_law_439 : decode cL_law 439 = .ok (.iconst 1, 1) := by decide +kernel
theorem dL_law_440 : decode cL_law 440 = .ok (.iadd, 1) := by decide +kernel
theorem dL_law_441 : decode cL_law 441 = .ok (.iaload, 1) := by decide +kernel
theorem dL_law_442 : decode cL_law 442 = .ok (.aload_n 3, 1) := by decide +kernel
theorem dL_law_443 : decode cL_law 443 = .ok (.invokestatic 87, 3) := by decide +kernel
theorem dL_law_446 : decode cL_law 446 = .ok (.istore 6, 2) := by decide +kernel
theorem dL_law_448 : decode cL_law 448 = .ok (.aload_n 2, 1) := by decide +kernel
theorem dL_law_449 : decode cL_law 449 = .ok (.aload_n 0, 1) := by decide +kernel
theorem dL_law_450 : decode cL_law 450 = .ok (.iload 5, 2) := by decide +kernel
theorem dL_law_452 : decode cL_law 452 = .ok (.iconst 1, 1) := by decide +kernel
theorem dL_law_453 : decode cL_law 453 = .ok (.iadd, 1) := by decide +kernel
theorem dL_law_454 : decode cL_law 454 = .ok (.iaload, 1) := by decide +kernel
theorem dL_law_455 : decode cL_law 455 = .ok (.invokevirtual 90, 3) := by decide +kernel
theorem dL_law_458 : decode cL_law 458 = .ok (.istore 7, 2) := by decide +kernel
theorem dL_law_460 : decode cL_law 460 = .ok (.aload_n 2, 1) := by decide +kernel
theorem dL_law_461 : decode cL_law 461 = .ok (.invokevirtual 72, 3) := by decide +kernel
theorem dL_law_464 : decode cL_law 464 = .ok (.iload 6, 2) := by decide +kernel
theorem dL_law_466 : decode cL_law 466 = .ok (.if_icmp .eq 5, 3) := by decide +kernel
theorem dL_law_469 : decode cL_law 469 = .ok (.iconst 0, 1) := by decide +kernel
theorem dL_law_470 : decode cL_law 470 = .ok (.ireturn, 1) := by decide +kernel
theorem dL_law_471 : decode cL_law 471 = .ok (.iload 6, 2) := by decide +kernel
theorem dL_law_473 : decode cL_law 473 = .ok (.ifCond .ne 22, 3) := by decide +kernel
theorem dL_law_476 : decode cL_law 476 = .ok (.aload_n 3, 1) := by decide +kernel
theorem dL_law_477 : decode cL_law 477 = .ok (.iconst 0, 1) := by decide +kernel
theorem dL_law_478 : decode cL_law 478 = .ok (.laload, 1) := by decide +kernel
theorem dL_law_479 : decode cL_law 479 = .ok (.iload 7, 2) := by decide +kernel
theorem dL_law_481 : decode cL_law 481 = .ok (.ifCond .eq 7, 3) := by decide +kernel
theorem dL_law_484 : decode cL_law 484 = .ok (.lconst 1, 1) := by decide +kernel
theorem dL_law_485 : decode cL_law 485 = .ok (.goto 4, 3) := by decide +kernel
theorem dL_law_488 : decode cL_law 488 = .ok (.lconst 0, 1) := by decide +kernel
theorem dL_law_489 : decode cL_law 489 = .ok (.lcmp, 1) := by decide +kernel
theorem dL_law_490 : decode cL_law 490 = .ok (.ifCond .eq 5, 3) := by decide +kernel
theorem dL_law_493 : decode cL_law 493 = .ok (.iconst 0, 1) := by decide +kernel
theorem dL_law_494 : decode cL_law 494 = .ok (.ireturn, 1) := by decide +kernel
theorem dL_law_495 : decode cL_law 495 = .ok (.goto 737, 3) := by decide +kernel
theorem dL_law_498 : decode cL_law 498 = .ok (.aload_n 1, 1) := by decide +kernel
theorem dL_law_499 : decode cL_law 499 = .ok (.invokevirtual 91, 3) := by decide +kernel
theorem dL_law_502 : decode cL_law 502 = .ok (.aload_n 2, 1) := by decide +kernel
theorem dL_law_503 : decode cL_law 503 = .ok (.invokevirtual 94, 3) := by decide +kernel
theorem dL_law_506 : decode cL_law 506 = .ok (.if_icmp .eq 726, 3) := by decide +kernel
theorem dL_law_509 : decode cL_law 509 = .ok (.iconst 0, 1) := by decide +kernel
theorem dL_law_510 : decode cL_law 510 = .ok (.ireturn, 1) := by decide +kernel
theorem dL_law_511 : decode cL_law 511 = .ok (.aload_n 1, 1) := by decide +kernel
theorem dL_law_512 : decode cL_law 512 = .ok (.aload_n 0, 1) := by decide +kernel
theorem dL_law_513 : decode cL_law 513 = .ok (.iload 5, 2) := by decide +kernel
theorem dL_law_515 : decode cL_law 515 = .ok (.iconst 1, 1) := by decide +kernel
theorem dL_law_516 : decode cL_law 516 = .ok (.iadd, 1) := by decide +kernel
theorem dL_law_517 : decode cL_law 517 = .ok (.iaload, 1) := by decide +kernel
theorem dL_law_518 : decode cL_law 518 = .ok (.aload_n 0, 1) := by decide +kernel
theorem dL_law_519 : decode cL_law 519 = .ok (.iload 5, 2) := by decide +kernel
theorem dL_law_521 : decode cL_law 521 = .ok (.iconst 2, 1) := by decide +kernel
theorem dL_law_522 : decode cL_law 522 = .ok (.iadd, 1) := by decide +kernel
theorem dL_law_523 : decode cL_law 523 = .ok (.iaload, 1) := by decide +kernel
theorem dL_law_524 : decode cL_law 524 = .ok (.aload_n 0, 1) := by decide +kernel
theorem dL_law_525 : decode cL_law 525 = .ok (.iload 5, 2) := by decide +kernel
theorem dL_law_527 : decode cL_law 527 = .ok (.iconst 3, 1) := by decide +kernel
theorem dL_law_528 : decode cL_law 528 = .ok (.iadd, 1) := by decide +kernel
theorem dL_law_529 : decode cL_law 529 = .ok (.iaload, 1) := by decide +kernel
theorem dL_law_530 : decode cL_law 530 = .ok (.aload 4, 2) := by decide +kernel
theorem dL_law_532 : decode cL_law 532 = .ok (.invokestatic 95, 3) := by decide +kernel
theorem dL_law_535 : decode cL_law 535 = .ok (.istore 6, 2) := by decide +kernel
theorem dL_law_537 : decode cL_law 537 = .ok (.aload_n 2, 1) := by decide +kernel
theorem dL_law_538 : decode cL_law 538 = .ok (.aload_n 0, 1) := by decide +kernel
theorem dL_law_539 : decode cL_law 539 = .ok (.iload 5, 2) := by decide +kernel
theorem dL_law_541 : decode cL_law 541 = .ok (.iconst 1, 1) := by decide +kernel
theorem dL_law_542 : decode cL_law 542 = .ok (.iadd, 1) := by decide +kernel
theorem dL_law_543 : decode cL_law 543 = .ok (.iaload, 1) := by decide +kernel
theorem dL_law_544 : decode cL_law 544 = .ok (.aload_n 0, 1) := by decide +kernel
theorem dL_law_545 : decode cL_law 545 = .ok (.iload 5, 2) := by decide +kernel
theorem dL_law_547 : decode cL_law 547 = .ok (.iconst 2, 1) := by decide +kernel
theorem dL_law_548 : decode cL_law 548 = .ok (.iadd, 1) := by decide +kernel
theorem dL_law_549 : decode cL_law 549 = .ok (.iaload, 1) := by decide +kernel
theorem dL_law_550 : decode cL_law 550 = .ok (.aload_n 0, 1) := by decide +kernel
theorem dL_law_551 : decode cL_law 551 = .ok (.iload 5, 2) := by decide +kernel
theorem dL_law_553 : decode cL_law 553 = .ok (.iconst 3, 1) := by decide +kernel
theorem dL_law_554 : decode cL_law 554 = .ok (.iadd, 1) := by decide +kernel
theorem dL_law_555 : decode cL_law 555 = .ok (.iaload, 1) := by decide +kernel
theorem dL_law_556 : decode cL_law 556 = .ok (.invokevirtual 98, 3) := by decide +kernel
theorem dL_law_559 : decode cL_law 559 = .ok (.dstore 7, 2) := by decide +kernel
theorem dL_law_561 : decode cL_law 561 = .ok (.aload_n 2, 1) := by decide +kernel
theorem dL_law_562 : decode cL_law 562 = .ok (.invokevirtual 72, 3) := by decide +kernel
theorem dL_law_565 : decode cL_law 565 = .ok (.iload 6, 2) := by decide +kernel
theorem dL_law_567 : decode cL_law 567 = .ok (.if_icmp .eq 5, 3) := by decide +kernel
theorem dL_law_570 : decode cL_law 570 = .ok (.iconst 0, 1) := by decide +kernel
theorem dL_law_571 : decode cL_law 571 = .ok (.ireturn, 1) := by decide +kernel
theorem dL_law_572 : decode cL_law 572 = .ok (.iload 6, 2) := by decide +kernel
theorem dL_law_574 : decode cL_law 574 = .ok (.ifCond .ne 35, 3) := by decide +kernel
theorem dL_law_577 : decode cL_law 577 = .ok (.aload 4, 2) := by decide +kernel
theorem dL_law_579 : decode cL_law 579 = .ok (.iconst 0, 1) := by decide +kernel
theorem dL_law_580 : decode cL_law 580 = .ok (.daload, 1) := by decide +kernel
theorem dL_law_581 : decode cL_law 581 = .ok (.dload 7, 2) := by decide +kernel
theorem dL_law_583 : decode cL_law 583 = .ok (.dcmp .l, 1) := by decide +kernel
theorem dL_law_584 : decode cL_law 584 = .ok (.ifCond .eq 25, 3) := by decide +kernel
theorem dL_law_587 : decode cL_law 587 = .ok (.aload 4, 2) := by decide +kernel
theorem dL_law_589 : decode cL_law 589 = .ok (.iconst 0, 1) := by decide +kernel
theorem dL_law_590 : decode cL_law 590 = .ok (.daload, 1) := by decide +kernel
theorem dL_law_591 : decode cL_law 591 = .ok (.aload 4, 2) := by decide +kernel
theorem dL_law_593 : decode cL_law 593 = .ok (.iconst 0, 1) := by decide +kernel
theorem dL_law_594 : decode cL_law 594 = .ok (.daload, 1) := by decide +kernel
theorem dL_law_595 : decode cL_law 595 = .ok (.dcmp .l, 1) := by decide +kernel
theorem dL_law_596 : decode cL_law 596 = .ok (.ifCond .eq 11, 3) := by decide +kernel
theorem dL_law_599 : decode cL_law 599 = .ok (.dload 7, 2) := by decide +kernel
theorem dL_law_601 : decode cL_law 601 = .ok (.dload 7, 2) := by decide +kernel
theorem dL_law_603 : decode cL_law 603 = .ok (.dcmp .l, 1) := by decide +kernel
theorem dL_law_604 : decode cL_law 604 = .ok (.ifCond .ne 5, 3) := by decide +kernel
theorem dL_law_607 : decode cL_law 607 = .ok (.iconst 0, 1) := by decide +kernel
theorem dL_law_608 : decode cL_law 608 = .ok (.ireturn, 1) := by decide +kernel
theorem dL_law_609 : decode cL_law 609 = .ok (.goto 623, 3) := by decide +kernel
theorem dL_law_612 : decode cL_law 612 = .ok (.aload_n 1, 1) := by decide +kernel
theorem dL_law_613 : decode cL_law 613 = .ok (.aload_n 0, 1) := by decide +kernel
theorem dL_law_614 : decode cL_law 614 = .ok (.iload 5, 2) := by decide +kernel
theorem dL_law_616 : decode cL_law 616 = .ok (.iconst 1, 1) := by decide +kernel
theorem dL_law_617 : decode cL_law 617 = .ok (.iadd, 1) := by decide +kernel
theorem dL_law_618 : decode cL_law 618 = .ok (.iaload, 1) := by decide +kernel
theorem dL_law_619 : decode cL_law 619 = .ok (.aload_n 0, 1) := by decide +kernel
theorem dL_law_620 : decode cL_law 620 = .ok (.iload 5, 2) := by decide +kernel
theorem dL_law_622 : decode cL_law 622 = .ok (.iconst 2, 1) := by decide +kernel
theorem dL_law_623 : decode cL_law 623 = .ok (.iadd, 1) := by decide +kernel
theorem dL_law_624 : decode cL_law 624 = .ok (.iaload, 1) := by decide +kernel
theorem dL_law_625 : decode cL_law 625 = .ok (.aload 4, 2) := by decide +kernel
theorem dL_law_627 : decode cL_law 627 = .ok (.invokestatic 99, 3) := by decide +kernel
theorem dL_law_630 : decode cL_law 630 = .ok (.istore 6, 2) := by decide +kernel
theorem dL_law_632 : decode cL_law 632 = .ok (.aload_n 2, 1) := by decide +kernel
theorem dL_law_633 : decode cL_law 633 = .ok (.aload_n 0, 1) := by decide +kernel
theorem dL_law_634 : decode cL_law 634 = .ok (.iload 5, 2) := by decide +kernel
theorem dL_law_636 : decode cL_law 636 = .ok (.iconst 1, 1) := by decide +kernel
theorem dL_law_637 : decode cL_law 637 = .ok (.iadd, 1) := by decide +kernel
theorem dL_law_638 : decode cL_law 638 = .ok (.iaload, 1) := by decide +kernel
theorem dL_law_639 : decode cL_law 639 = .ok (.aload_n 0, 1) := by decide +kernel
theorem dL_law_640 : decode cL_law 640 = .ok (.iload 5, 2) := by decide +kernel
theorem dL_law_642 : decode cL_law 642 = .ok (.iconst 2, 1) := by decide +kernel
theorem dL_law_643 : decode cL_law 643 = .ok (.iadd, 1) := by decide +kernel
theorem dL_law_644 : decode cL_law 644 = .ok (.iaload, 1) := by decide +kernel
theorem dL_law_645 : decode cL_law 645 = .ok (.invokevirtual 102, 3) := by decide +kernel
theorem dL_law_648 : decode cL_law 648 = .ok (.dstore 7, 2) := by decide +kernel
theorem dL_law_650 : decode cL_law 650 = .ok (.aload_n 2, 1) := by decide +kernel
theorem dL_law_651 : decode cL_law 651 = .ok (.invokevirtual 72, 3) := by decide +kernel
theorem dL_law_654 : decode cL_law 654 = .ok (.iload 6, 2) := by decide +kernel
theorem dL_law_656 : decode cL_law 656 = .ok (.if_icmp .eq 5, 3) := by decide +kernel
theorem dL_law_659 : decode cL_law 659 = .ok (.iconst 0, 1) := by decide +kernel
theorem dL_law_660 : decode cL_law 660 = .ok (.ireturn, 1) := by decide +kernel
theorem dL_law_661 : decode cL_law 661 = .ok (.iload 6, 2) := by decide +kernel
theorem dL_law_663 : decode cL_law 663 = .ok (.ifCond .ne 35, 3) := by decide +kernel
theorem dL_law_666 : decode cL_law 666 = .ok (.aload 4, 2) := by decide +kernel
theorem dL_law_668 : decode cL_law 668 = .ok (.iconst 0, 1) := by decide +kernel
theorem dL_law_669 : decode cL_law 669 = .ok (.daload, 1) := by decide +kernel
theorem dL_law_670 : decode cL_law 670 = .ok (.dload 7, 2) := by decide +kernel
theorem dL_law_672 : decode cL_law 672 = .ok (.dcmp .l, 1) := by decide +kernel
theorem dL_law_673 : decode cL_law 673 = .ok (.ifCond .eq 25, 3) := by decide +kernel
theorem dL_law_676 : decode cL_law 676 = .ok (.aload 4, 2) := by decide +kernel
theorem dL_law_678 : decode cL_law 678 = .ok (.iconst 0, 1) := by decide +kernel
theorem dL_law_679 : decode cL_law 679 = .ok (.daload, 1) := by decide +kernel
theorem dL_law_680 : decode cL_law 680 = .ok (.aload 4, 2) := by decide +kernel
theorem dL_law_682 : decode cL_law 682 = .ok (.iconst 0, 1) := by decide +kernel
theorem dL_law_683 : decode cL_law 683 = .ok (.daload, 1) := by decide +kernel
theorem dL_law_684 : decode cL_law 684 = .ok (.dcmp .l, 1) := by decide +kernel
theorem dL_law_685 : decode cL_law 685 = .ok (.ifCond .eq 11, 3) := by decide +kernel
theorem dL_law_688 : decode cL_law 688 = .ok (.dload 7, 2) := by decide +kernel
theorem dL_law_690 : decode cL_law 690 = .ok (.dload 7, 2) := by decide +kernel
theorem dL_law_692 : decode cL_law 692 = .ok (.dcmp .l, 1) := by decide +kernel
theorem dL_law_693 : decode cL_law 693 = .ok (.ifCond .ne 5, 3) := by decide +kernel
theorem dL_law_696 : decode cL_law 696 = .ok (.iconst 0, 1) := by decide +kernel
theorem dL_law_697 : decode cL_law 697 = .ok (.ireturn, 1) := by decide +kernel
theorem dL_law_698 : decode cL_law 698 = .ok (.goto 534, 3) := by decide +kernel
theorem dL_law_701 : decode cL_law 701 = .ok (.aload_n 1, 1) := by decide +kernel
theorem dL_law_702 : decode cL_law 702 = .ok (.aload_n 0, 1) := by decide +kernel
theorem dL_law_703 : decode cL_law 703 = .ok (.iload 5, 2) := by decide +kernel
theorem dL_law_705 : decode cL_law 705 = .ok (.iconst 1, 1) := by decide +kernel
theorem dL_law_706 : decode cL_law 706 = .ok (.iadd, 1) := by decide +kernel
theorem dL_law_707 : decode cL_law 707 = .ok (.iaload, 1) := by decide +kernel
theorem dL_law_708 : decode cL_law 708 = .ok (.aload_n 0, 1) := by decide +kernel
theorem dL_law_709 : decode cL_law 709 = .ok (.iload 5, 2) := by decide +kernel
theorem dL_law_711 : decode cL_law 711 = .ok (.iconst 2, 1) := by decide +kernel
theorem dL_law_712 : decode cL_law 712 = .ok (.iadd, 1) := by decide +kernel
theorem dL_law_713 : decode cL_law 713 = .ok (.iaload, 1) := by decide +kernel
theorem dL_law_714 : decode cL_law 714 = .ok (.aload 4, 2) := by decide +kernel
theorem dL_law_716 : decode cL_law 716 = .ok (.invokestatic 103, 3) := by decide +kernel
theorem dL_law_719 : decode cL_law 719 = .ok (.istore 6, 2) := by decide +kernel
theorem dL_law_721 : decode cL_law 721 = .ok (.aload_n 2, 1) := by decide +kernel
theorem dL_law_722 : decode cL_law 722 = .ok (.aload_n 0, 1) := by decide +kernel
theorem dL_law_723 : decode cL_law 723 = .ok (.iload 5, 2) := by decide +kernel
theorem dL_law_725 : decode cL_law 725 = .ok (.iconst 1, 1) := by decide +kernel
theorem dL_law_726 : decode cL_law 726 = .ok (.iadd, 1) := by decide +kernel
theorem dL_law_727 : decode cL_law 727 = .ok (.iaload, 1) := by decide +kernel
theorem dL_law_728 : decode cL_law 728 = .ok (.aload_n 0, 1) := by decide +kernel
theorem dL_law_729 : decode cL_law 729 = .ok (.iload 5, 2) := by decide +kernel
theorem dL_law_731 : decode cL_law 731 = .ok (.iconst 2, 1) := by decide +kernel
theorem dL_law_732 : decode cL_law 732 = .ok (.iadd, 1) := by decide +kernel
theorem dL_law_733 : decode cL_law 733 = .ok (.iaload, 1) := by decide +kernel
theorem dL_law_734 : decode cL_law 734 = .ok (.invokevirtual 105, 3) := by decide +kernel
theorem dL_law_737 : decode cL_law 737 = .ok (.dstore 7, 2) := by decide +kernel
theorem dL_law_739 : decode cL_law 739 = .ok (.aload_n 2, 1) := by decide +kernel
theorem dL_law_740 : decode cL_law 740 = .ok (.invokevirtual 72, 3) := by decide +kernel
theorem dL_law_743 : decode cL_law 743 = .ok (.iload 6, 2) := by decide +kernel
theorem dL_law_745 : decode cL_law 745 = .ok (.if_icmp .eq 5, 3) := by decide +kernel
theorem dL_law_748 : decode cL_law 748 = .ok (.iconst 0, 1) := by decide +kernel
theorem dL_law_749 : decode cL_law 749 = .ok (.ireturn, 1) := by decide +kernel
theorem dL_law_750 : decode cL_law 750 = .ok (.iload 6, 2) := by decide +kernel
theorem dL_law_752 : decode cL_law 752 = .ok (.ifCond .ne 35, 3) := by decide +kernel
theorem dL_law_755 : decode cL_law 755 = .ok (.aload 4, 2) := by decide +kernel
theorem dL_law_757 : decode cL_law 757 = .ok (.iconst 0, 1) := by decide +kernel
theorem dL_law_758 : decode cL_law 758 = .ok (.daload, 1) := by decide +kernel
theorem dL_law_759 : decode cL_law 759 = .ok (.dload 7, 2) := by decide +kernel
theorem dL_law_761 : decode cL_law 761 = .ok (.dcmp .l, 1) := by decide +kernel
theorem dL_law_762 : decode cL_law 762 = .ok (.ifCond .eq 25, 3) := by decide +kernel
theorem dL_law_765 : decode cL_law 765 = .ok (.aload 4, 2) := by decide +kernel
theorem dL_law_767 : decode cL_law 767 = .ok (.iconst 0, 1) := by decide +kernel
theorem dL_law_768 : decode cL_law 768 = .ok (.daload, 1) := by decide +kernel
theorem dL_law_769 : decode cL_law 769 = .ok (.aload 4, 2) := by decide +kernel
theorem dL_law_771 : decode cL_law 771 = .ok (.iconst 0, 1) := by decide +kernel
theorem dL_law_772 : decode cL_law 772 = .ok (.daload, 1) := by decide +kernel
theorem dL_law_773 : decode cL_law 773 = .ok (.dcmp .l, 1) := by decide +kernel
theorem dL_law_774 : decode cL_law 774 = .ok (.ifCond .eq 11, 3) := by decide +kernel
theorem dL_law_777 : decode cL_law 777 = .ok (.dload 7, 2) := by decide +kernel
theorem dL_law_779 : decode cL_law 779 = .ok (.dload 7, 2) := by decide +kernel
theorem dL_law_781 : decode cL_law 781 = .ok (.dcmp .l, 1) := by decide +kernel
theorem dL_law_782 : decode cL_law 782 = .ok (.ifCond .ne 5, 3) := by decide +kernel
theorem dL_law_785 : decode cL_law 785 = .ok (.iconst 0, 1) := by decide +kernel
theorem dL_law_786 : decode cL_law 786 = .ok (.ireturn, 1) := by decide +kernel
theorem dL_law_787 : decode cL_law 787 = .ok (.goto 445, 3) := by decide +kernel
theorem dL_law_790 : decode cL_law 790 = .ok (.aload_n 1, 1) := by decide +kernel
theorem dL_law_791 : decode cL_law 791 = .ok (.aload_n 0, 1) := by decide +kernel
theorem dL_law_792 : decode cL_law 792 = .ok (.iload 5, 2) := by decide +kernel
theorem dL_law_794 : decode cL_law 794 = .ok (.iconst 1, 1) := by decide +kernel
theorem dL_law_795 : decode cL_law 795 = .ok (.iadd, 1) := by decide +kernel
theorem dL_law_796 : decode cL_law 796 = .ok (.iaload, 1) := by decide +kernel
theorem dL_law_797 : decode cL_law 797 = .ok (.aload_n 0, 1) := by decide +kernel
theorem dL_law_798 : decode cL_law 798 = .ok (.iload 5, 2) := by decide +kernel
theorem dL_law_800 : decode cL_law 800 = .ok (.iconst 2, 1) := by decide +kernel
theorem dL_law_801 : decode cL_law 801 = .ok (.iadd, 1) := by decide +kernel
theorem dL_law_802 : decode cL_law 802 = .ok (.iaload, 1) := by decide +kernel
theorem dL_law_803 : decode cL_law 803 = .ok (.aload 4, 2) := by decide +kernel
theorem dL_law_805 : decode cL_law 805 = .ok (.invokestatic 106, 3) := by decide +kernel
theorem dL_law_808 : decode cL_law 808 = .ok (.istore 6, 2) := by decide +kernel
theorem dL_law_810 : decode cL_law 810 = .ok (.aload_n 2, 1) := by decide +kernel
theorem dL_law_811 : decode cL_law 811 = .ok (.aload_n 0, 1) := by decide +kernel
theorem dL_law_812 : decode cL_law 812 = .ok (.iload 5, 2) := by decide +kernel
theorem dL_law_814 : decode cL_law 814 = .ok (.iconst 1, 1) := by decide +kernel
theorem dL_law_815 : decode cL_law 815 = .ok (.iadd, 1) := by decide +kernel
theorem dL_law_816 : decode cL_law 816 = .ok (.iaload, 1) := by decide +kernel
theorem dL_law_817 : decode cL_law 817 = .ok (.aload_n 0, 1) := by decide +kernel
theorem dL_law_818 : decode cL_law 818 = .ok (.iload 5, 2) := by decide +kernel
theorem dL_law_820 : decode cL_law 820 = .ok (.iconst 2, 1) := by decide +kernel
theorem dL_law_821 : decode cL_law 821 = .ok (.iadd, 1) := by decide +kernel
theorem dL_law_822 : decode cL_law 822 = .ok (.iaload, 1) := by decide +kernel
theorem dL_law_823 : decode cL_law 823 = .ok (.invokevirtual 108, 3) := by decide +kernel
theorem dL_law_826 : decode cL_law 826 = .ok (.dstore 7, 2) := by decide +kernel
theorem dL_law_828 : decode cL_law 828 = .ok (.aload_n 2, 1) := by decide +kernel
theorem dL_law_829 : decode cL_law 829 = .ok (.invokevirtual 72, 3) := by decide +kernel
theorem dL_law_832 : decode cL_law 832 = .ok (.iload 6, 2) := by decide +kernel
theorem dL_law_834 : decode cL_law 834 = .ok (.if_icmp .eq 5, 3) := by decide +kernel
theorem dL_law_837 : decode cL_law 837 = .ok (.iconst 0, 1) := by decide +kernel
theorem dL_law_838 : decode cL_law 838 = .ok (.ireturn, 1) := by decide +kernel
theorem dL_law_839 : decode cL_law 839 = .ok (.iload 6, 2) := by decide +kernel
theorem dL_law_841 : decode cL_law 841 = .ok (.ifCond .ne 35, 3) := by decide +kernel
theorem dL_law_844 : decode cL_law 844 = .ok (.aload 4, 2) := by decide +kernel
theorem dL_law_846 : decode cL_law 846 = .ok (.iconst 0, 1) := by decide +kernel
theorem dL_law_847 : decode cL_law 847 = .ok (.daload, 1) := by decide +kernel
theorem dL_law_848 : decode cL_law 848 = .ok (.dload 7, 2) := by decide +kernel
theorem dL_law_850 : decode cL_law 850 = .ok (.dcmp .l, 1) := by decide +kernel
theorem dL_law_851 : decode cL_law 851 = .ok (.ifCond .eq 25, 3) := by decide +kernel
theorem dL_law_854 : decode cL_law 854 = .ok (.aload 4, 2) := by decide +kernel
theorem dL_law_856 : decode cL_law 856 = .ok (.iconst 0, 1) := by decide +kernel
theorem dL_law_857 : decode cL_law 857 = .ok (.daload, 1) := by decide +kernel
theorem dL_law_858 : decode cL_law 858 = .ok (.aload 4, 2) := by decide +kernel
theorem dL_law_860 : decode cL_law 860 = .ok (.iconst 0, 1) := by decide +kernel
theorem dL_law_861 : decode cL_law 861 = .ok (.daload, 1) := by decide +kernel
theorem dL_law_862 : decode cL_law 862 = .ok (.dcmp .l, 1) := by decide +kernel
theorem dL_law_863 : decode cL_law 863 = .ok (.ifCond .eq 11, 3) := by decide +kernel
theorem dL_law_866 : decode cL_law 866 = .ok (.dload 7, 2) := by decide +kernel
theorem dL_law_868 : decode cL_law 868 = .ok (.dload 7, 2) := by decide +kernel
theorem dL_law_870 : decode cL_law 870 = .ok (.dcmp .l, 1) := by decide +kernel
theorem dL_law_871 : decode cL_law 871 = .ok (.ifCond .ne 5, 3) := by decide +kernel
theorem dL_law_874 : decode cL_law 874 = .ok (.iconst 0, 1) := by decide +kernel
theorem dL_law_875 : decode cL_law 875 = .ok (.ireturn, 1) := by decide +kernel
theorem dL_law_876 : decode cL_law 876 = .ok (.goto 356, 3) := by decide +kernel
theorem dL_law_879 : decode cL_law 879 = .ok (.aload_n 1, 1) := by decide +kernel
theorem dL_law_880 : decode cL_law 880 = .ok (.aload_n 0, 1) := by decide +kernel
theorem dL_law_881 : decode cL_law 881 = .ok (.iload 5, 2) := by decide +kernel
theorem dL_law_883 : decode cL_law 883 = .ok (.iconst 1, 1) := by decide +kernel
theorem dL_law_884 : decode cL_law 884 = .ok (.iadd, 1) := by decide +kernel
theorem dL_law_885 : decode cL_law 885 = .ok (.iaload, 1) := by decide +kernel
theorem dL_law_886 : decode cL_law 886 = .ok (.aload_n 0, 1) := by decide +kernel
theorem dL_law_887 : decode cL_law 887 = .ok (.iload 5, 2) := by decide +kernel
theorem dL_law_889 : decode cL_law 889 = .ok (.iconst 2, 1) := by decide +kernel
theorem dL_law_890 : decode cL_law 890 = .ok (.iadd, 1) := by decide +kernel
theorem dL_law_891 : decode cL_law 891 = .ok (.iaload, 1) := by decide +kernel
theorem dL_law_892 : decode cL_law 892 = .ok (.aload 4, 2) := by decide +kernel
theorem dL_law_894 : decode cL_law 894 = .ok (.invokestatic 109, 3) := by decide +kernel
theorem dL_law_897 : decode cL_law 897 = .ok (.istore 6, 2) := by decide +kernel
theorem dL_law_899 : decode cL_law 899 = .ok (.aload_n 2, 1) := by decide +kernel
theorem dL_law_900 : decode cL_law 900 = .ok (.aload_n 0, 1) := by decide +kernel
theorem dL_law_901 : decode cL_law 901 = .ok (.iload 5, 2) := by decide +kernel
theorem dL_law_903 : decode cL_law 903 = .ok (.iconst 1, 1) := by decide +kernel
theorem dL_law_904 : decode cL_law 904 = .ok (.iadd, 1) := by decide +kernel
theorem dL_law_905 : decode cL_law 905 = .ok (.iaload, 1) := by decide +kernel
theorem dL_law_906 : decode cL_law 906 = .ok (.aload_n 0, 1) := by decide +kernel
theorem dL_law_907 : decode cL_law 907 = .ok (.iload 5, 2) := by decide +kernel
theorem dL_law_909 : decode cL_law 909 = .ok (.iconst 2, 1) := by decide +kernel
theorem dL_law_910 : decode cL_law 910 = .ok (.iadd, 1) := by decide +kernel
theorem dL_law_911 : decode cL_law 911 = .ok (.iaload, 1) := by decide +kernel
theorem dL_law_912 : decode cL_law 912 = .ok (.invokevirtual 111, 3) := by decide +kernel
theorem dL_law_915 : decode cL_law 915 = .ok (.dstore 7, 2) := by decide +kernel
theorem dL_law_917 : decode cL_law 917 = .ok (.aload_n 2, 1) := by decide +kernel
theorem dL_law_918 : decode cL_law 918 = .ok (.invokevirtual 72, 3) := by decide +kernel
theorem dL_law_921 : decode cL_law 921 = .ok (.iload 6, 2) := by decide +kernel
theorem dL_law_923 : decode cL_law 923 = .ok (.if_icmp .eq 5, 3) := by decide +kernel
theorem dL_law_926 : decode cL_law 926 = .ok (.iconst 0, 1) := by decide +kernel
theorem dL_law_927 : decode cL_law 927 = .ok (.ireturn, 1) := by decide +kernel
theorem dL_law_928 : decode cL_law 928 = .ok (.iload 6, 2) := by decide +kernel
theorem dL_law_930 : decode cL_law 930 = .ok (.ifCond .ne 35, 3) := by decide +kernel
theorem dL_law_933 : decode cL_law 933 = .ok (.aload 4, 2) := by decide +kernel
theorem dL_law_935 : decode cL_law 935 = .ok (.iconst 0, 1) := by decide +kernel
theorem dL_law_936 : decode cL_law 936 = .ok (.daload, 1) := by decide +kernel
theorem dL_law_937 : decode cL_law 937 = .ok (.dload 7, 2) := by decide +kernel
theorem dL_law_939 : decode cL_law 939 = .ok (.dcmp .l, 1) := by decide +kernel
theorem dL_law_940 : decode cL_law 940 = .ok (.ifCond .eq 25, 3) := by decide +kernel
theorem dL_law_943 : decode cL_law 943 = .ok (.aload 4, 2) := by decide +kernel
theorem dL_law_945 : decode cL_law 945 = .ok (.iconst 0, 1) := by decide +kernel
theorem dL_law_946 : decode cL_law 946 = .ok (.daload, 1) := by decide +kernel
theorem dL_law_947 : decode cL_law 947 = .ok (.aload 4, 2) := by decide +kernel
theorem dL_law_949 : decode cL_law 949 = .ok (.iconst 0, 1) := by decide +kernel
theorem dL_law_950 : decode cL_law 950 = .ok (.daload, 1) := by decide +kernel
theorem dL_law_951 : decode cL_law 951 = .ok (.dcmp .l, 1) := by decide +kernel
theorem dL_law_952 : decode cL_law 952 = .ok (.ifCond .eq 11, 3) := by decide +kernel
theorem dL_law_955 : decode cL_law 955 = .ok (.dload 7, 2) := by decide +kernel
theorem dL_law_957 : decode cL_law 957 = .ok (.dload 7, 2) := by decide +kernel
theorem dL_law_959 : decode cL_law 959 = .ok (.dcmp .l, 1) := by decide +kernel
theorem dL_law_960 : decode cL_law 960 = .ok (.ifCond .ne 5, 3) := by decide +kernel
theorem dL_law_963 : decode cL_law 963 = .ok (.iconst 0, 1) := by decide +kernel
theorem dL_law_964 : decode cL_law 964 = .ok (.ireturn, 1) := by decide +kernel
theorem dL_law_965 : decode cL_law 965 = .ok (.goto 267, 3) := by decide +kernel
theorem dL_law_968 : decode cL_law 968 = .ok (.aload_n 1, 1) := by decide +kernel
theorem dL_law_969 : decode cL_law 969 = .ok (.aload_n 0, 1) := by decide +kernel
theorem dL_law_970 : decode cL_law 970 = .ok (.iload 5, 2) := by decide +kernel
theorem dL_law_972 : decode cL_law 972 = .ok (.iconst 1, 1) := by decide +kernel
theorem dL_law_973 : decode cL_law 973 = .ok (.iadd, 1) := by decide +kernel
theorem dL_law_974 : decode cL_law 974 = .ok (.iaload, 1) := by decide +kernel
theorem dL_law_975 : decode cL_law 975 = .ok (.aload 4, 2) := by decide +kernel
theorem dL_law_977 : decode cL_law 977 = .ok (.invokestatic 112, 3) := by decide +kernel
theorem dL_law_980 : decode cL_law 980 = .ok (.istore 6, 2) := by decide +kernel
theorem dL_law_982 : decode cL_law 982 = .ok (.aload_n 2, 1) := by decide +kernel
theorem dL_law_983 : decode cL_law 983 = .ok (.aload_n 0, 1) := by decide +kernel
theorem dL_law_984 : decode cL_law 984 = .ok (.iload 5, 2) := by decide +kernel
theorem dL_law_986 : decode cL_law 986 = .ok (.iconst 1, 1) := by decide +kernel
theorem dL_law_987 : decode cL_law 987 = .ok (.iadd, 1) := by decide +kernel
theorem dL_law_988 : decode cL_law 988 = .ok (.iaload, 1) := by decide +kernel
theorem dL_law_989 : decode cL_law 989 = .ok (.invokevirtual 114, 3) := by decide +kernel
theorem dL_law_992 : decode cL_law 992 = .ok (.dstore 7, 2) := by decide +kernel
theorem dL_law_994 : decode cL_law 994 = .ok (.aload_n 2, 1) := by decide +kernel
theorem dL_law_995 : decode cL_law 995 = .ok (.invokevirtual 72, 3) := by decide +kernel
theorem dL_law_998 : decode cL_law 998 = .ok (.iload 6, 2) := by decide +kernel
theorem dL_law_1000 : decode cL_law 1000 = .ok (.if_icmp .eq 5, 3) := by decide +kernel
theorem dL_law_1003 : decode cL_law 1003 = .ok (.iconst 0, 1) := by decide +kernel
theorem dL_law_1004 : decode cL_law 1004 = .ok (.ireturn, 1) := by decide +kernel
theorem dL_law_1005 : decode cL_law 1005 = .ok (.iload 6, 2) := by decide +kernel
theorem dL_law_1007 : decode cL_law 1007 = .ok (.ifCond .ne 35, 3) := by decide +kernel
theorem dL_law_1010 : decode cL_law 1010 = .ok (.aload 4, 2) := by decide +kernel
theorem dL_law_1012 : decode cL_law 1012 = .ok (.iconst 0, 1) := by decide +kernel
theorem dL_law_1013 : decode cL_law 1013 = .ok (.daload, 1) := by decide +kernel
theorem dL_law_1014 : decode cL_law 1014 = .ok (.dload 7, 2) := by decide +kernel
theorem dL_law_1016 : decode cL_law 1016 = .ok (.dcmp .l, 1) := by decide +kernel
theorem dL_law_1017 : decode cL_law 1017 = .ok (.ifCond .eq 25, 3) := by decide +kernel
theorem dL_law_1020 : decode cL_law 1020 = .ok (.aload 4, 2) := by decide +kernel
theorem dL_law_1022 : decode cL_law 1022 = .ok (.iconst 0, 1) := by decide +kernel
theorem dL_law_1023 : decode cL_law 1023 = .ok (.daload, 1) := by decide +kernel
theorem dL_law_1024 : decode cL_law 1024 = .ok (.aload 4, 2) := by decide +kernel
theorem dL_law_1026 : decode cL_law 1026 = .ok (.iconst 0, 1) := by decide +kernel
theorem dL_law_1027 : decode cL_law 1027 = .ok (.daload, 1) := by decide +kernel
theorem dL_law_1028 : decode cL_law 1028 = .ok (.dcmp .l, 1) := by decide +kernel
theorem dL_law_1029 : decode cL_law 1029 = .ok (.ifCond .eq 11, 3) := by decide +kernel
theorem dL_law_1032 : decode cL_law 1032 = .ok (.dload 7, 2) := by decide +kernel
theorem dL_law_1034 : decode cL_law 1034 = .ok (.dload 7, 2) := by decide +kernel
theorem dL_law_1036 : decode cL_law 1036 = .ok (.dcmp .l, 1) := by decide +kernel
theorem dL_law_1037 : decode cL_law 1037 = .ok (.ifCond .ne 5, 3) := by decide +kernel
theorem dL_law_1040 : decode cL_law 1040 = .ok (.iconst 0, 1) := by decide +kernel
theorem dL_law_1041 : decode cL_law 1041 = .ok (.ireturn, 1) := by decide +kernel
theorem dL_law_1042 : decode cL_law 1042 = .ok (.goto 190, 3) := by decide +kernel
theorem dL_law_1045 : decode cL_law 1045 = .ok (.aload_n 1, 1) := by decide +kernel
theorem dL_law_1046 : decode cL_law 1046 = .ok (.invokevirtual 115, 3) := by decide +kernel
theorem dL_law_1049 : decode cL_law 1049 = .ok (.dstore 6, 2) := by decide +kernel
theorem dL_law_1051 : decode cL_law 1051 = .ok (.aload_n 2, 1) := by decide +kernel
theorem dL_law_1052 : decode cL_law 1052 = .ok (.invokevirtual 119, 3) := by decide +kernel
theorem dL_law_1055 : decode cL_law 1055 = .ok (.dstore 8, 2) := by decide +kernel
theorem dL_law_1057 : decode cL_law 1057 = .ok (.dload 6, 2) := by decide +kernel
theorem dL_law_1059 : decode cL_law 1059 = .ok (.dload 8, 2) := by decide +kernel
theorem dL_law_1061 : decode cL_law 1061 = .ok (.dcmp .l, 1) := by decide +kernel
theorem dL_law_1062 : decode cL_law 1062 = .ok (.ifCond .eq 21, 3) := by decide +kernel
theorem dL_law_1065 : decode cL_law 1065 = .ok (.dload 6, 2) := by decide +kernel
theorem dL_law_1067 : decode cL_law 1067 = .ok (.dload 6, 2) := by decide +kernel
theorem dL_law_1069 : decode cL_law 1069 = .ok (.dcmp .l, 1) := by decide +kernel
theorem dL_law_1070 : decode cL_law 1070 = .ok (.ifCond .eq 11, 3) := by decide +kernel
theorem dL_law_1073 : decode cL_law 1073 = .ok (.dload 8, 2) := by decide +kernel
theorem dL_law_1075 : decode cL_law 1075 = .ok (.dload 8, 2) := by decide +kernel
theorem dL_law_1077 : decode cL_law 1077 = .ok (.dcmp .l, 1) := by decide +kernel
theorem dL_law_1078 : decode cL_law 1078 = .ok (.ifCond .ne 5, 3) := by decide +kernel
theorem dL_law_1081 : decode cL_law 1081 = .ok (.iconst 0, 1) := by decide +kernel
theorem dL_law_1082 : decode cL_law 1082 = .ok (.ireturn, 1) := by decide +kernel
theorem dL_law_1083 : decode cL_law 1083 = .ok (.goto 149, 3) := by decide +kernel
theorem dL_law_1086 : decode cL_law 1086 = .ok (.aload_n 1, 1) := by decide +kernel
theorem dL_law_1087 : decode cL_law 1087 = .ok (.invokevirtual 120, 3) := by decide +kernel
theorem dL_law_1090 : decode cL_law 1090 = .ok (.aload_n 2, 1) := by decide +kernel
theorem dL_law_1091 : decode cL_law 1091 = .ok (.invokevirtual 123, 3) := by decide +kernel
theorem dL_law_1094 : decode cL_law 1094 = .ok (.if_icmp .eq 138, 3) := by decide +kernel
theorem dL_law_1097 : decode cL_law 1097 = .ok (.iconst 0, 1) := by decide +kernel
theorem dL_law_1098 : decode cL_law 1098 = .ok (.ireturn, 1) := by decide +kernel
theorem dL_law_1099 : decode cL_law 1099 = .ok (.aload_n 1, 1) := by decide +kernel
theorem dL_law_1100 : decode cL_law 1100 = .ok (.aload_n 0, 1) := by decide +kernel
theorem dL_law_1101 : decode cL_law 1101 = .ok (.iload 5, 2) := by decide +kernel
theorem dL_law_1103 : decode cL_law 1103 = .ok (.iconst 1, 1) := by decide +kernel
theorem dL_law_1104 : decode cL_law 1104 = .ok (.iadd, 1) := by decide +kernel
theorem dL_law_1105 : decode cL_law 1105 = .ok (.iaload, 1) := by decide +kernel
theorem dL_law_1106 : decode cL_law 1106 = .ok (.aload_n 3, 1) := by decide +kernel
theorem dL_law_1107 : decode cL_law 1107 = .ok (.invokestatic 124, 3) := by decide +kernel
theorem dL_law_1110 : decode cL_law 1110 = .ok (.istore 6, 2) := by decide +kernel
theorem dL_law_1112 : decode cL_law 1112 = .ok (.aload_n 2, 1) := by decide +kernel
theorem dL_law_1113 : decode cL_law 1113 = .ok (.aload_n 0, 1) := by decide +kernel
theorem dL_law_1114 : decode cL_law 1114 = .ok (.iload 5, 2) := by decide +kernel
theorem dL_law_1116 : decode cL_law 1116 = .ok (.iconst 1, 1) := by decide +kernel
theorem dL_law_1117 : decode cL_law 1117 = .ok (.iadd, 1) := by decide +kernel
theorem dL_law_1118 : decode cL_law 1118 = .ok (.iaload, 1) := by decide +kernel
theorem dL_law_1119 : decode cL_law 1119 = .ok (.invokevirtual 126, 3) := by decide +kernel
theorem dL_law_1122 : decode cL_law 1122 = .ok (.istore 7, 2) := by decide +kernel
theorem dL_law_1124 : decode cL_law 1124 = .ok (.aload_n 2, 1) := by decide +kernel
theorem dL_law_1125 : decode cL_law 1125 = .ok (.invokevirtual 72, 3) := by decide +kernel
theorem dL_law_1128 : decode cL_law 1128 = .ok (.iload 6, 2) := by decide +kernel
theorem dL_law_1130 : decode cL_law 1130 = .ok (.if_icmp .eq 5, 3) := by decide +kernel
theorem dL_law_1133 : decode cL_law 1133 = .ok (.iconst 0, 1) := by decide +kernel
theorem dL_law_1134 : decode cL_law 1134 = .ok (.ireturn, 1) := by decide +kernel
theorem dL_law_1135 : decode cL_law 1135 = .ok (.iload 6, 2) := by decide +kernel
theorem dL_law_1137 : decode cL_law 1137 = .ok (.ifCond .ne 15, 3) := by decide +kernel
theorem dL_law_1140 : decode cL_law 1140 = .ok (.aload_n 3, 1) := by decide +kernel
theorem dL_law_1141 : decode cL_law 1141 = .ok (.iconst 0, 1) := by decide +kernel
theorem dL_law_1142 : decode cL_law 1142 = .ok (.laload, 1) := by decide +kernel
theorem dL_law_1143 : decode cL_law 1143 = .ok (.iload 7, 2) := by decide +kernel
theorem dL_law_1145 : decode cL_law 1145 = .ok (.i2l, 1) := by decide +kernel
theorem dL_law_1146 : decode cL_law 1146 = .ok (.lcmp, 1) := by decide +kernel
theorem dL_law_1147 : decode cL_law 1147 = .ok (.ifCond .eq 5, 3) := by decide +kernel
theorem dL_law_1150 : decode cL_law 1150 = .ok (.iconst 0, 1) := by decide +kernel
theorem dL_law_1151 : decode cL_law 1151 = .ok (.ireturn, 1) := by decide +kernel
theorem dL_law_1152 : decode cL_law 1152 = .ok (.goto 80, 3) := by decide +kernel
theorem dL_law_1155 : decode cL_law 1155 = .ok (.aload_n 1, 1) := by decide +kernel
theorem dL_law_1156 : decode cL_law 1156 = .ok (.aload_n 0, 1) := by decide +kernel
theorem dL_law_1157 : decode cL_law 1157 = .ok (.iload 5, 2) := by decide +kernel
theorem dL_law_1159 : decode cL_law 1159 = .ok (.iconst 1, 1) := by decide +kernel
theorem dL_law_1160 : decode cL_law 1160 = .ok (.iadd, 1) := by decide +kernel
theorem dL_law_1161 : decode cL_law 1161 = .ok (.iaload, 1) := by decide +kernel
theorem dL_law_1162 : decode cL_law 1162 = .ok (.aload 4, 2) := by decide +kernel
theorem dL_law_1164 : decode cL_law 1164 = .ok (.invokestatic 127, 3) := by decide +kernel
theorem dL_law_1167 : decode cL_law 1167 = .ok (.istore 6, 2) := by decide +kernel
theorem dL_law_1169 : decode cL_law 1169 = .ok (.aload_n 2, 1) := by decide +kernel
theorem dL_law_1170 : decode cL_law 1170 = .ok (.aload_n 0, 1) := by decide +kernel
theorem dL_law_1171 : decode cL_law 1171 = .ok (.iload 5, 2) := by decide +kernel
theorem dL_law_1173 : decode cL_law 1173 = .ok (.iconst 1, 1) := by decide +kernel
theorem dL_law_1174 : decode cL_law 1174 = .ok (.iadd, 1) := by decide +kernel
theorem dL_law_1175 : decode cL_law 1175 = .ok (.iaload, 1) := by decide +kernel
theorem dL_law_1176 : decode cL_law 1176 = .ok (.invokevirtual 129, 3) := by decide +kernel
theorem dL_law_1179 : decode cL_law 1179 = .ok (.dstore 7, 2) := by decide +kernel
theorem dL_law_1181 : decode cL_law 1181 = .ok (.aload_n 2, 1) := by decide +kernel
theorem dL_law_1182 : decode cL_law 1182 = .ok (.invokevirtual 72, 3) := by decide +kernel
theorem dL_law_1185 : decode cL_law 1185 = .ok (.iload 6, 2) := by decide +kernel
theorem dL_law_1187 : decode cL_law 1187 = .ok (.if_icmp .eq 5, 3) := by decide +kernel
theorem dL_law_1190 : decode cL_law 1190 = .ok (.iconst 0, 1) := by decide +kernel
theorem dL_law_1191 : decode cL_law 1191 = .ok (.ireturn, 1) := by decide +kernel
theorem dL_law_1192 : decode cL_law 1192 = .ok (.iload 6, 2) := by decide +kernel
theorem dL_law_1194 : decode cL_law 1194 = .ok (.ifCond .ne 35, 3) := by decide +kernel
theorem dL_law_1197 : decode cL_law 1197 = .ok (.aload 4, 2) := by decide +kernel
theorem dL_law_1199 : decode cL_law 1199 = .ok (.iconst 0, 1) := by decide +kernel
theorem dL_law_1200 : decode cL_law 1200 = .ok (.daload, 1) := by decide +kernel
theorem dL_law_1201 : decode cL_law 1201 = .ok (.dload 7, 2) := by decide +kernel
theorem dL_law_1203 : decode cL_law 1203 = .ok (.dcmp .l, 1) := by decide +kernel
theorem dL_law_1204 : decode cL_law 1204 = .ok (.ifCond .eq 25, 3) := by decide +kernel
theorem dL_law_1207 : decode cL_law 1207 = .ok (.aload 4, 2) := by decide +kernel
theorem dL_law_1209 : decode cL_law 1209 = .ok (.iconst 0, 1) := by decide +kernel
theorem dL_law_1210 : decode cL_law 1210 = .ok (.daload, 1) := by decide +kernel
theorem dL_law_1211 : decode cL_law 1211 = .ok (.aload 4, 2) := by decide +kernel
theorem dL_law_1213 : decode cL_law 1213 = .ok (.iconst 0, 1) := by decide +kernel
theorem dL_law_1214 : decode cL_law 1214 = .ok (.daload, 1) := by decide +kernel
theorem dL_law_1215 : decode cL_law 1215 = .ok (.dcmp .l, 1) := by decide +kernel
theorem dL_law_1216 : decode cL_law 1216 = .ok (.ifCond .eq 11, 3) := by decide +kernel
theorem dL_law_1219 : decode cL_law 1219 = .ok (.dload 7, 2) := by decide +kernel
theorem dL_law_1221 : decode cL_law 1221 = .ok (.dload 7, 2) := by decide +kernel
theorem dL_law_1223 : decode cL_law 1223 = .ok (.dcmp .l, 1) := by decide +kernel
theorem dL_law_1224 : decode cL_law 1224 = .ok (.ifCond .ne 5, 3) := by decide +kernel
theorem dL_law_1227 : decode cL_law 1227 = .ok (.iconst 0, 1) := by decide +kernel
theorem dL_law_1228 : decode cL_law 1228 = .ok (.ireturn, 1) := by decide +kernel
theorem dL_law_1229 : decode cL_law 1229 = .ok (.goto 3, 3) := by decide +kernel
theorem dL_law_1232 : decode cL_law 1232 = .ok (.iinc 5 4, 3) := by decide +kernel
theorem dL_law_1235 : decode cL_law 1235 = .ok (.goto (-1207), 3) := by decide +kernel
theorem dL_law_1238 : decode cL_law 1238 = .ok (.iconst 1, 1) := by decide +kernel
theorem dL_law_1239 : decode cL_law 1239 = .ok (.ireturn, 1) := by decide +kernel
abbrev vwCl : List vw_C := [(RX0, TX0, 9), (RX1, TX1, 12), (RX2, TX2, 20)]
/-! ===== END printed: names ===== -/
