theorem inJ9 : ∀ w ∈ wsJ90, w ∈ lw_tbl := by decide +kernel
theorem inJ0 : ∀ w ∈ wsJ00, w ∈ lw_tbl := by decide +kernel
theorem dX0_init_0 : decode cX0_init 0 = .ok (.aload_n 0, 1) := by decide +kernel
theorem dX0_init_1 : decode cX0_init 1 = .ok (.invokespecial 3, 3) := by decide +kernel
theorem dX0_init_4 : decode cX0_init 4 = .ok (.aload_n 0, 1) := by decide +kernel
theorem dX0_init_5 : decode cX0_init 5 = .ok (.iconst 0, 1) := by decide +kernel
theorem dX0_init_6 : decode cX0_init 6 = .ok (.putfield 9, 3) := by decide +kernel
theorem dX0_init_9 : decode cX0_init 9 = .ok (.aload_n 0, 1) := by decide +kernel
theorem dX0_init_10 : decode cX0_init 10 = .ok (.bipush 60, 2) := by decide +kernel
theorem dX0_init_12 : decode cX0_init 12 = .ok (.newarray .double, 2) := by decide +kernel
theorem dX0_init_14 : decode cX0_init 14 = .ok (.putfield 15, 3) := by decide +kernel
theorem dX0_init_17 : decode cX0_init 17 = .ok (.aload_n 0, 1) := by decide +kernel
theorem dX0_init_18 : decode cX0_init 18 = .ok (.bipush 60, 2) := by decide +kernel
theorem dX0_init_20 : decode cX0_init 20 = .ok (.newarray .double, 2) := by decide +kernel
theorem dX0_init_22 : decode cX0_init 22 = .ok (.putfield 19, 3) := by decide +kernel
theorem dX0_init_25 : decode cX0_init 25 = .ok (.aload_n 0, 1) := by decide +kernel
theorem dX0_init_26 : decode cX0_init 26 = .ok (.sipush 300, 3) := by decide +kernel
theorem dX0_init_29 : decode cX0_init 29 = .ok (.newarray .double, 2) := by decide +kernel
theorem dX0_init_31 : decode cX0_init 31 = .ok (.putfield 22, 3) := by decide +kernel
theorem dX0_init_34 : decode cX0_init 34 = .ok (.aload_n 0, 1) := by decide +kernel
theorem dX0_init_35 : decode cX0_init 35 = .ok (.sipush 300, 3) := by decide +kernel
theorem dX0_init_38 : decode cX0_init 38 = .ok (.newarray .boolean, 2) := by decide +kernel
theorem dX0_init_40 : decode cX0_init 40 = .ok (.putfield 25, 3) := by decide +kernel
theorem dX0_init_43 : decode cX0_init 43 = .ok (.aload_n 0, 1) := by decide +kernel
theorem dX0_init_44 : decode cX0_init 44 = .ok (.sipush 300, 3) := by decide +kernel
theorem dX0_init_47 : decode cX0_init 47 = .ok (.newarray .double, 2) := by decide +kernel
theorem dX0_init_49 : decode cX0_init 49 = .ok (.putfield 29, 3) := by decide +kernel
theorem dX0_init_52 : decode cX0_init 52 = .ok (.aload_n 0, 1) := by decide +kernel
theorem dX0_init_53 : decode cX0_init 53 = .ok (.sipush 300, 3) := by decide +kernel
theorem dX0_init_56 : decode cX0_init 56 = .ok (.newarray .double, 2) := by decide +kernel
theorem dX0_init_58 : decode cX0_init 58 = .ok (.putfield 32, 3) := by decide +kernel
theorem dX0_init_61 : decode cX0_init 61 = .ok (.aload_n 0, 1) := by decide +kernel
theorem dX0_init_62 : decode cX0_init 62 = .ok (.sipush 300, 3) := by decide +kernel
theorem dX0_init_65 : decode cX0_init 65 = .ok (.newarray .double, 2) := by decide +kernel
theorem dX0_init_67 : decode cX0_init 67 = .ok (.putfield 35, 3) := by decide +kernel
theorem dX0_init_70 : decode cX0_init 70 = .ok (.aload_n 0, 1) := by decide +kernel
theorem dX0_init_71 : decode cX0_init 71 = .ok (.sipush 300, 3) := by decide +kernel
theorem dX0_init_74 : decode cX0_init 74 = .ok (.newarray .double, 2) := by decide +kernel
theorem dX0_init_76 : decode cX0_init 76 = .ok (.putfield 38, 3) := by decide +kernel
theorem dX0_init_79 : decode cX0_init 79 = .ok (.return_, 1) := by decide +kernel
theorem dX0_slot_0 : decode cX0_slot 0 = .ok (.iload_n 1, 1) := by decide +kernel
theorem dX0_slot_1 : decode cX0_slot 1 = .ok (.iconst 5, 1) := by decide +kernel
theorem dX0_slot_2 : decode cX0_slot 2 = .ok (.imul, 1) := by decide +kernel
theorem dX0_slot_3 : decode cX0_slot 3 = .ok (.iload_n 0, 1) := by decide +kernel
theorem dX0_slot_4 : decode cX0_slot 4 = .ok (.iadd, 1) := by decide +kernel
theorem dX0_slot_5 : decode cX0_slot 5 = .ok (.ireturn, 1) := by decide +kernel
set_option maxRecDepth 20000 in
theorem ggX0_guess_X0_slot : GoodIn wsX0_guess wsX0_slot := goodIn_r _ [8] (by decide +kernel) (by decide +kernel)
set_option maxRecDepth 20000 in
theorem gX0_guess_X0_slot : GoodIn wsX0_guess (va_wsS RX0 41 yX0_slot wsX0_slot) := goodIn_app (goodIn_of _ (by decide +kernel)) ggX0_guess_X0_slot
theorem dX0_guess_0 : decode cX0_guess 0 = .ok (.dconst 0, 1) := by decide +kernel
theorem dX0_guess_1 : decode cX0_guess 1 = .ok (.dstore_n 2, 1) := by decide +kernel
theorem dX0_guess_2 : decode cX0_guess 2 = .ok (.iconst 0, 1) := by decide +kernel
theorem dX0_guess_3 : decode cX0_guess 3 = .ok (.istore 4, 2) := by decide +kernel
theorem dX0_guess_5 : decode cX0_guess 5 = .ok (.aload_n 0, 1) := by decide +kernel
theorem dX0_guess_6 : decode cX0_guess 6 = .ok (.getfield 9, 3) := by decide +kernel
theorem dX0_guess_9 : decode cX0_guess 9 = .ok (.iconst 1, 1) := by decide +kernel
theorem dX0_guess_10 : decode cX0_guess 10 = .ok (.isub, 1) := by decide +kernel
theorem dX0_guess_11 : decode cX0_guess 11 = .ok (.istore 5, 2) := by decide +kernel
theorem dX0_guess_13 : decode cX0_guess 13 = .ok (.iload 5, 2) := by decide +kernel
theorem dX0_guess_15 : decode cX0_guess 15 = .ok (.ifCond .lt 46, 3) := by decide +kernel
theorem dX0_guess_18 : decode cX0_guess 18 = .ok (.iload 4, 2) := by decide +kernel
theorem dX0_guess_20 : decode cX0_guess 20 = .ok (.iconst 2, 1) := by decide +kernel
theorem dX0_guess_21 : decode cX0_guess 21 = .ok (.if_icmp .ge 40, 3) := by decide +kernel
theorem dX0_guess_24 : decode cX0_guess 24 = .ok (.iload_n 1, 1) := by decide +kernel
theorem dX0_guess_25 : decode cX0_guess 25 = .ok (.iload 5, 2) := by decide +kernel
theorem dX0_guess_27 : decode cX0_guess 27 = .ok (.invokestatic 41, 3) := by decide +kernel
theorem dX0_guess_30 : decode cX0_guess 30 = .ok (.istore 6, 2) := by decide +kernel
theorem dX0_guess_32 : decode cX0_guess 32 = .ok (.aload_n 0, 1) := by decide +kernel
theorem dX0_guess_33 : decode cX0_guess 33 = .ok (.getfield 25, 3) := by decide +kernel
theorem dX0_guess_36 : decode cX0_guess 36 = .ok (.iload 6, 2) := by decide +kernel
theorem dX0_guess_38 : decode cX0_guess 38 = .ok (.baload, 1) := by decide +kernel
theorem dX0_guess_39 : decode cX0_guess 39 = .ok (.ifCond .eq 16, 3) := by decide +kernel
theorem dX0_guess_42 : decode cX0_guess 42 = .ok (.dload_n 2, 1) := by decide +kernel
theorem dX0_guess_43 : decode cX0_guess 43 = .ok (.aload_n 0, 1) := by decide +kernel
theorem dX0_guess_44 : decode cX0_guess 44 = .ok (.getfield 22, 3) := by decide +kernel
theorem dX0_guess_47 : decode cX0_guess 47 = .ok (.iload 6, 2) := by decide +kernel
theorem dX0_guess_49 : decode cX0_guess 49 = .ok (.daload, 1) := by decide +kernel
theorem dX0_guess_50 : decode cX0_guess 50 = .ok (.dadd, 1) := by decide +kernel
theorem dX0_guess_51 : decode cX0_guess 51 = .ok (.dstore_n 2, 1) := by decide +kernel
theorem dX0_guess_52 : decode cX0_guess 52 = .ok (.iinc 4 1, 3) := by decide +kernel
theorem dX0_guess_55 : decode cX0_guess 55 = .ok (.iinc 5 (-1), 3) := by decide +kernel
theorem dX0_guess_58 : decode cX0_guess 58 = .ok (.goto (-45), 3) := by decide +kernel
theorem dX0_guess_61 : decode cX0_guess 61 = .ok (.iload 4, 2) := by decide +kernel
theorem dX0_guess_63 : decode cX0_guess 63 = .ok (.iconst 2, 1) := by decide +kernel
theorem dX0_guess_64 : decode cX0_guess 64 = .ok (.if_icmp .ne 11, 3) := by decide +kernel
theorem dX0_guess_67 : decode cX0_guess 67 = .ok (.dload_n 2, 1) := by decide +kernel
theorem dX0_guess_68 : decode cX0_guess 68 = .ok (.ldc2_w 45, 3) := by decide +kernel
theorem dX0_guess_71 : decode cX0_guess 71 = .ok (.ddiv, 1) := by decide +kernel
theorem dX0_guess_72 : decode cX0_guess 72 = .ok (.goto 4, 3) := by decide +kernel
theorem dX0_guess_75 : decode cX0_guess 75 = .ok (.dload_n 2, 1) := by decide +kernel
theorem dX0_guess_76 : decode cX0_guess 76 = .ok (.dreturn, 1) := by decide +kernel
set_option maxRecDepth 20000 in
theorem ggX1_init_X0_init : GoodIn wsX1_init wsX0_init := goodIn_r _ [24, 25, 2, 3, 26, 9, 27, 28, 29, 6, 30, 31, 32, 33, 34, 47, 48, 49, 50, 51, 52, 53, 54, 55] (by decide +kernel) (by decide +kernel)
set_option maxRecDepth 20000 in
theorem gX1_init_X0_init_n32 : GoodIn wsX1_init (wsX0_init) := ggX1_init_X0_init
theorem dX1_init_0 : decode cX1_init 0 = .ok (.aload_n 0, 1) := by decide +kernel
theorem dX1_init_1 : decode cX1_init 1 = .ok (.invokespecial 1, 3) := by decide +kernel
theorem dX1_init_4 : decode cX1_init 4 = .ok (.aload_n 0, 1) := by decide +kernel
theorem dX1_init_5 : decode cX1_init 5 = .ok (.iconst 5, 1) := by decide +kernel
theorem dX1_init_6 : decode cX1_init 6 = .ok (.newarray .int, 2) := by decide +kernel
theorem dX1_init_8 : decode cX1_init 8 = .ok (.putfield 9, 3) := by decide +kernel
theorem dX1_init_11 : decode cX1_init 11 = .ok (.aload_n 0, 1) := by decide +kernel
theorem dX1_init_12 : decode cX1_init 12 = .ok (.iconst 5, 1) := by decide +kernel
theorem dX1_init_13 : decode cX1_init 13 = .ok (.newarray .boolean, 2) := by decide +kernel
theorem dX1_init_15 : decode cX1_init 15 = .ok (.putfield 13, 3) := by decide +kernel
theorem dX1_init_18 : decode cX1_init 18 = .ok (.aload_n 0, 1) := by decide +kernel
theorem dX1_init_19 : decode cX1_init 19 = .ok (.iconst 5, 1) := by decide +kernel
theorem dX1_init_20 : decode cX1_init 20 = .ok (.newarray .int, 2) := by decide +kernel
theorem dX1_init_22 : decode cX1_init 22 = .ok (.putfield 17, 3) := by decide +kernel
theorem dX1_init_25 : decode cX1_init 25 = .ok (.aload_n 0, 1) := by decide +kernel
theorem dX1_init_26 : decode cX1_init 26 = .ok (.iconst 5, 1) := by decide +kernel
theorem dX1_init_27 : decode cX1_init 27 = .ok (.newarray .double, 2) := by decide +kernel
theorem dX1_init_29 : decode cX1_init 29 = .ok (.putfield 20, 3) := by decide +kernel
theorem dX1_init_32 : decode cX1_init 32 = .ok (.aload_n 0, 1) := by decide +kernel
theorem dX1_init_33 : decode cX1_init 33 = .ok (.iconst 5, 1) := by decide +kernel
theorem dX1_init_34 : decode cX1_init 34 = .ok (.newarray .boolean, 2) := by decide +kernel
theorem dX1_init_36 : decode cX1_init 36 = .ok (.putfield 24, 3) := by decide +kernel
theorem dX1_init_39 : decode cX1_init 39 = .ok (.aload_n 0, 1) := by decide +kernel
theorem dX1_init_40 : decode cX1_init 40 = .ok (.iconst 5, 1) := by decide +kernel
theorem dX1_init_41 : decode cX1_init 41 = .ok (.newarray .int, 2) := by decide +kernel
theorem dX1_init_43 : decode cX1_init 43 = .ok (.putfield 27, 3) := by decide +kernel
theorem dX1_init_46 : decode cX1_init 46 = .ok (.aload_n 0, 1) := by decide +kernel
theorem dX1_init_47 : decode cX1_init 47 = .ok (.new 30, 3) := by decide +kernel
theorem dX1_init_50 : decode cX1_init 50 = .ok (.dup, 1) := by decide +kernel
theorem dX1_init_51 : decode cX1_init 51 = .ok (.invokespecial 32, 3) := by decide +kernel
theorem dX1_init_54 : decode cX1_init 54 = .ok (.putfield 33, 3) := by decide +kernel
theorem dX1_init_57 : decode cX1_init 57 = .ok (.aload_n 0, 1) := by decide +kernel
theorem dX1_init_58 : decode cX1_init 58 = .ok (.ldc2_w 37, 3) := by decide +kernel
theorem dX1_init_61 : decode cX1_init 61 = .ok (.putfield 39, 3) := by decide +kernel
theorem dX1_init_64 : decode cX1_init 64 = .ok (.aload_n 0, 1) := by decide +kernel
theorem dX1_init_65 : decode cX1_init 65 = .ok (.dconst 0, 1) := by decide +kernel
theorem dX1_init_66 : decode cX1_init 66 = .ok (.putfield 43, 3) := by decide +kernel
theorem dX1_init_69 : decode cX1_init 69 = .ok (.aload_n 0, 1) := by decide +kernel
theorem dX1_init_70 : decode cX1_init 70 = .ok (.iconst 0, 1) := by decide +kernel
theorem dX1_init_71 : decode cX1_init 71 = .ok (.putfield 46, 3) := by decide +kernel
theorem dX1_init_74 : decode cX1_init 74 = .ok (.aload_n 0, 1) := by decide +kernel
theorem dX1_init_75 : decode cX1_init 75 = .ok (.iconst 5, 1) := by decide +kernel
theorem dX1_init_76 : decode cX1_init 76 = .ok (.newarray .double, 2) := by decide +kernel
theorem dX1_init_78 : decode cX1_init 78 = .ok (.putfield 50, 3) := by decide +kernel
theorem dX1_init_81 : decode cX1_init 81 = .ok (.aload_n 0, 1) := by decide +kernel
theorem dX1_init_82 : decode cX1_init 82 = .ok (.dconst 0, 1) := by decide +kernel
theorem dX1_init_83 : decode cX1_init 83 = .ok (.putfield 53, 3) := by decide +kernel
theorem dX1_init_86 : decode cX1_init 86 = .ok (.iconst 0, 1) := by decide +kernel
theorem dX1_init_87 : decode cX1_init 87 = .ok (.istore_n 1, 1) := by decide +kernel
theorem dX1_init_88 : decode cX1_init 88 = .ok (.iload_n 1, 1) := by decide +kernel
theorem dX1_init_89 : decode cX1_init 89 = .ok (.iconst 5, 1) := by decide +kernel
theorem dX1_init_90 : decode cX1_init 90 = .ok (.if_icmp .ge 16, 3) := by decide +kernel
theorem dX1_init_93 : decode cX1_init 93 = .ok (.aload_n 0, 1) := by decide +kernel
theorem dX1_init_94 : decode cX1_init 94 = .ok (.getfield 13, 3) := by decide +kernel
theorem dX1_init_97 : decode cX1_init 97 = .ok (.iload_n 1, 1) := by decide +kernel
theorem dX1_init_98 : decode cX1_init 98 = .ok (.iconst 1, 1) := by decide +kernel
theorem dX1_init_99 : decode cX1_init 99 = .ok (.bastore, 1) := by decide +kernel
theorem dX1_init_100 : decode cX1_init 100 = .ok (.iinc 1 1, 3) := by decide +kernel
theorem dX1_init_103 : decode cX1_init 103 = .ok (.goto (-15), 3) := by decide +kernel
theorem dX1_init_106 : decode cX1_init 106 = .ok (.return_, 1) := by decide +kernel
set_option maxRecDepth 20000 in
theorem ggX1_setShare_X1_requireOwner : GoodIn wsX1_setShare wsX1_requireOwner := goodIn_ca (goodIn_r _ [7, 8, 9] (by decide +kernel) (by decide +kernel)) (goodIn_sub (fun _ h => List.mem_cons_of_mem _ (List.mem_append_right _ h)) (by decide +kernel))
set_option maxRecDepth 20000 in
theorem gX1_setShare_X1_requireOwner : GoodIn wsX1_setShare (va_wsS RX1 56 yX1_requireOwner wsX1_requireOwner) := goodIn_app (goodIn_of _ (by decide +kernel)) ggX1_setShare_X1_requireOwner
set_option maxRecDepth 20000 in
theorem ggX1_setShare_X1_requireWithin : GoodIn wsX1_setShare wsX1_requireWithin := goodIn_ca (goodIn_r _ [12, 8, 9] (by decide +kernel) (by decide +kernel)) (goodIn_sub (fun _ h => List.mem_cons_of_mem _ (List.mem_append_right _ h)) (by decide +kernel))
set_option maxRecDepth 20000 in
theorem gX1_setShare_X1_requireWithin : GoodIn wsX1_setShare (va_wsS RX1 60 yX1_requireWithin wsX1_requireWithin) := goodIn_app (goodIn_of _ (by decide +kernel)) ggX1_setShare_X1_requireWithin
set_option maxRecDepth 20000 in
theorem ggX1_setShare_X1_sumOfShares : GoodIn wsX1_setShare wsX1_sumOfShares := goodIn_r _ [16, 3, 17, 18, 19, 20, 21, 22, 23, 24, 25, 26, 27, 28] (by decide +kernel) (by decide +kernel)
set_option maxRecDepth 20000 in
theorem gX1_setShare_X1_sumOfShares : GoodIn wsX1_setShare (wsV RX1 64 RX1 yX1_sumOfShares wsX1_sumOfShares) := goodIn_app (goodIn_of _ (by decide +kernel)) ggX1_setShare_X1_sumOfShares
theorem dX1_setShare_0 : decode cX1_setShare 0 = .ok (.iload_n 1, 1) := by decide +kernel
theorem dX1_setShare_1 : decode cX1_setShare 1 = .ok (.invokestatic 56, 3) := by decide +kernel
theorem dX1_setShare_4 : decode cX1_setShare 4 = .ok (.iload_n 2, 1) := by decide +kernel
theorem dX1_setShare_5 : decode cX1_setShare 5 = .ok (.iconst 0, 1) := by decide +kernel
theorem dX1_setShare_6 : decode cX1_setShare 6 = .ok (.iconst 4, 1) := by decide +kernel
theorem dX1_setShare_7 : decode cX1_setShare 7 = .ok (.invokestatic 60, 3) := by decide +kernel
theorem dX1_setShare_10 : decode cX1_setShare 10 = .ok (.aload_n 0, 1) := by decide +kernel
theorem dX1_setShare_11 : decode cX1_setShare 11 = .ok (.getfield 9, 3) := by decide +kernel
theorem dX1_setShare_14 : decode cX1_setShare 14 = .ok (.iload_n 1, 1) := by decide +kernel
theorem dX1_setShare_15 : decode cX1_setShare 15 = .ok (.iaload, 1) := by decide +kernel
theorem dX1_setShare_16 : decode cX1_setShare 16 = .ok (.istore_n 3, 1) := by decide +kernel
theorem dX1_setShare_17 : decode cX1_setShare 17 = .ok (.aload_n 0, 1) := by decide +kernel
theorem dX1_setShare_18 : decode cX1_setShare 18 = .ok (.invokevirtual 64, 3) := by decide +kernel
theorem dX1_setShare_21 : decode cX1_setShare 21 = .ok (.iload_n 3, 1) := by decide +kernel
theorem dX1_setShare_22 : decode cX1_setShare 22 = .ok (.isub, 1) := by decide +kernel
theorem dX1_setShare_23 : decode cX1_setShare 23 = .ok (.iload_n 2, 1) := by decide +kernel
theorem dX1_setShare_24 : decode cX1_setShare 24 = .ok (.iadd, 1) := by decide +kernel
theorem dX1_setShare_25 : decode cX1_setShare 25 = .ok (.iconst 4, 1) := by decide +kernel
theorem dX1_setShare_26 : decode cX1_setShare 26 = .ok (.if_icmp .le 13, 3) := by decide +kernel
theorem dX1_setShare_29 : decode cX1_setShare 29 = .ok (.new 68, 3) := by decide +kernel
theorem dX1_setShare_32 : decode cX1_setShare 32 = .ok (.dup, 1) := by decide +kernel
theorem dX1_setShare_33 : decode cX1_setShare 33 = .ok (.ldc 70, 2) := by decide +kernel
theorem dX1_setShare_35 : decode cX1_setShare 35 = .ok (.invokespecial 72, 3) := by decide +kernel
theorem dX1_setShare_38 : decode cX1_setShare 38 = .ok (.athrow, 1) := by decide +kernel
theorem dX1_setShare_39 : decode cX1_setShare 39 = .ok (.aload_n 0, 1) := by decide +kernel
theorem dX1_setShare_40 : decode cX1_setShare 40 = .ok (.getfield 9, 3) := by decide +kernel
theorem dX1_setShare_43 : decode cX1_setShare 43 = .ok (.iload_n 1, 1) := by decide +kernel
theorem dX1_setShare_44 : decode cX1_setShare 44 = .ok (.iload_n 2, 1) := by decide +kernel
theorem dX1_setShare_45 : decode cX1_setShare 45 = .ok (.iastore, 1) := by decide +kernel
theorem dX1_setShare_46 : decode cX1_setShare 46 = .ok (.iload_n 3, 1) := by decide +kernel
theorem dX1_setShare_47 : decode cX1_setShare 47 = .ok (.ireturn, 1) := by decide +kernel
set_option maxRecDepth 20000 in
theorem ggX1_setSwitch_X1_requireOwner : GoodIn wsX1_setSwitch wsX1_requireOwner := goodIn_ca (goodIn_r _ [5, 6, 7] (by decide +kernel) (by decide +kernel)) (goodIn_sub (fun _ h => List.mem_cons_of_mem _ (List.mem_append_right _ h)) (by decide +kernel))
set_option maxRecDepth 20000 in
theorem gX1_setSwitch_X1_requireOwner : GoodIn wsX1_setSwitch (va_wsS RX1 56 yX1_requireOwner wsX1_requireOwner) := goodIn_app (goodIn_of _ (by decide +kernel)) ggX1_setSwitch_X1_requireOwner
theorem dX1_setSwitch_0 : decode cX1_setSwitch 0 = .ok (.iload_n 1, 1) := by decide +kernel
theorem dX1_setSwitch_1 : decode cX1_setSwitch 1 = .ok (.invokestatic 56, 3) := by decide +kernel
theorem dX1_setSwitch_4 : decode cX1_setSwitch 4 = .ok (.aload_n 0, 1) := by decide +kernel
theorem dX1_setSwitch_5 : decode cX1_setSwitch 5 = .ok (.getfield 13, 3) := by decide +kernel
theorem dX1_setSwitch_8 : decode cX1_setSwitch 8 = .ok (.iload_n 1, 1) := by decide +kernel
theorem dX1_setSwitch_9 : decode cX1_setSwitch 9 = .ok (.baload, 1) := by decide +kernel
theorem dX1_setSwitch_10 : decode cX1_setSwitch 10 = .ok (.istore_n 3, 1) := by decide +kernel
theorem dX1_setSwitch_11 : decode cX1_setSwitch 11 = .ok (.aload_n 0, 1) := by decide +kernel
theorem dX1_setSwitch_12 : decode cX1_setSwitch 12 = .ok (.getfield 13, 3) := by decide +kernel
theorem dX1_setSwitch_15 : decode cX1_setSwitch 15 = .ok (.iload_n 1, 1) := by decide +kernel
theorem dX1_setSwitch_16 : decode cX1_setSwitch 16 = .ok (.iload_n 2, 1) := by decide +kernel
theorem dX1_setSwitch_17 : decode cX1_setSwitch 17 = .ok (.bastore, 1) := by decide +kernel
theorem dX1_setSwitch_18 : decode cX1_setSwitch 18 = .ok (.iload_n 3, 1) := by decide +kernel
theorem dX1_setSwitch_19 : decode cX1_setSwitch 19 = .ok (.ireturn, 1) := by decide +kernel
set_option maxRecDepth 20000 in
theorem ggX1_setPrice_X1_requireWithin : GoodIn wsX1_setPrice wsX1_requireWithin := goodIn_ca (goodIn_r _ [6, 7, 8] (by decide +kernel) (by decide +kernel)) (goodIn_sub (fun _ h => List.mem_cons_of_mem _ (List.mem_append_right _ h)) (by decide +kernel))
set_option maxRecDepth 20000 in
theorem gX1_setPrice_X1_requireWithin : GoodIn wsX1_setPrice (va_wsS RX1 60 yX1_requireWithin wsX1_requireWithin) := goodIn_app (goodIn_of _ (by decide +kernel)) ggX1_setPrice_X1_requireWithin
theorem dX1_setPrice_0 : decode cX1_setPrice 0 = .ok (.iload_n 1, 1) := by decide +kernel
theorem dX1_setPrice_1 : decode cX1_setPrice 1 = .ok (.iconst 1, 1) := by decide +kernel
theorem dX1_setPrice_2 : decode cX1_setPrice 2 = .ok (.iconst 4, 1) := by decide +kernel
theorem dX1_setPrice_3 : decode cX1_setPrice 3 = .ok (.invokestatic 60, 3) := by decide +kernel
theorem dX1_setPrice_6 : decode cX1_setPrice 6 = .ok (.aload_n 0, 1) := by decide +kernel
theorem dX1_setPrice_7 : decode cX1_setPrice 7 = .ok (.iload_n 1, 1) := by decide +kernel
theorem dX1_setPrice_8 : decode cX1_setPrice 8 = .ok (.i2d, 1) := by decide +kernel
theorem dX1_setPrice_9 : decode cX1_setPrice 9 = .ok (.ldc2_w 75, 3) := by decide +kernel
theorem dX1_setPrice_12 : decode cX1_setPrice 12 = .ok (.ddiv, 1) := by decide +kernel
theorem dX1_setPrice_13 : decode cX1_setPrice 13 = .ok (.putfield 39, 3) := by decide +kernel
theorem dX1_setPrice_16 : decode cX1_setPrice 16 = .ok (.aload_n 0, 1) := by decide +kernel
theorem dX1_setPrice_17 : decode cX1_setPrice 17 = .ok (.getfield 39, 3) := by decide +kernel
theorem dX1_setPrice_20 : decode cX1_setPrice 20 = .ok (.dreturn, 1) := by decide +kernel
set_option maxRecDepth 20000 in
theorem ggX1_tell_X1_requireOwner : GoodIn wsX1_tell wsX1_requireOwner := goodIn_ca (goodIn_r _ [6, 7, 8] (by decide +kernel) (by decide +kernel)) (goodIn_sub (fun _ h => List.mem_cons_of_mem _ (List.mem_append_right _ h)) (by decide +kernel))
set_option maxRecDepth 20000 in
theorem gX1_tell_X1_requireOwner : GoodIn wsX1_tell (va_wsS RX1 56 yX1_requireOwner wsX1_requireOwner) := goodIn_app (goodIn_of _ (by decide +kernel)) ggX1_tell_X1_requireOwner
set_option maxRecDepth 20000 in
theorem ggX1_tell_X1_requireWithin : GoodIn wsX1_tell wsX1_requireWithin := goodIn_ca (goodIn_r _ [11, 7, 8] (by decide +kernel) (by decide +kernel)) (goodIn_sub (fun _ h => List.mem_cons_of_mem _ (List.mem_append_right _ h)) (by decide +kernel))
set_option maxRecDepth 20000 in
theorem gX1_tell_X1_requireWithin : GoodIn wsX1_tell (va_wsS RX1 60 yX1_requireWithin wsX1_requireWithin) := goodIn_app (goodIn_of _ (by decide +kernel)) ggX1_tell_X1_requireWithin
theorem dX1_tell_0 : decode cX1_tell 0 = .ok (.iload_n 1, 1) := by decide +kernel
theorem dX1_tell_1 : decode cX1_tell 1 = .ok (.invokestatic 56, 3) := by decide +kernel
theorem dX1_tell_4 : decode cX1_tell 4 = .ok (.iload_n 2, 1) := by decide +kernel
theorem dX1_tell_5 : decode cX1_tell 5 = .ok (.iconst 0, 1) := by decide +kernel
theorem dX1_tell_6 : decode cX1_tell 6 = .ok (.bipush 50, 2) := by decide +kernel
theorem dX1_tell_8 : decode cX1_tell 8 = .ok (.invokestatic 60, 3) := by decide +kernel
theorem dX1_tell_11 : decode cX1_tell 11 = .ok (.aload_n 0, 1) := by decide +kernel
theorem dX1_tell_12 : decode cX1_tell 12 = .ok (.getfield 24, 3) := by decide +kernel
theorem dX1_tell_15 : decode cX1_tell 15 = .ok (.iload_n 1, 1) := by decide +kernel
theorem dX1_tell_16 : decode cX1_tell 16 = .ok (.baload, 1) := by decide +kernel
theorem dX1_tell_17 : decode cX1_tell 17 = .ok (.istore_n 3, 1) := by decide +kernel
theorem dX1_tell_18 : decode cX1_tell 18 = .ok (.aload_n 0, 1) := by decide +kernel
theorem dX1_tell_19 : decode cX1_tell 19 = .ok (.getfield 24, 3) := by decide +kernel
theorem dX1_tell_22 : decode cX1_tell 22 = .ok (.iload_n 1, 1) := by decide +kernel
theorem dX1_tell_23 : decode cX1_tell 23 = .ok (.iconst 1, 1) := by decide +kernel
theorem dX1_tell_24 : decode cX1_tell 24 = .ok (.bastore, 1) := by decide +kernel
theorem dX1_tell_25 : decode cX1_tell 25 = .ok (.aload_n 0, 1) := by decide +kernel
theorem dX1_tell_26 : decode cX1_tell 26 = .ok (.getfield 27, 3) := by decide +kernel
theorem dX1_tell_29 : decode cX1_tell 29 = .ok (.iload_n 1, 1) := by decide +kernel
theorem dX1_tell_30 : decode cX1_tell 30 = .ok (.iload_n 2, 1) := by decide +kernel
theorem dX1_tell_31 : decode cX1_tell 31 = .ok (.iastore, 1) := by decide +kernel
theorem dX1_tell_32 : decode cX1_tell 32 = .ok (.iload_n 3, 1) := by decide +kernel
theorem dX1_tell_33 : decode cX1_tell 33 = .ok (.ireturn, 1) := by decide +kernel
set_option maxRecDepth 20000 in
theorem ggX1_close_X1_requireWithin : GoodIn wsX1_close wsX1_requireWithin := goodIn_ca (goodIn_r _ [11, 12, 13] (by decide +kernel) (by decide +kernel)) (goodIn_sub (fun _ h => List.mem_cons_of_mem _ (List.mem_append_right _ h)) (by decide +kernel))
set_option maxRecDepth 20000 in
theorem gX1_close_X1_requireWithin : GoodIn wsX1_close (va_wsS RX1 60 yX1_requireWithin wsX1_requireWithin) := goodIn_app (goodIn_of _ (by decide +kernel)) ggX1_close_X1_requireWithin
set_option maxRecDepth 20000 in
theorem ggX1_close_X1_writeUses : GoodIn wsX1_close wsX1_writeUses := goodIn_r _ [17, 18, 19, 3, 20, 21, 22, 23, 24, 25, 26, 27, 28, 29, 30, 31, 32, 33, 34, 35, 105, 106, 107, 108, 109, 110, 111, 112, 113, 114, 115, 116, 117, 118, 119, 120, 121, 122, 123, 124, 125] (by decide +kernel) (by decide +kernel)
set_option maxRecDepth 20000 in
theorem gX1_close_X1_writeUses : GoodIn wsX1_close (wsV RX1 84 RX1 yX1_writeUses wsX1_writeUses) := goodIn_app (goodIn_of _ (by decide +kernel)) ggX1_close_X1_writeUses
set_option maxRecDepth 20000 in
theorem ggX1_close_X1_shedUntilCarried : GoodIn wsX1_close wsX1_shedUntilCarried := goodIn_r _ [39, 22, 40, 41, 42, 43, 10, 44, 45, 46, 47, 48, 49, 50, 51, 52, 53, 54, 105, 106, 107, 108, 109, 110, 111, 112, 113, 114, 115, 116] (by decide +kernel) (by decide +kernel)
set_option maxRecDepth 20000 in
theorem gX1_close_X1_shedUntilCarried : GoodIn wsX1_close (wsV RX1 87 RX1 yX1_shedUntilCarried wsX1_shedUntilCarried) := goodIn_app (goodIn_of _ (by decide +kernel)) ggX1_close_X1_shedUntilCarried
set_option maxRecDepth 20000 in
theorem ggX1_close_X1_isOverLine : GoodIn wsX1_close wsX1_isOverLine := goodIn_r _ [49, 50, 51, 52, 53, 10, 54, 22, 105, 106, 107, 108, 109, 110, 111, 112, 113, 114, 115, 116] (by decide +kernel) (by decide +kernel)
set_option maxRecDepth 20000 in
theorem gX1_close_X1_isOverLine : GoodIn wsX1_close (wsV RX1 90 RX1 yX1_isOverLine wsX1_isOverLine) := goodIn_app (goodIn_of _ (by decide +kernel)) ggX1_close_X1_isOverLine
set_option maxRecDepth 20000 in
theorem ggX1_close_X1_writeUsed : GoodIn wsX1_close wsX1_writeUsed := goodIn_r _ [58, 3, 59, 22, 23, 24, 25, 26, 105, 106, 107, 108, 109, 110, 111, 112, 113, 114, 115, 116, 117, 118, 119, 120, 121, 122, 123, 124, 125] (by decide +kernel) (by decide +kernel)
set_option maxRecDepth 20000 in
theorem gX1_close_X1_writeUsed : GoodIn wsX1_close (wsV RX1 94 RX1 yX1_writeUsed wsX1_writeUsed) := goodIn_app (goodIn_of _ (by decide +kernel)) ggX1_close_X1_writeUsed
set_option maxRecDepth 20000 in
theorem ggX1_close_X1_giveByShare : GoodIn wsX1_close wsX1_giveByShare := goodIn_r _ [63, 64, 65, 22, 7, 66, 67, 10, 68, 69, 70, 71, 72, 3, 73, 23, 24, 25, 26, 105, 106, 107, 108, 109, 110, 111, 112, 113, 114, 115, 116, 117, 118, 119, 120, 121, 122, 123, 124, 125] (by decide +kernel) (by decide +kernel)
set_option maxRecDepth 20000 in
theorem gX1_close_X1_giveByShare : GoodIn wsX1_close (wsV RX1 97 RX1 yX1_giveByShare wsX1_giveByShare) := goodIn_app (goodIn_of _ (by decide +kernel)) ggX1_close_X1_giveByShare
set_option maxRecDepth 20000 in
theorem ggX1_close_X1_giveByNeed : GoodIn wsX1_close wsX1_giveByNeed := goodIn_r _ [77, 7, 22, 51, 52, 53, 10, 54, 69, 70, 71, 72, 3, 73, 23, 24, 25, 26, 105, 106, 107, 108, 109, 110, 111, 112, 113, 114, 115, 116, 117, 118, 119, 120, 121, 122, 123, 124, 125] (by decide +kernel) (by decide +kernel)
set_option maxRecDepth 20000 in
theorem gX1_close_X1_giveByNeed : GoodIn wsX1_close (wsV RX1 101 RX1 yX1_giveByNeed wsX1_giveByNeed) := goodIn_app (goodIn_of _ (by decide +kernel)) ggX1_close_X1_giveByNeed
set_option maxRecDepth 20000 in
theorem ggX1_close_X1_storeOrSell : GoodIn wsX1_close wsX1_storeOrSell := goodIn_r _ [81, 82, 83, 7, 3, 84, 105, 106, 107, 108, 109, 110, 111, 112, 113, 114, 115, 116, 117, 118, 119, 120, 121, 122, 123, 124, 125] (by decide +kernel) (by decide +kernel)
set_option maxRecDepth 20000 in
theorem gX1_close_X1_storeOrSell : GoodIn wsX1_close (wsV RX1 104 RX1 yX1_storeOrSell wsX1_storeOrSell) := goodIn_app (goodIn_of _ (by decide +kernel)) ggX1_close_X1_storeOrSell
set_option maxRecDepth 20000 in
theorem ggX1_close_X1_giveFromBattery : GoodIn wsX1_close wsX1_giveFromBattery := goodIn_r _ [88, 89, 22, 83, 3, 90, 66, 67, 10, 68, 23, 24, 25, 26, 91, 92, 93, 94, 95, 96, 97, 105, 106, 107, 108, 109, 110, 111, 112, 113, 114, 115, 116, 117, 118, 119, 120, 121, 122, 123, 124, 125] (by decide +kernel) (by decide +kernel)
set_option maxRecDepth 20000 in
theorem gX1_close_X1_giveFromBattery : GoodIn wsX1_close (wsV RX1 107 RX1 yX1_giveFromBattery wsX1_giveFromBattery) := goodIn_app (goodIn_of _ (by decide +kernel)) ggX1_close_X1_giveFromBattery
set_option maxRecDepth 20000 in
theorem ggX1_close_X1_writeBills : GoodIn wsX1_close wsX1_writeBills := goodIn_r _ [101, 3, 84, 6, 102, 103, 22, 104, 23, 24, 25, 26, 105, 106, 107, 108, 109, 110, 111, 112, 113, 114, 115, 116, 117, 118, 119, 120, 121, 122, 123, 124, 125] (by decide +kernel) (by decide +kernel)
set_option maxRecDepth 20000 in
theorem gX1_close_X1_writeBills : GoodIn wsX1_close (wsV RX1 110 RX1 yX1_writeBills wsX1_writeBills) := goodIn_app (goodIn_of _ (by decide +kernel)) ggX1_close_X1_writeBills
theorem dX1_close_0 : decode cX1_close 0 = .ok (.iload_n 1, 1) := by decide +kernel
theorem dX1_close_1 : decode cX1_close 1 = .ok (.iconst 0, 1) := by decide +kernel
theorem dX1_close_2 : decode cX1_close 2 = .ok (.bipush 100, 2) := by decide +kernel
theorem dX1_close_4 : decode cX1_close 4 = .ok (.invokestatic 60, 3) := by decide +kernel
theorem dX1_close_7 : decode cX1_close 7 = .ok (.aload_n 0, 1) := by decide +kernel
theorem dX1_close_8 : decode cX1_close 8 = .ok (.getfield 33, 3) := by decide +kernel
theorem dX1_close_11 : decode cX1_close 11 = .ok (.getfield 77, 3) := by decide +kernel
theorem dX1_close_14 : decode cX1_close 14 = .ok (.istore_n 2, 1) := by decide +kernel
theorem dX1_close_15 : decode cX1_close 15 = .ok (.iload_n 2, 1) := by decide +kernel
theorem dX1_close_16 : decode cX1_close 16 = .ok (.bipush 60, 2) := by decide +kernel
theorem dX1_close_18 : decode cX1_close 18 = .ok (.if_icmp .lt 13, 3) := by decide +kernel
theorem dX1_close_21 : decode cX1_close 21 = .ok (.new 68, 3) := by decide +kernel
theorem dX1_close_24 : decode cX1_close 24 = .ok (.dup, 1) := by decide +kernel
theorem dX1_close_25 : decode cX1_close 25 = .ok (.ldc 80, 2) := by decide +kernel
theorem dX1_close_27 : decode cX1_close 27 = .ok (.invokespecial 72, 3) := by decide +kernel
theorem dX1_close_30 : decode cX1_close 30 = .ok (.athrow, 1) := by decide +kernel
theorem dX1_close_31 : decode cX1_close 31 = .ok (.aload_n 0, 1) := by decide +kernel
theorem dX1_close_32 : decode cX1_close 32 = .ok (.getfield 33, 3) := by decide +kernel
theorem dX1_close_35 : decode cX1_close 35 = .ok (.getfield 82, 3) := by decide +kernel
theorem dX1_close_38 : decode cX1_close 38 = .ok (.iload_n 2, 1) := by decide +kernel
theorem dX1_close_39 : decode cX1_close 39 = .ok (.aload_n 0, 1) := by decide +kernel
theorem dX1_close_40 : decode cX1_close 40 = .ok (.getfield 39, 3) := by decide +kernel
theorem dX1_close_43 : decode cX1_close 43 = .ok (.dastore, 1) := by decide +kernel
theorem dX1_close_44 : decode cX1_close 44 = .ok (.aload_n 0, 1) := by decide +kernel
theorem dX1_close_45 : decode cX1_close 45 = .ok (.iload_n 2, 1) := by decide +kernel
theorem dX1_close_46 : decode cX1_close 46 = .ok (.invokevirtual 84, 3) := by decide +kernel
theorem dX1_close_49 : decode cX1_close 49 = .ok (.aload_n 0, 1) := by decide +kernel
theorem dX1_close_50 : decode cX1_close 50 = .ok (.invokevirtual 87, 3) := by decide +kernel
theorem dX1_close_53 : decode cX1_close 53 = .ok (.aload_n 0, 1) := by decide +kernel
theorem dX1_close_54 : decode cX1_close 54 = .ok (.invokevirtual 90, 3) := by decide +kernel
theorem dX1_close_57 : decode cX1_close 57 = .ok (.istore_n 3, 1) := by decide +kernel
theorem dX1_close_58 : decode cX1_close 58 = .ok (.aload_n 0, 1) := by decide +kernel
theorem dX1_close_59 : decode cX1_close 59 = .ok (.iload_n 2, 1) := by decide +kernel
theorem dX1_close_60 : decode cX1_close 60 = .ok (.invokevirtual 94, 3) := by decide +kernel
theorem dX1_close_63 : decode cX1_close 63 = .ok (.aload_n 0, 1) := by decide +kernel
theorem dX1_close_64 : decode cX1_close 64 = .ok (.iload_n 1, 1) := by decide +kernel
theorem dX1_close_65 : decode cX1_close 65 = .ok (.i2d, 1) := by decide +kernel
theorem dX1_close_66 : decode cX1_close 66 = .ok (.putfield 53, 3) := by decide +kernel
theorem dX1_close_69 : decode cX1_close 69 = .ok (.aload_n 0, 1) := by decide +kernel
theorem dX1_close_70 : decode cX1_close 70 = .ok (.iload_n 2, 1) := by decide +kernel
theorem dX1_close_71 : decode cX1_close 71 = .ok (.iload_n 1, 1) := by decide +kernel
theorem dX1_close_72 : decode cX1_close 72 = .ok (.invokevirtual 97, 3) := by decide +kernel
theorem dX1_close_75 : decode cX1_close 75 = .ok (.aload_n 0, 1) := by decide +kernel
theorem dX1_close_76 : decode cX1_close 76 = .ok (.iload_n 2, 1) := by decide +kernel
theorem dX1_close_77 : decode cX1_close 77 = .ok (.invokevirtual 101, 3) := by decide +kernel
theorem dX1_close_80 : decode cX1_close 80 = .ok (.aload_n 0, 1) := by decide +kernel
theorem dX1_close_81 : decode cX1_close 81 = .ok (.iload_n 2, 1) := by decide +kernel
theorem dX1_close_82 : decode cX1_close 82 = .ok (.invokevirtual 104, 3) := by decide +kernel
theorem dX1_close_85 : decode cX1_close 85 = .ok (.aload_n 0, 1) := by decide +kernel
theorem dX1_close_86 : decode cX1_close 86 = .ok (.getfield 53, 3) := by decide +kernel
theorem dX1_close_89 : decode cX1_close 89 = .ok (.dconst 0, 1) := by decide +kernel
theorem dX1_close_90 : decode cX1_close 90 = .ok (.dcmp .l, 1) := by decide +kernel
theorem dX1_close_91 : decode cX1_close 91 = .ok (.ifCond .ne 8, 3) := by decide +kernel
theorem dX1_close_94 : decode cX1_close 94 = .ok (.aload_n 0, 1) := by decide +kernel
theorem dX1_close_95 : decode cX1_close 95 = .ok (.iload_n 2, 1) := by decide +kernel
theorem dX1_close_96 : decode cX1_close 96 = .ok (.invokevirtual 107, 3) := by decide +kernel
theorem dX1_close_99 : decode cX1_close 99 = .ok (.aload_n 0, 1) := by decide +kernel
theorem dX1_close_100 : decode cX1_close 100 = .ok (.iload_n 2, 1) := by decide +kernel
theorem dX1_close_101 : decode cX1_close 101 = .ok (.invokevirtual 110, 3) := by decide +kernel
theorem dX1_close_104 : decode cX1_close 104 = .ok (.aload_n 0, 1) := by decide +kernel
theorem dX1_close_105 : decode cX1_close 105 = .ok (.getfield 33, 3) := by decide +kernel
theorem dX1_close_108 : decode cX1_close 108 = .ok (.iload_n 2, 1) := by decide +kernel
theorem dX1_close_109 : decode cX1_close 109 = .ok (.iconst 1, 1) := by decide +kernel
theorem dX1_close_110 : decode cX1_close 110 = .ok (.iadd, 1) := by decide +kernel
theorem dX1_close_111 : decode cX1_close 111 = .ok (.putfield 77, 3) := by decide +kernel
theorem dX1_close_114 : decode cX1_close 114 = .ok (.iload_n 3, 1) := by decide +kernel
theorem dX1_close_115 : decode cX1_close 115 = .ok (.ireturn, 1) := by decide +kernel
theorem dX1_closed_0 : decode cX1_closed 0 = .ok (.aload_n 0, 1) := by decide +kernel
theorem dX1_closed_1 : decode cX1_closed 1 = .ok (.getfield 33, 3) := by decide +kernel
theorem dX1_closed_4 : decode cX1_closed 4 = .ok (.getfield 77, 3) := by decide +kernel
theorem dX1_closed_7 : decode cX1_closed 7 = .ok (.ireturn, 1) := by decide +kernel
set_option maxRecDepth 20000 in
theorem ggX1_replace_X1_requireOwner : GoodIn wsX1_replace wsX1_requireOwner := goodIn_ca (goodIn_r _ [12, 13, 14] (by decide +kernel) (by decide +kernel)) (goodIn_sub (fun _ h => List.mem_cons_of_mem _ (List.mem_append_left _ (List.mem_append_right _ h))) (by decide +kernel))
set_option maxRecDepth 20000 in
theorem gX1_replace_X1_requireOwner : GoodIn wsX1_replace (va_wsS RX1 56 yX1_requireOwner wsX1_requireOwner) := goodIn_app (goodIn_of _ (by decide +kernel)) ggX1_replace_X1_requireOwner
set_option maxRecDepth 20000 in
theorem ggX1_replace_X1_requireWithin : GoodIn wsX1_replace wsX1_requireWithin := goodIn_ca (goodIn_r _ [17, 13, 14] (by decide +kernel) (by decide +kernel)) (goodIn_sub (fun _ h => List.mem_cons_of_mem _ (List.mem_append_left _ (List.mem_append_right _ h))) (by decide +kernel))
set_option maxRecDepth 20000 in
theorem gX1_replace_X1_requireWithin : GoodIn wsX1_replace (va_wsS RX1 60 yX1_requireWithin wsX1_requireWithin) := goodIn_app (goodIn_of _ (by decide +kernel)) ggX1_replace_X1_requireWithin
set_option maxRecDepth 20000 in
theorem ggX1_replace_X1_requireQuarter : GoodIn wsX1_replace wsX1_requireQuarter := goodIn_ca (goodIn_r _ [21, 22, 23, 3, 24, 29, 30, 31, 32, 33, 34, 35, 36, 37, 38, 39, 40, 41, 42, 43, 44, 45, 46, 47, 48, 49] (by decide +kernel) (by decide +kernel)) (goodIn_sub (fun _ h => List.mem_cons_of_mem _ (List.mem_append_right _ h)) (by decide +kernel))
set_option maxRecDepth 20000 in
theorem gX1_replace_X1_requireQuarter : GoodIn wsX1_replace (wsV RX1 113 RX1 yX1_requireQuarter wsX1_requireQuarter) := goodIn_app (goodIn_of _ (by decide +kernel)) ggX1_replace_X1_requireQuarter
set_option maxRecDepth 20000 in
theorem ggX1_replace_X0_slot : GoodIn wsX1_replace wsX0_slot := goodIn_r _ [28] (by decide +kernel) (by decide +kernel)
set_option maxRecDepth 20000 in
theorem gX1_replace_X0_slot : GoodIn wsX1_replace (va_wsS RX1 116 yX0_slot wsX0_slot) := goodIn_app (goodIn_of _ (by decide +kernel)) ggX1_replace_X0_slot
theorem dX1_replace_0 : decode cX1_replace 0 = .ok (.iload_n 1, 1) := by decide +kernel
theorem dX1_replace_1 : decode cX1_replace 1 = .ok (.invokestatic 56, 3) := by decide +kernel
theorem dX1_replace_4 : decode cX1_replace 4 = .ok (.iload_n 3, 1) := by decide +kernel
theorem dX1_replace_5 : decode cX1_replace 5 = .ok (.iconst 0, 1) := by decide +kernel
theorem dX1_replace_6 : decode cX1_replace 6 = .ok (.bipush 50, 2) := by decide +kernel
theorem dX1_replace_8 : decode cX1_replace 8 = .ok (.invokestatic 60, 3) := by decide +kernel
theorem dX1_replace_11 : decode cX1_replace 11 = .ok (.aload_n 0, 1) := by decide +kernel
theorem dX1_replace_12 : decode cX1_replace 12 = .ok (.iload_n 2, 1) := by decide +kernel
theorem dX1_replace_13 : decode cX1_replace 13 = .ok (.invokevirtual 113, 3) := by decide +kernel
theorem dX1_replace_16 : decode cX1_replace 16 = .ok (.iload_n 1, 1) := by decide +kernel
theorem dX1_replace_17 : decode cX1_replace 17 = .ok (.iload_n 2, 1) := by decide +kernel
theorem dX1_replace_18 : decode cX1_replace 18 = .ok (.invokestatic 116, 3) := by decide +kernel
theorem dX1_replace_21 : decode cX1_replace 21 = .ok (.istore 4, 2) := by decide +kernel
theorem dX1_replace_23 : decode cX1_replace 23 = .ok (.aload_n 0, 1) := by decide +kernel
theorem dX1_replace_24 : decode cX1_replace 24 = .ok (.getfield 33, 3) := by decide +kernel
theorem dX1_replace_27 : decode cX1_replace 27 = .ok (.getfield 120, 3) := by decide +kernel
theorem dX1_replace_30 : decode cX1_replace 30 = .ok (.iload 4, 2) := by decide +kernel
theorem dX1_replace_32 : decode cX1_replace 32 = .ok (.baload, 1) := by decide +kernel
theorem dX1_replace_33 : decode cX1_replace 33 = .ok (.ifCond .eq 13, 3) := by decide +kernel
theorem dX1_replace_36 : decode cX1_replace 36 = .ok (.new 68, 3) := by decide +kernel
theorem dX1_replace_39 : decode cX1_replace 39 = .ok (.dup, 1) := by decide +kernel
theorem dX1_replace_40 : decode cX1_replace 40 = .ok (.ldc 123, 2) := by decide +kernel
theorem dX1_replace_42 : decode cX1_replace 42 = .ok (.invokespecial 72, 3) := by decide +kernel
theorem dX1_replace_45 : decode cX1_replace 45 = .ok (.athrow, 1) := by decide +kernel
theorem dX1_replace_46 : decode cX1_replace 46 = .ok (.aload_n 0, 1) := by decide +kernel
theorem dX1_replace_47 : decode cX1_replace 47 = .ok (.getfield 33, 3) := by decide +kernel
theorem dX1_replace_50 : decode cX1_replace 50 = .ok (.getfield 120, 3) := by decide +kernel
theorem dX1_replace_53 : decode cX1_replace 53 = .ok (.iload 4, 2) := by decide +kernel
theorem dX1_replace_55 : decode cX1_replace 55 = .ok (.iconst 1, 1) := by decide +kernel
theorem dX1_replace_56 : decode cX1_replace 56 = .ok (.bastore, 1) := by decide +kernel
theorem dX1_replace_57 : decode cX1_replace 57 = .ok (.aload_n 0, 1) := by decide +kernel
theorem dX1_replace_58 : decode cX1_replace 58 = .ok (.getfield 33, 3) := by decide +kernel
theorem dX1_replace_61 : decode cX1_replace 61 = .ok (.getfield 125, 3) := by decide +kernel
theorem dX1_replace_64 : decode cX1_replace 64 = .ok (.iload 4, 2) := by decide +kernel
theorem dX1_replace_66 : decode cX1_replace 66 = .ok (.iload_n 3, 1) := by decide +kernel
theorem dX1_replace_67 : decode cX1_replace 67 = .ok (.i2d, 1) := by decide +kernel
theorem dX1_replace_68 : decode cX1_replace 68 = .ok (.dastore, 1) := by decide +kernel
theorem dX1_replace_69 : decode cX1_replace 69 = .ok (.iload_n 3, 1) := by decide +kernel
theorem dX1_replace_70 : decode cX1_replace 70 = .ok (.i2d, 1) := by decide +kernel
theorem dX1_replace_71 : decode cX1_replace 71 = .ok (.aload_n 0, 1) := by decide +kernel
theorem dX1_replace_72 : decode cX1_replace 72 = .ok (.getfield 33, 3) := by decide +kernel
theorem dX1_replace_75 : decode cX1_replace 75 = .ok (.getfield 128, 3) := by decide +kernel
theorem dX1_replace_78 : decode cX1_replace 78 = .ok (.iload 4, 2) := by decide +kernel
theorem dX1_replace_80 : decode cX1_replace 80 = .ok (.daload, 1) := by decide +kernel
theorem dX1_replace_81 : decode cX1_replace 81 = .ok (.dsub, 1) := by decide +kernel
theorem dX1_replace_82 : decode cX1_replace 82 = .ok (.aload_n 0, 1) := by decide +kernel
theorem dX1_replace_83 : decode cX1_replace 83 = .ok (.getfield 33, 3) := by decide +kernel
theorem dX1_replace_86 : decode cX1_replace 86 = .ok (.getfield 82, 3) := by decide +kernel
theorem dX1_replace_89 : decode cX1_replace 89 = .ok (.iload_n 2, 1) := by decide +kernel
theorem dX1_replace_90 : decode cX1_replace 90 = .ok (.daload, 1) := by decide +kernel
theorem dX1_replace_91 : decode cX1_replace 91 = .ok (.dmul, 1) := by decide +kernel
theorem dX1_replace_92 : decode cX1_replace 92 = .ok (.dstore 5, 2) := by decide +kernel
theorem dX1_replace_94 : decode cX1_replace 94 = .ok (.aload_n 0, 1) := by decide +kernel
theorem dX1_replace_95 : decode cX1_replace 95 = .ok (.getfield 20, 3) := by decide +kernel
theorem dX1_replace_98 : decode cX1_replace 98 = .ok (.iload_n 1, 1) := by decide +kernel
theorem dX1_replace_99 : decode cX1_replace 99 = .ok (.dup2, 1) := by decide +kernel
theorem dX1_replace_100 : decode cX1_replace 100 = .ok (.daload, 1) := by decide +kernel
theorem dX1_replace_101 : decode cX1_replace 101 = .ok (.dload 5, 2) := by decide +kernel
theorem dX1_replace_103 : decode cX1_replace 103 = .ok (.dadd, 1) := by decide +kernel
theorem dX1_replace_104 : decode cX1_replace 104 = .ok (.dastore, 1) := by decide +kernel
theorem dX1_replace_105 : decode cX1_replace 105 = .ok (.dload 5, 2) := by decide +kernel
theorem dX1_replace_107 : decode cX1_replace 107 = .ok (.dreturn, 1) := by decide +kernel
set_option maxRecDepth 20000 in
theorem ggX1_use_X1_closedSlot : GoodIn wsX1_use wsX1_closedSlot := goodIn_ca (goodIn_ca (goodIn_r _ [7, 8, 9, 6, 10, 11, 12, 13, 14, 15, 16, 17, 18, 1, 19, 20, 21, 22, 23, 24, 25, 26, 27, 28, 29, 30, 31, 32, 33, 34, 35, 36, 37, 38, 39, 40, 41, 42, 43, 44] (by decide +kernel) (by decide +kernel)) (goodIn_sub (fun _ h => List.mem_cons_of_mem _ (List.mem_append_left _ (List.mem_append_right _ h))) (by decide +kernel))) (goodIn_sub (fun _ h => List.mem_cons_of_mem _ (List.mem_append_right _ h)) (by decide +kernel))
set_option maxRecDepth 20000 in
theorem gX1_use_X1_closedSlot : GoodIn wsX1_use (wsV RX1 131 RX1 yX1_closedSlot wsX1_closedSlot) := goodIn_app (goodIn_of _ (by decide +kernel)) ggX1_use_X1_closedSlot
theorem dX1_use_0 : decode cX1_use 0 = .ok (.aload_n 0, 1) := by decide +kernel
theorem dX1_use_1 : decode cX1_use 1 = .ok (.getfield 33, 3) := by decide +kernel
theorem dX1_use_4 : decode cX1_use 4 = .ok (.getfield 125, 3) := by decide +kernel
theorem dX1_use_7 : decode cX1_use 7 = .ok (.aload_n 0, 1) := by decide +kernel
theorem dX1_use_8 : decode cX1_use 8 = .ok (.iload_n 1, 1) := by decide +kernel
theorem dX1_use_9 : decode cX1_use 9 = .ok (.iload_n 2, 1) := by decide +kernel
theorem dX1_use_10 : decode cX1_use 10 = .ok (.invokevirtual 131, 3) := by decide +kernel
theorem dX1_use_13 : decode cX1_use 13 = .ok (.daload, 1) := by decide +kernel
theorem dX1_use_14 : decode cX1_use 14 = .ok (.dreturn, 1) := by decide +kernel
set_option maxRecDepth 20000 in
theorem ggX1_fromSun_X1_closedSlot : GoodIn wsX1_fromSun wsX1_closedSlot := goodIn_ca (goodIn_ca (goodIn_r _ [7, 8, 9, 6, 10, 11, 12, 13, 14, 15, 16, 17, 18, 1, 19, 20, 21, 22, 23, 24, 25, 26, 27, 28, 29, 30, 31, 32, 33, 34, 35, 36, 37, 38, 39, 40, 41, 42, 43, 44] (by decide +kernel) (by decide +kernel)) (goodIn_sub (fun _ h => List.mem_cons_of_mem _ (List.mem_append_left _ (List.mem_append_right _ h))) (by decide +kernel))) (goodIn_sub (fun _ h => List.mem_cons_of_mem _ (List.mem_append_right _ h)) (by decide +kernel))
set_option maxRecDepth 20000 in
theorem gX1_fromSun_X1_closedSlot : GoodIn wsX1_fromSun (wsV RX1 131 RX1 yX1_closedSlot wsX1_closedSlot) := goodIn_app (goodIn_of _ (by decide +kernel)) ggX1_fromSun_X1_closedSlot
theorem dX1_fromSun_0 : decode cX1_fromSun 0 = .ok (.aload_n 0, 1) := by decide +kernel
theorem dX1_fromSun_1 : decode cX1_fromSun 1 = .ok (.getfield 33, 3) := by decide +kernel
theorem dX1_fromSun_4 : decode cX1_fromSun 4 = .ok (.getfield 134, 3) := by decide +kernel
theorem dX1_fromSun_7 : decode cX1_fromSun 7 = .ok (.aload_n 0, 1) := by decide +kernel
theorem dX1_fromSun_8 : decode cX1_fromSun 8 = .ok (.iload_n 1, 1) := by decide +kernel
theorem dX1_fromSun_9 : decode cX1_fromSun 9 = .ok (.iload_n 2, 1) := by decide +kernel
theorem dX1_fromSun_10 : decode cX1_fromSun 10 = .ok (.invokevirtual 131, 3) := by decide +kernel
theorem dX1_fromSun_13 : decode cX1_fromSun 13 = .ok (.daload, 1) := by decide +kernel
theorem dX1_fromSun_14 : decode cX1_fromSun 14 = .ok (.dreturn, 1) := by decide +kernel
set_option maxRecDepth 20000 in
theorem ggX1_fromBattery_X1_closedSlot : GoodIn wsX1_fromBattery wsX1_closedSlot := goodIn_ca (goodIn_ca (goodIn_r _ [7, 8, 9, 6, 10, 11, 12, 13, 14, 15, 16, 17, 18, 1, 19, 20, 21, 22, 23, 24, 25, 26, 27, 28, 29, 30, 31, 32, 33, 34, 35, 36, 37, 38, 39, 40, 41, 42, 43, 44] (by decide +kernel) (by decide +kernel)) (goodIn_sub (fun _ h => List.mem_cons_of_mem _ (List.mem_append_left _ (List.mem_append_right _ h))) (by decide +kernel))) (goodIn_sub (fun _ h => List.mem_cons_of_mem _ (List.mem_append_right _ h)) (by decide +kernel))
set_option maxRecDepth 20000 in
theorem gX1_fromBattery_X1_closedSlot : GoodIn wsX1_fromBattery (wsV RX1 131 RX1 yX1_closedSlot wsX1_closedSlot) := goodIn_app (goodIn_of _ (by decide +kernel)) ggX1_fromBattery_X1_closedSlot
theorem dX1_fromBattery_0 : decode cX1_fromBattery 0 = .ok (.aload_n 0, 1) := by decide +kernel
theorem dX1_fromBattery_1 : decode cX1_fromBattery 1 = .ok (.getfield 33, 3) := by decide +kernel
theorem dX1_fromBattery_4 : decode cX1_fromBattery 4 = .ok (.getfield 137, 3) := by decide +kernel
theorem dX1_fromBattery_7 : decode cX1_fromBattery 7 = .ok (.aload_n 0, 1) := by decide +kernel
theorem dX1_fromBattery_8 : decode cX1_fromBattery 8 = .ok (.iload_n 1, 1) := by decide +kernel
theorem dX1_fromBattery_9 : decode cX1_fromBattery 9 = .ok (.iload_n 2, 1) := by decide +kernel
theorem dX1_fromBattery_10 : decode cX1_fromBattery 10 = .ok (.invokevirtual 131, 3) := by decide +kernel
theorem dX1_fromBattery_13 : decode cX1_fromBattery 13 = .ok (.daload, 1) := by decide +kernel
theorem dX1_fromBattery_14 : decode cX1_fromBattery 14 = .ok (.dreturn, 1) := by decide +kernel
set_option maxRecDepth 20000 in
theorem ggX1_bought_X1_closedSlot : GoodIn wsX1_bought wsX1_closedSlot := goodIn_ca (goodIn_ca (goodIn_r _ [7, 8, 9, 6, 10, 11, 12, 13, 14, 15, 16, 17, 18, 1, 19, 20, 21, 22, 23, 24, 25, 26, 27, 28, 29, 30, 31, 32, 33, 34, 35, 36, 37, 38, 39, 40, 41, 42, 43, 44] (by decide +kernel) (by decide +kernel)) (goodIn_sub (fun _ h => List.mem_cons_of_mem _ (List.mem_append_left _ (List.mem_append_right _ h))) (by decide +kernel))) (goodIn_sub (fun _ h => List.mem_cons_of_mem _ (List.mem_append_right _ h)) (by decide +kernel))
set_option maxRecDepth 20000 in
theorem gX1_bought_X1_closedSlot : GoodIn wsX1_bought (wsV RX1 131 RX1 yX1_closedSlot wsX1_closedSlot) := goodIn_app (goodIn_of _ (by decide +kernel)) ggX1_bought_X1_closedSlot
theorem dX1_bought_0 : decode cX1_bought 0 = .ok (.aload_n 0, 1) := by decide +kernel
theorem dX1_bought_1 : decode cX1_bought 1 = .ok (.getfield 33, 3) := by decide +kernel
theorem dX1_bought_4 : decode cX1_bought 4 = .ok (.getfield 140, 3) := by decide +kernel
theorem dX1_bought_7 : decode cX1_bought 7 = .ok (.aload_n 0, 1) := by decide +kernel
theorem dX1_bought_8 : decode cX1_bought 8 = .ok (.iload_n 1, 1) := by decide +kernel
theorem dX1_bought_9 : decode cX1_bought 9 = .ok (.iload_n 2, 1) := by decide +kernel
theorem dX1_bought_10 : decode cX1_bought 10 = .ok (.invokevirtual 131, 3) := by decide +kernel
theorem dX1_bought_13 : decode cX1_bought 13 = .ok (.daload, 1) := by decide +kernel
theorem dX1_bought_14 : decode cX1_bought 14 = .ok (.dreturn, 1) := by decide +kernel
set_option maxRecDepth 20000 in
theorem ggX1_sold_X1_requireQuarter : GoodIn wsX1_sold wsX1_requireQuarter := goodIn_ca (goodIn_r _ [7, 8, 9, 1, 10, 11, 12, 13, 14, 15, 16, 17, 18, 19, 20, 21, 22, 23, 24, 25, 26, 27, 28, 29, 30, 31] (by decide +kernel) (by decide +kernel)) (goodIn_sub (fun _ h => List.mem_cons_of_mem _ (List.mem_append_right _ h)) (by decide +kernel))
set_option maxRecDepth 20000 in
theorem gX1_sold_X1_requireQuarter : GoodIn wsX1_sold (wsV RX1 113 RX1 yX1_requireQuarter wsX1_requireQuarter) := goodIn_app (goodIn_of _ (by decide +kernel)) ggX1_sold_X1_requireQuarter
theorem dX1_sold_0 : decode cX1_sold 0 = .ok (.aload_n 0, 1) := by decide +kernel
theorem dX1_sold_1 : decode cX1_sold 1 = .ok (.iload_n 1, 1) := by decide +kernel
theorem dX1_sold_2 : decode cX1_sold 2 = .ok (.invokevirtual 113, 3) := by decide +kernel
theorem dX1_sold_5 : decode cX1_sold 5 = .ok (.aload_n 0, 1) := by decide +kernel
theorem dX1_sold_6 : decode cX1_sold 6 = .ok (.getfield 33, 3) := by decide +kernel
theorem dX1_sold_9 : decode cX1_sold 9 = .ok (.getfield 143, 3) := by decide +kernel
theorem dX1_sold_12 : decode cX1_sold 12 = .ok (.iload_n 1, 1) := by decide +kernel
theorem dX1_sold_13 : decode cX1_sold 13 = .ok (.daload, 1) := by decide +kernel
theorem dX1_sold_14 : decode cX1_sold 14 = .ok (.dreturn, 1) := by decide +kernel
theorem dX1_battery_0 : decode cX1_battery 0 = .ok (.aload_n 0, 1) := by decide +kernel
theorem dX1_battery_1 : decode cX1_battery 1 = .ok (.getfield 43, 3) := by decide +kernel
theorem dX1_battery_4 : decode cX1_battery 4 = .ok (.dreturn, 1) := by decide +kernel
theorem dX1_turn_0 : decode cX1_turn 0 = .ok (.aload_n 0, 1) := by decide +kernel
theorem dX1_turn_1 : decode cX1_turn 1 = .ok (.getfield 46, 3) := by decide +kernel
theorem dX1_turn_4 : decode cX1_turn 4 = .ok (.ireturn, 1) := by decide +kernel
set_option maxRecDepth 20000 in
theorem ggX1_sheds_X1_requireOwner : GoodIn wsX1_sheds wsX1_requireOwner := goodIn_ca (goodIn_r _ [5, 6, 7] (by decide +kernel) (by decide +kernel)) (goodIn_sub (fun _ h => List.mem_cons_of_mem _ (List.mem_append_right _ h)) (by decide +kernel))
set_option maxRecDepth 20000 in
theorem gX1_sheds_X1_requireOwner : GoodIn wsX1_sheds (va_wsS RX1 56 yX1_requireOwner wsX1_requireOwner) := goodIn_app (goodIn_of _ (by decide +kernel)) ggX1_sheds_X1_requireOwner
theorem dX1_sheds_0 : decode cX1_sheds 0 = .ok (.iload_n 1, 1) := by decide +kernel
theorem dX1_sheds_1 : decode cX1_sheds 1 = .ok (.invokestatic 56, 3) := by decide +kernel
theorem dX1_sheds_4 : decode cX1_sheds 4 = .ok (.aload_n 0, 1) := by decide +kernel
theorem dX1_sheds_5 : decode cX1_sheds 5 = .ok (.getfield 17, 3) := by decide +kernel
theorem dX1_sheds_8 : decode cX1_sheds 8 = .ok (.iload_n 1, 1) := by decide +kernel
theorem dX1_sheds_9 : decode cX1_sheds 9 = .ok (.iaload, 1) := by decide +kernel
theorem dX1_sheds_10 : decode cX1_sheds 10 = .ok (.ireturn, 1) := by decide +kernel
set_option maxRecDepth 20000 in
theorem ggX1_bill_X1_requireOwner : GoodIn wsX1_bill wsX1_requireOwner := goodIn_ca (goodIn_r _ [5, 6, 7] (by decide +kernel) (by decide +kernel)) (goodIn_sub (fun _ h => List.mem_cons_of_mem _ (List.mem_append_right _ h)) (by decide +kernel))
set_option maxRecDepth 20000 in
theorem gX1_bill_X1_requireOwner : GoodIn wsX1_bill (va_wsS RX1 56 yX1_requireOwner wsX1_requireOwner) := goodIn_app (goodIn_of _ (by decide +kernel)) ggX1_bill_X1_requireOwner
theorem dX1_bill_0 : decode cX1_bill 0 = .ok (.iload_n 1, 1) := by decide +kernel
theorem dX1_bill_1 : decode cX1_bill 1 = .ok (.invokestatic 56, 3) := by decide +kernel
theorem dX1_bill_4 : decode cX1_bill 4 = .ok (.aload_n 0, 1) := by decide +kernel
theorem dX1_bill_5 : decode cX1_bill 5 = .ok (.getfield 20, 3) := by decide +kernel
theorem dX1_bill_8 : decode cX1_bill 8 = .ok (.iload_n 1, 1) := by decide +kernel
theorem dX1_bill_9 : decode cX1_bill 9 = .ok (.daload, 1) := by decide +kernel
theorem dX1_bill_10 : decode cX1_bill 10 = .ok (.dreturn, 1) := by decide +kernel
theorem dX1_requireWithin_0 : decode cX1_requireWithin 0 = .ok (.iload_n 0, 1) := by decide +kernel
theorem dX1_requireWithin_1 : decode cX1_requireWithin 1 = .ok (.iload_n 1, 1) := by decide +kernel
theorem dX1_requireWithin_2 : decode cX1_requireWithin 2 = .ok (.if_icmp .lt 8, 3) := by decide +kernel
theorem dX1_requireWithin_5 : decode cX1_requireWithin 5 = .ok (.iload_n 0, 1) := by decide +kernel
theorem dX1_requireWithin_6 : decode cX1_requireWithin 6 = .ok (.iload_n 2, 1) := by decide +kernel
theorem dX1_requireWithin_7 : decode cX1_requireWithin 7 = .ok (.if_icmp .le 13, 3) := by decide +kernel
theorem dX1_requireWithin_10 : decode cX1_requireWithin 10 = .ok (.new 146, 3) := by decide +kernel
theorem dX1_requireWithin_13 : decode cX1_requireWithin 13 = .ok (.dup, 1) := by decide +kernel
theorem dX1_requireWithin_14 : decode cX1_requireWithin 14 = .ok (.ldc 148, 2) := by decide +kernel
theorem dX1_requireWithin_16 : decode cX1_requireWithin 16 = .ok (.invokespecial 150, 3) := by decide +kernel
theorem dX1_requireWithin_19 : decode cX1_requireWithin 19 = .ok (.athrow, 1) := by decide +kernel
theorem dX1_requireWithin_20 : decode cX1_requireWithin 20 = .ok (.return_, 1) := by decide +kernel
theorem dX1_requireOwner_0 : decode cX1_requireOwner 0 = .ok (.iload_n 0, 1) := by decide +kernel
theorem dX1_requireOwner_1 : decode cX1_requireOwner 1 = .ok (.ifCond .lt 8, 3) := by decide +kernel
theorem dX1_requireOwner_4 : decode cX1_requireOwner 4 = .ok (.iload_n 0, 1) := by decide +kernel
theorem dX1_requireOwner_5 : decode cX1_requireOwner 5 = .ok (.iconst 5, 1) := by decide +kernel
theorem dX1_requireOwner_6 : decode cX1_requireOwner 6 = .ok (.if_icmp .lt 13, 3) := by decide +kernel
theorem dX1_requireOwner_9 : decode cX1_requireOwner 9 = .ok (.new 146, 3) := by decide +kernel
theorem dX1_requireOwner_12 : decode cX1_requireOwner 12 = .ok (.dup, 1) := by decide +kernel
theorem dX1_requireOwner_13 : decode cX1_requireOwner 13 = .ok (.ldc 151, 2) := by decide +kernel
theorem dX1_requireOwner_15 : decode cX1_requireOwner 15 = .ok (.invokespecial 150, 3) := by decide +kernel
theorem dX1_requireOwner_18 : decode cX1_requireOwner 18 = .ok (.athrow, 1) := by decide +kernel
theorem dX1_requireOwner_19 : decode cX1_requireOwner 19 = .ok (.return_, 1) := by decide +kernel
theorem dX1_requireQuarter_0 : decode cX1_requireQuarter 0 = .ok (.iload_n 1, 1) := by decide +kernel
theorem dX1_requireQuarter_1 : decode cX1_requireQuarter 1 = .ok (.ifCond .lt 14, 3) := by decide +kernel
theorem dX1_requireQuarter_4 : decode cX1_requireQuarter 4 = .ok (.iload_n 1, 1) := by decide +kernel
theorem dX1_requireQuarter_5 : decode cX1_requireQuarter 5 = .ok (.aload_n 0, 1) := by decide +kernel
theorem dX1_requireQuarter_6 : decode cX1_requireQuarter 6 = .ok (.getfield 33, 3) := by decide +kernel
theorem dX1_requireQuarter_9 : decode cX1_requireQuarter 9 = .ok (.getfield 77, 3) := by decide +kernel
theorem dX1_requireQuarter_12 : decode cX1_requireQuarter 12 = .ok (.if_icmp .lt 13, 3) := by decide +kernel
theorem dX1_requireQuarter_15 : decode cX1_requireQuarter 15 = .ok (.new 153, 3) := by decide +kernel
theorem dX1_requireQuarter_18 : decode cX1_requireQuarter 18 = .ok (.dup, 1) := by decide +kernel
theorem dX1_requireQuarter_19 : decode cX1_requireQuarter 19 = .ok (.ldc 155, 2) := by decide +kernel
theorem dX1_requireQuarter_21 : decode cX1_requireQuarter 21 = .ok (.invokespecial 157, 3) := by decide +kernel
theorem dX1_requireQuarter_24 : decode cX1_requireQuarter 24 = .ok (.athrow, 1) := by decide +kernel
theorem dX1_requireQuarter_25 : decode cX1_requireQuarter 25 = .ok (.return_, 1) := by decide +kernel
set_option maxRecDepth 20000 in
theorem ggX1_closedSlot_X1_requireOwner : GoodIn wsX1_closedSlot wsX1_requireOwner := goodIn_ca (goodIn_r _ [4, 5, 6] (by decide +kernel) (by decide +kernel)) (goodIn_sub (fun _ h => List.mem_cons_of_mem _ (List.mem_append_left _ (List.mem_append_right _ h))) (by decide +kernel))
set_option maxRecDepth 20000 in
theorem gX1_closedSlot_X1_requireOwner : GoodIn wsX1_closedSlot (va_wsS RX1 56 yX1_requireOwner wsX1_requireOwner) := goodIn_app (goodIn_of _ (by decide +kernel)) ggX1_closedSlot_X1_requireOwner
set_option maxRecDepth 20000 in
theorem ggX1_closedSlot_X1_requireQuarter : GoodIn wsX1_closedSlot wsX1_requireQuarter := goodIn_ca (goodIn_r _ [10, 11, 12, 13, 14, 19, 20, 21, 22, 23, 24, 25, 26, 27, 28, 29, 30, 31, 32, 33, 34, 35, 36, 37, 38, 39] (by decide +kernel) (by decide +kernel)) (goodIn_sub (fun _ h => List.mem_cons_of_mem _ (List.mem_append_right _ h)) (by decide +kernel))
set_option maxRecDepth 20000 in
theorem gX1_closedSlot_X1_requireQuarter : GoodIn wsX1_closedSlot (wsV RX1 113 RX1 yX1_requireQuarter wsX1_requireQuarter) := goodIn_app (goodIn_of _ (by decide +kernel)) ggX1_closedSlot_X1_requireQuarter
set_option maxRecDepth 20000 in
theorem ggX1_closedSlot_X0_slot : GoodIn wsX1_closedSlot wsX0_slot := goodIn_r _ [18] (by decide +kernel) (by decide +kernel)
set_option maxRecDepth 20000 in
theorem gX1_closedSlot_X0_slot : GoodIn wsX1_closedSlot (va_wsS RX1 116 yX0_slot wsX0_slot) := goodIn_app (goodIn_of _ (by decide +kernel)) ggX1_closedSlot_X0_slot
theorem dX1_closedSlot_0 : decode cX1_closedSlot 0 = .ok (.iload_n 1, 1) := by decide +kernel
theorem dX1_closedSlot_1 : decode cX1_closedSlot 1 = .ok (.invokestatic 56, 3) := by decide +kernel
theorem dX1_closedSlot_4 : decode cX1_closedSlot 4 = .ok (.aload_n 0, 1) := by decide +kernel
theorem dX1_closedSlot_5 : decode cX1_closedSlot 5 = .ok (.iload_n 2, 1) := by decide +kernel
theorem dX1_closedSlot_6 : decode cX1_closedSlot 6 = .ok (.invokevirtual 113, 3) := by decide +kernel
theorem dX1_closedSlot_9 : decode cX1_closedSlot 9 = .ok (.iload_n 1, 1) := by decide +kernel
theorem dX1_closedSlot_10 : decode cX1_closedSlot 10 = .ok (.iload_n 2, 1) := by decide +kernel
theorem dX1_closedSlot_11 : decode cX1_closedSlot 11 = .ok (.invokestatic 116, 3) := by decide +kernel
theorem dX1_closedSlot_14 : decode cX1_closedSlot 14 = .ok (.ireturn, 1) := by decide +kernel
set_option maxRecDepth 20000 in
theorem ggX1_writeUses_X0_slot : GoodIn wsX1_writeUses wsX0_slot := goodIn_r _ [10] (by decide +kernel) (by decide +kernel)
set_option maxRecDepth 20000 in
theorem gX1_writeUses_X0_slot : GoodIn wsX1_writeUses (va_wsS RX1 116 yX0_slot wsX0_slot) := goodIn_app (goodIn_of _ (by decide +kernel)) ggX1_writeUses_X0_slot
set_option maxRecDepth 20000 in
theorem ggX1_writeUses_X0_guess : GoodIn wsX1_writeUses wsX0_guess := goodIn_r _ [14, 15, 16, 17, 18, 19, 8, 9, 10, 32, 33, 34, 35, 36, 37, 38, 39, 40] (by decide +kernel) (by decide +kernel)
set_option maxRecDepth 20000 in
theorem gX1_writeUses_X0_guess : GoodIn wsX1_writeUses (wsV RX1 158 RX0 yX0_guess wsX0_guess) := goodIn_app (goodIn_of _ (by decide +kernel)) ggX1_writeUses_X0_guess
theorem dX1_writeUses_0 : decode cX1_writeUses 0 = .ok (.iconst 0, 1) := by decide +kernel
theorem dX1_writeUses_1 : decode cX1_writeUses 1 = .ok (.istore_n 2, 1) := by decide +kernel
theorem dX1_writeUses_2 : decode cX1_writeUses 2 = .ok (.iload_n 2, 1) := by decide +kernel
theorem dX1_writeUses_3 : decode cX1_writeUses 3 = .ok (.iconst 5, 1) := by decide +kernel
theorem dX1_writeUses_4 : decode cX1_writeUses 4 = .ok (.if_icmp .ge 85, 3) := by decide +kernel
theorem dX1_writeUses_7 : decode cX1_writeUses 7 = .ok (.iload_n 2, 1) := by decide +kernel
theorem dX1_writeUses_8 : decode cX1_writeUses 8 = .ok (.iload_n 1, 1) := by decide +kernel
theorem dX1_writeUses_9 : decode cX1_writeUses 9 = .ok (.invokestatic 116, 3) := by decide +kernel
theorem dX1_writeUses_12 : decode cX1_writeUses 12 = .ok (.istore_n 3, 1) := by decide +kernel
theorem dX1_writeUses_13 : decode cX1_writeUses 13 = .ok (.aload_n 0, 1) := by decide +kernel
theorem dX1_writeUses_14 : decode cX1_writeUses 14 = .ok (.getfield 24, 3) := by decide +kernel
theorem dX1_writeUses_17 : decode cX1_writeUses 17 = .ok (.iload_n 2, 1) := by decide +kernel
theorem dX1_writeUses_18 : decode cX1_writeUses 18 = .ok (.baload, 1) := by decide +kernel
theorem dX1_writeUses_19 : decode cX1_writeUses 19 = .ok (.ifCond .eq 13, 3) := by decide +kernel
theorem dX1_writeUses_22 : decode cX1_writeUses 22 = .ok (.aload_n 0, 1) := by decide +kernel
theorem dX1_writeUses_23 : decode cX1_writeUses 23 = .ok (.getfield 27, 3) := by decide +kernel
theorem dX1_writeUses_26 : decode cX1_writeUses 26 = .ok (.iload_n 2, 1) := by decide +kernel
theorem dX1_writeUses_27 : decode cX1_writeUses 27 = .ok (.iaload, 1) := by decide +kernel
theorem dX1_writeUses_28 : decode cX1_writeUses 28 = .ok (.i2d, 1) := by decide +kernel
theorem dX1_writeUses_29 : decode cX1_writeUses 29 = .ok (.goto 11, 3) := by decide +kernel
theorem dX1_writeUses_32 : decode cX1_writeUses 32 = .ok (.aload_n 0, 1) := by decide +kernel
theorem dX1_writeUses_33 : decode cX1_writeUses 33 = .ok (.getfield 33, 3) := by decide +kernel
theorem dX1_writeUses_36 : decode cX1_writeUses 36 = .ok (.iload_n 2, 1) := by decide +kernel
theorem dX1_writeUses_37 : decode cX1_writeUses 37 = .ok (.invokevirtual 158, 3) := by decide +kernel
theorem dX1_writeUses_40 : decode cX1_writeUses 40 = .ok (.dstore 4, 2) := by decide +kernel
theorem dX1_writeUses_42 : decode cX1_writeUses 42 = .ok (.aload_n 0, 1) := by decide +kernel
theorem dX1_writeUses_43 : decode cX1_writeUses 43 = .ok (.getfield 33, 3) := by decide +kernel
theorem dX1_writeUses_46 : decode cX1_writeUses 46 = .ok (.getfield 120, 3) := by decide +kernel
theorem dX1_writeUses_49 : decode cX1_writeUses 49 = .ok (.iload_n 3, 1) := by decide +kernel
theorem dX1_writeUses_50 : decode cX1_writeUses 50 = .ok (.aload_n 0, 1) := by decide +kernel
theorem dX1_writeUses_51 : decode cX1_writeUses 51 = .ok (.getfield 24, 3) := by decide +kernel
theorem dX1_writeUses_54 : decode cX1_writeUses 54 = .ok (.iload_n 2, 1) := by decide +kernel
theorem dX1_writeUses_55 : decode cX1_writeUses 55 = .ok (.baload, 1) := by decide +kernel
theorem dX1_writeUses_56 : decode cX1_writeUses 56 = .ok (.bastore, 1) := by decide +kernel
theorem dX1_writeUses_57 : decode cX1_writeUses 57 = .ok (.aload_n 0, 1) := by decide +kernel
theorem dX1_writeUses_58 : decode cX1_writeUses 58 = .ok (.getfield 33, 3) := by decide +kernel
theorem dX1_writeUses_61 : decode cX1_writeUses 61 = .ok (.getfield 125, 3) := by decide +kernel
theorem dX1_writeUses_64 : decode cX1_writeUses 64 = .ok (.iload_n 3, 1) := by decide +kernel
theorem dX1_writeUses_65 : decode cX1_writeUses 65 = .ok (.dload 4, 2) := by decide +kernel
theorem dX1_writeUses_67 : decode cX1_writeUses 67 = .ok (.dastore, 1) := by decide +kernel
theorem dX1_writeUses_68 : decode cX1_writeUses 68 = .ok (.aload_n 0, 1) := by decide +kernel
theorem dX1_writeUses_69 : decode cX1_writeUses 69 = .ok (.getfield 50, 3) := by decide +kernel
theorem dX1_writeUses_72 : decode cX1_writeUses 72 = .ok (.iload_n 2, 1) := by decide +kernel
theorem dX1_writeUses_73 : decode cX1_writeUses 73 = .ok (.dload 4, 2) := by decide +kernel
theorem dX1_writeUses_75 : decode cX1_writeUses 75 = .ok (.dastore, 1) := by decide +kernel
theorem dX1_writeUses_76 : decode cX1_writeUses 76 = .ok (.aload_n 0, 1) := by decide +kernel
theorem dX1_writeUses_77 : decode cX1_writeUses 77 = .ok (.getfield 24, 3) := by decide +kernel
theorem dX1_writeUses_80 : decode cX1_writeUses 80 = .ok (.iload_n 2, 1) := by decide +kernel
theorem dX1_writeUses_81 : decode cX1_writeUses 81 = .ok (.iconst 0, 1) := by decide +kernel
theorem dX1_writeUses_82 : decode cX1_writeUses 82 = .ok (.bastore, 1) := by decide +kernel
theorem dX1_writeUses_83 : decode cX1_writeUses 83 = .ok (.iinc 2 1, 3) := by decide +kernel
theorem dX1_writeUses_86 : decode cX1_writeUses 86 = .ok (.goto (-84), 3) := by decide +kernel
theorem dX1_writeUses_89 : decode cX1_writeUses 89 = .ok (.return_, 1) := by decide +kernel
set_option maxRecDepth 20000 in
theorem ggX1_shedUntilCarried_X1_nextToShed : GoodIn wsX1_shedUntilCarried wsX1_nextToShed := goodIn_r _ [7, 8, 1, 2, 18, 19, 20, 21, 22, 23, 24, 25, 26, 27, 28, 29] (by decide +kernel) (by decide +kernel)
set_option maxRecDepth 20000 in
theorem gX1_shedUntilCarried_X1_nextToShed : GoodIn wsX1_shedUntilCarried (wsV RX1 162 RX1 yX1_nextToShed wsX1_nextToShed) := goodIn_app (goodIn_of _ (by decide +kernel)) ggX1_shedUntilCarried_X1_nextToShed
set_option maxRecDepth 20000 in
theorem ggX1_shedUntilCarried_X1_isOverLine : GoodIn wsX1_shedUntilCarried wsX1_isOverLine := goodIn_r _ [12, 13, 14, 15, 16, 6, 17, 1, 18, 19, 20, 21, 22, 23, 24, 25, 26, 27, 28, 29] (by decide +kernel) (by decide +kernel)
set_option maxRecDepth 20000 in
theorem gX1_shedUntilCarried_X1_isOverLine : GoodIn wsX1_shedUntilCarried (wsV RX1 90 RX1 yX1_isOverLine wsX1_isOverLine) := goodIn_app (goodIn_of _ (by decide +kernel)) ggX1_shedUntilCarried_X1_isOverLine
theorem dX1_shedUntilCarried_0 : decode cX1_shedUntilCarried 0 = .ok (.aload_n 0, 1) := by decide +kernel
theorem dX1_shedUntilCarried_1 : decode cX1_shedUntilCarried 1 = .ok (.invokevirtual 162, 3) := by decide +kernel
theorem dX1_shedUntilCarried_4 : decode cX1_shedUntilCarried 4 = .ok (.istore_n 1, 1) := by decide +kernel
theorem dX1_shedUntilCarried_5 : decode cX1_shedUntilCarried 5 = .ok (.iconst 0, 1) := by decide +kernel
theorem dX1_shedUntilCarried_6 : decode cX1_shedUntilCarried 6 = .ok (.istore_n 2, 1) := by decide +kernel
theorem dX1_shedUntilCarried_7 : decode cX1_shedUntilCarried 7 = .ok (.iload_n 2, 1) := by decide +kernel
theorem dX1_shedUntilCarried_8 : decode cX1_shedUntilCarried 8 = .ok (.iconst 5, 1) := by decide +kernel
theorem dX1_shedUntilCarried_9 : decode cX1_shedUntilCarried 9 = .ok (.if_icmp .ge 43, 3) := by decide +kernel
theorem dX1_shedUntilCarried_12 : decode cX1_shedUntilCarried 12 = .ok (.iload_n 1, 1) := by decide +kernel
theorem dX1_shedUntilCarried_13 : decode cX1_shedUntilCarried 13 = .ok (.iconst (-1), 1) := by decide +kernel
theorem dX1_shedUntilCarried_14 : decode cX1_shedUntilCarried 14 = .ok (.if_icmp .eq 38, 3) := by decide +kernel
theorem dX1_shedUntilCarried_17 : decode cX1_shedUntilCarried 17 = .ok (.aload_n 0, 1) := by decide +kernel
theorem dX1_shedUntilCarried_18 : decode cX1_shedUntilCarried 18 = .ok (.invokevirtual 90, 3) := by decide +kernel
theorem dX1_shedUntilCarried_21 : decode cX1_shedUntilCarried 21 = .ok (.ifCond .eq 31, 3) := by decide +kernel
theorem dX1_shedUntilCarried_24 : decode cX1_shedUntilCarried 24 = .ok (.aload_n 0, 1) := by decide +kernel
theorem dX1_shedUntilCarried_25 : decode cX1_shedUntilCarried 25 = .ok (.getfield 50, 3) := by decide +kernel
theorem dX1_shedUntilCarried_28 : decode cX1_shedUntilCarried 28 = .ok (.iload_n 1, 1) := by decide +kernel
theorem dX1_shedUntilCarried_29 : decode cX1_shedUntilCarried 29 = .ok (.dconst 0, 1) := by decide +kernel
theorem dX1_shedUntilCarried_30 : decode cX1_shedUntilCarried 30 = .ok (.dastore, 1) := by decide +kernel
theorem dX1_shedUntilCarried_31 : decode cX1_shedUntilCarried 31 = .ok (.aload_n 0, 1) := by decide +kernel
theorem dX1_shedUntilCarried_32 : decode cX1_shedUntilCarried 32 = .ok (.getfield 17, 3) := by decide +kernel
theorem dX1_shedUntilCarried_35 : decode cX1_shedUntilCarried 35 = .ok (.iload_n 1, 1) := by decide +kernel
theorem dX1_shedUntilCarried_36 : decode cX1_shedUntilCarried 36 = .ok (.dup2, 1) := by decide +kernel
theorem dX1_shedUntilCarried_37 : decode cX1_shedUntilCarried 37 = .ok (.iaload, 1) := by decide +kernel
theorem dX1_shedUntilCarried_38 : decode cX1_shedUntilCarried 38 = .ok (.iconst 1, 1) := by decide +kernel
theorem dX1_shedUntilCarried_39 : decode cX1_shedUntilCarried 39 = .ok (.iadd, 1) := by decide +kernel
theorem dX1_shedUntilCarried_40 : decode cX1_shedUntilCarried 40 = .ok (.iastore, 1) := by decide +kernel
theorem dX1_shedUntilCarried_41 : decode cX1_shedUntilCarried 41 = .ok (.aload_n 0, 1) := by decide +kernel
theorem dX1_shedUntilCarried_42 : decode cX1_shedUntilCarried 42 = .ok (.invokevirtual 162, 3) := by decide +kernel
theorem dX1_shedUntilCarried_45 : decode cX1_shedUntilCarried 45 = .ok (.istore_n 1, 1) := by decide +kernel
theorem dX1_shedUntilCarried_46 : decode cX1_shedUntilCarried 46 = .ok (.iinc 2 1, 3) := by decide +kernel
theorem dX1_shedUntilCarried_49 : decode cX1_shedUntilCarried 49 = .ok (.goto (-42), 3) := by decide +kernel
theorem dX1_shedUntilCarried_52 : decode cX1_shedUntilCarried 52 = .ok (.return_, 1) := by decide +kernel
set_option maxRecDepth 20000 in
theorem ggX1_isOverLine_X1_sumOfNeeds : GoodIn wsX1_isOverLine wsX1_sumOfNeeds := goodIn_r _ [6, 7, 8, 9, 10, 11, 12, 13, 14, 15, 16, 17, 18, 19] (by decide +kernel) (by decide +kernel)
set_option maxRecDepth 20000 in
theorem gX1_isOverLine_X1_sumOfNeeds : GoodIn wsX1_isOverLine (wsV RX1 165 RX1 yX1_sumOfNeeds wsX1_sumOfNeeds) := goodIn_app (goodIn_of _ (by decide +kernel)) ggX1_isOverLine_X1_sumOfNeeds
theorem dX1_isOverLine_0 : decode cX1_isOverLine 0 = .ok (.aload_n 0, 1) := by decide +kernel
theorem dX1_isOverLine_1 : decode cX1_isOverLine 1 = .ok (.invokevirtual 165, 3) := by decide +kernel
theorem dX1_isOverLine_4 : decode cX1_isOverLine 4 = .ok (.ldc2_w 169, 3) := by decide +kernel
theorem dX1_isOverLine_7 : decode cX1_isOverLine 7 = .ok (.dcmp .l, 1) := by decide +kernel
theorem dX1_isOverLine_8 : decode cX1_isOverLine 8 = .ok (.ifCond .le 7, 3) := by decide +kernel
theorem dX1_isOverLine_11 : decode cX1_isOverLine 11 = .ok (.iconst 1, 1) := by decide +kernel
theorem dX1_isOverLine_12 : decode cX1_isOverLine 12 = .ok (.goto 4, 3) := by decide +kernel
theorem dX1_isOverLine_15 : decode cX1_isOverLine 15 = .ok (.iconst 0, 1) := by decide +kernel
theorem dX1_isOverLine_16 : decode cX1_isOverLine 16 = .ok (.ireturn, 1) := by decide +kernel
theorem dX1_nextToShed_0 : decode cX1_nextToShed 0 = .ok (.iconst (-1), 1) := by decide +kernel
theorem dX1_nextToShed_1 : decode cX1_nextToShed 1 = .ok (.istore_n 1, 1) := by decide +kernel
theorem dX1_nextToShed_2 : decode cX1_nextToShed 2 = .ok (.iconst 0, 1) := by decide +kernel
theorem dX1_nextToShed_3 : decode cX1_nextToShed 3 = .ok (.istore_n 2, 1) := by decide +kernel
theorem dX1_nextToShed_4 : decode cX1_nextToShed 4 = .ok (.iload_n 2, 1) := by decide +kernel
theorem dX1_nextToShed_5 : decode cX1_nextToShed 5 = .ok (.iconst 5, 1) := by decide +kernel
theorem dX1_nextToShed_6 : decode cX1_nextToShed 6 = .ok (.if_icmp .ge 61, 3) := by decide +kernel
theorem dX1_nextToShed_9 : decode cX1_nextToShed 9 = .ok (.aload_n 0, 1) := by decide +kernel
theorem dX1_nextToShed_10 : decode cX1_nextToShed 10 = .ok (.getfield 13, 3) := by decide +kernel
theorem dX1_nextToShed_13 : decode cX1_nextToShed 13 = .ok (.iload_n 2, 1) := by decide +kernel
theorem dX1_nextToShed_14 : decode cX1_nextToShed 14 = .ok (.baload, 1) := by decide +kernel
theorem dX1_nextToShed_15 : decode cX1_nextToShed 15 = .ok (.ifCond .eq 18, 3) := by decide +kernel
theorem dX1_nextToShed_18 : decode cX1_nextToShed 18 = .ok (.aload_n 0, 1) := by decide +kernel
theorem dX1_nextToShed_19 : decode cX1_nextToShed 19 = .ok (.getfield 50, 3) := by decide +kernel
theorem dX1_nextToShed_22 : decode cX1_nextToShed 22 = .ok (.iload_n 2, 1) := by decide +kernel
theorem dX1_nextToShed_23 : decode cX1_nextToShed 23 = .ok (.daload, 1) := by decide +kernel
theorem dX1_nextToShed_24 : decode cX1_nextToShed 24 = .ok (.dconst 0, 1) := by decide +kernel
theorem dX1_nextToShed_25 : decode cX1_nextToShed 25 = .ok (.dcmp .l, 1) := by decide +kernel
theorem dX1_nextToShed_26 : decode cX1_nextToShed 26 = .ok (.ifCond .le 7, 3) := by decide +kernel
theorem dX1_nextToShed_29 : decode cX1_nextToShed 29 = .ok (.iconst 1, 1) := by decide +kernel
theorem dX1_nextToShed_30 : decode cX1_nextToShed 30 = .ok (.goto 4, 3) := by decide +kernel
theorem dX1_nextToShed_33 : decode cX1_nextToShed 33 = .ok (.iconst 0, 1) := by decide +kernel
theorem dX1_nextToShed_34 : decode cX1_nextToShed 34 = .ok (.istore_n 3, 1) := by decide +kernel
theorem dX1_nextToShed_35 : decode cX1_nextToShed 35 = .ok (.iload_n 3, 1) := by decide +kernel
theorem dX1_nextToShed_36 : decode cX1_nextToShed 36 = .ok (.ifCond .eq 25, 3) := by decide +kernel
theorem dX1_nextToShed_39 : decode cX1_nextToShed 39 = .ok (.iload_n 1, 1) := by decide +kernel
theorem dX1_nextToShed_40 : decode cX1_nextToShed 40 = .ok (.iconst (-1), 1) := by decide +kernel
theorem dX1_nextToShed_41 : decode cX1_nextToShed 41 = .ok (.if_icmp .eq 18, 3) := by decide +kernel
theorem dX1_nextToShed_44 : decode cX1_nextToShed 44 = .ok (.aload_n 0, 1) := by decide +kernel
theorem dX1_nextToShed_45 : decode cX1_nextToShed 45 = .ok (.getfield 17, 3) := by decide +kernel
theorem dX1_nextToShed_48 : decode cX1_nextToShed 48 = .ok (.iload_n 2, 1) := by decide +kernel
theorem dX1_nextToShed_49 : decode cX1_nextToShed 49 = .ok (.iaload, 1) := by decide +kernel
theorem dX1_nextToShed_50 : decode cX1_nextToShed 50 = .ok (.aload_n 0, 1) := by decide +kernel
theorem dX1_nextToShed_51 : decode cX1_nextToShed 51 = .ok (.getfield 17, 3) := by decide +kernel
theorem dX1_nextToShed_54 : decode cX1_nextToShed 54 = .ok (.iload_n 1, 1) := by decide +kernel
theorem dX1_nextToShed_55 : decode cX1_nextToShed 55 = .ok (.iaload, 1) := by decide +kernel
theorem dX1_nextToShed_56 : decode cX1_nextToShed 56 = .ok (.if_icmp .ge 5, 3) := by decide +kernel
theorem dX1_nextToShed_59 : decode cX1_nextToShed 59 = .ok (.iload_n 2, 1) := by decide +kernel
theorem dX1_nextToShed_60 : decode cX1_nextToShed 60 = .ok (.istore_n 1, 1) := by decide +kernel
theorem dX1_nextToShed_61 : decode cX1_nextToShed 61 = .ok (.iinc 2 1, 3) := by decide +kernel
theorem dX1_nextToShed_64 : decode cX1_nextToShed 64 = .ok (.goto (-60), 3) := by decide +kernel
theorem dX1_nextToShed_67 : decode cX1_nextToShed 67 = .ok (.iload_n 1, 1) := by decide +kernel
theorem dX1_nextToShed_68 : decode cX1_nextToShed 68 = .ok (.ireturn, 1) := by decide +kernel
set_option maxRecDepth 20000 in
theorem ggX1_writeUsed_X0_slot : GoodIn wsX1_writeUsed wsX0_slot := goodIn_r _ [7] (by decide +kernel) (by decide +kernel)
set_option maxRecDepth 20000 in
theorem gX1_writeUsed_X0_slot : GoodIn wsX1_writeUsed (va_wsS RX1 116 yX0_slot wsX0_slot) := goodIn_app (goodIn_of _ (by decide +kernel)) ggX1_writeUsed_X0_slot
theorem dX1_writeUsed_0 : decode cX1_writeUsed 0 = .ok (.iconst 0, 1) := by decide +kernel
theorem dX1_writeUsed_1 : decode cX1_writeUsed 1 = .ok (.istore_n 2, 1) := by decide +kernel
theorem dX1_writeUsed_2 : decode cX1_writeUsed 2 = .ok (.iload_n 2, 1) := by decide +kernel
theorem dX1_writeUsed_3 : decode cX1_writeUsed 3 = .ok (.iconst 5, 1) := by decide +kernel
theorem dX1_writeUsed_4 : decode cX1_writeUsed 4 = .ok (.if_icmp .ge 28, 3) := by decide +kernel
theorem dX1_writeUsed_7 : decode cX1_writeUsed 7 = .ok (.aload_n 0, 1) := by decide +kernel
theorem dX1_writeUsed_8 : decode cX1_writeUsed 8 = .ok (.getfield 33, 3) := by decide +kernel
theorem dX1_writeUsed_11 : decode cX1_writeUsed 11 = .ok (.getfield 128, 3) := by decide +kernel
theorem dX1_writeUsed_14 : decode cX1_writeUsed 14 = .ok (.iload_n 2, 1) := by decide +kernel
theorem dX1_writeUsed_15 : decode cX1_writeUsed 15 = .ok (.iload_n 1, 1) := by decide +kernel
theorem dX1_writeUsed_16 : decode cX1_writeUsed 16 = .ok (.invokestatic 116, 3) := by decide +kernel
theorem dX1_writeUsed_19 : decode cX1_writeUsed 19 = .ok (.aload_n 0, 1) := by decide +kernel
theorem dX1_writeUsed_20 : decode cX1_writeUsed 20 = .ok (.getfield 50, 3) := by decide +kernel
theorem dX1_writeUsed_23 : decode cX1_writeUsed 23 = .ok (.iload_n 2, 1) := by decide +kernel
theorem dX1_writeUsed_24 : decode cX1_writeUsed 24 = .ok (.daload, 1) := by decide +kernel
theorem dX1_writeUsed_25 : decode cX1_writeUsed 25 = .ok (.dastore, 1) := by decide +kernel
theorem dX1_writeUsed_26 : decode cX1_writeUsed 26 = .ok (.iinc 2 1, 3) := by decide +kernel
theorem dX1_writeUsed_29 : decode cX1_writeUsed 29 = .ok (.goto (-27), 3) := by decide +kernel
theorem dX1_writeUsed_32 : decode cX1_writeUsed 32 = .ok (.return_, 1) := by decide +kernel
set_option maxRecDepth 20000 in
theorem ggX1_giveByShare_X1_lesser : GoodIn wsX1_giveByShare wsX1_lesser := goodIn_r _ [8] (by decide +kernel) (by decide +kernel)
set_option maxRecDepth 20000 in
theorem gX1_giveByShare_X1_lesser : GoodIn wsX1_giveByShare (va_wsS RX1 171 yX1_lesser wsX1_lesser) := goodIn_app (goodIn_of _ (by decide +kernel)) ggX1_giveByShare_X1_lesser
set_option maxRecDepth 20000 in
theorem ggX1_giveByShare_X1_giveSun : GoodIn wsX1_giveByShare wsX1_giveSun := goodIn_r _ [12, 13, 14, 3, 15, 16, 17, 18, 19, 20, 21, 22, 23, 24, 25, 26, 27, 28, 29, 30, 31, 32, 33, 34, 35, 36, 37, 38, 39] (by decide +kernel) (by decide +kernel)
set_option maxRecDepth 20000 in
theorem gX1_giveByShare_X1_giveSun : GoodIn wsX1_giveByShare (wsV RX1 175 RX1 yX1_giveSun wsX1_giveSun) := goodIn_app (goodIn_of _ (by decide +kernel)) ggX1_giveByShare_X1_giveSun
theorem dX1_giveByShare_0 : decode cX1_giveByShare 0 = .ok (.iconst 0, 1) := by decide +kernel
theorem dX1_giveByShare_1 : decode cX1_giveByShare 1 = .ok (.istore_n 3, 1) := by decide +kernel
theorem dX1_giveByShare_2 : decode cX1_giveByShare 2 = .ok (.iload_n 3, 1) := by decide +kernel
theorem dX1_giveByShare_3 : decode cX1_giveByShare 3 = .ok (.iconst 5, 1) := by decide +kernel
theorem dX1_giveByShare_4 : decode cX1_giveByShare 4 = .ok (.if_icmp .ge 53, 3) := by decide +kernel
theorem dX1_giveByShare_7 : decode cX1_giveByShare 7 = .ok (.iload_n 2, 1) := by decide +kernel
theorem dX1_giveByShare_8 : decode cX1_giveByShare 8 = .ok (.i2d, 1) := by decide +kernel
theorem dX1_giveByShare_9 : decode cX1_giveByShare 9 = .ok (.aload_n 0, 1) := by decide +kernel
theorem dX1_giveByShare_10 : decode cX1_giveByShare 10 = .ok (.getfield 9, 3) := by decide +kernel
theorem dX1_giveByShare_13 : decode cX1_giveByShare 13 = .ok (.iload_n 3, 1) := by decide +kernel
theorem dX1_giveByShare_14 : decode cX1_giveByShare 14 = .ok (.iaload, 1) := by decide +kernel
theorem dX1_giveByShare_15 : decode cX1_giveByShare 15 = .ok (.i2d, 1) := by decide +kernel
theorem dX1_giveByShare_16 : decode cX1_giveByShare 16 = .ok (.dmul, 1) := by decide +kernel
theorem dX1_giveByShare_17 : decode cX1_giveByShare 17 = .ok (.ldc2_w 75, 3) := by decide +kernel
theorem dX1_giveByShare_20 : decode cX1_giveByShare 20 = .ok (.ddiv, 1) := by decide +kernel
theorem dX1_giveByShare_21 : decode cX1_giveByShare 21 = .ok (.aload_n 0, 1) := by decide +kernel
theorem dX1_giveByShare_22 : decode cX1_giveByShare 22 = .ok (.getfield 50, 3) := by decide +kernel
theorem dX1_giveByShare_25 : decode cX1_giveByShare 25 = .ok (.iload_n 3, 1) := by decide +kernel
theorem dX1_giveByShare_26 : decode cX1_giveByShare 26 = .ok (.daload, 1) := by decide +kernel
theorem dX1_giveByShare_27 : decode cX1_giveByShare 27 = .ok (.invokestatic 171, 3) := by decide +kernel
theorem dX1_giveByShare_30 : decode cX1_giveByShare 30 = .ok (.dstore 4, 2) := by decide +kernel
theorem dX1_giveByShare_32 : decode cX1_giveByShare 32 = .ok (.aload_n 0, 1) := by decide +kernel
theorem dX1_giveByShare_33 : decode cX1_giveByShare 33 = .ok (.iload_n 3, 1) := by decide +kernel
theorem dX1_giveByShare_34 : decode cX1_giveByShare 34 = .ok (.iload_n 1, 1) := by decide +kernel
theorem dX1_giveByShare_35 : decode cX1_giveByShare 35 = .ok (.dload 4, 2) := by decide +kernel
theorem dX1_giveByShare_37 : decode cX1_giveByShare 37 = .ok (.invokevirtual 175, 3) := by decide +kernel
theorem dX1_giveByShare_40 : decode cX1_giveByShare 40 = .ok (.aload_n 0, 1) := by decide +kernel
theorem dX1_giveByShare_41 : decode cX1_giveByShare 41 = .ok (.dup, 1) := by decide +kernel
theorem dX1_giveByShare_42 : decode cX1_giveByShare 42 = .ok (.getfield 53, 3) := by decide +kernel
theorem dX1_giveByShare_45 : decode cX1_giveByShare 45 = .ok (.dload 4, 2) := by decide +kernel
theorem dX1_giveByShare_47 : decode cX1_giveByShare 47 = .ok (.dsub, 1) := by decide +kernel
theorem dX1_giveByShare_48 : decode cX1_giveByShare 48 = .ok (.putfield 53, 3) := by decide +kernel
theorem dX1_giveByShare_51 : decode cX1_giveByShare 51 = .ok (.iinc 3 1, 3) := by decide +kernel
theorem dX1_giveByShare_54 : decode cX1_giveByShare 54 = .ok (.goto (-52), 3) := by decide +kernel
theorem dX1_giveByShare_57 : decode cX1_giveByShare 57 = .ok (.return_, 1) := by decide +kernel
set_option maxRecDepth 20000 in
theorem ggX1_giveByNeed_X1_sumOfNeeds : GoodIn wsX1_giveByNeed wsX1_sumOfNeeds := goodIn_r _ [7, 2, 18, 19, 20, 21, 22, 23, 24, 25, 26, 27, 28, 29] (by decide +kernel) (by decide +kernel)
set_option maxRecDepth 20000 in
theorem gX1_giveByNeed_X1_sumOfNeeds : GoodIn wsX1_giveByNeed (wsV RX1 165 RX1 yX1_sumOfNeeds wsX1_sumOfNeeds) := goodIn_app (goodIn_of _ (by decide +kernel)) ggX1_giveByNeed_X1_sumOfNeeds
set_option maxRecDepth 20000 in
theorem ggX1_giveByNeed_X1_giveSun : GoodIn wsX1_giveByNeed wsX1_giveSun := goodIn_r _ [11, 12, 13, 2, 14, 15, 16, 17, 18, 19, 20, 21, 22, 23, 24, 25, 26, 27, 28, 29, 30, 31, 32, 33, 34, 35, 36, 37, 38] (by decide +kernel) (by decide +kernel)
set_option maxRecDepth 20000 in
theorem gX1_giveByNeed_X1_giveSun : GoodIn wsX1_giveByNeed (wsV RX1 175 RX1 yX1_giveSun wsX1_giveSun) := goodIn_app (goodIn_of _ (by decide +kernel)) ggX1_giveByNeed_X1_giveSun
theorem dX1_giveByNeed_0 : decode cX1_giveByNeed 0 = .ok (.aload_n 0, 1) := by decide +kernel
theorem dX1_giveByNeed_1 : decode cX1_giveByNeed 1 = .ok (.invokevirtual 165, 3) := by decide +kernel
theorem dX1_giveByNeed_4 : decode cX1_giveByNeed 4 = .ok (.dstore_n 2, 1) := by decide +kernel
theorem dX1_giveByNeed_5 : decode cX1_giveByNeed 5 = .ok (.dload_n 2, 1) := by decide +kernel
theorem dX1_giveByNeed_6 : decode cX1_giveByNeed 6 = .ok (.dconst 0, 1) := by decide +kernel
theorem dX1_giveByNeed_7 : decode cX1_giveByNeed 7 = .ok (.dcmp .l, 1) := by decide +kernel
theorem dX1_giveByNeed_8 : decode cX1_giveByNeed 8 = .ok (.ifCond .ne 4, 3) := by decide +kernel
theorem dX1_giveByNeed_11 : decode cX1_giveByNeed 11 = .ok (.return_, 1) := by decide +kernel
theorem dX1_giveByNeed_12 : decode cX1_giveByNeed 12 = .ok (.dload_n 2, 1) := by decide +kernel
theorem dX1_giveByNeed_13 : decode cX1_giveByNeed 13 = .ok (.aload_n 0, 1) := by decide +kernel
theorem dX1_giveByNeed_14 : decode cX1_giveByNeed 14 = .ok (.getfield 53, 3) := by decide +kernel
theorem dX1_giveByNeed_17 : decode cX1_giveByNeed 17 = .ok (.dcmp .g, 1) := by decide +kernel
theorem dX1_giveByNeed_18 : decode cX1_giveByNeed 18 = .ok (.ifCond .gt 43, 3) := by decide +kernel
theorem dX1_giveByNeed_21 : decode cX1_giveByNeed 21 = .ok (.aload_n 0, 1) := by decide +kernel
theorem dX1_giveByNeed_22 : decode cX1_giveByNeed 22 = .ok (.dup, 1) := by decide +kernel
theorem dX1_giveByNeed_23 : decode cX1_giveByNeed 23 = .ok (.getfield 53, 3) := by decide +kernel
theorem dX1_giveByNeed_26 : decode cX1_giveByNeed 26 = .ok (.dload_n 2, 1) := by decide +kernel
theorem dX1_giveByNeed_27 : decode cX1_giveByNeed 27 = .ok (.dsub, 1) := by decide +kernel
theorem dX1_giveByNeed_28 : decode cX1_giveByNeed 28 = .ok (.putfield 53, 3) := by decide +kernel
theorem dX1_giveByNeed_31 : decode cX1_giveByNeed 31 = .ok (.iconst 0, 1) := by decide +kernel
theorem dX1_giveByNeed_32 : decode cX1_giveByNeed 32 = .ok (.istore 4, 2) := by decide +kernel
theorem dX1_giveByNeed_34 : decode cX1_giveByNeed 34 = .ok (.iload 4, 2) := by decide +kernel
theorem dX1_giveByNeed_36 : decode cX1_giveByNeed 36 = .ok (.iconst 5, 1) := by decide +kernel
theorem dX1_giveByNeed_37 : decode cX1_giveByNeed 37 = .ok (.if_icmp .ge 23, 3) := by decide +kernel
theorem dX1_giveByNeed_40 : decode cX1_giveByNeed 40 = .ok (.aload_n 0, 1) := by decide +kernel
theorem dX1_giveByNeed_41 : decode cX1_giveByNeed 41 = .ok (.iload 4, 2) := by decide +kernel
theorem dX1_giveByNeed_43 : decode cX1_giveByNeed 43 = .ok (.iload_n 1, 1) := by decide +kernel
theorem dX1_giveByNeed_44 : decode cX1_giveByNeed 44 = .ok (.aload_n 0, 1) := by decide +kernel
theorem dX1_giveByNeed_45 : decode cX1_giveByNeed 45 = .ok (.getfield 50, 3) := by decide +kernel
theorem dX1_giveByNeed_48 : decode cX1_giveByNeed 48 = .ok (.iload 4, 2) := by decide +kernel
theorem dX1_giveByNeed_50 : decode cX1_giveByNeed 50 = .ok (.daload, 1) := by decide +kernel
theorem dX1_giveByNeed_51 : decode cX1_giveByNeed 51 = .ok (.invokevirtual 175, 3) := by decide +kernel
theorem dX1_giveByNeed_54 : decode cX1_giveByNeed 54 = .ok (.iinc 4 1, 3) := by decide +kernel
theorem dX1_giveByNeed_57 : decode cX1_giveByNeed 57 = .ok (.goto (-23), 3) := by decide +kernel
theorem dX1_giveByNeed_60 : decode cX1_giveByNeed 60 = .ok (.return_, 1) := by decide +kernel
theorem dX1_giveByNeed_61 : decode cX1_giveByNeed 61 = .ok (.iconst 0, 1) := by decide +kernel
theorem dX1_giveByNeed_62 : decode cX1_giveByNeed 62 = .ok (.istore 4, 2) := by decide +kernel
theorem dX1_giveByNeed_64 : decode cX1_giveByNeed 64 = .ok (.iload 4, 2) := by decide +kernel
theorem dX1_giveByNeed_66 : decode cX1_giveByNeed 66 = .ok (.iconst 5, 1) := by decide +kernel
theorem dX1_giveByNeed_67 : decode cX1_giveByNeed 67 = .ok (.if_icmp .ge 30, 3) := by decide +kernel
theorem dX1_giveByNeed_70 : decode cX1_giveByNeed 70 = .ok (.aload_n 0, 1) := by decide +kernel
theorem dX1_giveByNeed_71 : decode cX1_giveByNeed 71 = .ok (.iload 4, 2) := by decide +kernel
theorem dX1_giveByNeed_73 : decode cX1_giveByNeed 73 = .ok (.iload_n 1, 1) := by decide +kernel
theorem dX1_giveByNeed_74 : decode cX1_giveByNeed 74 = .ok (.aload_n 0, 1) := by decide +kernel
theorem dX1_giveByNeed_75 : decode cX1_giveByNeed 75 = .ok (.getfield 53, 3) := by decide +kernel
theorem dX1_giveByNeed_78 : decode cX1_giveByNeed 78 = .ok (.aload_n 0, 1) := by decide +kernel
theorem dX1_giveByNeed_79 : decode cX1_giveByNeed 79 = .ok (.getfield 50, 3) := by decide +kernel
theorem dX1_giveByNeed_82 : decode cX1_giveByNeed 82 = .ok (.iload 4, 2) := by decide +kernel
theorem dX1_giveByNeed_84 : decode cX1_giveByNeed 84 = .ok (.daload, 1) := by decide +kernel
theorem dX1_giveByNeed_85 : decode cX1_giveByNeed 85 = .ok (.dmul, 1) := by decide +kernel
theorem dX1_giveByNeed_86 : decode cX1_giveByNeed 86 = .ok (.dload_n 2, 1) := by decide +kernel
theorem dX1_giveByNeed_87 : decode cX1_giveByNeed 87 = .ok (.ddiv, 1) := by decide +kernel
theorem dX1_giveByNeed_88 : decode cX1_giveByNeed 88 = .ok (.invokevirtual 175, 3) := by decide +kernel
theorem dX1_giveByNeed_91 : decode cX1_giveByNeed 91 = .ok (.iinc 4 1, 3) := by decide +kernel
theorem dX1_giveByNeed_94 : decode cX1_giveByNeed 94 = .ok (.goto (-30), 3) := by decide +kernel
theorem dX1_giveByNeed_97 : decode cX1_giveByNeed 97 = .ok (.aload_n 0, 1) := by decide +kernel
theorem dX1_giveByNeed_98 : decode cX1_giveByNeed 98 = .ok (.dconst 0, 1) := by decide +kernel
theorem dX1_giveByNeed_99 : decode cX1_giveByNeed 99 = .ok (.putfield 53, 3) := by decide +kernel
theorem dX1_giveByNeed_102 : decode cX1_giveByNeed 102 = .ok (.return_, 1) := by decide +kernel
set_option maxRecDepth 20000 in
theorem ggX1_giveSun_X0_slot : GoodIn wsX1_giveSun wsX0_slot := goodIn_r _ [7] (by decide +kernel) (by decide +kernel)
set_option maxRecDepth 20000 in
theorem gX1_giveSun_X0_slot : GoodIn wsX1_giveSun (va_wsS RX1 116 yX0_slot wsX0_slot) := goodIn_app (goodIn_of _ (by decide +kernel)) ggX1_giveSun_X0_slot
theorem dX1_giveSun_0 : decode cX1_giveSun 0 = .ok (.aload_n 0, 1) := by decide +kernel
theorem dX1_giveSun_1 : decode cX1_giveSun 1 = .ok (.getfield 33, 3) := by decide +kernel
theorem dX1_giveSun_4 : decode cX1_giveSun 4 = .ok (.getfield 134, 3) := by decide +kernel
theorem dX1_giveSun_7 : decode cX1_giveSun 7 = .ok (.iload_n 1, 1) := by decide +kernel
theorem dX1_giveSun_8 : decode cX1_giveSun 8 = .ok (.iload_n 2, 1) := by decide +kernel
theorem dX1_giveSun_9 : decode cX1_giveSun 9 = .ok (.invokestatic 116, 3) := by decide +kernel
theorem dX1_giveSun_12 : decode cX1_giveSun 12 = .ok (.dup2, 1) := by decide +kernel
theorem dX1_giveSun_13 : decode cX1_giveSun 13 = .ok (.daload, 1) := by decide +kernel
theorem dX1_giveSun_14 : decode cX1_giveSun 14 = .ok (.dload_n 3, 1) := by decide +kernel
theorem dX1_giveSun_15 : decode cX1_giveSun 15 = .ok (.dadd, 1) := by decide +kernel
theorem dX1_giveSun_16 : decode cX1_giveSun 16 = .ok (.dastore, 1) := by decide +kernel
theorem dX1_giveSun_17 : decode cX1_giveSun 17 = .ok (.aload_n 0, 1) := by decide +kernel
theorem dX1_giveSun_18 : decode cX1_giveSun 18 = .ok (.getfield 50, 3) := by decide +kernel
theorem dX1_giveSun_21 : decode cX1_giveSun 21 = .ok (.iload_n 1, 1) := by decide +kernel
theorem dX1_giveSun_22 : decode cX1_giveSun 22 = .ok (.dup2, 1) := by decide +kernel
theorem dX1_giveSun_23 : decode cX1_giveSun 23 = .ok (.daload, 1) := by decide +kernel
theorem dX1_giveSun_24 : decode cX1_giveSun 24 = .ok (.dload_n 3, 1) := by decide +kernel
theorem dX1_giveSun_25 : decode cX1_giveSun 25 = .ok (.dsub, 1) := by decide +kernel
theorem dX1_giveSun_26 : decode cX1_giveSun 26 = .ok (.dastore, 1) := by decide +kernel
theorem dX1_giveSun_27 : decode cX1_giveSun 27 = .ok (.return_, 1) := by decide +kernel
theorem dX1_storeOrSell_0 : decode cX1_storeOrSell 0 = .ok (.ldc2_w 179, 3) := by decide +kernel
theorem dX1_storeOrSell_3 : decode cX1_storeOrSell 3 = .ok (.aload_n 0, 1) := by decide +kernel
theorem dX1_storeOrSell_4 : decode cX1_storeOrSell 4 = .ok (.getfield 43, 3) := by decide +kernel
theorem dX1_storeOrSell_7 : decode cX1_storeOrSell 7 = .ok (.dsub, 1) := by decide +kernel
theorem dX1_storeOrSell_8 : decode cX1_storeOrSell 8 = .ok (.dstore_n 2, 1) := by decide +kernel
theorem dX1_storeOrSell_9 : decode cX1_storeOrSell 9 = .ok (.aload_n 0, 1) := by decide +kernel
theorem dX1_storeOrSell_10 : decode cX1_storeOrSell 10 = .ok (.getfield 53, 3) := by decide +kernel
theorem dX1_storeOrSell_13 : decode cX1_storeOrSell 13 = .ok (.dload_n 2, 1) := by decide +kernel
theorem dX1_storeOrSell_14 : decode cX1_storeOrSell 14 = .ok (.dcmp .g, 1) := by decide +kernel
theorem dX1_storeOrSell_15 : decode cX1_storeOrSell 15 = .ok (.ifCond .ge 29, 3) := by decide +kernel
theorem dX1_storeOrSell_18 : decode cX1_storeOrSell 18 = .ok (.aload_n 0, 1) := by decide +kernel
theorem dX1_storeOrSell_19 : decode cX1_storeOrSell 19 = .ok (.dup, 1) := by decide +kernel
theorem dX1_storeOrSell_20 : decode cX1_storeOrSell 20 = .ok (.getfield 43, 3) := by decide +kernel
theorem dX1_storeOrSell_23 : decode cX1_storeOrSell 23 = .ok (.aload_n 0, 1) := by decide +kernel
theorem dX1_storeOrSell_24 : decode cX1_storeOrSell 24 = .ok (.getfield 53, 3) := by decide +kernel
theorem dX1_storeOrSell_27 : decode cX1_storeOrSell 27 = .ok (.dadd, 1) := by decide +kernel
theorem dX1_storeOrSell_28 : decode cX1_storeOrSell 28 = .ok (.putfield 43, 3) := by decide +kernel
theorem dX1_storeOrSell_31 : decode cX1_storeOrSell 31 = .ok (.aload_n 0, 1) := by decide +kernel
theorem dX1_storeOrSell_32 : decode cX1_storeOrSell 32 = .ok (.getfield 33, 3) := by decide +kernel
theorem dX1_storeOrSell_35 : decode cX1_storeOrSell 35 = .ok (.getfield 143, 3) := by decide +kernel
theorem dX1_storeOrSell_38 : decode cX1_storeOrSell 38 = .ok (.iload_n 1, 1) := by decide +kernel
theorem dX1_storeOrSell_39 : decode cX1_storeOrSell 39 = .ok (.dconst 0, 1) := by decide +kernel
theorem dX1_storeOrSell_40 : decode cX1_storeOrSell 40 = .ok (.dastore, 1) := by decide +kernel
theorem dX1_storeOrSell_41 : decode cX1_storeOrSell 41 = .ok (.goto 25, 3) := by decide +kernel
theorem dX1_storeOrSell_44 : decode cX1_storeOrSell 44 = .ok (.aload_n 0, 1) := by decide +kernel
theorem dX1_storeOrSell_45 : decode cX1_storeOrSell 45 = .ok (.ldc2_w 179, 3) := by decide +kernel
theorem dX1_storeOrSell_48 : decode cX1_storeOrSell 48 = .ok (.putfield 43, 3) := by decide +kernel
theorem dX1_storeOrSell_51 : decode cX1_storeOrSell 51 = .ok (.aload_n 0, 1) := by decide +kernel
theorem dX1_storeOrSell_52 : decode cX1_storeOrSell 52 = .ok (.getfield 33, 3) := by decide +kernel
theorem dX1_storeOrSell_55 : decode cX1_storeOrSell 55 = .ok (.getfield 143, 3) := by decide +kernel
theorem dX1_storeOrSell_58 : decode cX1_storeOrSell 58 = .ok (.iload_n 1, 1) := by decide +kernel
theorem dX1_storeOrSell_59 : decode cX1_storeOrSell 59 = .ok (.aload_n 0, 1) := by decide +kernel
theorem dX1_storeOrSell_60 : decode cX1_storeOrSell 60 = .ok (.getfield 53, 3) := by decide +kernel
theorem dX1_storeOrSell_63 : decode cX1_storeOrSell 63 = .ok (.dload_n 2, 1) := by decide +kernel
theorem dX1_storeOrSell_64 : decode cX1_storeOrSell 64 = .ok (.dsub, 1) := by decide +kernel
theorem dX1_storeOrSell_65 : decode cX1_storeOrSell 65 = .ok (.dastore, 1) := by decide +kernel
theorem dX1_storeOrSell_66 : decode cX1_storeOrSell 66 = .ok (.return_, 1) := by decide +kernel
set_option maxRecDepth 20000 in
theorem ggX1_giveFromBattery_X1_lesser : GoodIn wsX1_giveFromBattery wsX1_lesser := goodIn_r _ [9] (by decide +kernel) (by decide +kernel)
set_option maxRecDepth 20000 in
theorem gX1_giveFromBattery_X1_lesser : GoodIn wsX1_giveFromBattery (va_wsS RX1 171 yX1_lesser wsX1_lesser) := goodIn_app (goodIn_of _ (by decide +kernel)) ggX1_giveFromBattery_X1_lesser
set_option maxRecDepth 20000 in
theorem ggX1_giveFromBattery_X0_slot : GoodIn wsX1_giveFromBattery wsX0_slot := goodIn_r _ [13] (by decide +kernel) (by decide +kernel)
set_option maxRecDepth 20000 in
theorem gX1_giveFromBattery_X0_slot : GoodIn wsX1_giveFromBattery (va_wsS RX1 116 yX0_slot wsX0_slot) := goodIn_app (goodIn_of _ (by decide +kernel)) ggX1_giveFromBattery_X0_slot
set_option maxRecDepth 20000 in
theorem ggX1_giveFromBattery_X1_behind : GoodIn wsX1_giveFromBattery wsX1_behind := goodIn_r _ [16, 17, 18, 19, 20] (by decide +kernel) (by decide +kernel)
set_option maxRecDepth 20000 in
theorem gX1_giveFromBattery_X1_behind : GoodIn wsX1_giveFromBattery (va_wsS RX1 181 yX1_behind wsX1_behind) := goodIn_app (goodIn_of _ (by decide +kernel)) ggX1_giveFromBattery_X1_behind
theorem dX1_giveFromBattery_0 : decode cX1_giveFromBattery 0 = .ok (.iconst (-1), 1) := by decide +kernel
theorem dX1_giveFromBattery_1 : decode cX1_giveFromBattery 1 = .ok (.istore_n 2, 1) := by decide +kernel
theorem dX1_giveFromBattery_2 : decode cX1_giveFromBattery 2 = .ok (.aload_n 0, 1) := by decide +kernel
theorem dX1_giveFromBattery_3 : decode cX1_giveFromBattery 3 = .ok (.getfield 46, 3) := by decide +kernel
theorem dX1_giveFromBattery_6 : decode cX1_giveFromBattery 6 = .ok (.istore_n 3, 1) := by decide +kernel
theorem dX1_giveFromBattery_7 : decode cX1_giveFromBattery 7 = .ok (.iconst 0, 1) := by decide +kernel
theorem dX1_giveFromBattery_8 : decode cX1_giveFromBattery 8 = .ok (.istore 4, 2) := by decide +kernel
theorem dX1_giveFromBattery_10 : decode cX1_giveFromBattery 10 = .ok (.iload 4, 2) := by decide +kernel
theorem dX1_giveFromBattery_12 : decode cX1_giveFromBattery 12 = .ok (.iconst 5, 1) := by decide +kernel
theorem dX1_giveFromBattery_13 : decode cX1_giveFromBattery 13 = .ok (.if_icmp .ge 75, 3) := by decide +kernel
theorem dX1_giveFromBattery_16 : decode cX1_giveFromBattery 16 = .ok (.aload_n 0, 1) := by decide +kernel
theorem dX1_giveFromBattery_17 : decode cX1_giveFromBattery 17 = .ok (.getfield 50, 3) := by decide +kernel
theorem dX1_giveFromBattery_20 : decode cX1_giveFromBattery 20 = .ok (.iload_n 3, 1) := by decide +kernel
theorem dX1_giveFromBattery_21 : decode cX1_giveFromBattery 21 = .ok (.daload, 1) := by decide +kernel
theorem dX1_giveFromBattery_22 : decode cX1_giveFromBattery 22 = .ok (.aload_n 0, 1) := by decide +kernel
theorem dX1_giveFromBattery_23 : decode cX1_giveFromBattery 23 = .ok (.getfield 43, 3) := by decide +kernel
theorem dX1_giveFromBattery_26 : decode cX1_giveFromBattery 26 = .ok (.invokestatic 171, 3) := by decide +kernel
theorem dX1_giveFromBattery_29 : decode cX1_giveFromBattery 29 = .ok (.dstore 5, 2) := by decide +kernel
theorem dX1_giveFromBattery_31 : decode cX1_giveFromBattery 31 = .ok (.aload_n 0, 1) := by decide +kernel
theorem dX1_giveFromBattery_32 : decode cX1_giveFromBattery 32 = .ok (.getfield 33, 3) := by decide +kernel
theorem dX1_giveFromBattery_35 : decode cX1_giveFromBattery 35 = .ok (.getfield 137, 3) := by decide +kernel
theorem dX1_giveFromBattery_38 : decode cX1_giveFromBattery 38 = .ok (.iload_n 3, 1) := by decide +kernel
theorem dX1_giveFromBattery_39 : decode cX1_giveFromBattery 39 = .ok (.iload_n 1, 1) := by decide +kernel
theorem dX1_giveFromBattery_40 : decode cX1_giveFromBattery 40 = .ok (.invokestatic 116, 3) := by decide +kernel
theorem dX1_giveFromBattery_43 : decode cX1_giveFromBattery 43 = .ok (.dload 5, 2) := by decide +kernel
theorem dX1_giveFromBattery_45 : decode cX1_giveFromBattery 45 = .ok (.dastore, 1) := by decide +kernel
theorem dX1_giveFromBattery_46 : decode cX1_giveFromBattery 46 = .ok (.aload_n 0, 1) := by decide +kernel
theorem dX1_giveFromBattery_47 : decode cX1_giveFromBattery 47 = .ok (.getfield 50, 3) := by decide +kernel
theorem dX1_giveFromBattery_50 : decode cX1_giveFromBattery 50 = .ok (.iload_n 3, 1) := by decide +kernel
theorem dX1_giveFromBattery_51 : decode cX1_giveFromBattery 51 = .ok (.dup2, 1) := by decide +kernel
theorem dX1_giveFromBattery_52 : decode cX1_giveFromBattery 52 = .ok (.daload, 1) := by decide +kernel
theorem dX1_giveFromBattery_53 : decode cX1_giveFromBattery 53 = .ok (.dload 5, 2) := by decide +kernel
theorem dX1_giveFromBattery_55 : decode cX1_giveFromBattery 55 = .ok (.dsub, 1) := by decide +kernel
theorem dX1_giveFromBattery_56 : decode cX1_giveFromBattery 56 = .ok (.dastore, 1) := by decide +kernel
theorem dX1_giveFromBattery_57 : decode cX1_giveFromBattery 57 = .ok (.aload_n 0, 1) := by decide +kernel
theorem dX1_giveFromBattery_58 : decode cX1_giveFromBattery 58 = .ok (.dup, 1) := by decide +kernel
theorem dX1_giveFromBattery_59 : decode cX1_giveFromBattery 59 = .ok (.getfield 43, 3) := by decide +kernel
theorem dX1_giveFromBattery_62 : decode cX1_giveFromBattery 62 = .ok (.dload 5, 2) := by decide +kernel
theorem dX1_giveFromBattery_64 : decode cX1_giveFromBattery 64 = .ok (.dsub, 1) := by decide +kernel
theorem dX1_giveFromBattery_65 : decode cX1_giveFromBattery 65 = .ok (.putfield 43, 3) := by decide +kernel
theorem dX1_giveFromBattery_68 : decode cX1_giveFromBattery 68 = .ok (.dload 5, 2) := by decide +kernel
theorem dX1_giveFromBattery_70 : decode cX1_giveFromBattery 70 = .ok (.dconst 0, 1) := by decide +kernel
theorem dX1_giveFromBattery_71 : decode cX1_giveFromBattery 71 = .ok (.dcmp .l, 1) := by decide +kernel
theorem dX1_giveFromBattery_72 : decode cX1_giveFromBattery 72 = .ok (.ifCond .le 5, 3) := by decide +kernel
theorem dX1_giveFromBattery_75 : decode cX1_giveFromBattery 75 = .ok (.iload_n 3, 1) := by decide +kernel
theorem dX1_giveFromBattery_76 : decode cX1_giveFromBattery 76 = .ok (.istore_n 2, 1) := by decide +kernel
theorem dX1_giveFromBattery_77 : decode cX1_giveFromBattery 77 = .ok (.iload_n 3, 1) := by decide +kernel
theorem dX1_giveFromBattery_78 : decode cX1_giveFromBattery 78 = .ok (.invokestatic 181, 3) := by decide +kernel
theorem dX1_giveFromBattery_81 : decode cX1_giveFromBattery 81 = .ok (.istore_n 3, 1) := by decide +kernel
theorem dX1_giveFromBattery_82 : decode cX1_giveFromBattery 82 = .ok (.iinc 4 1, 3) := by decide +kernel
theorem dX1_giveFromBattery_85 : decode cX1_giveFromBattery 85 = .ok (.goto (-75), 3) := by decide +kernel
theorem dX1_giveFromBattery_88 : decode cX1_giveFromBattery 88 = .ok (.iload_n 2, 1) := by decide +kernel
theorem dX1_giveFromBattery_89 : decode cX1_giveFromBattery 89 = .ok (.iconst (-1), 1) := by decide +kernel
theorem dX1_giveFromBattery_90 : decode cX1_giveFromBattery 90 = .ok (.if_icmp .eq 11, 3) := by decide +kernel
theorem dX1_giveFromBattery_93 : decode cX1_giveFromBattery 93 = .ok (.aload_n 0, 1) := by decide +kernel
theorem dX1_giveFromBattery_94 : decode cX1_giveFromBattery 94 = .ok (.iload_n 2, 1) := by decide +kernel
theorem dX1_giveFromBattery_95 : decode cX1_giveFromBattery 95 = .ok (.invokestatic 181, 3) := by decide +kernel
theorem dX1_giveFromBattery_98 : decode cX1_giveFromBattery 98 = .ok (.putfield 46, 3) := by decide +kernel
theorem dX1_giveFromBattery_101 : decode cX1_giveFromBattery 101 = .ok (.return_, 1) := by decide +kernel
set_option maxRecDepth 20000 in
theorem ggX1_writeBills_X0_slot : GoodIn wsX1_writeBills wsX0_slot := goodIn_r _ [11] (by decide +kernel) (by decide +kernel)
set_option maxRecDepth 20000 in
theorem gX1_writeBills_X0_slot : GoodIn wsX1_writeBills (va_wsS RX1 116 yX0_slot wsX0_slot) := goodIn_app (goodIn_of _ (by decide +kernel)) ggX1_writeBills_X0_slot
theorem dX1_writeBills_0 : decode cX1_writeBills 0 = .ok (.aload_n 0, 1) := by decide +kernel
theorem dX1_writeBills_1 : decode cX1_writeBills 1 = .ok (.getfield 33, 3) := by decide +kernel
theorem dX1_writeBills_4 : decode cX1_writeBills 4 = .ok (.getfield 143, 3) := by decide +kernel
theorem dX1_writeBills_7 : decode cX1_writeBills 7 = .ok (.iload_n 1, 1) := by decide +kernel
theorem dX1_writeBills_8 : decode cX1_writeBills 8 = .ok (.daload, 1) := by decide +kernel
theorem dX1_writeBills_9 : decode cX1_writeBills 9 = .ok (.aload_n 0, 1) := by decide +kernel
theorem dX1_writeBills_10 : decode cX1_writeBills 10 = .ok (.getfield 39, 3) := by decide +kernel
theorem dX1_writeBills_13 : decode cX1_writeBills 13 = .ok (.dmul, 1) := by decide +kernel
theorem dX1_writeBills_14 : decode cX1_writeBills 14 = .ok (.ldc2_w 185, 3) := by decide +kernel
theorem dX1_writeBills_17 : decode cX1_writeBills 17 = .ok (.ddiv, 1) := by decide +kernel
theorem dX1_writeBills_18 : decode cX1_writeBills 18 = .ok (.dstore_n 2, 1) := by decide +kernel
theorem dX1_writeBills_19 : decode cX1_writeBills 19 = .ok (.iconst 0, 1) := by decide +kernel
theorem dX1_writeBills_20 : decode cX1_writeBills 20 = .ok (.istore 4, 2) := by decide +kernel
theorem dX1_writeBills_22 : decode cX1_writeBills 22 = .ok (.iload 4, 2) := by decide +kernel
theorem dX1_writeBills_24 : decode cX1_writeBills 24 = .ok (.iconst 5, 1) := by decide +kernel
theorem dX1_writeBills_25 : decode cX1_writeBills 25 = .ok (.if_icmp .ge 63, 3) := by decide +kernel
theorem dX1_writeBills_28 : decode cX1_writeBills 28 = .ok (.aload_n 0, 1) := by decide +kernel
theorem dX1_writeBills_29 : decode cX1_writeBills 29 = .ok (.getfield 33, 3) := by decide +kernel
theorem dX1_writeBills_32 : decode cX1_writeBills 32 = .ok (.getfield 140, 3) := by decide +kernel
theorem dX1_writeBills_35 : decode cX1_writeBills 35 = .ok (.iload 4, 2) := by decide +kernel
theorem dX1_writeBills_37 : decode cX1_writeBills 37 = .ok (.iload_n 1, 1) := by decide +kernel
theorem dX1_writeBills_38 : decode cX1_writeBills 38 = .ok (.invokestatic 116, 3) := by decide +kernel
theorem dX1_writeBills_41 : decode cX1_writeBills 41 = .ok (.aload_n 0, 1) := by decide +kernel
theorem dX1_writeBills_42 : decode cX1_writeBills 42 = .ok (.getfield 50, 3) := by decide +kernel
theorem dX1_writeBills_45 : decode cX1_writeBills 45 = .ok (.iload 4, 2) := by decide +kernel
theorem dX1_writeBills_47 : decode cX1_writeBills 47 = .ok (.daload, 1) := by decide +kernel
theorem dX1_writeBills_48 : decode cX1_writeBills 48 = .ok (.dastore, 1) := by decide +kernel
theorem dX1_writeBills_49 : decode cX1_writeBills 49 = .ok (.aload_n 0, 1) := by decide +kernel
theorem dX1_writeBills_50 : decode cX1_writeBills 50 = .ok (.getfield 20, 3) := by decide +kernel
theorem dX1_writeBills_53 : decode cX1_writeBills 53 = .ok (.iload 4, 2) := by decide +kernel
theorem dX1_writeBills_55 : decode cX1_writeBills 55 = .ok (.dup2, 1) := by decide +kernel
theorem dX1_writeBills_56 : decode cX1_writeBills 56 = .ok (.daload, 1) := by decide +kernel
theorem dX1_writeBills_57 : decode cX1_writeBills 57 = .ok (.aload_n 0, 1) := by decide +kernel
theorem dX1_writeBills_58 : decode cX1_writeBills 58 = .ok (.getfield 50, 3) := by decide +kernel
theorem dX1_writeBills_61 : decode cX1_writeBills 61 = .ok (.iload 4, 2) := by decide +kernel
theorem dX1_writeBills_63 : decode cX1_writeBills 63 = .ok (.daload, 1) := by decide +kernel
theorem dX1_writeBills_64 : decode cX1_writeBills 64 = .ok (.aload_n 0, 1) := by decide +kernel
theorem dX1_writeBills_65 : decode cX1_writeBills 65 = .ok (.getfield 39, 3) := by decide +kernel
theorem dX1_writeBills_68 : decode cX1_writeBills 68 = .ok (.dmul, 1) := by decide +kernel
theorem dX1_writeBills_69 : decode cX1_writeBills 69 = .ok (.dadd, 1) := by decide +kernel
theorem dX1_writeBills_70 : decode cX1_writeBills 70 = .ok (.dastore, 1) := by decide +kernel
theorem dX1_writeBills_71 : decode cX1_writeBills 71 = .ok (.aload_n 0, 1) := by decide +kernel
theorem dX1_writeBills_72 : decode cX1_writeBills 72 = .ok (.getfield 20, 3) := by decide +kernel
theorem dX1_writeBills_75 : decode cX1_writeBills 75 = .ok (.iload 4, 2) := by decide +kernel
theorem dX1_writeBills_77 : decode cX1_writeBills 77 = .ok (.dup2, 1) := by decide +kernel
theorem dX1_writeBills_78 : decode cX1_writeBills 78 = .ok (.daload, 1) := by decide +kernel
theorem dX1_writeBills_79 : decode cX1_writeBills 79 = .ok (.dload_n 2, 1) := by decide +kernel
theorem dX1_writeBills_80 : decode cX1_writeBills 80 = .ok (.dsub, 1) := by decide +kernel
theorem dX1_writeBills_81 : decode cX1_writeBills 81 = .ok (.dastore, 1) := by decide +kernel
theorem dX1_writeBills_82 : decode cX1_writeBills 82 = .ok (.iinc 4 1, 3) := by decide +kernel
theorem dX1_writeBills_85 : decode cX1_writeBills 85 = .ok (.goto (-63), 3) := by decide +kernel
theorem dX1_writeBills_88 : decode cX1_writeBills 88 = .ok (.return_, 1) := by decide +kernel
theorem dX1_sumOfShares_0 : decode cX1_sumOfShares 0 = .ok (.iconst 0, 1) := by decide +kernel
theorem dX1_sumOfShares_1 : decode cX1_sumOfShares 1 = .ok (.istore_n 1, 1) := by decide +kernel
theorem dX1_sumOfShares_2 : decode cX1_sumOfShares 2 = .ok (.iconst 0, 1) := by decide +kernel
theorem dX1_sumOfShares_3 : decode cX1_sumOfShares 3 = .ok (.istore_n 2, 1) := by decide +kernel
theorem dX1_sumOfShares_4 : decode cX1_sumOfShares 4 = .ok (.iload_n 2, 1) := by decide +kernel
theorem dX1_sumOfShares_5 : decode cX1_sumOfShares 5 = .ok (.iconst 5, 1) := by decide +kernel
theorem dX1_sumOfShares_6 : decode cX1_sumOfShares 6 = .ok (.if_icmp .ge 18, 3) := by decide +kernel
theorem dX1_sumOfShares_9 : decode cX1_sumOfShares 9 = .ok (.iload_n 1, 1) := by decide +kernel
theorem dX1_sumOfShares_10 : decode cX1_sumOfShares 10 = .ok (.aload_n 0, 1) := by decide +kernel
theorem dX1_sumOfShares_11 : decode cX1_sumOfShares 11 = .ok (.getfield 9, 3) := by decide +kernel
theorem dX1_sumOfShares_14 : decode cX1_sumOfShares 14 = .ok (.iload_n 2, 1) := by decide +kernel
theorem dX1_sumOfShares_15 : decode cX1_sumOfShares 15 = .ok (.iaload, 1) := by decide +kernel
theorem dX1_sumOfShares_16 : decode cX1_sumOfShares 16 = .ok (.iadd, 1) := by decide +kernel
theorem dX1_sumOfShares_17 : decode cX1_sumOfShares 17 = .ok (.istore_n 1, 1) := by decide +kernel
theorem dX1_sumOfShares_18 : decode cX1_sumOfShares 18 = .ok (.iinc 2 1, 3) := by decide +kernel
theorem dX1_sumOfShares_21 : decode cX1_sumOfShares 21 = .ok (.goto (-17), 3) := by decide +kernel
theorem dX1_sumOfShares_24 : decode cX1_sumOfShares 24 = .ok (.iload_n 1, 1) := by decide +kernel
theorem dX1_sumOfShares_25 : decode cX1_sumOfShares 25 = .ok (.ireturn, 1) := by decide +kernel
theorem dX1_sumOfNeeds_0 : decode cX1_sumOfNeeds 0 = .ok (.dconst 0, 1) := by decide +kernel
theorem dX1_sumOfNeeds_1 : decode cX1_sumOfNeeds 1 = .ok (.dstore_n 1, 1) := by decide +kernel
theorem dX1_sumOfNeeds_2 : decode cX1_sumOfNeeds 2 = .ok (.iconst 0, 1) := by decide +kernel
theorem dX1_sumOfNeeds_3 : decode cX1_sumOfNeeds 3 = .ok (.istore_n 3, 1) := by decide +kernel
theorem dX1_sumOfNeeds_4 : decode cX1_sumOfNeeds 4 = .ok (.iload_n 3, 1) := by decide +kernel
theorem dX1_sumOfNeeds_5 : decode cX1_sumOfNeeds 5 = .ok (.iconst 5, 1) := by decide +kernel
theorem dX1_sumOfNeeds_6 : decode cX1_sumOfNeeds 6 = .ok (.if_icmp .ge 18, 3) := by decide +kernel
theorem dX1_sumOfNeeds_9 : decode cX1_sumOfNeeds 9 = .ok (.dload_n 1, 1) := by decide +kernel
theorem dX1_sumOfNeeds_10 : decode cX1_sumOfNeeds 10 = .ok (.aload_n 0, 1) := by decide +kernel
theorem dX1_sumOfNeeds_11 : decode cX1_sumOfNeeds 11 = .ok (.getfield 50, 3) := by decide +kernel
theorem dX1_sumOfNeeds_14 : decode cX1_sumOfNeeds 14 = .ok (.iload_n 3, 1) := by decide +kernel
theorem dX1_sumOfNeeds_15 : decode cX1_sumOfNeeds 15 = .ok (.daload, 1) := by decide +kernel
theorem dX1_sumOfNeeds_16 : decode cX1_sumOfNeeds 16 = .ok (.dadd, 1) := by decide +kernel
theorem dX1_sumOfNeeds_17 : decode cX1_sumOfNeeds 17 = .ok (.dstore_n 1, 1) := by decide +kernel
theorem dX1_sumOfNeeds_18 : decode cX1_sumOfNeeds 18 = .ok (.iinc 3 1, 3) := by decide +kernel
theorem dX1_sumOfNeeds_21 : decode cX1_sumOfNeeds 21 = .ok (.goto (-17), 3) := by decide +kernel
theorem dX1_sumOfNeeds_24 : decode cX1_sumOfNeeds 24 = .ok (.dload_n 1, 1) := by decide +kernel
theorem dX1_sumOfNeeds_25 : decode cX1_sumOfNeeds 25 = .ok (.dreturn, 1) := by decide +kernel
set_option maxRecDepth 20000 in
theorem ggX1_behind_J9_floorMod_7cf53 : GoodIn wsX1_behind wsJ9_floorMod_7cf53 := goodIn_r _ [4] (by decide +kernel) (by decide +kernel)
set_option maxRecDepth 20000 in
theorem gX1_behind_J9_floorMod_7cf53 : GoodIn wsX1_behind (va_wsS RX1 187 yJ9_floorMod_7cf53 wsJ9_floorMod_7cf53) := goodIn_app (goodIn_of _ (by decide +kernel)) ggX1_behind_J9_floorMod_7cf53
theorem dX1_behind_0 : decode cX1_behind 0 = .ok (.iload_n 0, 1) := by decide +kernel
theorem dX1_behind_1 : decode cX1_behind 1 = .ok (.iconst 1, 1) := by decide +kernel
theorem dX1_behind_2 : decode cX1_behind 2 = .ok (.iadd, 1) := by decide +kernel
theorem dX1_behind_3 : decode cX1_behind 3 = .ok (.iconst 5, 1) := by decide +kernel
theorem dX1_behind_4 : decode cX1_behind 4 = .ok (.invokestatic 187, 3) := by decide +kernel
theorem dX1_behind_7 : decode cX1_behind 7 = .ok (.ireturn, 1) := by decide +kernel
theorem dX1_lesser_0 : decode cX1_lesser 0 = .ok (.dload_n 0, 1) := by decide +kernel
theorem dX1_lesser_1 : decode cX1_lesser 1 = .ok (.dload_n 2, 1) := by decide +kernel
theorem dX1_lesser_2 : decode cX1_lesser 2 = .ok (.dcmp .g, 1) := by decide +kernel
theorem dX1_lesser_3 : decode cX1_lesser 3 = .ok (.ifCond .ge 7, 3) := by decide +kernel
theorem dX1_lesser_6 : decode cX1_lesser 6 = .ok (.dload_n 0, 1) := by decide +kernel
theorem dX1_lesser_7 : decode cX1_lesser 7 = .ok (.goto 4, 3) := by decide +kernel
theorem dX1_lesser_10 : decode cX1_lesser 10 = .ok (.dload_n 2, 1) := by decide +kernel
theorem dX1_lesser_11 : decode cX1_lesser 11 = .ok (.dreturn, 1) := by decide +kernel
theorem dJ9_floorMod_7cf53_0 : decode cJ9_floorMod_7cf53 0 = .ok (.iload_n 0, 1) := by decide +kernel
theorem dJ9_floorMod_7cf53_1 : decode cJ9_floorMod_7cf53 1 = .ok (.iload_n 1, 1) := by decide +kernel
theorem dJ9_floorMod_7cf53_2 : decode cJ9_floorMod_7cf53 2 = .ok (.irem, 1) := by decide +kernel
theorem dJ9_floorMod_7cf53_3 : decode cJ9_floorMod_7cf53 3 = .ok (.istore_n 2, 1) := by decide +kernel
theorem dJ9_floorMod_7cf53_4 : decode cJ9_floorMod_7cf53 4 = .ok (.iload_n 0, 1) := by decide +kernel
theorem dJ9_floorMod_7cf53_5 : decode cJ9_floorMod_7cf53 5 = .ok (.iload_n 1, 1) := by decide +kernel
theorem dJ9_floorMod_7cf53_6 : decode cJ9_floorMod_7cf53 6 = .ok (.ixor, 1) := by decide +kernel
theorem dJ9_floorMod_7cf53_7 : decode cJ9_floorMod_7cf53 7 = .ok (.ifCond .ge 11, 3) := by decide +kernel
theorem dJ9_floorMod_7cf53_10 : decode cJ9_floorMod_7cf53 10 = .ok (.iload_n 2, 1) := by decide +kernel
theorem dJ9_floorMod_7cf53_11 : decode cJ9_floorMod_7cf53 11 = .ok (.ifCond .eq 7, 3) := by decide +kernel
theorem dJ9_floorMod_7cf53_14 : decode cJ9_floorMod_7cf53 14 = .ok (.iload_n 2, 1) := by decide +kernel
theorem dJ9_floorMod_7cf53_15 : decode cJ9_floorMod_7cf53 15 = .ok (.iload_n 1, 1) := by decide +kernel
theorem dJ9_floorMod_7cf53_16 : decode cJ9_floorMod_7cf53 16 = .ok (.iadd, 1) := by decide +kernel
theorem dJ9_floorMod_7cf53_17 : decode cJ9_floorMod_7cf53 17 = .ok (.ireturn, 1) := by decide +kernel
theorem dJ9_floorMod_7cf53_18 : decode cJ9_floorMod_7cf53 18 = .ok (.iload_n 2, 1) := by decide +kernel
theorem dJ9_floorMod_7cf53_19 : decode cJ9_floorMod_7cf53 19 = .ok (.ireturn, 1) := by decide +kernel
theorem dL_cell_0 : decode cL_cell 0 = .ok (.iload_n 1, 1) := by decide +kernel
theorem dL_cell_1 : decode cL_cell 1 = .ok (.aload_n 0, 1) := by decide +kernel
theorem dL_cell_2 : decode cL_cell 2 = .ok (.arraylength, 1) := by decide +kernel
theorem dL_cell_3 : decode cL_cell 3 = .ok (.if_icmp .ge 9, 3) := by decide +kernel
theorem dL_cell_6 : decode cL_cell 6 = .ok (.aload_n 0, 1) := by decide +kernel
theorem dL_cell_7 : decode cL_cell 7 = .ok (.iload_n 1, 1) := by decide +kernel
theorem dL_cell_8 : decode cL_cell 8 = .ok (.iaload, 1) := by decide +kernel
theorem dL_cell_9 : decode cL_cell 9 = .ok (.goto 18, 3) := by decide +kernel
theorem dL_cell_12 : decode cL_cell 12 = .ok (.sipush 7919, 3) := by decide +kernel
theorem dL_cell_15 : decode cL_cell 15 = .ok (.iload_n 1, 1) := by decide +kernel
theorem dL_cell_16 : decode cL_cell 16 = .ok (.sipush 937, 3) := by decide +kernel
theorem dL_cell_19 : decode cL_cell 19 = .ok (.iadd, 1) := by decide +kernel
theorem dL_cell_20 : decode cL_cell 20 = .ok (.imul, 1) := by decide +kernel
theorem dL_cell_21 : decode cL_cell 21 = .ok (.iload_n 1, 1) := by decide +kernel
theorem dL_cell_22 : decode cL_cell 22 = .ok (.sipush 3347, 3) := by decide +kernel
theorem dL_cell_25 : decode cL_cell 25 = .ok (.iadd, 1) := by decide +kernel
theorem dL_cell_26 : decode cL_cell 26 = .ok (.imul, 1) := by decide +kernel
theorem dL_cell_27 : decode cL_cell 27 = .ok (.ireturn, 1) := by decide +kernel
theorem dL_low_0 : decode cL_low 0 = .ok (.iload_n 0, 1) := by decide +kernel
theorem dL_low_1 : decode cL_low 1 = .ok (.ldc 7, 2) := by decide +kernel
theorem dL_low_3 : decode cL_low 3 = .ok (.iand, 1) := by decide +kernel
theorem dL_low_4 : decode cL_low 4 = .ok (.iload_n 1, 1) := by decide +kernel
theorem dL_low_5 : decode cL_low 5 = .ok (.irem, 1) := by decide +kernel
theorem dL_low_6 : decode cL_low 6 = .ok (.ireturn, 1) := by decide +kernel
set_option maxRecDepth 20000 in
theorem ggL_does_X1_setShare : GoodIn wsL_does wsX1_setShare := goodIn_ca (goodIn_ca (goodIn_r _ [8, 9, 10, 11, 12, 13, 7, 14, 15, 16, 17, 18, 19, 20, 21, 22, 23, 135, 136, 137, 138, 139, 140, 141, 142, 143, 144, 145, 146] (by decide +kernel) (by decide +kernel)) (goodIn_sub (fun _ h => List.mem_cons_of_mem _ (List.mem_append_left _ (List.mem_append_right _ h))) (by decide +kernel))) (goodIn_sub (fun _ h => List.mem_cons_of_mem _ (List.mem_append_right _ h)) (by decide +kernel))
set_option maxRecDepth 20000 in
theorem gL_does_X1_setShare : GoodIn wsL_does (wsV RL 8 RX1 yX1_setShare wsX1_setShare) := goodIn_app (goodIn_of _ (by decide +kernel)) ggL_does_X1_setShare
set_option maxRecDepth 20000 in
theorem ggL_does_X1_setSwitch : GoodIn wsL_does wsX1_setSwitch := goodIn_ca (goodIn_r _ [27, 28, 12, 13, 7, 14, 15, 16, 135, 136, 137, 138, 139, 140, 141, 142, 143, 144, 145, 146] (by decide +kernel) (by decide +kernel)) (goodIn_sub (fun _ h => List.mem_cons_of_mem _ (List.mem_append_right _ h)) (by decide +kernel))
set_option maxRecDepth 20000 in
theorem gL_does_X1_setSwitch : GoodIn wsL_does (wsV RL 14 RX1 yX1_setSwitch wsX1_setSwitch) := goodIn_app (goodIn_of _ (by decide +kernel)) ggL_does_X1_setSwitch
set_option maxRecDepth 20000 in
theorem ggL_does_X1_tell : GoodIn wsL_does wsX1_tell := goodIn_ca (goodIn_r _ [32, 33, 34, 12, 13, 7, 14, 15, 16, 17, 18, 19, 135, 136, 137, 138, 139, 140, 141, 142, 143, 144, 145, 146] (by decide +kernel) (by decide +kernel)) (goodIn_sub (fun _ h => List.mem_cons_of_mem _ (List.mem_append_right _ h)) (by decide +kernel))
set_option maxRecDepth 20000 in
theorem gL_does_X1_tell : GoodIn wsL_does (wsV RL 18 RX1 yX1_tell wsX1_tell) := goodIn_app (goodIn_of _ (by decide +kernel)) ggL_does_X1_tell
set_option maxRecDepth 20000 in
theorem ggL_does_X1_close : GoodIn wsL_does wsX1_close := goodIn_ca (goodIn_ca (goodIn_r _ [38, 9, 10, 39, 40, 41, 42, 43, 17, 18, 7, 19, 15, 16, 44, 45, 46, 47, 33, 34, 48, 49, 50, 51, 52, 53, 54, 55, 56, 57, 58, 59, 60, 61, 62, 63, 64, 65, 66, 67, 68, 69, 70, 71, 72, 28, 73, 74, 75, 76, 77, 78, 79, 80, 81, 82, 83, 84, 85, 86, 87, 88, 89, 90, 11, 91, 92, 93, 94, 95, 96, 97, 98, 99, 100, 101, 102, 103, 104, 105, 106, 107, 108, 109, 110, 111, 112, 113, 114, 115, 116, 117, 118, 119, 120, 121, 122, 123, 124, 125, 126, 127, 128, 129, 130, 135, 136, 137, 138, 139, 140, 141, 142, 143, 144, 145, 146, 147, 148, 149, 150, 151, 152, 153, 154, 155] (by decide +kernel) (by decide +kernel)) (goodIn_sub (fun _ h => List.mem_cons_of_mem _ (List.mem_append_left _ (List.mem_append_right _ h))) (by decide +kernel))) (goodIn_sub (fun _ h => List.mem_cons_of_mem _ (List.mem_append_right _ h)) (by decide +kernel))
set_option maxRecDepth 20000 in
theorem gL_does_X1_close : GoodIn wsL_does (wsV RL 22 RX1 yX1_close wsX1_close) := goodIn_app (goodIn_of _ (by decide +kernel)) ggL_does_X1_close
set_option maxRecDepth 20000 in
theorem ggL_does_X1_sheds : GoodIn wsL_does wsX1_sheds := goodIn_ca (goodIn_r _ [134, 68, 12, 13, 7, 14, 15, 16, 135, 136, 137, 138, 139, 140, 141, 142, 143, 144, 145, 146] (by decide +kernel) (by decide +kernel)) (goodIn_sub (fun _ h => List.mem_cons_of_mem _ (List.mem_append_right _ h)) (by decide +kernel))
set_option maxRecDepth 20000 in
theorem gL_does_X1_sheds : GoodIn wsL_does (wsV RL 26 RX1 yX1_sheds wsX1_sheds) := goodIn_app (goodIn_of _ (by decide +kernel)) ggL_does_X1_sheds
theorem dL_does_0 : decode cL_does 0 = .ok (.iload_n 1, 1) := by decide +kernel
theorem dL_does_1 : decode cL_does 1 = .ok (.ifCond .ne 12, 3) := by decide +kernel
theorem dL_does_4 : decode cL_does 4 = .ok (.aload_n 0, 1) := by decide +kernel
theorem dL_does_5 : decode cL_does 5 = .ok (.iload_n 2, 1) := by decide +kernel
theorem dL_does_6 : decode cL_does 6 = .ok (.iload_n 3, 1) := by decide +kernel
theorem dL_does_7 : decode cL_does 7 = .ok (.invokevirtual 8, 3) := by decide +kernel
theorem dL_does_10 : decode cL_does 10 = .ok (.goto 82, 3) := by decide +kernel
theorem dL_does_13 : decode cL_does 13 = .ok (.iload_n 1, 1) := by decide +kernel
theorem dL_does_14 : decode cL_does 14 = .ok (.iconst 1, 1) := by decide +kernel
theorem dL_does_15 : decode cL_does 15 = .ok (.if_icmp .ne 29, 3) := by decide +kernel
theorem dL_does_18 : decode cL_does 18 = .ok (.aload_n 0, 1) := by decide +kernel
theorem dL_does_19 : decode cL_does 19 = .ok (.iload_n 2, 1) := by decide +kernel
theorem dL_does_20 : decode cL_does 20 = .ok (.iload_n 3, 1) := by decide +kernel
theorem dL_does_21 : decode cL_does 21 = .ok (.iconst 1, 1) := by decide +kernel
theorem dL_does_22 : decode cL_does 22 = .ok (.if_icmp .ne 7, 3) := by decide +kernel
theorem dL_does_25 : decode cL_does 25 = .ok (.iconst 1, 1) := by decide +kernel
theorem dL_does_26 : decode cL_does 26 = .ok (.goto 4, 3) := by decide +kernel
theorem dL_does_29 : decode cL_does 29 = .ok (.iconst 0, 1) := by decide +kernel
theorem dL_does_30 : decode cL_does 30 = .ok (.invokevirtual 14, 3) := by decide +kernel
theorem dL_does_33 : decode cL_does 33 = .ok (.ifCond .eq 7, 3) := by decide +kernel
theorem dL_does_36 : decode cL_does 36 = .ok (.iconst 1, 1) := by decide +kernel
theorem dL_does_37 : decode cL_does 37 = .ok (.goto 55, 3) := by decide +kernel
theorem dL_does_40 : decode cL_does 40 = .ok (.iconst 0, 1) := by decide +kernel
theorem dL_does_41 : decode cL_does 41 = .ok (.goto 51, 3) := by decide +kernel
theorem dL_does_44 : decode cL_does 44 = .ok (.iload_n 1, 1) := by decide +kernel
theorem dL_does_45 : decode cL_does 45 = .ok (.iconst 2, 1) := by decide +kernel
theorem dL_does_46 : decode cL_does 46 = .ok (.if_icmp .ne 20, 3) := by decide +kernel
theorem dL_does_49 : decode cL_does 49 = .ok (.aload_n 0, 1) := by decide +kernel
theorem dL_does_50 : decode cL_does 50 = .ok (.iload_n 2, 1) := by decide +kernel
theorem dL_does_51 : decode cL_does 51 = .ok (.iload_n 3, 1) := by decide +kernel
theorem dL_does_52 : decode cL_does 52 = .ok (.invokevirtual 18, 3) := by decide +kernel
theorem dL_does_55 : decode cL_does 55 = .ok (.ifCond .eq 7, 3) := by decide +kernel
theorem dL_does_58 : decode cL_does 58 = .ok (.iconst 1, 1) := by decide +kernel
theorem dL_does_59 : decode cL_does 59 = .ok (.goto 33, 3) := by decide +kernel
theorem dL_does_62 : decode cL_does 62 = .ok (.iconst 0, 1) := by decide +kernel
theorem dL_does_63 : decode cL_does 63 = .ok (.goto 29, 3) := by decide +kernel
theorem dL_does_66 : decode cL_does 66 = .ok (.iload_n 1, 1) := by decide +kernel
theorem dL_does_67 : decode cL_does 67 = .ok (.iconst 3, 1) := by decide +kernel
theorem dL_does_68 : decode cL_does 68 = .ok (.if_icmp .ne 19, 3) := by decide +kernel
theorem dL_does_71 : decode cL_does 71 = .ok (.aload_n 0, 1) := by decide +kernel
theorem dL_does_72 : decode cL_does 72 = .ok (.iload_n 2, 1) := by decide +kernel
theorem dL_does_73 : decode cL_does 73 = .ok (.invokevirtual 22, 3) := by decide +kernel
theorem dL_does_76 : decode cL_does 76 = .ok (.ifCond .eq 7, 3) := by decide +kernel
theorem dL_does_79 : decode cL_does 79 = .ok (.iconst 1, 1) := by decide +kernel
theorem dL_does_80 : decode cL_does 80 = .ok (.goto 12, 3) := by decide +kernel
theorem dL_does_83 : decode cL_does 83 = .ok (.iconst 0, 1) := by decide +kernel
theorem dL_does_84 : decode cL_does 84 = .ok (.goto 8, 3) := by decide +kernel
theorem dL_does_87 : decode cL_does 87 = .ok (.aload_n 0, 1) := by decide +kernel
theorem dL_does_88 : decode cL_does 88 = .ok (.iload_n 2, 1) := by decide +kernel
theorem dL_does_89 : decode cL_does 89 = .ok (.invokevirtual 26, 3) := by decide +kernel
theorem dL_does_92 : decode cL_does 92 = .ok (.ireturn, 1) := by decide +kernel
theorem dL_does_93 : decode cL_does 93 = .ok (.astore 4, 2) := by decide +kernel
theorem dL_does_95 : decode cL_does 95 = .ok (.ldc 32, 2) := by decide +kernel
theorem dL_does_97 : decode cL_does 97 = .ok (.ireturn, 1) := by decide +kernel
theorem dL_does_98 : decode cL_does 98 = .ok (.astore 4, 2) := by decide +kernel
theorem dL_does_100 : decode cL_does 100 = .ok (.ldc 32, 2) := by decide +kernel
theorem dL_does_102 : decode cL_does 102 = .ok (.ireturn, 1) := by decide +kernel
set_option maxRecDepth 20000 in
theorem ggL_looks_X1_setPrice : GoodIn wsL_looks wsX1_setPrice := goodIn_ca (goodIn_r _ [9, 10, 11, 12, 13, 8, 14, 15, 16, 71, 72, 73, 74, 75, 76, 77, 78, 79, 80, 81, 82] (by decide +kernel) (by decide +kernel)) (goodIn_sub (fun _ h => List.mem_cons_of_mem _ (List.mem_append_left _ (List.mem_append_left _ (List.mem_append_right _ h)))) (by decide +kernel))
set_option maxRecDepth 20000 in
theorem gL_looks_X1_setPrice : GoodIn wsL_looks (wsV RL 35 RX1 yX1_setPrice wsX1_setPrice) := goodIn_app (goodIn_of _ (by decide +kernel)) ggL_looks_X1_setPrice
set_option maxRecDepth 20000 in
theorem ggL_looks_X1_replace : GoodIn wsL_looks wsX1_replace := goodIn_ca (goodIn_ca (goodIn_ca (goodIn_r _ [20, 21, 22, 23, 24, 25, 26, 27, 28, 29, 30, 8, 31, 15, 16, 12, 13, 14, 32, 33, 34, 35, 36, 37, 38, 39, 40, 41, 42, 71, 72, 73, 74, 75, 76, 77, 78, 79, 80, 81, 82, 83, 84, 85, 86, 87, 88, 89, 90, 91] (by decide +kernel) (by decide +kernel)) (goodIn_sub (fun _ h => List.mem_cons_of_mem _ (List.mem_append_left _ (List.mem_append_right _ h))) (by decide +kernel))) (goodIn_sub (fun _ h => List.mem_cons_of_mem _ (List.mem_append_left _ (List.mem_append_left _ (List.mem_append_right _ h)))) (by decide +kernel))) (goodIn_sub (fun _ h => List.mem_cons_of_mem _ (List.mem_append_right _ h)) (by decide +kernel))
set_option maxRecDepth 20000 in
theorem gL_looks_X1_replace : GoodIn wsL_looks (wsV RL 39 RX1 yX1_replace wsX1_replace) := goodIn_app (goodIn_of _ (by decide +kernel)) ggL_looks_X1_replace
set_option maxRecDepth 20000 in
theorem ggL_looks_X1_use : GoodIn wsL_looks wsX1_use := goodIn_ca (goodIn_ca (goodIn_r _ [46, 23, 25, 47, 48, 49, 8, 50, 29, 30, 31, 15, 16, 32, 33, 34, 35, 36, 37, 38, 39, 40, 41, 42, 71, 72, 73, 74, 75, 76, 77, 78, 79, 80, 81, 82, 83, 84, 85, 86, 87, 88, 89, 90, 91] (by decide +kernel) (by decide +kernel)) (goodIn_sub (fun _ h => List.mem_cons_of_mem _ (List.mem_append_left _ (List.mem_append_left _ (List.mem_append_right _ h)))) (by decide +kernel))) (goodIn_sub (fun _ h => List.mem_cons_of_mem _ (List.mem_append_right _ h)) (by decide +kernel))
set_option maxRecDepth 20000 in
theorem gL_looks_X1_use : GoodIn wsL_looks (wsV RL 43 RX1 yX1_use wsX1_use) := goodIn_app (goodIn_of _ (by decide +kernel)) ggL_looks_X1_use
set_option maxRecDepth 20000 in
theorem ggL_looks_X1_fromSun : GoodIn wsL_looks wsX1_fromSun := goodIn_ca (goodIn_ca (goodIn_r _ [54, 23, 55, 47, 48, 49, 8, 50, 29, 30, 31, 15, 16, 32, 33, 34, 35, 36, 37, 38, 39, 40, 41, 42, 71, 72, 73, 74, 75, 76, 77, 78, 79, 80, 81, 82, 83, 84, 85, 86, 87, 88, 89, 90, 91] (by decide +kernel) (by decide +kernel)) (goodIn_sub (fun _ h => List.mem_cons_of_mem _ (List.mem_append_left _ (List.mem_append_left _ (List.mem_append_right _ h)))) (by decide +kernel))) (goodIn_sub (fun _ h => List.mem_cons_of_mem _ (List.mem_append_right _ h)) (by decide +kernel))
set_option maxRecDepth 20000 in
theorem gL_looks_X1_fromSun : GoodIn wsL_looks (wsV RL 47 RX1 yX1_fromSun wsX1_fromSun) := goodIn_app (goodIn_of _ (by decide +kernel)) ggL_looks_X1_fromSun
set_option maxRecDepth 20000 in
theorem ggL_looks_X1_fromBattery : GoodIn wsL_looks wsX1_fromBattery := goodIn_ca (goodIn_ca (goodIn_r _ [59, 23, 60, 47, 48, 49, 8, 50, 29, 30, 31, 15, 16, 32, 33, 34, 35, 36, 37, 38, 39, 40, 41, 42, 71, 72, 73, 74, 75, 76, 77, 78, 79, 80, 81, 82, 83, 84, 85, 86, 87, 88, 89, 90, 91] (by decide +kernel) (by decide +kernel)) (goodIn_sub (fun _ h => List.mem_cons_of_mem _ (List.mem_append_left _ (List.mem_append_left _ (List.mem_append_right _ h)))) (by decide +kernel))) (goodIn_sub (fun _ h => List.mem_cons_of_mem _ (List.mem_append_right _ h)) (by decide +kernel))
set_option maxRecDepth 20000 in
theorem gL_looks_X1_fromBattery : GoodIn wsL_looks (wsV RL 50 RX1 yX1_fromBattery wsX1_fromBattery) := goodIn_app (goodIn_of _ (by decide +kernel)) ggL_looks_X1_fromBattery
set_option maxRecDepth 20000 in
theorem ggL_looks_X1_bought : GoodIn wsL_looks wsX1_bought := goodIn_ca (goodIn_ca (goodIn_r _ [64, 23, 65, 47, 48, 49, 8, 50, 29, 30, 31, 15, 16, 32, 33, 34, 35, 36, 37, 38, 39, 40, 41, 42, 71, 72, 73, 74, 75, 76, 77, 78, 79, 80, 81, 82, 83, 84, 85, 86, 87, 88, 89, 90, 91] (by decide +kernel) (by decide +kernel)) (goodIn_sub (fun _ h => List.mem_cons_of_mem _ (List.mem_append_left _ (List.mem_append_left _ (List.mem_append_right _ h)))) (by decide +kernel))) (goodIn_sub (fun _ h => List.mem_cons_of_mem _ (List.mem_append_right _ h)) (by decide +kernel))
set_option maxRecDepth 20000 in
theorem gL_looks_X1_bought : GoodIn wsL_looks (wsV RL 53 RX1 yX1_bought wsX1_bought) := goodIn_app (goodIn_of _ (by decide +kernel)) ggL_looks_X1_bought
set_option maxRecDepth 20000 in
theorem ggL_looks_X1_sold : GoodIn wsL_looks wsX1_sold := goodIn_ca (goodIn_r _ [69, 23, 70, 32, 33, 34, 8, 35, 36, 37, 38, 71, 72, 73, 74, 75, 76, 77, 78, 79, 80, 81, 82, 83, 84, 85, 86, 87, 88, 89, 90, 91] (by decide +kernel) (by decide +kernel)) (goodIn_sub (fun _ h => List.mem_cons_of_mem _ (List.mem_append_right _ h)) (by decide +kernel))
set_option maxRecDepth 20000 in
theorem gL_looks_X1_sold : GoodIn wsL_looks (wsV RL 56 RX1 yX1_sold wsX1_sold) := goodIn_app (goodIn_of _ (by decide +kernel)) ggL_looks_X1_sold
theorem dL_looks_0 : decode cL_looks 0 = .ok (.iload_n 1, 1) := by decide +kernel
theorem dL_looks_1 : decode cL_looks 1 = .ok (.ifCond .ne 11, 3) := by decide +kernel
theorem dL_looks_4 : decode cL_looks 4 = .ok (.aload_n 0, 1) := by decide +kernel
theorem dL_looks_5 : decode cL_looks 5 = .ok (.iload_n 2, 1) := by decide +kernel
theorem dL_looks_6 : decode cL_looks 6 = .ok (.invokevirtual 35, 3) := by decide +kernel
theorem dL_looks_9 : decode cL_looks 9 = .ok (.goto 80, 3) := by decide +kernel
theorem dL_looks_12 : decode cL_looks 12 = .ok (.iload_n 1, 1) := by decide +kernel
theorem dL_looks_13 : decode cL_looks 13 = .ok (.iconst 1, 1) := by decide +kernel
theorem dL_looks_14 : decode cL_looks 14 = .ok (.if_icmp .ne 14, 3) := by decide +kernel
theorem dL_looks_17 : decode cL_looks 17 = .ok (.aload_n 0, 1) := by decide +kernel
theorem dL_looks_18 : decode cL_looks 18 = .ok (.iload_n 2, 1) := by decide +kernel
theorem dL_looks_19 : decode cL_looks 19 = .ok (.iload_n 3, 1) := by decide +kernel
theorem dL_looks_20 : decode cL_looks 20 = .ok (.iload 4, 2) := by decide +kernel
theorem dL_looks_22 : decode cL_looks 22 = .ok (.invokevirtual 39, 3) := by decide +kernel
theorem dL_looks_25 : decode cL_looks 25 = .ok (.goto 64, 3) := by decide +kernel
theorem dL_looks_28 : decode cL_looks 28 = .ok (.iload_n 1, 1) := by decide +kernel
theorem dL_looks_29 : decode cL_looks 29 = .ok (.iconst 2, 1) := by decide +kernel
theorem dL_looks_30 : decode cL_looks 30 = .ok (.if_icmp .ne 12, 3) := by decide +kernel
theorem dL_looks_33 : decode cL_looks 33 = .ok (.aload_n 0, 1) := by decide +kernel
theorem dL_looks_34 : decode cL_looks 34 = .ok (.iload_n 2, 1) := by decide +kernel
theorem dL_looks_35 : decode cL_looks 35 = .ok (.iload_n 3, 1) := by decide +kernel
theorem dL_looks_36 : decode cL_looks 36 = .ok (.invokevirtual 43, 3) := by decide +kernel
theorem dL_looks_39 : decode cL_looks 39 = .ok (.goto 50, 3) := by decide +kernel
theorem dL_looks_42 : decode cL_looks 42 = .ok (.iload_n 1, 1) := by decide +kernel
theorem dL_looks_43 : decode cL_looks 43 = .ok (.iconst 3, 1) := by decide +kernel
theorem dL_looks_44 : decode cL_looks 44 = .ok (.if_icmp .ne 12, 3) := by decide +kernel
theorem dL_looks_47 : decode cL_looks 47 = .ok (.aload_n 0, 1) := by decide +kernel
theorem dL_looks_48 : decode cL_looks 48 = .ok (.iload_n 2, 1) := by decide +kernel
theorem dL_looks_49 : decode cL_looks 49 = .ok (.iload_n 3, 1) := by decide +kernel
theorem dL_looks_50 : decode cL_looks 50 = .ok (.invokevirtual 47, 3) := by decide +kernel
theorem dL_looks_53 : decode cL_looks 53 = .ok (.goto 36, 3) := by decide +kernel
theorem dL_looks_56 : decode cL_looks 56 = .ok (.iload_n 1, 1) := by decide +kernel
theorem dL_looks_57 : decode cL_looks 57 = .ok (.iconst 4, 1) := by decide +kernel
theorem dL_looks_58 : decode cL_looks 58 = .ok (.if_icmp .ne 12, 3) := by decide +kernel
theorem dL_looks_61 : decode cL_looks 61 = .ok (.aload_n 0, 1) := by decide +kernel
theorem dL_looks_62 : decode cL_looks 62 = .ok (.iload_n 2, 1) := by decide +kernel
theorem dL_looks_63 : decode cL_looks 63 = .ok (.iload_n 3, 1) := by decide +kernel
theorem dL_looks_64 : decode cL_looks 64 = .ok (.invokevirtual 50, 3) := by decide +kernel
theorem dL_looks_67 : decode cL_looks 67 = .ok (.goto 22, 3) := by decide +kernel
theorem dL_looks_70 : decode cL_looks 70 = .ok (.iload_n 1, 1) := by decide +kernel
theorem dL_looks_71 : decode cL_looks 71 = .ok (.iconst 5, 1) := by decide +kernel
theorem dL_looks_72 : decode cL_looks 72 = .ok (.if_icmp .ne 12, 3) := by decide +kernel
theorem dL_looks_75 : decode cL_looks 75 = .ok (.aload_n 0, 1) := by decide +kernel
theorem dL_looks_76 : decode cL_looks 76 = .ok (.iload_n 2, 1) := by decide +kernel
theorem dL_looks_77 : decode cL_looks 77 = .ok (.iload_n 3, 1) := by decide +kernel
theorem dL_looks_78 : decode cL_looks 78 = .ok (.invokevirtual 53, 3) := by decide +kernel
theorem dL_looks_81 : decode cL_looks 81 = .ok (.goto 8, 3) := by decide +kernel
theorem dL_looks_84 : decode cL_looks 84 = .ok (.aload_n 0, 1) := by decide +kernel
theorem dL_looks_85 : decode cL_looks 85 = .ok (.iload_n 2, 1) := by decide +kernel
theorem dL_looks_86 : decode cL_looks 86 = .ok (.invokevirtual 56, 3) := by decide +kernel
theorem dL_looks_89 : decode cL_looks 89 = .ok (.dreturn, 1) := by decide +kernel
theorem dL_looks_90 : decode cL_looks 90 = .ok (.astore 5, 2) := by decide +kernel
theorem dL_looks_92 : decode cL_looks 92 = .ok (.ldc2_w 61, 3) := by decide +kernel
theorem dL_looks_95 : decode cL_looks 95 = .ok (.dreturn, 1) := by decide +kernel
theorem dL_looks_96 : decode cL_looks 96 = .ok (.astore 5, 2) := by decide +kernel
theorem dL_looks_98 : decode cL_looks 98 = .ok (.ldc2_w 61, 3) := by decide +kernel
theorem dL_looks_101 : decode cL_looks 101 = .ok (.dreturn, 1) := by decide +kernel
theorem dL_looks_102 : decode cL_looks 102 = .ok (.astore 5, 2) := by decide +kernel
theorem dL_looks_104 : decode cL_looks 104 = .ok (.ldc2_w 61, 3) := by decide +kernel
theorem dL_looks_107 : decode cL_looks 107 = .ok (.dreturn, 1) := by decide +kernel
theorem dL_isNear_0 : decode cL_isNear 0 = .ok (.dload_n 0, 1) := by decide +kernel
theorem dL_isNear_1 : decode cL_isNear 1 = .ok (.dload_n 2, 1) := by decide +kernel
theorem dL_isNear_2 : decode cL_isNear 2 = .ok (.dsub, 1) := by decide +kernel
theorem dL_isNear_3 : decode cL_isNear 3 = .ok (.ldc2_w 63, 3) := by decide +kernel
theorem dL_isNear_6 : decode cL_isNear 6 = .ok (.dcmp .g, 1) := by decide +kernel
theorem dL_isNear_7 : decode cL_isNear 7 = .ok (.ifCond .ge 17, 3) := by decide +kernel
theorem dL_isNear_10 : decode cL_isNear 10 = .ok (.dload_n 2, 1) := by decide +kernel
theorem dL_isNear_11 : decode cL_isNear 11 = .ok (.dload_n 0, 1) := by decide +kernel
theorem dL_isNear_12 : decode cL_isNear 12 = .ok (.dsub, 1) := by decide +kernel
theorem dL_isNear_13 : decode cL_isNear 13 = .ok (.ldc2_w 63, 3) := by decide +kernel
theorem dL_isNear_16 : decode cL_isNear 16 = .ok (.dcmp .g, 1) := by decide +kernel
theorem dL_isNear_17 : decode cL_isNear 17 = .ok (.ifCond .ge 7, 3) := by decide +kernel
theorem dL_isNear_20 : decode cL_isNear 20 = .ok (.iconst 1, 1) := by decide +kernel
theorem dL_isNear_21 : decode cL_isNear 21 = .ok (.goto 4, 3) := by decide +kernel
theorem dL_isNear_24 : decode cL_isNear 24 = .ok (.iconst 0, 1) := by decide +kernel
theorem dL_isNear_25 : decode cL_isNear 25 = .ok (.ireturn, 1) := by decide +kernel
set_option maxRecDepth 20000 in
theorem ggL_act_L_low : GoodIn wsL_act wsL_low := goodIn_r _ [4, 5] (by decide +kernel) (by decide +kernel)
set_option maxRecDepth 20000 in
theorem gL_act_L_low : GoodIn wsL_act (va_wsS RL 65 yL_low wsL_low) := goodIn_app (goodIn_of _ (by decide +kernel)) ggL_act_L_low
set_option maxRecDepth 20000 in
theorem ggL_act_L_does : GoodIn wsL_act wsL_does := goodIn_ca (goodIn_ca (goodIn_r _ [8, 9, 10, 11, 12, 13, 14, 15, 16, 17, 18, 19, 20, 21, 22, 23, 24, 25, 26, 27, 28, 29, 30, 31, 32, 33, 34, 35, 36, 37, 38, 39, 40, 41, 42, 43, 44, 45, 46, 47, 48, 49, 50, 51, 52, 53, 54, 55, 56, 57, 58, 59, 60, 61, 62, 63, 64, 65, 66, 67, 68, 69, 70, 71, 72, 73, 74, 75, 76, 77, 78, 79, 80, 81, 82, 83, 84, 85, 86, 87, 88, 89, 90, 91, 92, 93, 94, 95, 96, 97, 98, 99, 100, 101, 102, 103, 104, 105, 106, 107, 108, 109, 110, 111, 112, 113, 114, 115, 116, 117, 118, 119, 120, 121, 122, 123, 124, 125, 126, 127, 128, 129, 130, 131, 132, 133, 134, 135, 136, 137, 138, 139, 140, 141, 142, 190, 191, 192, 193, 194, 195, 196, 197, 198, 199, 200, 201, 202, 203, 204, 205, 206, 207, 208, 209, 210] (by decide +kernel) (by decide +kernel)) (goodIn_sub (fun _ h => List.mem_cons_of_mem _ (List.mem_append_left _ (List.mem_append_left _ (List.mem_append_right _ h)))) (by decide +kernel))) (goodIn_sub (fun _ h => List.mem_cons_of_mem _ (List.mem_append_left _ (List.mem_append_right _ h))) (by decide +kernel))
set_option maxRecDepth 20000 in
theorem gL_act_L_does : GoodIn wsL_act (va_wsS RL 70 yL_does wsL_does) := goodIn_app (goodIn_of _ (by decide +kernel)) ggL_act_L_does
set_option maxRecDepth 20000 in
theorem ggL_act_X1_closed : GoodIn wsL_act wsX1_closed := goodIn_r _ [146, 47, 48, 190, 191, 192, 193, 194, 195, 196, 197, 198, 199, 200, 201, 202, 203, 204, 205, 206, 207, 208, 209, 210] (by decide +kernel) (by decide +kernel)
set_option maxRecDepth 20000 in
theorem gL_act_X1_closed : GoodIn wsL_act (wsV RL 74 RX1 yX1_closed wsX1_closed) := goodIn_app (goodIn_of _ (by decide +kernel)) ggL_act_X1_closed
set_option maxRecDepth 20000 in
theorem ggL_act_L_looks : GoodIn wsL_act wsL_looks := goodIn_ca (goodIn_ca (goodIn_ca (goodIn_r _ [149, 150, 9, 10, 151, 152, 153, 154, 15, 155, 99, 50, 25, 26, 27, 23, 24, 156, 157, 158, 159, 17, 18, 47, 56, 57, 94, 49, 138, 20, 21, 22, 160, 161, 162, 163, 164, 165, 48, 59, 60, 61, 62, 166, 167, 168, 169, 170, 171, 172, 173, 174, 175, 176, 177, 107, 178, 179, 180, 181, 124, 182, 183, 184, 185, 137, 186, 187, 188, 189, 118, 190, 191, 192, 193, 194, 195, 196, 197, 198, 199, 200, 201, 202, 203, 204, 205, 206, 207, 208, 209, 210] (by decide +kernel) (by decide +kernel)) (goodIn_sub (fun _ h => List.mem_cons_of_mem _ (List.mem_append_left _ (List.mem_append_right _ h))) (by decide +kernel))) (goodIn_sub (fun _ h => List.mem_cons_of_mem _ (List.mem_append_left _ (List.mem_append_left _ (List.mem_append_right _ h)))) (by decide +kernel))) (goodIn_sub (fun _ h => List.mem_cons_of_mem _ (List.mem_append_right _ h)) (by decide +kernel))
set_option maxRecDepth 20000 in
theorem gL_act_L_looks : GoodIn wsL_act (va_wsS RL 78 yL_looks wsL_looks) := goodIn_app (goodIn_of _ (by decide +kernel)) ggL_act_L_looks
theorem dL_act_0 : decode cL_act 0 = .ok (.iload_n 1, 1) := by decide +kernel
theorem dL_act_1 : decode cL_act 1 = .ok (.bipush 18, 2) := by decide +kernel
theorem dL_act_3 : decode cL_act 3 = .ok (.ishr, 1) := by decide +kernel
theorem dL_act_4 : decode cL_act 4 = .ok (.bipush 7, 2) := by decide +kernel
theorem dL_act_6 : decode cL_act 6 = .ok (.iand, 1) := by decide +kernel
theorem dL_act_7 : decode cL_act 7 = .ok (.bipush 7, 2) := by decide +kernel
theorem dL_act_9 : decode cL_act 9 = .ok (.if_icmp .ne 7, 3) := by decide +kernel
theorem dL_act_12 : decode cL_act 12 = .ok (.iconst 1, 1) := by decide +kernel
theorem dL_act_13 : decode cL_act 13 = .ok (.goto 4, 3) := by decide +kernel
theorem dL_act_16 : decode cL_act 16 = .ok (.iconst 0, 1) := by decide +kernel
theorem dL_act_17 : decode cL_act 17 = .ok (.istore_n 2, 1) := by decide +kernel
theorem dL_act_18 : decode cL_act 18 = .ok (.iload_n 1, 1) := by decide +kernel
theorem dL_act_19 : decode cL_act 19 = .ok (.bipush 30, 2) := by decide +kernel
theorem dL_act_21 : decode cL_act 21 = .ok (.invokestatic 65, 3) := by decide +kernel
theorem dL_act_24 : decode cL_act 24 = .ok (.istore_n 3, 1) := by decide +kernel
theorem dL_act_25 : decode cL_act 25 = .ok (.iload_n 2, 1) := by decide +kernel
theorem dL_act_26 : decode cL_act 26 = .ok (.ifCond .eq 17, 3) := by decide +kernel
theorem dL_act_29 : decode cL_act 29 = .ok (.iload_n 1, 1) := by decide +kernel
theorem dL_act_30 : decode cL_act 30 = .ok (.bipush 6, 2) := by decide +kernel
theorem dL_act_32 : decode cL_act 32 = .ok (.ishr, 1) := by decide +kernel
theorem dL_act_33 : decode cL_act 33 = .ok (.bipush 8, 2) := by decide +kernel
theorem dL_act_35 : decode cL_act 35 = .ok (.invokestatic 65, 3) := by decide +kernel
theorem dL_act_38 : decode cL_act 38 = .ok (.iconst 1, 1) := by decide +kernel
theorem dL_act_39 : decode cL_act 39 = .ok (.isub, 1) := by decide +kernel
theorem dL_act_40 : decode cL_act 40 = .ok (.goto 11, 3) := by decide +kernel
theorem dL_act_43 : decode cL_act 43 = .ok (.iload_n 1, 1) := by decide +kernel
theorem dL_act_44 : decode cL_act 44 = .ok (.bipush 6, 2) := by decide +kernel
theorem dL_act_46 : decode cL_act 46 = .ok (.ishr, 1) := by decide +kernel
theorem dL_act_47 : decode cL_act 47 = .ok (.iconst 5, 1) := by decide +kernel
theorem dL_act_48 : decode cL_act 48 = .ok (.invokestatic 65, 3) := by decide +kernel
theorem dL_act_51 : decode cL_act 51 = .ok (.istore 4, 2) := by decide +kernel
theorem dL_act_53 : decode cL_act 53 = .ok (.iload_n 3, 1) := by decide +kernel
theorem dL_act_54 : decode cL_act 54 = .ok (.bipush 7, 2) := by decide +kernel
theorem dL_act_56 : decode cL_act 56 = .ok (.if_icmp .ge 60, 3) := by decide +kernel
theorem dL_act_59 : decode cL_act 59 = .ok (.iload_n 3, 1) := by decide +kernel
theorem dL_act_60 : decode cL_act 60 = .ok (.iconst 5, 1) := by decide +kernel
theorem dL_act_61 : decode cL_act 61 = .ok (.if_icmp .ge 40, 3) := by decide +kernel
theorem dL_act_64 : decode cL_act 64 = .ok (.aload_n 0, 1) := by decide +kernel
theorem dL_act_65 : decode cL_act 65 = .ok (.iconst 0, 1) := by decide +kernel
theorem dL_act_66 : decode cL_act 66 = .ok (.iload 4, 2) := by decide +kernel
theorem dL_act_68 : decode cL_act 68 = .ok (.iload_n 2, 1) := by decide +kernel
theorem dL_act_69 : decode cL_act 69 = .ok (.ifCond .eq 17, 3) := by decide +kernel
theorem dL_act_72 : decode cL_act 72 = .ok (.iload_n 1, 1) := by decide +kernel
theorem dL_act_73 : decode cL_act 73 = .ok (.bipush 9, 2) := by decide +kernel
theorem dL_act_75 : decode cL_act 75 = .ok (.ishr, 1) := by decide +kernel
theorem dL_act_76 : decode cL_act 76 = .ok (.bipush 9, 2) := by decide +kernel
theorem dL_act_78 : decode cL_act 78 = .ok (.invokestatic 65, 3) := by decide +kernel
theorem dL_act_81 : decode cL_act 81 = .ok (.iconst 2, 1) := by decide +kernel
theorem dL_act_82 : decode cL_act 82 = .ok (.isub, 1) := by decide +kernel
theorem dL_act_83 : decode cL_act 83 = .ok (.goto 11, 3) := by decide +kernel
theorem dL_act_86 : decode cL_act 86 = .ok (.iload_n 1, 1) := by decide +kernel
theorem dL_act_87 : decode cL_act 87 = .ok (.bipush 9, 2) := by decide +kernel
theorem dL_act_89 : decode cL_act 89 = .ok (.ishr, 1) := by decide +kernel
theorem dL_act_90 : decode cL_act 90 = .ok (.iconst 4, 1) := by decide +kernel
theorem dL_act_91 : decode cL_act 91 = .ok (.invokestatic 65, 3) := by decide +kernel
theorem dL_act_94 : decode cL_act 94 = .ok (.invokestatic 70, 3) := by decide +kernel
theorem dL_act_97 : decode cL_act 97 = .ok (.i2d, 1) := by decide +kernel
theorem dL_act_98 : decode cL_act 98 = .ok (.goto 17, 3) := by decide +kernel
theorem dL_act_101 : decode cL_act 101 = .ok (.aload_n 0, 1) := by decide +kernel
theorem dL_act_102 : decode cL_act 102 = .ok (.iconst 1, 1) := by decide +kernel
theorem dL_act_103 : decode cL_act 103 = .ok (.iload 4, 2) := by decide +kernel
theorem dL_act_105 : decode cL_act 105 = .ok (.iload_n 1, 1) := by decide +kernel
theorem dL_act_106 : decode cL_act 106 = .ok (.bipush 9, 2) := by decide +kernel
theorem dL_act_108 : decode cL_act 108 = .ok (.ishr, 1) := by decide +kernel
theorem dL_act_109 : decode cL_act 109 = .ok (.iconst 1, 1) := by decide +kernel
theorem dL_act_110 : decode cL_act 110 = .ok (.iand, 1) := by decide +kernel
theorem dL_act_111 : decode cL_act 111 = .ok (.invokestatic 70, 3) := by decide +kernel
theorem dL_act_114 : decode cL_act 114 = .ok (.i2d, 1) := by decide +kernel
theorem dL_act_115 : decode cL_act 115 = .ok (.dreturn, 1) := by decide +kernel
theorem dL_act_116 : decode cL_act 116 = .ok (.iload_n 3, 1) := by decide +kernel
theorem dL_act_117 : decode cL_act 117 = .ok (.bipush 23, 2) := by decide +kernel
theorem dL_act_119 : decode cL_act 119 = .ok (.if_icmp .ge 40, 3) := by decide +kernel
theorem dL_act_122 : decode cL_act 122 = .ok (.aload_n 0, 1) := by decide +kernel
theorem dL_act_123 : decode cL_act 123 = .ok (.iconst 2, 1) := by decide +kernel
theorem dL_act_124 : decode cL_act 124 = .ok (.iload 4, 2) := by decide +kernel
theorem dL_act_126 : decode cL_act 126 = .ok (.iload_n 2, 1) := by decide +kernel
theorem dL_act_127 : decode cL_act 127 = .ok (.ifCond .eq 18, 3) := by decide +kernel
theorem dL_act_130 : decode cL_act 130 = .ok (.iload_n 1, 1) := by decide +kernel
theorem dL_act_131 : decode cL_act 131 = .ok (.bipush 9, 2) := by decide +kernel
theorem dL_act_133 : decode cL_act 133 = .ok (.ishr, 1) := by decide +kernel
theorem dL_act_134 : decode cL_act 134 = .ok (.bipush 70, 2) := by decide +kernel
theorem dL_act_136 : decode cL_act 136 = .ok (.invokestatic 65, 3) := by decide +kernel
theorem dL_act_139 : decode cL_act 139 = .ok (.bipush 9, 2) := by decide +kernel
theorem dL_act_141 : decode cL_act 141 = .ok (.isub, 1) := by decide +kernel
theorem dL_act_142 : decode cL_act 142 = .ok (.goto 12, 3) := by decide +kernel
theorem dL_act_145 : decode cL_act 145 = .ok (.iload_n 1, 1) := by decide +kernel
theorem dL_act_146 : decode cL_act 146 = .ok (.bipush 9, 2) := by decide +kernel
theorem dL_act_148 : decode cL_act 148 = .ok (.ishr, 1) := by decide +kernel
theorem dL_act_149 : decode cL_act 149 = .ok (.bipush 51, 2) := by decide +kernel
theorem dL_act_151 : decode cL_act 151 = .ok (.invokestatic 65, 3) := by decide +kernel
theorem dL_act_154 : decode cL_act 154 = .ok (.invokestatic 70, 3) := by decide +kernel
theorem dL_act_157 : decode cL_act 157 = .ok (.i2d, 1) := by decide +kernel
theorem dL_act_158 : decode cL_act 158 = .ok (.dreturn, 1) := by decide +kernel
theorem dL_act_159 : decode cL_act 159 = .ok (.iload_n 3, 1) := by decide +kernel
theorem dL_act_160 : decode cL_act 160 = .ok (.bipush 26, 2) := by decide +kernel
theorem dL_act_162 : decode cL_act 162 = .ok (.if_icmp .ge 116, 3) := by decide +kernel
theorem dL_act_165 : decode cL_act 165 = .ok (.iload_n 2, 1) := by decide +kernel
theorem dL_act_166 : decode cL_act 166 = .ok (.ifCond .eq 17, 3) := by decide +kernel
theorem dL_act_169 : decode cL_act 169 = .ok (.iload_n 1, 1) := by decide +kernel
theorem dL_act_170 : decode cL_act 170 = .ok (.bipush 9, 2) := by decide +kernel
theorem dL_act_172 : decode cL_act 172 = .ok (.ishr, 1) := by decide +kernel
theorem dL_act_173 : decode cL_act 173 = .ok (.bipush 70, 2) := by decide +kernel
theorem dL_act_175 : decode cL_act 175 = .ok (.invokestatic 65, 3) := by decide +kernel
theorem dL_act_178 : decode cL_act 178 = .ok (.iconst 3, 1) := by decide +kernel
theorem dL_act_179 : decode cL_act 179 = .ok (.isub, 1) := by decide +kernel
theorem dL_act_180 : decode cL_act 180 = .ok (.goto 16, 3) := by decide +kernel
theorem dL_act_183 : decode cL_act 183 = .ok (.iload_n 1, 1) := by decide +kernel
theorem dL_act_184 : decode cL_act 184 = .ok (.bipush 9, 2) := by decide +kernel
theorem dL_act_186 : decode cL_act 186 = .ok (.ishr, 1) := by decide +kernel
theorem dL_act_187 : decode cL_act 187 = .ok (.aload_n 0, 1) := by decide +kernel
theorem dL_act_188 : decode cL_act 188 = .ok (.invokevirtual 74, 3) := by decide +kernel
theorem dL_act_191 : decode cL_act 191 = .ok (.iconst 1, 1) := by decide +kernel
theorem dL_act_192 : decode cL_act 192 = .ok (.iadd, 1) := by decide +kernel
theorem dL_act_193 : decode cL_act 193 = .ok (.invokestatic 65, 3) := by decide +kernel
theorem dL_act_196 : decode cL_act 196 = .ok (.istore 5, 2) := by decide +kernel
theorem dL_act_198 : decode cL_act 198 = .ok (.iload_n 3, 1) := by decide +kernel
theorem dL_act_199 : decode cL_act 199 = .ok (.bipush 25, 2) := by decide +kernel
theorem dL_act_201 : decode cL_act 201 = .ok (.if_icmp .ge 43, 3) := by decide +kernel
theorem dL_act_204 : decode cL_act 204 = .ok (.aload_n 0, 1) := by decide +kernel
theorem dL_act_205 : decode cL_act 205 = .ok (.iconst 1, 1) := by decide +kernel
theorem dL_act_206 : decode cL_act 206 = .ok (.iload 4, 2) := by decide +kernel
theorem dL_act_208 : decode cL_act 208 = .ok (.iload 5, 2) := by decide +kernel
theorem dL_act_210 : decode cL_act 210 = .ok (.iload_n 2, 1) := by decide +kernel
theorem dL_act_211 : decode cL_act 211 = .ok (.ifCond .eq 18, 3) := by decide +kernel
theorem dL_act_214 : decode cL_act 214 = .ok (.iload_n 1, 1) := by decide +kernel
theorem dL_act_215 : decode cL_act 215 = .ok (.bipush 12, 2) := by decide +kernel
theorem dL_act_217 : decode cL_act 217 = .ok (.ishr, 1) := by decide +kernel
theorem dL_act_218 : decode cL_act 218 = .ok (.bipush 70, 2) := by decide +kernel
theorem dL_act_220 : decode cL_act 220 = .ok (.invokestatic 65, 3) := by decide +kernel
theorem dL_act_223 : decode cL_act 223 = .ok (.bipush 9, 2) := by decide +kernel
theorem dL_act_225 : decode cL_act 225 = .ok (.isub, 1) := by decide +kernel
theorem dL_act_226 : decode cL_act 226 = .ok (.goto 12, 3) := by decide +kernel
theorem dL_act_229 : decode cL_act 229 = .ok (.iload_n 1, 1) := by decide +kernel
theorem dL_act_230 : decode cL_act 230 = .ok (.bipush 12, 2) := by decide +kernel
theorem dL_act_232 : decode cL_act 232 = .ok (.ishr, 1) := by decide +kernel
theorem dL_act_233 : decode cL_act 233 = .ok (.bipush 51, 2) := by decide +kernel
theorem dL_act_235 : decode cL_act 235 = .ok (.invokestatic 65, 3) := by decide +kernel
theorem dL_act_238 : decode cL_act 238 = .ok (.invokestatic 78, 3) := by decide +kernel
theorem dL_act_241 : decode cL_act 241 = .ok (.goto 36, 3) := by decide +kernel
theorem dL_act_244 : decode cL_act 244 = .ok (.aload_n 0, 1) := by decide +kernel
theorem dL_act_245 : decode cL_act 245 = .ok (.iconst 0, 1) := by decide +kernel
theorem dL_act_246 : decode cL_act 246 = .ok (.iload_n 2, 1) := by decide +kernel
theorem dL_act_247 : decode cL_act 247 = .ok (.ifCond .eq 17, 3) := by decide +kernel
theorem dL_act_250 : decode cL_act 250 = .ok (.iload_n 1, 1) := by decide +kernel
theorem dL_act_251 : decode cL_act 251 = .ok (.bipush 9, 2) := by decide +kernel
theorem dL_act_253 : decode cL_act 253 = .ok (.ishr, 1) := by decide +kernel
theorem dL_act_254 : decode cL_act 254 = .ok (.bipush 8, 2) := by decide +kernel
theorem dL_act_256 : decode cL_act 256 = .ok (.invokestatic 65, 3) := by decide +kernel
theorem dL_act_259 : decode cL_act 259 = .ok (.iconst 1, 1) := by decide +kernel
theorem dL_act_260 : decode cL_act 260 = .ok (.isub, 1) := by decide +kernel
theorem dL_act_261 : decode cL_act 261 = .ok (.goto 11, 3) := by decide +kernel
theorem dL_act_264 : decode cL_act 264 = .ok (.iconst 1, 1) := by decide +kernel
theorem dL_act_265 : decode cL_act 265 = .ok (.iload_n 1, 1) := by decide +kernel
theorem dL_act_266 : decode cL_act 266 = .ok (.bipush 9, 2) := by decide +kernel
theorem dL_act_268 : decode cL_act 268 = .ok (.ishr, 1) := by decide +kernel
theorem dL_act_269 : decode cL_act 269 = .ok (.iconst 3, 1) := by decide +kernel
theorem dL_act_270 : decode cL_act 270 = .ok (.iand, 1) := by decide +kernel
theorem dL_act_271 : decode cL_act 271 = .ok (.iadd, 1) := by decide +kernel
theorem dL_act_272 : decode cL_act 272 = .ok (.iconst 0, 1) := by decide +kernel
theorem dL_act_273 : decode cL_act 273 = .ok (.iconst 0, 1) := by decide +kernel
theorem dL_act_274 : decode cL_act 274 = .ok (.invokestatic 78, 3) := by decide +kernel
theorem dL_act_277 : decode cL_act 277 = .ok (.dreturn, 1) := by decide +kernel
theorem dL_act_278 : decode cL_act 278 = .ok (.aload_n 0, 1) := by decide +kernel
theorem dL_act_279 : decode cL_act 279 = .ok (.iconst 3, 1) := by decide +kernel
theorem dL_act_280 : decode cL_act 280 = .ok (.iload_n 2, 1) := by decide +kernel
theorem dL_act_281 : decode cL_act 281 = .ok (.ifCond .eq 19, 3) := by decide +kernel
theorem dL_act_284 : decode cL_act 284 = .ok (.iload_n 1, 1) := by decide +kernel
theorem dL_act_285 : decode cL_act 285 = .ok (.bipush 6, 2) := by decide +kernel
theorem dL_act_287 : decode cL_act 287 = .ok (.ishr, 1) := by decide +kernel
theorem dL_act_288 : decode cL_act 288 = .ok (.sipush 130, 3) := by decide +kernel
theorem dL_act_291 : decode cL_act 291 = .ok (.invokestatic 65, 3) := by decide +kernel
theorem dL_act_294 : decode cL_act 294 = .ok (.bipush 9, 2) := by decide +kernel
theorem dL_act_296 : decode cL_act 296 = .ok (.isub, 1) := by decide +kernel
theorem dL_act_297 : decode cL_act 297 = .ok (.goto 12, 3) := by decide +kernel
theorem dL_act_300 : decode cL_act 300 = .ok (.iload_n 1, 1) := by decide +kernel
theorem dL_act_301 : decode cL_act 301 = .ok (.bipush 6, 2) := by decide +kernel
theorem dL_act_303 : decode cL_act 303 = .ok (.ishr, 1) := by decide +kernel
theorem dL_act_304 : decode cL_act 304 = .ok (.bipush 101, 2) := by decide +kernel
theorem dL_act_306 : decode cL_act 306 = .ok (.invokestatic 65, 3) := by decide +kernel
theorem dL_act_309 : decode cL_act 309 = .ok (.iconst 0, 1) := by decide +kernel
theorem dL_act_310 : decode cL_act 310 = .ok (.invokestatic 70, 3) := by decide +kernel
theorem dL_act_313 : decode cL_act 313 = .ok (.i2d, 1) := by decide +kernel
theorem dL_act_314 : decode cL_act 314 = .ok (.dreturn, 1) := by decide +kernel
set_option maxRecDepth 20000 in
theorem ggL_areAlike_X1_closed : GoodIn wsL_areAlike wsX1_closed := goodIn_r _ [5, 6, 7, 98, 99, 100, 101, 102, 103, 104, 105, 106, 107, 108, 109, 110, 111, 112, 113, 114, 115, 116, 117, 118] (by decide +kernel) (by decide +kernel)
set_option maxRecDepth 20000 in
theorem gL_areAlike_X1_closed : GoodIn wsL_areAlike (wsV RL 74 RX1 yX1_closed wsX1_closed) := goodIn_app (goodIn_of _ (by decide +kernel)) ggL_areAlike_X1_closed
set_option maxRecDepth 20000 in
theorem ggL_areAlike_X1_battery : GoodIn wsL_areAlike wsX1_battery := goodIn_r _ [11, 12, 98, 99, 100, 101, 102, 103, 104, 105, 106, 107, 108, 109] (by decide +kernel) (by decide +kernel)
set_option maxRecDepth 20000 in
theorem gL_areAlike_X1_battery : GoodIn wsL_areAlike (wsV RL 82 RX1 yX1_battery wsX1_battery) := goodIn_app (goodIn_of _ (by decide +kernel)) ggL_areAlike_X1_battery
set_option maxRecDepth 20000 in
theorem ggL_areAlike_X1_turn : GoodIn wsL_areAlike wsX1_turn := goodIn_r _ [16, 17, 98, 99, 100, 101, 102, 103, 104, 105, 106, 107, 108, 109] (by decide +kernel) (by decide +kernel)
set_option maxRecDepth 20000 in
theorem gL_areAlike_X1_turn : GoodIn wsL_areAlike (wsV RL 86 RX1 yX1_turn wsX1_turn) := goodIn_app (goodIn_of _ (by decide +kernel)) ggL_areAlike_X1_turn
set_option maxRecDepth 20000 in
theorem ggL_areAlike_L_looks : GoodIn wsL_areAlike wsL_looks := goodIn_ca (goodIn_ca (goodIn_ca (goodIn_r _ [21, 22, 23, 24, 25, 26, 27, 28, 4, 29, 30, 31, 32, 33, 34, 35, 36, 37, 38, 39, 40, 41, 42, 6, 43, 44, 45, 46, 47, 48, 49, 50, 51, 52, 53, 54, 55, 56, 7, 57, 58, 59, 60, 61, 62, 63, 64, 65, 66, 67, 68, 69, 70, 71, 72, 73, 74, 75, 76, 77, 78, 79, 80, 81, 82, 83, 84, 85, 86, 87, 88, 98, 99, 100, 101, 102, 103, 104, 105, 106, 107, 108, 109, 110, 111, 112, 113, 114, 115, 116, 117, 118] (by decide +kernel) (by decide +kernel)) (goodIn_sub (fun _ h => List.mem_cons_of_mem _ (List.mem_append_left _ (List.mem_append_left _ (List.mem_append_right _ h)))) (by decide +kernel))) (goodIn_sub (fun _ h => List.mem_cons_of_mem _ (List.mem_append_left _ (List.mem_append_right _ h))) (by decide +kernel))) (goodIn_sub (fun _ h => List.mem_cons_of_mem _ (List.mem_append_right _ h)) (by decide +kernel))
set_option maxRecDepth 20000 in
theorem gL_areAlike_L_looks : GoodIn wsL_areAlike (va_wsS RL 78 yL_looks wsL_looks) := goodIn_app (goodIn_of _ (by decide +kernel)) ggL_areAlike_L_looks
set_option maxRecDepth 20000 in
theorem ggL_areAlike_X1_bill : GoodIn wsL_areAlike wsX1_bill := goodIn_ca (goodIn_r _ [92, 47, 48, 49, 4, 50, 35, 36, 98, 99, 100, 101, 102, 103, 104, 105, 106, 107, 108, 109] (by decide +kernel) (by decide +kernel)) (goodIn_sub (fun _ h => List.mem_cons_of_mem _ (List.mem_append_left _ (List.mem_append_left _ (List.mem_append_right _ h)))) (by decide +kernel))
set_option maxRecDepth 20000 in
theorem gL_areAlike_X1_bill : GoodIn wsL_areAlike (wsV RL 89 RX1 yX1_bill wsX1_bill) := goodIn_app (goodIn_of _ (by decide +kernel)) ggL_areAlike_X1_bill
set_option maxRecDepth 20000 in
theorem ggL_areAlike_X1_sheds : GoodIn wsL_areAlike wsX1_sheds := goodIn_ca (goodIn_r _ [96, 97, 48, 49, 4, 50, 35, 36, 98, 99, 100, 101, 102, 103, 104, 105, 106, 107, 108, 109] (by decide +kernel) (by decide +kernel)) (goodIn_sub (fun _ h => List.mem_cons_of_mem _ (List.mem_append_left _ (List.mem_append_left _ (List.mem_append_right _ h)))) (by decide +kernel))
set_option maxRecDepth 20000 in
theorem gL_areAlike_X1_sheds : GoodIn wsL_areAlike (wsV RL 26 RX1 yX1_sheds wsX1_sheds) := goodIn_app (goodIn_of _ (by decide +kernel)) ggL_areAlike_X1_sheds
theorem dL_areAlike_0 : decode cL_areAlike 0 = .ok (.aload_n 0, 1) := by decide +kernel
theorem dL_areAlike_1 : decode cL_areAlike 1 = .ok (.invokevirtual 74, 3) := by decide +kernel
theorem dL_areAlike_4 : decode cL_areAlike 4 = .ok (.aload_n 1, 1) := by decide +kernel
theorem dL_areAlike_5 : decode cL_areAlike 5 = .ok (.invokevirtual 74, 3) := by decide +kernel
theorem dL_areAlike_8 : decode cL_areAlike 8 = .ok (.if_icmp .ne 52, 3) := by decide +kernel
theorem dL_areAlike_11 : decode cL_areAlike 11 = .ok (.aload_n 0, 1) := by decide +kernel
theorem dL_areAlike_12 : decode cL_areAlike 12 = .ok (.invokevirtual 82, 3) := by decide +kernel
theorem dL_areAlike_15 : decode cL_areAlike 15 = .ok (.aload_n 1, 1) := by decide +kernel
theorem dL_areAlike_16 : decode cL_areAlike 16 = .ok (.invokevirtual 82, 3) := by decide +kernel
theorem dL_areAlike_19 : decode cL_areAlike 19 = .ok (.dcmp .l, 1) := by decide +kernel
theorem dL_areAlike_20 : decode cL_areAlike 20 = .ok (.ifCond .ne 40, 3) := by decide +kernel
theorem dL_areAlike_23 : decode cL_areAlike 23 = .ok (.aload_n 0, 1) := by decide +kernel
theorem dL_areAlike_24 : decode cL_areAlike 24 = .ok (.invokevirtual 86, 3) := by decide +kernel
theorem dL_areAlike_27 : decode cL_areAlike 27 = .ok (.aload_n 1, 1) := by decide +kernel
theorem dL_areAlike_28 : decode cL_areAlike 28 = .ok (.invokevirtual 86, 3) := by decide +kernel
theorem dL_areAlike_31 : decode cL_areAlike 31 = .ok (.if_icmp .ne 29, 3) := by decide +kernel
theorem dL_areAlike_34 : decode cL_areAlike 34 = .ok (.aload_n 0, 1) := by decide +kernel
theorem dL_areAlike_35 : decode cL_areAlike 35 = .ok (.bipush 6, 2) := by decide +kernel
theorem dL_areAlike_37 : decode cL_areAlike 37 = .ok (.iload_n 2, 1) := by decide +kernel
theorem dL_areAlike_38 : decode cL_areAlike 38 = .ok (.iconst 0, 1) := by decide +kernel
theorem dL_areAlike_39 : decode cL_areAlike 39 = .ok (.iconst 0, 1) := by decide +kernel
theorem dL_areAlike_40 : decode cL_areAlike 40 = .ok (.invokestatic 78, 3) := by decide +kernel
theorem dL_areAlike_43 : decode cL_areAlike 43 = .ok (.aload_n 1, 1) := by decide +kernel
theorem dL_areAlike_44 : decode cL_areAlike 44 = .ok (.bipush 6, 2) := by decide +kernel
theorem dL_areAlike_46 : decode cL_areAlike 46 = .ok (.iload_n 2, 1) := by decide +kernel
theorem dL_areAlike_47 : decode cL_areAlike 47 = .ok (.iconst 0, 1) := by decide +kernel
theorem dL_areAlike_48 : decode cL_areAlike 48 = .ok (.iconst 0, 1) := by decide +kernel
theorem dL_areAlike_49 : decode cL_areAlike 49 = .ok (.invokestatic 78, 3) := by decide +kernel
theorem dL_areAlike_52 : decode cL_areAlike 52 = .ok (.dcmp .l, 1) := by decide +kernel
theorem dL_areAlike_53 : decode cL_areAlike 53 = .ok (.ifCond .ne 7, 3) := by decide +kernel
theorem dL_areAlike_56 : decode cL_areAlike 56 = .ok (.iconst 1, 1) := by decide +kernel
theorem dL_areAlike_57 : decode cL_areAlike 57 = .ok (.goto 4, 3) := by decide +kernel
theorem dL_areAlike_60 : decode cL_areAlike 60 = .ok (.iconst 0, 1) := by decide +kernel
theorem dL_areAlike_61 : decode cL_areAlike 61 = .ok (.istore_n 3, 1) := by decide +kernel
theorem dL_areAlike_62 : decode cL_areAlike 62 = .ok (.iconst 0, 1) := by decide +kernel
theorem dL_areAlike_63 : decode cL_areAlike 63 = .ok (.istore 4, 2) := by decide +kernel
theorem dL_areAlike_65 : decode cL_areAlike 65 = .ok (.iload 4, 2) := by decide +kernel
theorem dL_areAlike_67 : decode cL_areAlike 67 = .ok (.iconst 5, 1) := by decide +kernel
theorem dL_areAlike_68 : decode cL_areAlike 68 = .ok (.if_icmp .ge 116, 3) := by decide +kernel
theorem dL_areAlike_71 : decode cL_areAlike 71 = .ok (.iload_n 3, 1) := by decide +kernel
theorem dL_areAlike_72 : decode cL_areAlike 72 = .ok (.ifCond .eq 112, 3) := by decide +kernel
theorem dL_areAlike_75 : decode cL_areAlike 75 = .ok (.aload_n 0, 1) := by decide +kernel
theorem dL_areAlike_76 : decode cL_areAlike 76 = .ok (.iload 4, 2) := by decide +kernel
theorem dL_areAlike_78 : decode cL_areAlike 78 = .ok (.invokevirtual 89, 3) := by decide +kernel
theorem dL_areAlike_81 : decode cL_areAlike 81 = .ok (.aload_n 1, 1) := by decide +kernel
theorem dL_areAlike_82 : decode cL_areAlike 82 = .ok (.iload 4, 2) := by decide +kernel
theorem dL_areAlike_84 : decode cL_areAlike 84 = .ok (.invokevirtual 89, 3) := by decide +kernel
theorem dL_areAlike_87 : decode cL_areAlike 87 = .ok (.dcmp .l, 1) := by decide +kernel
theorem dL_areAlike_88 : decode cL_areAlike 88 = .ok (.ifCond .ne 88, 3) := by decide +kernel
theorem dL_areAlike_91 : decode cL_areAlike 91 = .ok (.aload_n 0, 1) := by decide +kernel
theorem dL_areAlike_92 : decode cL_areAlike 92 = .ok (.iload 4, 2) := by decide +kernel
theorem dL_areAlike_94 : decode cL_areAlike 94 = .ok (.invokevirtual 26, 3) := by decide +kernel
theorem dL_areAlike_97 : decode cL_areAlike 97 = .ok (.aload_n 1, 1) := by decide +kernel
theorem dL_areAlike_98 : decode cL_areAlike 98 = .ok (.iload 4, 2) := by decide +kernel
theorem dL_areAlike_100 : decode cL_areAlike 100 = .ok (.invokevirtual 26, 3) := by decide +kernel
theorem dL_areAlike_103 : decode cL_areAlike 103 = .ok (.if_icmp .ne 73, 3) := by decide +kernel
theorem dL_areAlike_106 : decode cL_areAlike 106 = .ok (.aload_n 0, 1) := by decide +kernel
theorem dL_areAlike_107 : decode cL_areAlike 107 = .ok (.iconst 2, 1) := by decide +kernel
theorem dL_areAlike_108 : decode cL_areAlike 108 = .ok (.iload 4, 2) := by decide +kernel
theorem dL_areAlike_110 : decode cL_areAlike 110 = .ok (.iload_n 2, 1) := by decide +kernel
theorem dL_areAlike_111 : decode cL_areAlike 111 = .ok (.iconst 0, 1) := by decide +kernel
theorem dL_areAlike_112 : decode cL_areAlike 112 = .ok (.invokestatic 78, 3) := by decide +kernel
theorem dL_areAlike_115 : decode cL_areAlike 115 = .ok (.aload_n 1, 1) := by decide +kernel
theorem dL_areAlike_116 : decode cL_areAlike 116 = .ok (.iconst 2, 1) := by decide +kernel
theorem dL_areAlike_117 : decode cL_areAlike 117 = .ok (.iload 4, 2) := by decide +kernel
theorem dL_areAlike_119 : decode cL_areAlike 119 = .ok (.iload_n 2, 1) := by decide +kernel
theorem dL_areAlike_120 : decode cL_areAlike 120 = .ok (.iconst 0, 1) := by decide +kernel
theorem dL_areAlike_121 : decode cL_areAlike 121 = .ok (.invokestatic 78, 3) := by decide +kernel
theorem dL_areAlike_124 : decode cL_areAlike 124 = .ok (.dcmp .l, 1) := by decide +kernel
theorem dL_areAlike_125 : decode cL_areAlike 125 = .ok (.ifCond .ne 51, 3) := by decide +kernel
theorem dL_areAlike_128 : decode cL_areAlike 128 = .ok (.aload_n 0, 1) := by decide +kernel
theorem dL_areAlike_129 : decode cL_areAlike 129 = .ok (.iconst 3, 1) := by decide +kernel
theorem dL_areAlike_130 : decode cL_areAlike 130 = .ok (.iload 4, 2) := by decide +kernel
theorem dL_areAlike_132 : decode cL_areAlike 132 = .ok (.iload_n 2, 1) := by decide +kernel
theorem dL_areAlike_133 : decode cL_areAlike 133 = .ok (.iconst 0, 1) := by decide +kernel
theorem dL_areAlike_134 : decode cL_areAlike 134 = .ok (.invokestatic 78, 3) := by decide +kernel
theorem dL_areAlike_137 : decode cL_areAlike 137 = .ok (.aload_n 1, 1) := by decide +kernel
theorem dL_areAlike_138 : decode cL_areAlike 138 = .ok (.iconst 3, 1) := by decide +kernel
theorem dL_areAlike_139 : decode cL_areAlike 139 = .ok (.iload 4, 2) := by decide +kernel
theorem dL_areAlike_141 : decode cL_areAlike 141 = .ok (.iload_n 2, 1) := by decide +kernel
theorem dL_areAlike_142 : decode cL_areAlike 142 = .ok (.iconst 0, 1) := by decide +kernel
theorem dL_areAlike_143 : decode cL_areAlike 143 = .ok (.invokestatic 78, 3) := by decide +kernel
theorem dL_areAlike_146 : decode cL_areAlike 146 = .ok (.dcmp .l, 1) := by decide +kernel
theorem dL_areAlike_147 : decode cL_areAlike 147 = .ok (.ifCond .ne 29, 3) := by decide +kernel
theorem dL_areAlike_150 : decode cL_areAlike 150 = .ok (.aload_n 0, 1) := by decide +kernel
theorem dL_areAlike_151 : decode cL_areAlike 151 = .ok (.iconst 5, 1) := by decide +kernel
theorem dL_areAlike_152 : decode cL_areAlike 152 = .ok (.iload 4, 2) := by decide +kernel
theorem dL_areAlike_154 : decode cL_areAlike 154 = .ok (.iload_n 2, 1) := by decide +kernel
theorem dL_areAlike_155 : decode cL_areAlike 155 = .ok (.iconst 0, 1) := by decide +kernel
theorem dL_areAlike_156 : decode cL_areAlike 156 = .ok (.invokestatic 78, 3) := by decide +kernel
theorem dL_areAlike_159 : decode cL_areAlike 159 = .ok (.aload_n 1, 1) := by decide +kernel
theorem dL_areAlike_160 : decode cL_areAlike 160 = .ok (.iconst 5, 1) := by decide +kernel
theorem dL_areAlike_161 : decode cL_areAlike 161 = .ok (.iload 4, 2) := by decide +kernel
theorem dL_areAlike_163 : decode cL_areAlike 163 = .ok (.iload_n 2, 1) := by decide +kernel
theorem dL_areAlike_164 : decode cL_areAlike 164 = .ok (.iconst 0, 1) := by decide +kernel
theorem dL_areAlike_165 : decode cL_areAlike 165 = .ok (.invokestatic 78, 3) := by decide +kernel
theorem dL_areAlike_168 : decode cL_areAlike 168 = .ok (.dcmp .l, 1) := by decide +kernel
theorem dL_areAlike_169 : decode cL_areAlike 169 = .ok (.ifCond .ne 7, 3) := by decide +kernel
theorem dL_areAlike_172 : decode cL_areAlike 172 = .ok (.iconst 1, 1) := by decide +kernel
theorem dL_areAlike_173 : decode cL_areAlike 173 = .ok (.goto 4, 3) := by decide +kernel
theorem dL_areAlike_176 : decode cL_areAlike 176 = .ok (.iconst 0, 1) := by decide +kernel
theorem dL_areAlike_177 : decode cL_areAlike 177 = .ok (.istore_n 3, 1) := by decide +kernel
theorem dL_areAlike_178 : decode cL_areAlike 178 = .ok (.iinc 4 1, 3) := by decide +kernel
theorem dL_areAlike_181 : decode cL_areAlike 181 = .ok (.goto (-116), 3) := by decide +kernel
theorem dL_areAlike_184 : decode cL_areAlike 184 = .ok (.iload_n 3, 1) := by decide +kernel
theorem dL_areAlike_185 : decode cL_areAlike 185 = .ok (.ireturn, 1) := by decide +kernel
set_option maxRecDepth 20000 in
theorem ggL_isClosedSo_X1_setPrice : GoodIn wsL_isClosedSo wsX1_setPrice := goodIn_ca (goodIn_r _ [11, 12, 13, 14, 15, 10, 16, 17, 18, 194, 195, 196, 197, 198, 199, 200, 201, 202, 203, 204, 205] (by decide +kernel) (by decide +kernel)) (goodIn_sub (fun _ h => List.mem_cons_of_mem _ (List.mem_append_left _ (List.mem_append_left _ (List.mem_append_right _ h)))) (by decide +kernel))
set_option maxRecDepth 20000 in
theorem gL_isClosedSo_X1_setPrice : GoodIn wsL_isClosedSo (wsV RL 35 RX1 yX1_setPrice wsX1_setPrice) := goodIn_app (goodIn_of _ (by decide +kernel)) ggL_isClosedSo_X1_setPrice
set_option maxRecDepth 20000 in
theorem ggL_isClosedSo_X1_battery : GoodIn wsL_isClosedSo wsX1_battery := goodIn_r _ [22, 23, 194, 195, 196, 197, 198, 199, 200, 201, 202, 203, 204, 205] (by decide +kernel) (by decide +kernel)
set_option maxRecDepth 20000 in
theorem gL_isClosedSo_X1_battery : GoodIn wsL_isClosedSo (wsV RL 82 RX1 yX1_battery wsX1_battery) := goodIn_app (goodIn_of _ (by decide +kernel)) ggL_isClosedSo_X1_battery
set_option maxRecDepth 20000 in
theorem ggL_isClosedSo_X1_closed : GoodIn wsL_isClosedSo wsX1_closed := goodIn_r _ [27, 28, 29, 194, 195, 196, 197, 198, 199, 200, 201, 202, 203, 204, 205, 206, 207, 208, 209, 210, 211, 212, 213, 214] (by decide +kernel) (by decide +kernel)
set_option maxRecDepth 20000 in
theorem gL_isClosedSo_X1_closed : GoodIn wsL_isClosedSo (wsV RL 74 RX1 yX1_closed wsX1_closed) := goodIn_app (goodIn_of _ (by decide +kernel)) ggL_isClosedSo_X1_closed
set_option maxRecDepth 20000 in
theorem ggL_isClosedSo_X1_sheds : GoodIn wsL_isClosedSo wsX1_sheds := goodIn_ca (goodIn_r _ [33, 34, 35, 36, 10, 37, 17, 18, 194, 195, 196, 197, 198, 199, 200, 201, 202, 203, 204, 205] (by decide +kernel) (by decide +kernel)) (goodIn_sub (fun _ h => List.mem_cons_of_mem _ (List.mem_append_left _ (List.mem_append_left _ (List.mem_append_right _ h)))) (by decide +kernel))
set_option maxRecDepth 20000 in
theorem gL_isClosedSo_X1_sheds : GoodIn wsL_isClosedSo (wsV RL 26 RX1 yX1_sheds wsX1_sheds) := goodIn_app (goodIn_of _ (by decide +kernel)) ggL_isClosedSo_X1_sheds
set_option maxRecDepth 20000 in
theorem ggL_isClosedSo_X1_bill : GoodIn wsL_isClosedSo wsX1_bill := goodIn_ca (goodIn_r _ [41, 42, 35, 36, 10, 37, 17, 18, 194, 195, 196, 197, 198, 199, 200, 201, 202, 203, 204, 205] (by decide +kernel) (by decide +kernel)) (goodIn_sub (fun _ h => List.mem_cons_of_mem _ (List.mem_append_left _ (List.mem_append_left _ (List.mem_append_right _ h)))) (by decide +kernel))
set_option maxRecDepth 20000 in
theorem gL_isClosedSo_X1_bill : GoodIn wsL_isClosedSo (wsV RL 89 RX1 yX1_bill wsX1_bill) := goodIn_app (goodIn_of _ (by decide +kernel)) ggL_isClosedSo_X1_bill
set_option maxRecDepth 20000 in
theorem ggL_isClosedSo_L_does : GoodIn wsL_isClosedSo wsL_does := goodIn_ca (goodIn_ca (goodIn_r _ [46, 47, 48, 4, 49, 50, 51, 10, 52, 53, 54, 55, 35, 36, 37, 17, 18, 14, 15, 16, 56, 57, 58, 59, 60, 61, 62, 63, 64, 65, 66, 67, 68, 69, 70, 71, 72, 73, 74, 28, 29, 75, 13, 76, 77, 78, 79, 80, 81, 82, 83, 84, 85, 86, 87, 88, 89, 90, 91, 92, 93, 94, 95, 96, 97, 98, 99, 100, 34, 101, 102, 103, 104, 105, 106, 107, 108, 109, 110, 111, 112, 113, 114, 115, 116, 117, 118, 119, 120, 121, 122, 12, 123, 124, 125, 126, 127, 128, 129, 130, 131, 132, 133, 134, 135, 136, 137, 138, 139, 23, 140, 141, 142, 143, 144, 145, 146, 147, 148, 149, 150, 151, 152, 153, 154, 155, 156, 157, 158, 159, 42, 30, 31, 32, 33, 194, 195, 196, 197, 198, 199, 200, 201, 202, 203, 204, 205, 206, 207, 208, 209, 210, 211, 212, 213, 214] (by decide +kernel) (by decide +kernel)) (goodIn_sub (fun _ h => List.mem_cons_of_mem _ (List.mem_append_left _ (List.mem_append_right _ h))) (by decide +kernel))) (goodIn_sub (fun _ h => List.mem_cons_of_mem _ (List.mem_append_left _ (List.mem_append_left _ (List.mem_append_right _ h)))) (by decide +kernel))
set_option maxRecDepth 20000 in
theorem gL_isClosedSo_L_does : GoodIn wsL_isClosedSo (va_wsS RL 70 yL_does wsL_does) := goodIn_app (goodIn_of _ (by decide +kernel)) ggL_isClosedSo_L_does
set_option maxRecDepth 20000 in
theorem ggL_isClosedSo_X1_sold : GoodIn wsL_isClosedSo wsX1_sold := goodIn_ca (goodIn_r _ [163, 28, 140, 164, 165, 166, 10, 167, 168, 169, 29, 194, 195, 196, 197, 198, 199, 200, 201, 202, 203, 204, 205, 206, 207, 208, 209, 210, 211, 212, 213, 214] (by decide +kernel) (by decide +kernel)) (goodIn_sub (fun _ h => List.mem_cons_of_mem _ (List.mem_append_right _ h)) (by decide +kernel))
set_option maxRecDepth 20000 in
theorem gL_isClosedSo_X1_sold : GoodIn wsL_isClosedSo (wsV RL 56 RX1 yX1_sold wsX1_sold) := goodIn_app (goodIn_of _ (by decide +kernel)) ggL_isClosedSo_X1_sold
set_option maxRecDepth 20000 in
theorem ggL_isClosedSo_X1_use : GoodIn wsL_isClosedSo wsX1_use := goodIn_ca (goodIn_ca (goodIn_r _ [173, 28, 82, 174, 175, 176, 10, 177, 35, 36, 37, 17, 18, 164, 165, 166, 167, 168, 169, 29, 84, 85, 86, 87, 194, 195, 196, 197, 198, 199, 200, 201, 202, 203, 204, 205, 206, 207, 208, 209, 210, 211, 212, 213, 214] (by decide +kernel) (by decide +kernel)) (goodIn_sub (fun _ h => List.mem_cons_of_mem _ (List.mem_append_left _ (List.mem_append_left _ (List.mem_append_right _ h)))) (by decide +kernel))) (goodIn_sub (fun _ h => List.mem_cons_of_mem _ (List.mem_append_right _ h)) (by decide +kernel))
set_option maxRecDepth 20000 in
theorem gL_isClosedSo_X1_use : GoodIn wsL_isClosedSo (wsV RL 43 RX1 yX1_use wsX1_use) := goodIn_app (goodIn_of _ (by decide +kernel)) ggL_isClosedSo_X1_use
set_option maxRecDepth 20000 in
theorem ggL_isClosedSo_X1_fromSun : GoodIn wsL_isClosedSo wsX1_fromSun := goodIn_ca (goodIn_ca (goodIn_r _ [181, 28, 130, 174, 175, 176, 10, 177, 35, 36, 37, 17, 18, 164, 165, 166, 167, 168, 169, 29, 84, 85, 86, 87, 194, 195, 196, 197, 198, 199, 200, 201, 202, 203, 204, 205, 206, 207, 208, 209, 210, 211, 212, 213, 214] (by decide +kernel) (by decide +kernel)) (goodIn_sub (fun _ h => List.mem_cons_of_mem _ (List.mem_append_left _ (List.mem_append_left _ (List.mem_append_right _ h)))) (by decide +kernel))) (goodIn_sub (fun _ h => List.mem_cons_of_mem _ (List.mem_append_right _ h)) (by decide +kernel))
set_option maxRecDepth 20000 in
theorem gL_isClosedSo_X1_fromSun : GoodIn wsL_isClosedSo (wsV RL 47 RX1 yX1_fromSun wsX1_fromSun) := goodIn_app (goodIn_of _ (by decide +kernel)) ggL_isClosedSo_X1_fromSun
set_option maxRecDepth 20000 in
theorem ggL_isClosedSo_X1_fromBattery : GoodIn wsL_isClosedSo wsX1_fromBattery := goodIn_ca (goodIn_ca (goodIn_r _ [185, 28, 146, 174, 175, 176, 10, 177, 35, 36, 37, 17, 18, 164, 165, 166, 167, 168, 169, 29, 84, 85, 86, 87, 194, 195, 196, 197, 198, 199, 200, 201, 202, 203, 204, 205, 206, 207, 208, 209, 210, 211, 212, 213, 214] (by decide +kernel) (by decide +kernel)) (goodIn_sub (fun _ h => List.mem_cons_of_mem _ (List.mem_append_left _ (List.mem_append_left _ (List.mem_append_right _ h)))) (by decide +kernel))) (goodIn_sub (fun _ h => List.mem_cons_of_mem _ (List.mem_append_right _ h)) (by decide +kernel))
set_option maxRecDepth 20000 in
theorem gL_isClosedSo_X1_fromBattery : GoodIn wsL_isClosedSo (wsV RL 50 RX1 yX1_fromBattery wsX1_fromBattery) := goodIn_app (goodIn_of _ (by decide +kernel)) ggL_isClosedSo_X1_fromBattery
set_option maxRecDepth 20000 in
theorem ggL_isClosedSo_X1_bought : GoodIn wsL_isClosedSo wsX1_bought := goodIn_ca (goodIn_ca (goodIn_r _ [189, 28, 159, 174, 175, 176, 10, 177, 35, 36, 37, 17, 18, 164, 165, 166, 167, 168, 169, 29, 84, 85, 86, 87, 194, 195, 196, 197, 198, 199, 200, 201, 202, 203, 204, 205, 206, 207, 208, 209, 210, 211, 212, 213, 214] (by decide +kernel) (by decide +kernel)) (goodIn_sub (fun _ h => List.mem_cons_of_mem _ (List.mem_append_left _ (List.mem_append_left _ (List.mem_append_right _ h)))) (by decide +kernel))) (goodIn_sub (fun _ h => List.mem_cons_of_mem _ (List.mem_append_right _ h)) (by decide +kernel))
set_option maxRecDepth 20000 in
theorem gL_isClosedSo_X1_bought : GoodIn wsL_isClosedSo (wsV RL 53 RX1 yX1_bought wsX1_bought) := goodIn_app (goodIn_of _ (by decide +kernel)) ggL_isClosedSo_X1_bought
set_option maxRecDepth 20000 in
theorem ggL_isClosedSo_L_isNear : GoodIn wsL_isClosedSo wsL_isNear := goodIn_r _ [192, 193] (by decide +kernel) (by decide +kernel)
set_option maxRecDepth 20000 in
theorem gL_isClosedSo_L_isNear : GoodIn wsL_isClosedSo (va_wsS RL 94 yL_isNear wsL_isNear) := goodIn_app (goodIn_of _ (by decide +kernel)) ggL_isClosedSo_L_isNear
theorem dL_isClosedSo_0 : decode cL_isClosedSo 0 = .ok (.aload_n 0, 1) := by decide +kernel
theorem dL_isClosedSo_1 : decode cL_isClosedSo 1 = .ok (.iload_n 2, 1) := by decide +kernel
theorem dL_isClosedSo_2 : decode cL_isClosedSo 2 = .ok (.invokevirtual 35, 3) := by decide +kernel
theorem dL_isClosedSo_5 : decode cL_isClosedSo 5 = .ok (.dstore 4, 2) := by decide +kernel
theorem dL_isClosedSo_7 : decode cL_isClosedSo 7 = .ok (.aload_n 0, 1) := by decide +kernel
theorem dL_isClosedSo_8 : decode cL_isClosedSo 8 = .ok (.invokevirtual 82, 3) := by decide +kernel
theorem dL_isClosedSo_11 : decode cL_isClosedSo 11 = .ok (.dstore 6, 2) := by decide +kernel
theorem dL_isClosedSo_13 : decode cL_isClosedSo 13 = .ok (.aload_n 0, 1) := by decide +kernel
theorem dL_isClosedSo_14 : decode cL_isClosedSo 14 = .ok (.invokevirtual 74, 3) := by decide +kernel
theorem dL_isClosedSo_17 : decode cL_isClosedSo 17 = .ok (.istore 8, 2) := by decide +kernel
theorem dL_isClosedSo_19 : decode cL_isClosedSo 19 = .ok (.iconst 5, 1) := by decide +kernel
theorem dL_isClosedSo_20 : decode cL_isClosedSo 20 = .ok (.newarray .int, 2) := by decide +kernel
theorem dL_isClosedSo_22 : decode cL_isClosedSo 22 = .ok (.astore 9, 2) := by decide +kernel
theorem dL_isClosedSo_24 : decode cL_isClosedSo 24 = .ok (.iconst 5, 1) := by decide +kernel
theorem dL_isClosedSo_25 : decode cL_isClosedSo 25 = .ok (.newarray .double, 2) := by decide +kernel
theorem dL_isClosedSo_27 : decode cL_isClosedSo 27 = .ok (.astore 10, 2) := by decide +kernel
theorem dL_isClosedSo_29 : decode cL_isClosedSo 29 = .ok (.iconst 0, 1) := by decide +kernel
theorem dL_isClosedSo_30 : decode cL_isClosedSo 30 = .ok (.istore 11, 2) := by decide +kernel
theorem dL_isClosedSo_32 : decode cL_isClosedSo 32 = .ok (.iload 11, 2) := by decide +kernel
theorem dL_isClosedSo_34 : decode cL_isClosedSo 34 = .ok (.iconst 5, 1) := by decide +kernel
theorem dL_isClosedSo_35 : decode cL_isClosedSo 35 = .ok (.if_icmp .ge 31, 3) := by decide +kernel
theorem dL_isClosedSo_38 : decode cL_isClosedSo 38 = .ok (.aload 9, 2) := by decide +kernel
theorem dL_isClosedSo_40 : decode cL_isClosedSo 40 = .ok (.iload 11, 2) := by decide +kernel
theorem dL_isClosedSo_42 : decode cL_isClosedSo 42 = .ok (.aload_n 0, 1) := by decide +kernel
theorem dL_isClosedSo_43 : decode cL_isClosedSo 43 = .ok (.iload 11, 2) := by decide +kernel
theorem dL_isClosedSo_45 : decode cL_isClosedSo 45 = .ok (.invokevirtual 26, 3) := by decide +kernel
theorem dL_isClosedSo_48 : decode cL_isClosedSo 48 = .ok (.iastore, 1) := by decide +kernel
theorem dL_isClosedSo_49 : decode cL_isClosedSo 49 = .ok (.aload 10, 2) := by decide +kernel
theorem dL_isClosedSo_51 : decode cL_isClosedSo 51 = .ok (.iload 11, 2) := by decide +kernel
theorem dL_isClosedSo_53 : decode cL_isClosedSo 53 = .ok (.aload_n 0, 1) := by decide +kernel
theorem dL_isClosedSo_54 : decode cL_isClosedSo 54 = .ok (.iload 11, 2) := by decide +kernel
theorem dL_isClosedSo_56 : decode cL_isClosedSo 56 = .ok (.invokevirtual 89, 3) := by decide +kernel
theorem dL_isClosedSo_59 : decode cL_isClosedSo 59 = .ok (.dastore, 1) := by decide +kernel
theorem dL_isClosedSo_60 : decode cL_isClosedSo 60 = .ok (.iinc 11 1, 3) := by decide +kernel
theorem dL_isClosedSo_63 : decode cL_isClosedSo 63 = .ok (.goto (-31), 3) := by decide +kernel
theorem dL_isClosedSo_66 : decode cL_isClosedSo 66 = .ok (.aload_n 0, 1) := by decide +kernel
theorem dL_isClosedSo_67 : decode cL_isClosedSo 67 = .ok (.iconst 3, 1) := by decide +kernel
theorem dL_isClosedSo_68 : decode cL_isClosedSo 68 = .ok (.iload_n 3, 1) := by decide +kernel
theorem dL_isClosedSo_69 : decode cL_isClosedSo 69 = .ok (.iconst 0, 1) := by decide +kernel
theorem dL_isClosedSo_70 : decode cL_isClosedSo 70 = .ok (.invokestatic 70, 3) := by decide +kernel
theorem dL_isClosedSo_73 : decode cL_isClosedSo 73 = .ok (.istore 11, 2) := by decide +kernel
theorem dL_isClosedSo_75 : decode cL_isClosedSo 75 = .ok (.aload_n 1, 1) := by decide +kernel
theorem dL_isClosedSo_76 : decode cL_isClosedSo 76 = .ok (.iload_n 2, 1) := by decide +kernel
theorem dL_isClosedSo_77 : decode cL_isClosedSo 77 = .ok (.invokevirtual 35, 3) := by decide +kernel
theorem dL_isClosedSo_80 : decode cL_isClosedSo 80 = .ok (.dload 4, 2) := by decide +kernel
theorem dL_isClosedSo_82 : decode cL_isClosedSo 82 = .ok (.dcmp .l, 1) := by decide +kernel
theorem dL_isClosedSo_83 : decode cL_isClosedSo 83 = .ok (.ifCond .ne 58, 3) := by decide +kernel
theorem dL_isClosedSo_86 : decode cL_isClosedSo 86 = .ok (.aload_n 1, 1) := by decide +kernel
theorem dL_isClosedSo_87 : decode cL_isClosedSo 87 = .ok (.iconst 3, 1) := by decide +kernel
theorem dL_isClosedSo_88 : decode cL_isClosedSo 88 = .ok (.iload_n 3, 1) := by decide +kernel
theorem dL_isClosedSo_89 : decode cL_isClosedSo 89 = .ok (.iconst 0, 1) := by decide +kernel
theorem dL_isClosedSo_90 : decode cL_isClosedSo 90 = .ok (.invokestatic 70, 3) := by decide +kernel
theorem dL_isClosedSo_93 : decode cL_isClosedSo 93 = .ok (.iload 11, 2) := by decide +kernel
theorem dL_isClosedSo_95 : decode cL_isClosedSo 95 = .ok (.if_icmp .ne 46, 3) := by decide +kernel
theorem dL_isClosedSo_98 : decode cL_isClosedSo 98 = .ok (.dload 4, 2) := by decide +kernel
theorem dL_isClosedSo_100 : decode cL_isClosedSo 100 = .ok (.ldc2_w 92, 3) := by decide +kernel
theorem dL_isClosedSo_103 : decode cL_isClosedSo 103 = .ok (.dmul, 1) := by decide +kernel
theorem dL_isClosedSo_104 : decode cL_isClosedSo 104 = .ok (.iload_n 2, 1) := by decide +kernel
theorem dL_isClosedSo_105 : decode cL_isClosedSo 105 = .ok (.i2d, 1) := by decide +kernel
theorem dL_isClosedSo_106 : decode cL_isClosedSo 106 = .ok (.dcmp .l, 1) := by decide +kernel
theorem dL_isClosedSo_107 : decode cL_isClosedSo 107 = .ok (.ifCond .ne 34, 3) := by decide +kernel
theorem dL_isClosedSo_110 : decode cL_isClosedSo 110 = .ok (.iload 11, 2) := by decide +kernel
theorem dL_isClosedSo_112 : decode cL_isClosedSo 112 = .ok (.ldc 32, 2) := by decide +kernel
theorem dL_isClosedSo_114 : decode cL_isClosedSo 114 = .ok (.if_icmp .ne 7, 3) := by decide +kernel
theorem dL_isClosedSo_117 : decode cL_isClosedSo 117 = .ok (.iconst 1, 1) := by decide +kernel
theorem dL_isClosedSo_118 : decode cL_isClosedSo 118 = .ok (.goto 4, 3) := by decide +kernel
theorem dL_isClosedSo_121 : decode cL_isClosedSo 121 = .ok (.iconst 0, 1) := by decide +kernel
theorem dL_isClosedSo_122 : decode cL_isClosedSo 122 = .ok (.iload 8, 2) := by decide +kernel
theorem dL_isClosedSo_124 : decode cL_isClosedSo 124 = .ok (.bipush 60, 2) := by decide +kernel
theorem dL_isClosedSo_126 : decode cL_isClosedSo 126 = .ok (.if_icmp .ne 7, 3) := by decide +kernel
theorem dL_isClosedSo_129 : decode cL_isClosedSo 129 = .ok (.iconst 1, 1) := by decide +kernel
theorem dL_isClosedSo_130 : decode cL_isClosedSo 130 = .ok (.goto 4, 3) := by decide +kernel
theorem dL_isClosedSo_133 : decode cL_isClosedSo 133 = .ok (.iconst 0, 1) := by decide +kernel
theorem dL_isClosedSo_134 : decode cL_isClosedSo 134 = .ok (.if_icmp .ne 7, 3) := by decide +kernel
theorem dL_isClosedSo_137 : decode cL_isClosedSo 137 = .ok (.iconst 1, 1) := by decide +kernel
theorem dL_isClosedSo_138 : decode cL_isClosedSo 138 = .ok (.goto 4, 3) := by decide +kernel
theorem dL_isClosedSo_141 : decode cL_isClosedSo 141 = .ok (.iconst 0, 1) := by decide +kernel
theorem dL_isClosedSo_142 : decode cL_isClosedSo 142 = .ok (.istore 12, 2) := by decide +kernel
theorem dL_isClosedSo_144 : decode cL_isClosedSo 144 = .ok (.iload 11, 2) := by decide +kernel
theorem dL_isClosedSo_146 : decode cL_isClosedSo 146 = .ok (.ldc 32, 2) := by decide +kernel
theorem dL_isClosedSo_148 : decode cL_isClosedSo 148 = .ok (.if_icmp .ne 33, 3) := by decide +kernel
theorem dL_isClosedSo_151 : decode cL_isClosedSo 151 = .ok (.iload 12, 2) := by decide +kernel
theorem dL_isClosedSo_153 : decode cL_isClosedSo 153 = .ok (.ifCond .eq 26, 3) := by decide +kernel
theorem dL_isClosedSo_156 : decode cL_isClosedSo 156 = .ok (.aload_n 0, 1) := by decide +kernel
theorem dL_isClosedSo_157 : decode cL_isClosedSo 157 = .ok (.invokevirtual 82, 3) := by decide +kernel
theorem dL_isClosedSo_160 : decode cL_isClosedSo 160 = .ok (.dload 6, 2) := by decide +kernel
theorem dL_isClosedSo_162 : decode cL_isClosedSo 162 = .ok (.dcmp .l, 1) := by decide +kernel
theorem dL_isClosedSo_163 : decode cL_isClosedSo 163 = .ok (.ifCond .ne 16, 3) := by decide +kernel
theorem dL_isClosedSo_166 : decode cL_isClosedSo 166 = .ok (.aload_n 0, 1) := by decide +kernel
theorem dL_isClosedSo_167 : decode cL_isClosedSo 167 = .ok (.invokevirtual 74, 3) := by decide +kernel
theorem dL_isClosedSo_170 : decode cL_isClosedSo 170 = .ok (.bipush 60, 2) := by decide +kernel
theorem dL_isClosedSo_172 : decode cL_isClosedSo 172 = .ok (.if_icmp .ne 7, 3) := by decide +kernel
theorem dL_isClosedSo_175 : decode cL_isClosedSo 175 = .ok (.iconst 1, 1) := by decide +kernel
theorem dL_isClosedSo_176 : decode cL_isClosedSo 176 = .ok (.goto 4, 3) := by decide +kernel
theorem dL_isClosedSo_179 : decode cL_isClosedSo 179 = .ok (.iconst 0, 1) := by decide +kernel
theorem dL_isClosedSo_180 : decode cL_isClosedSo 180 = .ok (.ireturn, 1) := by decide +kernel
theorem dL_isClosedSo_181 : decode cL_isClosedSo 181 = .ok (.iload_n 3, 1) := by decide +kernel
theorem dL_isClosedSo_182 : decode cL_isClosedSo 182 = .ok (.i2d, 1) := by decide +kernel
theorem dL_isClosedSo_183 : decode cL_isClosedSo 183 = .ok (.aload_n 0, 1) := by decide +kernel
theorem dL_isClosedSo_184 : decode cL_isClosedSo 184 = .ok (.iload 8, 2) := by decide +kernel
theorem dL_isClosedSo_186 : decode cL_isClosedSo 186 = .ok (.invokevirtual 56, 3) := by decide +kernel
theorem dL_isClosedSo_189 : decode cL_isClosedSo 189 = .ok (.dsub, 1) := by decide +kernel
theorem dL_isClosedSo_190 : decode cL_isClosedSo 190 = .ok (.aload_n 0, 1) := by decide +kernel
theorem dL_isClosedSo_191 : decode cL_isClosedSo 191 = .ok (.invokevirtual 82, 3) := by decide +kernel
theorem dL_isClosedSo_194 : decode cL_isClosedSo 194 = .ok (.dload 6, 2) := by decide +kernel
theorem dL_isClosedSo_196 : decode cL_isClosedSo 196 = .ok (.dsub, 1) := by decide +kernel
theorem dL_isClosedSo_197 : decode cL_isClosedSo 197 = .ok (.dsub, 1) := by decide +kernel
theorem dL_isClosedSo_198 : decode cL_isClosedSo 198 = .ok (.dstore 13, 2) := by decide +kernel
theorem dL_isClosedSo_200 : decode cL_isClosedSo 200 = .ok (.dconst 0, 1) := by decide +kernel
theorem dL_isClosedSo_201 : decode cL_isClosedSo 201 = .ok (.dstore 15, 2) := by decide +kernel
theorem dL_isClosedSo_203 : decode cL_isClosedSo 203 = .ok (.iconst 0, 1) := by decide +kernel
theorem dL_isClosedSo_204 : decode cL_isClosedSo 204 = .ok (.istore 17, 2) := by decide +kernel
theorem dL_isClosedSo_206 : decode cL_isClosedSo 206 = .ok (.iload 17, 2) := by decide +kernel
theorem dL_isClosedSo_208 : decode cL_isClosedSo 208 = .ok (.iconst 5, 1) := by decide +kernel
theorem dL_isClosedSo_209 : decode cL_isClosedSo 209 = .ok (.if_icmp .ge 174, 3) := by decide +kernel
theorem dL_isClosedSo_212 : decode cL_isClosedSo 212 = .ok (.iload 12, 2) := by decide +kernel
theorem dL_isClosedSo_214 : decode cL_isClosedSo 214 = .ok (.ifCond .eq 169, 3) := by decide +kernel
theorem dL_isClosedSo_217 : decode cL_isClosedSo 217 = .ok (.aload_n 0, 1) := by decide +kernel
theorem dL_isClosedSo_218 : decode cL_isClosedSo 218 = .ok (.iload 17, 2) := by decide +kernel
theorem dL_isClosedSo_220 : decode cL_isClosedSo 220 = .ok (.invokevirtual 26, 3) := by decide +kernel
theorem dL_isClosedSo_223 : decode cL_isClosedSo 223 = .ok (.aload 9, 2) := by decide +kernel
theorem dL_isClosedSo_225 : decode cL_isClosedSo 225 = .ok (.iload 17, 2) := by decide +kernel
theorem dL_isClosedSo_227 : decode cL_isClosedSo 227 = .ok (.iaload, 1) := by decide +kernel
theorem dL_isClosedSo_228 : decode cL_isClosedSo 228 = .ok (.isub, 1) := by decide +kernel
theorem dL_isClosedSo_229 : decode cL_isClosedSo 229 = .ok (.istore 18, 2) := by decide +kernel
theorem dL_isClosedSo_231 : decode cL_isClosedSo 231 = .ok (.iload 18, 2) := by decide +kernel
theorem dL_isClosedSo_233 : decode cL_isClosedSo 233 = .ok (.iconst 1, 1) := by decide +kernel
theorem dL_isClosedSo_234 : decode cL_isClosedSo 234 = .ok (.if_icmp .ne 7, 3) := by decide +kernel
theorem dL_isClosedSo_237 : decode cL_isClosedSo 237 = .ok (.dconst 0, 1) := by decide +kernel
theorem dL_isClosedSo_238 : decode cL_isClosedSo 238 = .ok (.goto 11, 3) := by decide +kernel
theorem dL_isClosedSo_241 : decode cL_isClosedSo 241 = .ok (.aload_n 0, 1) := by decide +kernel
theorem dL_isClosedSo_242 : decode cL_isClosedSo 242 = .ok (.iload 17, 2) := by decide +kernel
theorem dL_isClosedSo_244 : decode cL_isClosedSo 244 = .ok (.iload 8, 2) := by decide +kernel
theorem dL_isClosedSo_246 : decode cL_isClosedSo 246 = .ok (.invokevirtual 43, 3) := by decide +kernel
theorem dL_isClosedSo_249 : decode cL_isClosedSo 249 = .ok (.dstore 19, 2) := by decide +kernel
theorem dL_isClosedSo_251 : decode cL_isClosedSo 251 = .ok (.aload_n 0, 1) := by decide +kernel
theorem dL_isClosedSo_252 : decode cL_isClosedSo 252 = .ok (.iload 17, 2) := by decide +kernel
theorem dL_isClosedSo_254 : decode cL_isClosedSo 254 = .ok (.iload 8, 2) := by decide +kernel
theorem dL_isClosedSo_256 : decode cL_isClosedSo 256 = .ok (.invokevirtual 47, 3) := by decide +kernel
theorem dL_isClosedSo_259 : decode cL_isClosedSo 259 = .ok (.aload_n 0, 1) := by decide +kernel
theorem dL_isClosedSo_260 : decode cL_isClosedSo 260 = .ok (.iload 17, 2) := by decide +kernel
theorem dL_isClosedSo_262 : decode cL_isClosedSo 262 = .ok (.iload 8, 2) := by decide +kernel
theorem dL_isClosedSo_264 : decode cL_isClosedSo 264 = .ok (.invokevirtual 50, 3) := by decide +kernel
theorem dL_isClosedSo_267 : decode cL_isClosedSo 267 = .ok (.dadd, 1) := by decide +kernel
theorem dL_isClosedSo_268 : decode cL_isClosedSo 268 = .ok (.dstore 21, 2) := by decide +kernel
theorem dL_isClosedSo_270 : decode cL_isClosedSo 270 = .ok (.dload 13, 2) := by decide +kernel
theorem dL_isClosedSo_272 : decode cL_isClosedSo 272 = .ok (.dload 21, 2) := by decide +kernel
theorem dL_isClosedSo_274 : decode cL_isClosedSo 274 = .ok (.dsub, 1) := by decide +kernel
theorem dL_isClosedSo_275 : decode cL_isClosedSo 275 = .ok (.dstore 13, 2) := by decide +kernel
theorem dL_isClosedSo_277 : decode cL_isClosedSo 277 = .ok (.dload 15, 2) := by decide +kernel
theorem dL_isClosedSo_279 : decode cL_isClosedSo 279 = .ok (.dload 19, 2) := by decide +kernel
theorem dL_isClosedSo_281 : decode cL_isClosedSo 281 = .ok (.dadd, 1) := by decide +kernel
theorem dL_isClosedSo_282 : decode cL_isClosedSo 282 = .ok (.dstore 15, 2) := by decide +kernel
theorem dL_isClosedSo_284 : decode cL_isClosedSo 284 = .ok (.iload 18, 2) := by decide +kernel
theorem dL_isClosedSo_286 : decode cL_isClosedSo 286 = .ok (.ifCond .eq 22, 3) := by decide +kernel
theorem dL_isClosedSo_289 : decode cL_isClosedSo 289 = .ok (.iload 18, 2) := by decide +kernel
theorem dL_isClosedSo_291 : decode cL_isClosedSo 291 = .ok (.iconst 1, 1) := by decide +kernel
theorem dL_isClosedSo_292 : decode cL_isClosedSo 292 = .ok (.if_icmp .ne 82, 3) := by decide +kernel
theorem dL_isClosedSo_295 : decode cL_isClosedSo 295 = .ok (.aload_n 0, 1) := by decide +kernel
theorem dL_isClosedSo_296 : decode cL_isClosedSo 296 = .ok (.iload 17, 2) := by decide +kernel
theorem dL_isClosedSo_298 : decode cL_isClosedSo 298 = .ok (.iload 8, 2) := by decide +kernel
theorem dL_isClosedSo_300 : decode cL_isClosedSo 300 = .ok (.invokevirtual 43, 3) := by decide +kernel
theorem dL_isClosedSo_303 : decode cL_isClosedSo 303 = .ok (.dconst 0, 1) := by decide +kernel
theorem dL_isClosedSo_304 : decode cL_isClosedSo 304 = .ok (.dcmp .l, 1) := by decide +kernel
theorem dL_isClosedSo_305 : decode cL_isClosedSo 305 = .ok (.ifCond .le 69, 3) := by decide +kernel
theorem dL_isClosedSo_308 : decode cL_isClosedSo 308 = .ok (.dload 19, 2) := by decide +kernel
theorem dL_isClosedSo_310 : decode cL_isClosedSo 310 = .ok (.dload 21, 2) := by decide +kernel
theorem dL_isClosedSo_312 : decode cL_isClosedSo 312 = .ok (.aload_n 0, 1) := by decide +kernel
theorem dL_isClosedSo_313 : decode cL_isClosedSo 313 = .ok (.iload 17, 2) := by decide +kernel
theorem dL_isClosedSo_315 : decode cL_isClosedSo 315 = .ok (.iload 8, 2) := by decide +kernel
theorem dL_isClosedSo_317 : decode cL_isClosedSo 317 = .ok (.invokevirtual 53, 3) := by decide +kernel
theorem dL_isClosedSo_320 : decode cL_isClosedSo 320 = .ok (.dadd, 1) := by decide +kernel
theorem dL_isClosedSo_321 : decode cL_isClosedSo 321 = .ok (.invokestatic 94, 3) := by decide +kernel
theorem dL_isClosedSo_324 : decode cL_isClosedSo 324 = .ok (.ifCond .eq 50, 3) := by decide +kernel
theorem dL_isClosedSo_327 : decode cL_isClosedSo 327 = .ok (.aload_n 0, 1) := by decide +kernel
theorem dL_isClosedSo_328 : decode cL_isClosedSo 328 = .ok (.iload 17, 2) := by decide +kernel
theorem dL_isClosedSo_330 : decode cL_isClosedSo 330 = .ok (.invokevirtual 89, 3) := by decide +kernel
theorem dL_isClosedSo_333 : decode cL_isClosedSo 333 = .ok (.aload 10, 2) := by decide +kernel
theorem dL_isClosedSo_335 : decode cL_isClosedSo 335 = .ok (.iload 17, 2) := by decide +kernel
theorem dL_isClosedSo_337 : decode cL_isClosedSo 337 = .ok (.daload, 1) := by decide +kernel
theorem dL_isClosedSo_338 : decode cL_isClosedSo 338 = .ok (.aload_n 0, 1) := by decide +kernel
theorem dL_isClosedSo_339 : decode cL_isClosedSo 339 = .ok (.iload 17, 2) := by decide +kernel
theorem dL_isClosedSo_341 : decode cL_isClosedSo 341 = .ok (.iload 8, 2) := by decide +kernel
theorem dL_isClosedSo_343 : decode cL_isClosedSo 343 = .ok (.invokevirtual 53, 3) := by decide +kernel
theorem dL_isClosedSo_346 : decode cL_isClosedSo 346 = .ok (.dload 4, 2) := by decide +kernel
theorem dL_isClosedSo_348 : decode cL_isClosedSo 348 = .ok (.dmul, 1) := by decide +kernel
theorem dL_isClosedSo_349 : decode cL_isClosedSo 349 = .ok (.dadd, 1) := by decide +kernel
theorem dL_isClosedSo_350 : decode cL_isClosedSo 350 = .ok (.aload_n 0, 1) := by decide +kernel
theorem dL_isClosedSo_351 : decode cL_isClosedSo 351 = .ok (.iload 8, 2) := by decide +kernel
theorem dL_isClosedSo_353 : decode cL_isClosedSo 353 = .ok (.invokevirtual 56, 3) := by decide +kernel
theorem dL_isClosedSo_356 : decode cL_isClosedSo 356 = .ok (.dload 4, 2) := by decide +kernel
theorem dL_isClosedSo_358 : decode cL_isClosedSo 358 = .ok (.dmul, 1) := by decide +kernel
theorem dL_isClosedSo_359 : decode cL_isClosedSo 359 = .ok (.ldc2_w 98, 3) := by decide +kernel
theorem dL_isClosedSo_362 : decode cL_isClosedSo 362 = .ok (.ddiv, 1) := by decide +kernel
theorem dL_isClosedSo_363 : decode cL_isClosedSo 363 = .ok (.dsub, 1) := by decide +kernel
theorem dL_isClosedSo_364 : decode cL_isClosedSo 364 = .ok (.invokestatic 94, 3) := by decide +kernel
theorem dL_isClosedSo_367 : decode cL_isClosedSo 367 = .ok (.ifCond .eq 7, 3) := by decide +kernel
theorem dL_isClosedSo_370 : decode cL_isClosedSo 370 = .ok (.iconst 1, 1) := by decide +kernel
theorem dL_isClosedSo_371 : decode cL_isClosedSo 371 = .ok (.goto 4, 3) := by decide +kernel
theorem dL_isClosedSo_374 : decode cL_isClosedSo 374 = .ok (.iconst 0, 1) := by decide +kernel
theorem dL_isClosedSo_375 : decode cL_isClosedSo 375 = .ok (.istore 12, 2) := by decide +kernel
theorem dL_isClosedSo_377 : decode cL_isClosedSo 377 = .ok (.iinc 17 1, 3) := by decide +kernel
theorem dL_isClosedSo_380 : decode cL_isClosedSo 380 = .ok (.goto (-174), 3) := by decide +kernel
theorem dL_isClosedSo_383 : decode cL_isClosedSo 383 = .ok (.iload 12, 2) := by decide +kernel
theorem dL_isClosedSo_385 : decode cL_isClosedSo 385 = .ok (.ifCond .eq 55, 3) := by decide +kernel
theorem dL_isClosedSo_388 : decode cL_isClosedSo 388 = .ok (.dload 13, 2) := by decide +kernel
theorem dL_isClosedSo_390 : decode cL_isClosedSo 390 = .ok (.dconst 0, 1) := by decide +kernel
theorem dL_isClosedSo_391 : decode cL_isClosedSo 391 = .ok (.invokestatic 94, 3) := by decide +kernel
theorem dL_isClosedSo_394 : decode cL_isClosedSo 394 = .ok (.ifCond .eq 46, 3) := by decide +kernel
theorem dL_isClosedSo_397 : decode cL_isClosedSo 397 = .ok (.iload 11, 2) := by decide +kernel
theorem dL_isClosedSo_399 : decode cL_isClosedSo 399 = .ok (.iconst 1, 1) := by decide +kernel
theorem dL_isClosedSo_400 : decode cL_isClosedSo 400 = .ok (.if_icmp .ne 7, 3) := by decide +kernel
theorem dL_isClosedSo_403 : decode cL_isClosedSo 403 = .ok (.iconst 1, 1) := by decide +kernel
theorem dL_isClosedSo_404 : decode cL_isClosedSo 404 = .ok (.goto 4, 3) := by decide +kernel
theorem dL_isClosedSo_407 : decode cL_isClosedSo 407 = .ok (.iconst 0, 1) := by decide +kernel
theorem dL_isClosedSo_408 : decode cL_isClosedSo 408 = .ok (.dload 15, 2) := by decide +kernel
theorem dL_isClosedSo_410 : decode cL_isClosedSo 410 = .ok (.ldc2_w 100, 3) := by decide +kernel
theorem dL_isClosedSo_413 : decode cL_isClosedSo 413 = .ok (.dcmp .l, 1) := by decide +kernel
theorem dL_isClosedSo_414 : decode cL_isClosedSo 414 = .ok (.ifCond .le 7, 3) := by decide +kernel
theorem dL_isClosedSo_417 : decode cL_isClosedSo 417 = .ok (.iconst 1, 1) := by decide +kernel
theorem dL_isClosedSo_418 : decode cL_isClosedSo 418 = .ok (.goto 4, 3) := by decide +kernel
theorem dL_isClosedSo_421 : decode cL_isClosedSo 421 = .ok (.iconst 0, 1) := by decide +kernel
theorem dL_isClosedSo_422 : decode cL_isClosedSo 422 = .ok (.if_icmp .ne 18, 3) := by decide +kernel
theorem dL_isClosedSo_425 : decode cL_isClosedSo 425 = .ok (.aload_n 0, 1) := by decide +kernel
theorem dL_isClosedSo_426 : decode cL_isClosedSo 426 = .ok (.invokevirtual 74, 3) := by decide +kernel
theorem dL_isClosedSo_429 : decode cL_isClosedSo 429 = .ok (.iload 8, 2) := by decide +kernel
theorem dL_isClosedSo_431 : decode cL_isClosedSo 431 = .ok (.iconst 1, 1) := by decide +kernel
theorem dL_isClosedSo_432 : decode cL_isClosedSo 432 = .ok (.iadd, 1) := by decide +kernel
theorem dL_isClosedSo_433 : decode cL_isClosedSo 433 = .ok (.if_icmp .ne 7, 3) := by decide +kernel
theorem dL_isClosedSo_436 : decode cL_isClosedSo 436 = .ok (.iconst 1, 1) := by decide +kernel
theorem dL_isClosedSo_437 : decode cL_isClosedSo 437 = .ok (.goto 4, 3) := by decide +kernel
theorem dL_isClosedSo_440 : decode cL_isClosedSo 440 = .ok (.iconst 0, 1) := by decide +kernel
theorem dL_isClosedSo_441 : decode cL_isClosedSo 441 = .ok (.ireturn, 1) := by decide +kernel
set_option maxRecDepth 20000 in
theorem ggL_isReplacedSo_X1_bill : GoodIn wsL_isReplacedSo wsX1_bill := goodIn_ca (goodIn_r _ [8, 9, 10, 11, 7, 12, 13, 14, 81, 82, 83, 84, 85, 86, 87, 88, 89, 90, 91, 92] (by decide +kernel) (by decide +kernel)) (goodIn_sub (fun _ h => List.mem_cons_of_mem _ (List.mem_append_left _ (List.mem_append_left _ (List.mem_append_right _ h)))) (by decide +kernel))
set_option maxRecDepth 20000 in
theorem gL_isReplacedSo_X1_bill : GoodIn wsL_isReplacedSo (wsV RL 89 RX1 yX1_bill wsX1_bill) := goodIn_app (goodIn_of _ (by decide +kernel)) ggL_isReplacedSo_X1_bill
set_option maxRecDepth 20000 in
theorem ggL_isReplacedSo_L_looks : GoodIn wsL_isReplacedSo wsL_looks := goodIn_ca (goodIn_ca (goodIn_ca (goodIn_r _ [18, 19, 20, 21, 1, 22, 23, 24, 7, 25, 26, 27, 28, 29, 30, 13, 14, 31, 32, 33, 34, 35, 36, 37, 38, 39, 40, 41, 9, 10, 11, 12, 42, 43, 44, 45, 46, 47, 48, 49, 50, 51, 52, 53, 54, 55, 56, 57, 58, 59, 60, 61, 62, 63, 64, 65, 66, 67, 68, 69, 70, 71, 72, 73, 74, 75, 76, 77, 78, 79, 80, 81, 82, 83, 84, 85, 86, 87, 88, 89, 90, 91, 92, 93, 94, 95, 96, 97, 98, 99, 100, 101] (by decide +kernel) (by decide +kernel)) (goodIn_sub (fun _ h => List.mem_cons_of_mem _ (List.mem_append_left _ (List.mem_append_left _ (List.mem_append_right _ h)))) (by decide +kernel))) (goodIn_sub (fun _ h => List.mem_cons_of_mem _ (List.mem_append_left _ (List.mem_append_right _ h))) (by decide +kernel))) (goodIn_sub (fun _ h => List.mem_cons_of_mem _ (List.mem_append_right _ h)) (by decide +kernel))
set_option maxRecDepth 20000 in
theorem gL_isReplacedSo_L_looks : GoodIn wsL_isReplacedSo (va_wsS RL 78 yL_looks wsL_looks) := goodIn_app (goodIn_of _ (by decide +kernel)) ggL_isReplacedSo_L_looks
set_option maxRecDepth 20000 in
theorem ggL_isReplacedSo_X1_use : GoodIn wsL_isReplacedSo wsX1_use := goodIn_ca (goodIn_ca (goodIn_r _ [56, 37, 39, 57, 58, 59, 7, 60, 10, 11, 12, 13, 14, 42, 43, 44, 45, 46, 47, 48, 49, 50, 51, 52, 81, 82, 83, 84, 85, 86, 87, 88, 89, 90, 91, 92, 93, 94, 95, 96, 97, 98, 99, 100, 101] (by decide +kernel) (by decide +kernel)) (goodIn_sub (fun _ h => List.mem_cons_of_mem _ (List.mem_append_left _ (List.mem_append_left _ (List.mem_append_right _ h)))) (by decide +kernel))) (goodIn_sub (fun _ h => List.mem_cons_of_mem _ (List.mem_append_right _ h)) (by decide +kernel))
set_option maxRecDepth 20000 in
theorem gL_isReplacedSo_X1_use : GoodIn wsL_isReplacedSo (wsV RL 43 RX1 yX1_use wsX1_use) := goodIn_app (goodIn_of _ (by decide +kernel)) ggL_isReplacedSo_X1_use
theorem dL_isReplacedSo_0 : decode cL_isReplacedSo 0 = .ok (.aload_n 0, 1) := by decide +kernel
theorem dL_isReplacedSo_1 : decode cL_isReplacedSo 1 = .ok (.iload_n 2, 1) := by decide +kernel
theorem dL_isReplacedSo_2 : decode cL_isReplacedSo 2 = .ok (.invokevirtual 89, 3) := by decide +kernel
theorem dL_isReplacedSo_5 : decode cL_isReplacedSo 5 = .ok (.dstore 5, 2) := by decide +kernel
theorem dL_isReplacedSo_7 : decode cL_isReplacedSo 7 = .ok (.aload_n 0, 1) := by decide +kernel
theorem dL_isReplacedSo_8 : decode cL_isReplacedSo 8 = .ok (.iconst 2, 1) := by decide +kernel
theorem dL_isReplacedSo_9 : decode cL_isReplacedSo 9 = .ok (.iload_n 2, 1) := by decide +kernel
theorem dL_isReplacedSo_10 : decode cL_isReplacedSo 10 = .ok (.iload_n 3, 1) := by decide +kernel
theorem dL_isReplacedSo_11 : decode cL_isReplacedSo 11 = .ok (.iconst 0, 1) := by decide +kernel
theorem dL_isReplacedSo_12 : decode cL_isReplacedSo 12 = .ok (.invokestatic 78, 3) := by decide +kernel
theorem dL_isReplacedSo_15 : decode cL_isReplacedSo 15 = .ok (.dstore 7, 2) := by decide +kernel
theorem dL_isReplacedSo_17 : decode cL_isReplacedSo 17 = .ok (.aload_n 0, 1) := by decide +kernel
theorem dL_isReplacedSo_18 : decode cL_isReplacedSo 18 = .ok (.iconst 5, 1) := by decide +kernel
theorem dL_isReplacedSo_19 : decode cL_isReplacedSo 19 = .ok (.iload_n 2, 1) := by decide +kernel
theorem dL_isReplacedSo_20 : decode cL_isReplacedSo 20 = .ok (.iload_n 3, 1) := by decide +kernel
theorem dL_isReplacedSo_21 : decode cL_isReplacedSo 21 = .ok (.iconst 0, 1) := by decide +kernel
theorem dL_isReplacedSo_22 : decode cL_isReplacedSo 22 = .ok (.invokestatic 78, 3) := by decide +kernel
theorem dL_isReplacedSo_25 : decode cL_isReplacedSo 25 = .ok (.dstore 9, 2) := by decide +kernel
theorem dL_isReplacedSo_27 : decode cL_isReplacedSo 27 = .ok (.aload_n 0, 1) := by decide +kernel
theorem dL_isReplacedSo_28 : decode cL_isReplacedSo 28 = .ok (.iconst 1, 1) := by decide +kernel
theorem dL_isReplacedSo_29 : decode cL_isReplacedSo 29 = .ok (.iload_n 2, 1) := by decide +kernel
theorem dL_isReplacedSo_30 : decode cL_isReplacedSo 30 = .ok (.iload_n 3, 1) := by decide +kernel
theorem dL_isReplacedSo_31 : decode cL_isReplacedSo 31 = .ok (.iload 4, 2) := by decide +kernel
theorem dL_isReplacedSo_33 : decode cL_isReplacedSo 33 = .ok (.invokestatic 78, 3) := by decide +kernel
theorem dL_isReplacedSo_36 : decode cL_isReplacedSo 36 = .ok (.dstore 11, 2) := by decide +kernel
theorem dL_isReplacedSo_38 : decode cL_isReplacedSo 38 = .ok (.aload_n 1, 1) := by decide +kernel
theorem dL_isReplacedSo_39 : decode cL_isReplacedSo 39 = .ok (.iconst 1, 1) := by decide +kernel
theorem dL_isReplacedSo_40 : decode cL_isReplacedSo 40 = .ok (.iload_n 2, 1) := by decide +kernel
theorem dL_isReplacedSo_41 : decode cL_isReplacedSo 41 = .ok (.iload_n 3, 1) := by decide +kernel
theorem dL_isReplacedSo_42 : decode cL_isReplacedSo 42 = .ok (.iload 4, 2) := by decide +kernel
theorem dL_isReplacedSo_44 : decode cL_isReplacedSo 44 = .ok (.invokestatic 78, 3) := by decide +kernel
theorem dL_isReplacedSo_47 : decode cL_isReplacedSo 47 = .ok (.dload 11, 2) := by decide +kernel
theorem dL_isReplacedSo_49 : decode cL_isReplacedSo 49 = .ok (.dcmp .l, 1) := by decide +kernel
theorem dL_isReplacedSo_50 : decode cL_isReplacedSo 50 = .ok (.ifCond .ne 7, 3) := by decide +kernel
theorem dL_isReplacedSo_53 : decode cL_isReplacedSo 53 = .ok (.iconst 1, 1) := by decide +kernel
theorem dL_isReplacedSo_54 : decode cL_isReplacedSo 54 = .ok (.goto 4, 3) := by decide +kernel
theorem dL_isReplacedSo_57 : decode cL_isReplacedSo 57 = .ok (.iconst 0, 1) := by decide +kernel
theorem dL_isReplacedSo_58 : decode cL_isReplacedSo 58 = .ok (.istore 13, 2) := by decide +kernel
theorem dL_isReplacedSo_60 : decode cL_isReplacedSo 60 = .ok (.dload 11, 2) := by decide +kernel
theorem dL_isReplacedSo_62 : decode cL_isReplacedSo 62 = .ok (.ldc2_w 61, 3) := by decide +kernel
theorem dL_isReplacedSo_65 : decode cL_isReplacedSo 65 = .ok (.dcmp .l, 1) := by decide +kernel
theorem dL_isReplacedSo_66 : decode cL_isReplacedSo 66 = .ok (.ifCond .ne 39, 3) := by decide +kernel
theorem dL_isReplacedSo_69 : decode cL_isReplacedSo 69 = .ok (.iload 13, 2) := by decide +kernel
theorem dL_isReplacedSo_71 : decode cL_isReplacedSo 71 = .ok (.ifCond .eq 32, 3) := by decide +kernel
theorem dL_isReplacedSo_74 : decode cL_isReplacedSo 74 = .ok (.aload_n 0, 1) := by decide +kernel
theorem dL_isReplacedSo_75 : decode cL_isReplacedSo 75 = .ok (.iload_n 2, 1) := by decide +kernel
theorem dL_isReplacedSo_76 : decode cL_isReplacedSo 76 = .ok (.invokevirtual 89, 3) := by decide +kernel
theorem dL_isReplacedSo_79 : decode cL_isReplacedSo 79 = .ok (.dload 5, 2) := by decide +kernel
theorem dL_isReplacedSo_81 : decode cL_isReplacedSo 81 = .ok (.dcmp .l, 1) := by decide +kernel
theorem dL_isReplacedSo_82 : decode cL_isReplacedSo 82 = .ok (.ifCond .ne 21, 3) := by decide +kernel
theorem dL_isReplacedSo_85 : decode cL_isReplacedSo 85 = .ok (.aload_n 0, 1) := by decide +kernel
theorem dL_isReplacedSo_86 : decode cL_isReplacedSo 86 = .ok (.iconst 2, 1) := by decide +kernel
theorem dL_isReplacedSo_87 : decode cL_isReplacedSo 87 = .ok (.iload_n 2, 1) := by decide +kernel
theorem dL_isReplacedSo_88 : decode cL_isReplacedSo 88 = .ok (.iload_n 3, 1) := by decide +kernel
theorem dL_isReplacedSo_89 : decode cL_isReplacedSo 89 = .ok (.iconst 0, 1) := by decide +kernel
theorem dL_isReplacedSo_90 : decode cL_isReplacedSo 90 = .ok (.invokestatic 78, 3) := by decide +kernel
theorem dL_isReplacedSo_93 : decode cL_isReplacedSo 93 = .ok (.dload 7, 2) := by decide +kernel
theorem dL_isReplacedSo_95 : decode cL_isReplacedSo 95 = .ok (.dcmp .l, 1) := by decide +kernel
theorem dL_isReplacedSo_96 : decode cL_isReplacedSo 96 = .ok (.ifCond .ne 7, 3) := by decide +kernel
theorem dL_isReplacedSo_99 : decode cL_isReplacedSo 99 = .ok (.iconst 1, 1) := by decide +kernel
theorem dL_isReplacedSo_100 : decode cL_isReplacedSo 100 = .ok (.goto 4, 3) := by decide +kernel
theorem dL_isReplacedSo_103 : decode cL_isReplacedSo 103 = .ok (.iconst 0, 1) := by decide +kernel
theorem dL_isReplacedSo_104 : decode cL_isReplacedSo 104 = .ok (.ireturn, 1) := by decide +kernel
theorem dL_isReplacedSo_105 : decode cL_isReplacedSo 105 = .ok (.iload 13, 2) := by decide +kernel
theorem dL_isReplacedSo_107 : decode cL_isReplacedSo 107 = .ok (.ifCond .eq 82, 3) := by decide +kernel
theorem dL_isReplacedSo_110 : decode cL_isReplacedSo 110 = .ok (.aload_n 0, 1) := by decide +kernel
theorem dL_isReplacedSo_111 : decode cL_isReplacedSo 111 = .ok (.iload_n 2, 1) := by decide +kernel
theorem dL_isReplacedSo_112 : decode cL_isReplacedSo 112 = .ok (.invokevirtual 89, 3) := by decide +kernel
theorem dL_isReplacedSo_115 : decode cL_isReplacedSo 115 = .ok (.dload 5, 2) := by decide +kernel
theorem dL_isReplacedSo_117 : decode cL_isReplacedSo 117 = .ok (.dload 11, 2) := by decide +kernel
theorem dL_isReplacedSo_119 : decode cL_isReplacedSo 119 = .ok (.dadd, 1) := by decide +kernel
theorem dL_isReplacedSo_120 : decode cL_isReplacedSo 120 = .ok (.dcmp .l, 1) := by decide +kernel
theorem dL_isReplacedSo_121 : decode cL_isReplacedSo 121 = .ok (.ifCond .ne 68, 3) := by decide +kernel
theorem dL_isReplacedSo_124 : decode cL_isReplacedSo 124 = .ok (.aload_n 0, 1) := by decide +kernel
theorem dL_isReplacedSo_125 : decode cL_isReplacedSo 125 = .ok (.iload_n 2, 1) := by decide +kernel
theorem dL_isReplacedSo_126 : decode cL_isReplacedSo 126 = .ok (.iload_n 3, 1) := by decide +kernel
theorem dL_isReplacedSo_127 : decode cL_isReplacedSo 127 = .ok (.invokevirtual 43, 3) := by decide +kernel
theorem dL_isReplacedSo_130 : decode cL_isReplacedSo 130 = .ok (.iload 4, 2) := by decide +kernel
theorem dL_isReplacedSo_132 : decode cL_isReplacedSo 132 = .ok (.i2d, 1) := by decide +kernel
theorem dL_isReplacedSo_133 : decode cL_isReplacedSo 133 = .ok (.dcmp .l, 1) := by decide +kernel
theorem dL_isReplacedSo_134 : decode cL_isReplacedSo 134 = .ok (.ifCond .ne 55, 3) := by decide +kernel
theorem dL_isReplacedSo_137 : decode cL_isReplacedSo 137 = .ok (.aload_n 0, 1) := by decide +kernel
theorem dL_isReplacedSo_138 : decode cL_isReplacedSo 138 = .ok (.iconst 5, 1) := by decide +kernel
theorem dL_isReplacedSo_139 : decode cL_isReplacedSo 139 = .ok (.iload_n 2, 1) := by decide +kernel
theorem dL_isReplacedSo_140 : decode cL_isReplacedSo 140 = .ok (.iload_n 3, 1) := by decide +kernel
theorem dL_isReplacedSo_141 : decode cL_isReplacedSo 141 = .ok (.iconst 0, 1) := by decide +kernel
theorem dL_isReplacedSo_142 : decode cL_isReplacedSo 142 = .ok (.invokestatic 78, 3) := by decide +kernel
theorem dL_isReplacedSo_145 : decode cL_isReplacedSo 145 = .ok (.dload 9, 2) := by decide +kernel
theorem dL_isReplacedSo_147 : decode cL_isReplacedSo 147 = .ok (.dcmp .l, 1) := by decide +kernel
theorem dL_isReplacedSo_148 : decode cL_isReplacedSo 148 = .ok (.ifCond .ne 41, 3) := by decide +kernel
theorem dL_isReplacedSo_151 : decode cL_isReplacedSo 151 = .ok (.dload 11, 2) := by decide +kernel
theorem dL_isReplacedSo_153 : decode cL_isReplacedSo 153 = .ok (.ldc2_w 102, 3) := by decide +kernel
theorem dL_isReplacedSo_156 : decode cL_isReplacedSo 156 = .ok (.dcmp .g, 1) := by decide +kernel
theorem dL_isReplacedSo_157 : decode cL_isReplacedSo 157 = .ok (.ifCond .gt 32, 3) := by decide +kernel
theorem dL_isReplacedSo_160 : decode cL_isReplacedSo 160 = .ok (.dload 11, 2) := by decide +kernel
theorem dL_isReplacedSo_162 : decode cL_isReplacedSo 162 = .ok (.ldc2_w 104, 3) := by decide +kernel
theorem dL_isReplacedSo_165 : decode cL_isReplacedSo 165 = .ok (.dcmp .l, 1) := by decide +kernel
theorem dL_isReplacedSo_166 : decode cL_isReplacedSo 166 = .ok (.ifCond .lt 23, 3) := by decide +kernel
theorem dL_isReplacedSo_169 : decode cL_isReplacedSo 169 = .ok (.aload_n 0, 1) := by decide +kernel
theorem dL_isReplacedSo_170 : decode cL_isReplacedSo 170 = .ok (.iconst 1, 1) := by decide +kernel
theorem dL_isReplacedSo_171 : decode cL_isReplacedSo 171 = .ok (.iload_n 2, 1) := by decide +kernel
theorem dL_isReplacedSo_172 : decode cL_isReplacedSo 172 = .ok (.iload_n 3, 1) := by decide +kernel
theorem dL_isReplacedSo_173 : decode cL_isReplacedSo 173 = .ok (.iload 4, 2) := by decide +kernel
theorem dL_isReplacedSo_175 : decode cL_isReplacedSo 175 = .ok (.invokestatic 78, 3) := by decide +kernel
theorem dL_isReplacedSo_178 : decode cL_isReplacedSo 178 = .ok (.ldc2_w 61, 3) := by decide +kernel
theorem dL_isReplacedSo_181 : decode cL_isReplacedSo 181 = .ok (.dcmp .l, 1) := by decide +kernel
theorem dL_isReplacedSo_182 : decode cL_isReplacedSo 182 = .ok (.ifCond .ne 7, 3) := by decide +kernel
theorem dL_isReplacedSo_185 : decode cL_isReplacedSo 185 = .ok (.iconst 1, 1) := by decide +kernel
theorem dL_isReplacedSo_186 : decode cL_isReplacedSo 186 = .ok (.goto 4, 3) := by decide +kernel
theorem dL_isReplacedSo_189 : decode cL_isReplacedSo 189 = .ok (.iconst 0, 1) := by decide +kernel
theorem dL_isReplacedSo_190 : decode cL_isReplacedSo 190 = .ok (.ireturn, 1) := by decide +kernel
set_option maxRecDepth 20000 in
theorem ggL_law_X1_init : GoodIn wsL_law wsX1_init := goodIn_r _ [6, 7, 8, 9, 10, 11, 12, 13, 14, 15, 16, 17, 18, 19, 20, 21, 22, 23, 24, 25, 26, 27, 28, 29, 30, 31, 32, 33, 34, 35, 36, 37, 38, 39, 40, 248, 249, 250, 251, 252, 253, 254, 255, 256, 257, 258, 259, 260, 261, 262, 263, 264, 265, 266, 267, 268] (by decide +kernel) (by decide +kernel)
set_option maxRecDepth 20000 in
theorem gL_law_X1_init : GoodIn wsL_law (wsX1_init) := ggL_law_X1_init
set_option maxRecDepth 20000 in
theorem ggL_law_L_cell : GoodIn wsL_law wsL_cell := goodIn_r _ [44] (by decide +kernel) (by decide +kernel)
set_option maxRecDepth 20000 in
theorem gL_law_L_cell : GoodIn wsL_law (va_wsS RL 107 yL_cell wsL_cell) := goodIn_app (goodIn_of _ (by decide +kernel)) ggL_law_L_cell
set_option maxRecDepth 20000 in
theorem ggL_law_L_act : GoodIn wsL_law wsL_act := goodIn_ca (goodIn_ca (goodIn_ca (goodIn_r _ [47, 48, 49, 43, 50, 51, 52, 53, 54, 55, 56, 57, 58, 59, 60, 2, 61, 62, 63, 11, 64, 65, 66, 67, 68, 69, 70, 71, 72, 73, 74, 75, 76, 77, 78, 79, 13, 80, 81, 82, 83, 17, 18, 84, 85, 86, 87, 22, 88, 89, 24, 28, 90, 91, 92, 93, 94, 95, 27, 96, 97, 21, 98, 99, 100, 101, 102, 32, 36, 35, 103, 104, 105, 106, 107, 108, 14, 109, 110, 111, 112, 113, 114, 115, 116, 117, 118, 119, 120, 121, 122, 123, 124, 125, 126, 127, 128, 129, 130, 131, 132, 133, 134, 135, 136, 137, 138, 139, 140, 141, 142, 143, 144, 145, 146, 147, 148, 25, 149, 150, 151, 152, 153, 26, 154, 155, 156, 157, 158, 159, 160, 161, 162, 163, 164, 165, 166, 167, 16, 168, 169, 170, 171, 172, 173, 174, 175, 176, 177, 178, 179, 3, 180, 181, 182, 183, 184, 185, 186, 187, 188, 189, 190, 191, 192, 193, 194, 195, 196, 197, 198, 199, 200, 201, 202, 203, 204, 205, 206, 207, 208, 209, 210, 211, 212, 213, 214, 215, 216, 217, 248, 249, 250, 251, 252, 253, 254, 255, 256, 257, 258, 259, 260, 261, 262, 263, 264, 265, 266, 267, 268] (by decide +kernel) (by decide +kernel)) (goodIn_sub (fun _ h => List.mem_append_left _ (List.mem_append_left _ (List.mem_append_right _ h))) (by decide +kernel))) (goodIn_sub (fun _ h => List.mem_append_left _ (List.mem_append_right _ h)) (by decide +kernel))) (goodIn_sub (fun _ h => List.mem_append_right _ h) (by decide +kernel))
set_option maxRecDepth 20000 in
theorem gL_law_L_act : GoodIn wsL_law (va_wsS RL 111 yL_act wsL_act) := goodIn_app (goodIn_of _ (by decide +kernel)) ggL_law_L_act
set_option maxRecDepth 20000 in
theorem ggL_law_X1_closed : GoodIn wsL_law wsX1_closed := goodIn_r _ [175, 22, 88, 248, 249, 250, 251, 252, 253, 254, 255, 256, 257, 258, 259, 260, 261, 262, 263, 264, 265, 266, 267, 268] (by decide +kernel) (by decide +kernel)
set_option maxRecDepth 20000 in
theorem gL_law_X1_closed : GoodIn wsL_law (wsV RL 74 RX1 yX1_closed wsX1_closed) := goodIn_app (goodIn_of _ (by decide +kernel)) ggL_law_X1_closed
set_option maxRecDepth 20000 in
theorem ggL_law_L_low : GoodIn wsL_law wsL_low := goodIn_r _ [50, 51] (by decide +kernel) (by decide +kernel)
set_option maxRecDepth 20000 in
theorem gL_law_L_low : GoodIn wsL_law (va_wsS RL 65 yL_low wsL_low) := goodIn_app (goodIn_of _ (by decide +kernel)) ggL_law_L_low
set_option maxRecDepth 20000 in
theorem ggL_law_L_areAlike : GoodIn wsL_law wsL_areAlike := goodIn_ca (goodIn_ca (goodIn_ca (goodIn_r _ [220, 172, 173, 174, 2, 175, 22, 88, 221, 222, 223, 224, 25, 225, 226, 227, 228, 26, 176, 177, 43, 178, 179, 55, 56, 3, 180, 181, 182, 183, 131, 24, 69, 70, 71, 67, 68, 184, 185, 186, 187, 62, 63, 94, 95, 126, 89, 16, 64, 65, 66, 188, 189, 190, 191, 192, 193, 96, 97, 21, 98, 194, 195, 196, 197, 198, 199, 200, 201, 202, 203, 204, 205, 139, 206, 207, 208, 209, 154, 210, 211, 212, 213, 167, 214, 215, 216, 217, 149, 229, 230, 231, 232, 168, 169, 170, 171, 14, 248, 249, 250, 251, 252, 253, 254, 255, 256, 257, 258, 259, 260, 261, 262, 263, 264, 265, 266, 267, 268] (by decide +kernel) (by decide +kernel)) (goodIn_sub (fun _ h => List.mem_append_left _ (List.mem_append_right _ h)) (by decide +kernel))) (goodIn_sub (fun _ h => List.mem_append_left _ (List.mem_append_left _ (List.mem_append_right _ h))) (by decide +kernel))) (goodIn_sub (fun _ h => List.mem_append_right _ h) (by decide +kernel))
set_option maxRecDepth 20000 in
theorem gL_law_L_areAlike : GoodIn wsL_law (va_wsS RL 115 yL_areAlike wsL_areAlike) := goodIn_app (goodIn_of _ (by decide +kernel)) ggL_law_L_areAlike
set_option maxRecDepth 20000 in
theorem ggL_law_L_isClosedSo : GoodIn wsL_law wsL_isClosedSo := goodIn_ca (goodIn_ca (goodIn_ca (goodIn_r _ [235, 10, 15, 236, 57, 237, 238, 180, 181, 182, 2, 183, 131, 24, 69, 70, 71, 67, 68, 221, 222, 223, 224, 25, 172, 173, 174, 175, 22, 88, 168, 169, 170, 171, 14, 64, 65, 66, 229, 230, 231, 232, 16, 52, 53, 43, 54, 55, 56, 58, 59, 60, 61, 62, 63, 11, 72, 73, 74, 75, 76, 77, 78, 79, 13, 80, 81, 82, 83, 17, 18, 84, 85, 86, 87, 89, 28, 90, 91, 92, 93, 94, 95, 27, 96, 97, 21, 98, 99, 100, 101, 102, 32, 36, 35, 103, 104, 105, 106, 107, 108, 109, 110, 111, 112, 113, 114, 115, 116, 117, 118, 119, 120, 121, 122, 123, 124, 125, 126, 127, 128, 129, 130, 132, 133, 134, 135, 136, 137, 138, 139, 140, 141, 142, 143, 144, 145, 146, 147, 148, 149, 150, 151, 152, 153, 26, 154, 155, 156, 157, 158, 159, 160, 161, 162, 163, 164, 165, 166, 167, 214, 215, 216, 217, 188, 189, 190, 191, 192, 193, 194, 195, 196, 197, 198, 199, 200, 201, 202, 203, 204, 205, 206, 207, 208, 209, 210, 211, 212, 213, 239, 240, 241, 242, 248, 249, 250, 251, 252, 253, 254, 255, 256, 257, 258, 259, 260, 261, 262, 263, 264, 265, 266, 267, 268] (by decide +kernel) (by decide +kernel)) (goodIn_sub (fun _ h => List.mem_append_left _ (List.mem_append_right _ h)) (by decide +kernel))) (goodIn_sub (fun _ h => List.mem_append_left _ (List.mem_append_left _ (List.mem_append_right _ h))) (by decide +kernel))) (goodIn_sub (fun _ h => List.mem_append_right _ h) (by decide +kernel))
set_option maxRecDepth 20000 in
theorem gL_law_L_isClosedSo : GoodIn wsL_law (va_wsS RL 119 yL_isClosedSo wsL_isClosedSo) := goodIn_app (goodIn_of _ (by decide +kernel)) ggL_law_L_isClosedSo
set_option maxRecDepth 20000 in
theorem ggL_law_L_isReplacedSo : GoodIn wsL_law wsL_isReplacedSo := goodIn_ca (goodIn_ca (goodIn_ca (goodIn_r _ [245, 3, 246, 247, 229, 230, 231, 2, 232, 16, 64, 65, 66, 67, 68, 176, 177, 43, 178, 179, 55, 56, 180, 181, 182, 183, 131, 24, 69, 70, 71, 184, 185, 186, 187, 62, 63, 22, 94, 95, 126, 89, 188, 189, 190, 191, 192, 193, 88, 96, 97, 21, 98, 194, 195, 196, 197, 198, 199, 200, 201, 202, 203, 204, 205, 139, 206, 207, 208, 209, 154, 210, 211, 212, 213, 167, 214, 215, 216, 217, 149, 248, 249, 250, 251, 252, 253, 254, 255, 256, 257, 258, 259, 260, 261, 262, 263, 264, 265, 266, 267, 268] (by decide +kernel) (by decide +kernel)) (goodIn_sub (fun _ h => List.mem_append_left _ (List.mem_append_right _ h)) (by decide +kernel))) (goodIn_sub (fun _ h => List.mem_append_left _ (List.mem_append_left _ (List.mem_append_right _ h))) (by decide +kernel))) (goodIn_sub (fun _ h => List.mem_append_right _ h) (by decide +kernel))
set_option maxRecDepth 20000 in
theorem gL_law_L_isReplacedSo : GoodIn wsL_law (va_wsS RL 123 yL_isReplacedSo wsL_isReplacedSo) := goodIn_app (goodIn_of _ (by decide +kernel)) ggL_law_L_isReplacedSo
theorem dL_law_0 : decode cL_law 0 = .ok (.new 9, 3) := by decide +kernel
theorem dL_law_3 : decode cL_law 3 = .ok (.dup, 1) := by decide +kernel
theorem dL_law_4 : decode cL_law 4 = .ok (.invokespecial 106, 3) := by decide +kernel
theorem dL_law_7 : decode cL_law 7 = .ok (.astore_n 1, 1) := by decide +kernel
theorem dL_law_8 : decode cL_law 8 = .ok (.new 9, 3) := by decide +kernel
theorem dL_law_11 : decode cL_law 11 = .ok (.dup, 1) := by decide +kernel
theorem dL_law_12 : decode cL_law 12 = .ok (.invokespecial 106, 3) := by decide +kernel
theorem dL_law_15 : decode cL_law 15 = .ok (.astore_n 2, 1) := by decide +kernel
theorem dL_law_16 : decode cL_law 16 = .ok (.iconst 1, 1) := by decide +kernel
theorem dL_law_17 : decode cL_law 17 = .ok (.istore_n 3, 1) := by decide +kernel
theorem dL_law_18 : decode cL_law 18 = .ok (.iconst 0, 1) := by decide +kernel
theorem dL_law_19 : decode cL_law 19 = .ok (.istore 4, 2) := by decide +kernel
theorem dL_law_21 : decode cL_law 21 = .ok (.iload 4, 2) := by decide +kernel
theorem dL_law_23 : decode cL_law 23 = .ok (.bipush 110, 2) := by decide +kernel
theorem dL_law_25 : decode cL_law 25 = .ok (.if_icmp .ge 219, 3) := by decide +kernel
theorem dL_law_28 : decode cL_law 28 = .ok (.iload_n 3, 1) := by decide +kernel
theorem dL_law_29 : decode cL_law 29 = .ok (.ifCond .eq 215, 3) := by decide +kernel
theorem dL_law_32 : decode cL_law 32 = .ok (.aload_n 0, 1) := by decide +kernel
theorem dL_law_33 : decode cL_law 33 = .ok (.iload 4, 2) := by decide +kernel
theorem dL_law_35 : decode cL_law 35 = .ok (.bipush 61, 2) := by decide +kernel
theorem dL_law_37 : decode cL_law 37 = .ok (.irem, 1) := by decide +kernel
theorem dL_law_38 : decode cL_law 38 = .ok (.invokestatic 107, 3) := by decide +kernel
theorem dL_law_41 : decode cL_law 41 = .ok (.sipush 1307, 3) := by decide +kernel
theorem dL_law_44 : decode cL_law 44 = .ok (.iload 4, 2) := by decide +kernel
theorem dL_law_46 : decode cL_law 46 = .ok (.bipush 61, 2) := by decide +kernel
theorem dL_law_48 : decode cL_law 48 = .ok (.idiv, 1) := by decide +kernel
theorem dL_law_49 : decode cL_law 49 = .ok (.imul, 1) := by decide +kernel
theorem dL_law_50 : decode cL_law 50 = .ok (.iadd, 1) := by decide +kernel
theorem dL_law_51 : decode cL_law 51 = .ok (.istore 5, 2) := by decide +kernel
theorem dL_law_53 : decode cL_law 53 = .ok (.aload_n 1, 1) := by decide +kernel
theorem dL_law_54 : decode cL_law 54 = .ok (.iload 5, 2) := by decide +kernel
theorem dL_law_56 : decode cL_law 56 = .ok (.invokestatic 111, 3) := by decide +kernel
theorem dL_law_59 : decode cL_law 59 = .ok (.dstore 6, 2) := by decide +kernel
theorem dL_law_61 : decode cL_law 61 = .ok (.dload 6, 2) := by decide +kernel
theorem dL_law_63 : decode cL_law 63 = .ok (.ldc2_w 61, 3) := by decide +kernel
theorem dL_law_66 : decode cL_law 66 = .ok (.dcmp .l, 1) := by decide +kernel
theorem dL_law_67 : decode cL_law 67 = .ok (.ifCond .eq 15, 3) := by decide +kernel
theorem dL_law_70 : decode cL_law 70 = .ok (.aload_n 2, 1) := by decide +kernel
theorem dL_law_71 : decode cL_law 71 = .ok (.iload 5, 2) := by decide +kernel
theorem dL_law_73 : decode cL_law 73 = .ok (.invokestatic 111, 3) := by decide +kernel
theorem dL_law_76 : decode cL_law 76 = .ok (.dload 6, 2) := by decide +kernel
theorem dL_law_78 : decode cL_law 78 = .ok (.dcmp .l, 1) := by decide +kernel
theorem dL_law_79 : decode cL_law 79 = .ok (.ifCond .ne 37, 3) := by decide +kernel
theorem dL_law_82 : decode cL_law 82 = .ok (.iload 4, 2) := by decide +kernel
theorem dL_law_84 : decode cL_law 84 = .ok (.iconst 5, 1) := by decide +kernel
theorem dL_law_85 : decode cL_law 85 = .ok (.irem, 1) := by decide +kernel
theorem dL_law_86 : decode cL_law 86 = .ok (.iconst 3, 1) := by decide +kernel
theorem dL_law_87 : decode cL_law 87 = .ok (.if_icmp .ne 25, 3) := by decide +kernel
theorem dL_law_90 : decode cL_law 90 = .ok (.aload_n 1, 1) := by decide +kernel
theorem dL_law_91 : decode cL_law 91 = .ok (.aload_n 2, 1) := by decide +kernel
theorem dL_law_92 : decode cL_law 92 = .ok (.iload 5, 2) := by decide +kernel
theorem dL_law_94 : decode cL_law 94 = .ok (.bipush 6, 2) := by decide +kernel
theorem dL_law_96 : decode cL_law 96 = .ok (.ishr, 1) := by decide +kernel
theorem dL_law_97 : decode cL_law 97 = .ok (.aload_n 1, 1) := by decide +kernel
theorem dL_law_98 : decode cL_law 98 = .ok (.invokevirtual 74, 3) := by decide +kernel
theorem dL_law_101 : decode cL_law 101 = .ok (.iconst 1, 1) := by decide +kernel
theorem dL_law_102 : decode cL_law 102 = .ok (.iadd, 1) := by decide +kernel
theorem dL_law_103 : decode cL_law 103 = .ok (.invokestatic 65, 3) := by decide +kernel
theorem dL_law_106 : decode cL_law 106 = .ok (.invokestatic 115, 3) := by decide +kernel
theorem dL_law_109 : decode cL_law 109 = .ok (.ifCond .eq 7, 3) := by decide +kernel
theorem dL_law_112 : decode cL_law 112 = .ok (.iconst 1, 1) := by decide +kernel
theorem dL_law_113 : decode cL_law 113 = .ok (.goto 4, 3) := by decide +kernel
theorem dL_law_116 : decode cL_law 116 = .ok (.iconst 0, 1) := by decide +kernel
theorem dL_law_117 : decode cL_law 117 = .ok (.istore_n 3, 1) := by decide +kernel
theorem dL_law_118 : decode cL_law 118 = .ok (.iload 4, 2) := by decide +kernel
theorem dL_law_120 : decode cL_law 120 = .ok (.bipush 6, 2) := by decide +kernel
theorem dL_law_122 : decode cL_law 122 = .ok (.irem, 1) := by decide +kernel
theorem dL_law_123 : decode cL_law 123 = .ok (.iconst 5, 1) := by decide +kernel
theorem dL_law_124 : decode cL_law 124 = .ok (.if_icmp .ne 54, 3) := by decide +kernel
theorem dL_law_127 : decode cL_law 127 = .ok (.iload_n 3, 1) := by decide +kernel
theorem dL_law_128 : decode cL_law 128 = .ok (.ifCond .eq 48, 3) := by decide +kernel
theorem dL_law_131 : decode cL_law 131 = .ok (.aload_n 1, 1) := by decide +kernel
theorem dL_law_132 : decode cL_law 132 = .ok (.aload_n 2, 1) := by decide +kernel
theorem dL_law_133 : decode cL_law 133 = .ok (.iconst 1, 1) := by decide +kernel
theorem dL_law_134 : decode cL_law 134 = .ok (.iload 5, 2) := by decide +kernel
theorem dL_law_136 : decode cL_law 136 = .ok (.iconst 5, 1) := by decide +kernel
theorem dL_law_137 : decode cL_law 137 = .ok (.ishr, 1) := by decide +kernel
theorem dL_law_138 : decode cL_law 138 = .ok (.iconst 3, 1) := by decide +kernel
theorem dL_law_139 : decode cL_law 139 = .ok (.iand, 1) := by decide +kernel
theorem dL_law_140 : decode cL_law 140 = .ok (.iadd, 1) := by decide +kernel
theorem dL_law_141 : decode cL_law 141 = .ok (.iload 5, 2) := by decide +kernel
theorem dL_law_143 : decode cL_law 143 = .ok (.bipush 8, 2) := by decide +kernel
theorem dL_law_145 : decode cL_law 145 = .ok (.ishr, 1) := by decide +kernel
theorem dL_law_146 : decode cL_law 146 = .ok (.iload 5, 2) := by decide +kernel
theorem dL_law_148 : decode cL_law 148 = .ok (.bipush 17, 2) := by decide +kernel
theorem dL_law_150 : decode cL_law 150 = .ok (.ishr, 1) := by decide +kernel
theorem dL_law_151 : decode cL_law 151 = .ok (.iconst 1, 1) := by decide +kernel
theorem dL_law_152 : decode cL_law 152 = .ok (.iand, 1) := by decide +kernel
theorem dL_law_153 : decode cL_law 153 = .ok (.ifCond .ne 8, 3) := by decide +kernel
theorem dL_law_156 : decode cL_law 156 = .ok (.bipush 101, 2) := by decide +kernel
theorem dL_law_158 : decode cL_law 158 = .ok (.goto 5, 3) := by decide +kernel
theorem dL_law_161 : decode cL_law 161 = .ok (.bipush 30, 2) := by decide +kernel
theorem dL_law_163 : decode cL_law 163 = .ok (.invokestatic 65, 3) := by decide +kernel
theorem dL_law_166 : decode cL_law 166 = .ok (.invokestatic 119, 3) := by decide +kernel
theorem dL_law_169 : decode cL_law 169 = .ok (.ifCond .eq 7, 3) := by decide +kernel
theorem dL_law_172 : decode cL_law 172 = .ok (.iconst 1, 1) := by decide +kernel
theorem dL_law_173 : decode cL_law 173 = .ok (.goto 4, 3) := by decide +kernel
theorem dL_law_176 : decode cL_law 176 = .ok (.iconst 0, 1) := by decide +kernel
theorem dL_law_177 : decode cL_law 177 = .ok (.istore_n 3, 1) := by decide +kernel
theorem dL_law_178 : decode cL_law 178 = .ok (.iload 4, 2) := by decide +kernel
theorem dL_law_180 : decode cL_law 180 = .ok (.bipush 7, 2) := by decide +kernel
theorem dL_law_182 : decode cL_law 182 = .ok (.irem, 1) := by decide +kernel
theorem dL_law_183 : decode cL_law 183 = .ok (.iconst 4, 1) := by decide +kernel
theorem dL_law_184 : decode cL_law 184 = .ok (.if_icmp .ne 54, 3) := by decide +kernel
theorem dL_law_187 : decode cL_law 187 = .ok (.iload_n 3, 1) := by decide +kernel
theorem dL_law_188 : decode cL_law 188 = .ok (.ifCond .eq 48, 3) := by decide +kernel
theorem dL_law_191 : decode cL_law 191 = .ok (.aload_n 1, 1) := by decide +kernel
theorem dL_law_192 : decode cL_law 192 = .ok (.aload_n 2, 1) := by decide +kernel
theorem dL_law_193 : decode cL_law 193 = .ok (.iload 5, 2) := by decide +kernel
theorem dL_law_195 : decode cL_law 195 = .ok (.bipush 6, 2) := by decide +kernel
theorem dL_law_197 : decode cL_law 197 = .ok (.ishr, 1) := by decide +kernel
theorem dL_law_198 : decode cL_law 198 = .ok (.iconst 5, 1) := by decide +kernel
theorem dL_law_199 : decode cL_law 199 = .ok (.invokestatic 65, 3) := by decide +kernel
theorem dL_law_202 : decode cL_law 202 = .ok (.iload 5, 2) := by decide +kernel
theorem dL_law_204 : decode cL_law 204 = .ok (.bipush 9, 2) := by decide +kernel
theorem dL_law_206 : decode cL_law 206 = .ok (.ishr, 1) := by decide +kernel
theorem dL_law_207 : decode cL_law 207 = .ok (.aload_n 1, 1) := by decide +kernel
theorem dL_law_208 : decode cL_law 208 = .ok (.invokevirtual 74, 3) := by decide +kernel
theorem dL_law_211 : decode cL_law 211 = .ok (.iconst 1, 1) := by decide +kernel
theorem dL_law_212 : decode cL_law 212 = .ok (.iadd, 1) := by decide +kernel
theorem dL_law_213 : decode cL_law 213 = .ok (.invokestatic 65, 3) := by decide +kernel
theorem dL_law_216 : decode cL_law 216 = .ok (.iload 5, 2) := by decide +kernel
theorem dL_law_218 : decode cL_law 218 = .ok (.bipush 12, 2) := by decide +kernel
theorem dL_law_220 : decode cL_law 220 = .ok (.ishr, 1) := by decide +kernel
theorem dL_law_221 : decode cL_law 221 = .ok (.bipush 51, 2) := by decide +kernel
theorem dL_law_223 : decode cL_law 223 = .ok (.invokestatic 65, 3) := by decide +kernel
theorem dL_law_226 : decode cL_law 226 = .ok (.invokestatic 123, 3) := by decide +kernel
theorem dL_law_229 : decode cL_law 229 = .ok (.ifCond .eq 7, 3) := by decide +kernel
theorem dL_law_232 : decode cL_law 232 = .ok (.iconst 1, 1) := by decide +kernel
theorem dL_law_233 : decode cL_law 233 = .ok (.goto 4, 3) := by decide +kernel
theorem dL_law_236 : decode cL_law 236 = .ok (.iconst 0, 1) := by decide +kernel
theorem dL_law_237 : decode cL_law 237 = .ok (.istore_n 3, 1) := by decide +kernel
theorem dL_law_238 : decode cL_law 238 = .ok (.iinc 4 1, 3) := by decide +kernel
theorem dL_law_241 : decode cL_law 241 = .ok (.goto (-220), 3) := by decide +kernel
theorem dL_law_244 : decode cL_law 244 = .ok (.iload_n 3, 1) := by decide +kernel
theorem dL_law_245 : decode cL_law 245 = .ok (.ifCond .eq 16, 3) := by decide +kernel
theorem dL_law_248 : decode cL_law 248 = .ok (.aload_n 1, 1) := by decide +kernel
theorem dL_law_249 : decode cL_law 249 = .ok (.aload_n 2, 1) := by decide +kernel
theorem dL_law_250 : decode cL_law 250 = .ok (.iconst 0, 1) := by decide +kernel
theorem dL_law_251 : decode cL_law 251 = .ok (.invokestatic 115, 3) := by decide +kernel
theorem dL_law_254 : decode cL_law 254 = .ok (.ifCond .eq 7, 3) := by decide +kernel
theorem dL_law_257 : decode cL_law 257 = .ok (.iconst 1, 1) := by decide +kernel
theorem dL_law_258 : decode cL_law 258 = .ok (.goto 4, 3) := by decide +kernel
theorem dL_law_261 : decode cL_law 261 = .ok (.iconst 0, 1) := by decide +kernel
theorem dL_law_262 : decode cL_law 262 = .ok (.ireturn, 1) := by decide +kernel
abbrev vwCl : List vw_C := [(RX0, TX0, 9), (RX1, TX1, 12)]
