set_option maxRecDepth 20000 in
theorem ggX2_init_X0_init : GoodIn wsX2_init wsX0_init := goodIn_r _ [15, 16, 2, 3, 17, 18, 19, 20, 21, 22, 23, 24, 34, 35, 36, 37, 38, 39, 40, 41, 42, 43, 44, 45, 46] (by decide +kernel) (by decide +kernel)
set_option maxRecDepth 20000 in
theorem gX2_init_X0_init_n9 : GoodIn wsX2_init (wsX0_init) := ggX2_init_X0_init
set_option maxRecDepth 20000 in
theorem ggX2_init_X1_init : GoodIn wsX2_init wsX1_init := goodIn_r _ [26, 27, 2, 3, 17, 28, 29, 30, 31, 32, 33, 51, 52, 53, 54, 55] (by decide +kernel) (by decide +kernel)
set_option maxRecDepth 20000 in
theorem gX2_init_X1_init_n25 : GoodIn wsX2_init (wsX1_init) := ggX2_init_X1_init
theorem dX2_init_0 : decode cX2_init 0 = .ok (.aload_n 0, 1) := by decide +kernel
theorem dX2_init_1 : decode cX2_init 1 = .ok (.invokespecial 1, 3) := by decide +kernel
theorem dX2_init_4 : decode cX2_init 4 = .ok (.aload_n 0, 1) := by decide +kernel
theorem dX2_init_5 : decode cX2_init 5 = .ok (.new 7, 3) := by decide +kernel
theorem dX2_init_8 : decode cX2_init 8 = .ok (.dup, 1) := by decide +kernel
theorem dX2_init_9 : decode cX2_init 9 = .ok (.invokespecial 9, 3) := by decide +kernel
theorem dX2_init_12 : decode cX2_init 12 = .ok (.putfield 10, 3) := by decide +kernel
theorem dX2_init_15 : decode cX2_init 15 = .ok (.aload_n 0, 1) := by decide +kernel
theorem dX2_init_16 : decode cX2_init 16 = .ok (.new 7, 3) := by decide +kernel
theorem dX2_init_19 : decode cX2_init 19 = .ok (.dup, 1) := by decide +kernel
theorem dX2_init_20 : decode cX2_init 20 = .ok (.invokespecial 9, 3) := by decide +kernel
theorem dX2_init_23 : decode cX2_init 23 = .ok (.putfield 16, 3) := by decide +kernel
theorem dX2_init_26 : decode cX2_init 26 = .ok (.aload_n 0, 1) := by decide +kernel
theorem dX2_init_27 : decode cX2_init 27 = .ok (.iconst 2, 1) := by decide +kernel
theorem dX2_init_28 : decode cX2_init 28 = .ok (.anewarray 7, 3) := by decide +kernel
theorem dX2_init_31 : decode cX2_init 31 = .ok (.putfield 19, 3) := by decide +kernel
theorem dX2_init_34 : decode cX2_init 34 = .ok (.aload_n 0, 1) := by decide +kernel
theorem dX2_init_35 : decode cX2_init 35 = .ok (.new 23, 3) := by decide +kernel
theorem dX2_init_38 : decode cX2_init 38 = .ok (.dup, 1) := by decide +kernel
theorem dX2_init_39 : decode cX2_init 39 = .ok (.invokespecial 25, 3) := by decide +kernel
theorem dX2_init_42 : decode cX2_init 42 = .ok (.putfield 26, 3) := by decide +kernel
theorem dX2_init_45 : decode cX2_init 45 = .ok (.return_, 1) := by decide +kernel
set_option maxRecDepth 20000 in
theorem ggX2_addInput_X0_appendInput : GoodIn wsX2_addInput wsX0_appendInput := goodIn_r _ [7, 8, 9, 10, 11, 12, 6, 13, 14, 15, 16, 17, 18, 19, 24, 25, 26, 27, 28, 29, 30, 31, 32, 33, 34, 35, 36] (by decide +kernel) (by decide +kernel)
set_option maxRecDepth 20000 in
theorem gX2_addInput_X0_appendInput : GoodIn wsX2_addInput (wsV RX2 34 RX0 yX0_appendInput wsX0_appendInput) := goodIn_app (goodIn_of _ (by decide +kernel)) ggX2_addInput_X0_appendInput
theorem dX2_addInput_0 : decode cX2_addInput 0 = .ok (.aload_n 0, 1) := by decide +kernel
theorem dX2_addInput_1 : decode cX2_addInput 1 = .ok (.getfield 10, 3) := by decide +kernel
theorem dX2_addInput_4 : decode cX2_addInput 4 = .ok (.getfield 30, 3) := by decide +kernel
theorem dX2_addInput_7 : decode cX2_addInput 7 = .ok (.bipush 24, 2) := by decide +kernel
theorem dX2_addInput_9 : decode cX2_addInput 9 = .ok (.if_icmp .lt 6, 3) := by decide +kernel
theorem dX2_addInput_12 : decode cX2_addInput 12 = .ok (.bipush (-6), 2) := by decide +kernel
theorem dX2_addInput_14 : decode cX2_addInput 14 = .ok (.ireturn, 1) := by decide +kernel
theorem dX2_addInput_15 : decode cX2_addInput 15 = .ok (.aload_n 0, 1) := by decide +kernel
theorem dX2_addInput_16 : decode cX2_addInput 16 = .ok (.getfield 10, 3) := by decide +kernel
theorem dX2_addInput_19 : decode cX2_addInput 19 = .ok (.invokevirtual 34, 3) := by decide +kernel
theorem dX2_addInput_22 : decode cX2_addInput 22 = .ok (.ireturn, 1) := by decide +kernel
set_option maxRecDepth 20000 in
theorem ggX2_addStorage_X2_isWithin : GoodIn wsX2_addStorage wsX2_isWithin := goodIn_r _ [6] (by decide +kernel) (by decide +kernel)
set_option maxRecDepth 20000 in
theorem gX2_addStorage_X2_isWithin : GoodIn wsX2_addStorage (va_wsS RX2 38 yX2_isWithin wsX2_isWithin) := goodIn_app (goodIn_of _ (by decide +kernel)) ggX2_addStorage_X2_isWithin
set_option maxRecDepth 20000 in
theorem ggX2_addStorage_X0_appendStorage : GoodIn wsX2_addStorage wsX0_appendStorage := goodIn_r _ [11, 12, 13, 14, 15, 16, 17, 10, 18, 19, 20, 21, 22, 23, 24, 29, 30, 31, 32, 33, 34, 35, 36, 37, 38, 39, 40, 41] (by decide +kernel) (by decide +kernel)
set_option maxRecDepth 20000 in
theorem gX2_addStorage_X0_appendStorage : GoodIn wsX2_addStorage (wsV RX2 42 RX0 yX0_appendStorage wsX0_appendStorage) := goodIn_app (goodIn_of _ (by decide +kernel)) ggX2_addStorage_X0_appendStorage
theorem dX2_addStorage_0 : decode cX2_addStorage 0 = .ok (.iload_n 1, 1) := by decide +kernel
theorem dX2_addStorage_1 : decode cX2_addStorage 1 = .ok (.iconst 1, 1) := by decide +kernel
theorem dX2_addStorage_2 : decode cX2_addStorage 2 = .ok (.iconst 3, 1) := by decide +kernel
theorem dX2_addStorage_3 : decode cX2_addStorage 3 = .ok (.invokestatic 38, 3) := by decide +kernel
theorem dX2_addStorage_6 : decode cX2_addStorage 6 = .ok (.ifCond .ne 6, 3) := by decide +kernel
theorem dX2_addStorage_9 : decode cX2_addStorage 9 = .ok (.bipush (-3), 2) := by decide +kernel
theorem dX2_addStorage_11 : decode cX2_addStorage 11 = .ok (.ireturn, 1) := by decide +kernel
theorem dX2_addStorage_12 : decode cX2_addStorage 12 = .ok (.aload_n 0, 1) := by decide +kernel
theorem dX2_addStorage_13 : decode cX2_addStorage 13 = .ok (.getfield 10, 3) := by decide +kernel
theorem dX2_addStorage_16 : decode cX2_addStorage 16 = .ok (.getfield 30, 3) := by decide +kernel
theorem dX2_addStorage_19 : decode cX2_addStorage 19 = .ok (.bipush 24, 2) := by decide +kernel
theorem dX2_addStorage_21 : decode cX2_addStorage 21 = .ok (.if_icmp .lt 6, 3) := by decide +kernel
theorem dX2_addStorage_24 : decode cX2_addStorage 24 = .ok (.bipush (-6), 2) := by decide +kernel
theorem dX2_addStorage_26 : decode cX2_addStorage 26 = .ok (.ireturn, 1) := by decide +kernel
theorem dX2_addStorage_27 : decode cX2_addStorage 27 = .ok (.aload_n 0, 1) := by decide +kernel
theorem dX2_addStorage_28 : decode cX2_addStorage 28 = .ok (.getfield 10, 3) := by decide +kernel
theorem dX2_addStorage_31 : decode cX2_addStorage 31 = .ok (.iload_n 1, 1) := by decide +kernel
theorem dX2_addStorage_32 : decode cX2_addStorage 32 = .ok (.invokevirtual 42, 3) := by decide +kernel
theorem dX2_addStorage_35 : decode cX2_addStorage 35 = .ok (.ireturn, 1) := by decide +kernel
set_option maxRecDepth 20000 in
theorem ggX2_addTransistor_X0_hasNode : GoodIn wsX2_addTransistor wsX0_hasNode := goodIn_r _ [7, 8, 28, 29, 30, 31, 32, 33, 34, 35, 36, 37, 38, 39, 40] (by decide +kernel) (by decide +kernel)
set_option maxRecDepth 20000 in
theorem gX2_addTransistor_X0_hasNode : GoodIn wsX2_addTransistor (wsV RX2 46 RX0 yX0_hasNode wsX0_hasNode) := goodIn_app (goodIn_of _ (by decide +kernel)) ggX2_addTransistor_X0_hasNode
set_option maxRecDepth 20000 in
theorem ggX2_addTransistor_X2_isWithin : GoodIn wsX2_addTransistor wsX2_isWithin := goodIn_r _ [12] (by decide +kernel) (by decide +kernel)
set_option maxRecDepth 20000 in
theorem gX2_addTransistor_X2_isWithin : GoodIn wsX2_addTransistor (va_wsS RX2 38 yX2_isWithin wsX2_isWithin) := goodIn_app (goodIn_of _ (by decide +kernel)) ggX2_addTransistor_X2_isWithin
set_option maxRecDepth 20000 in
theorem ggX2_addTransistor_X0_appendTransistor : GoodIn wsX2_addTransistor wsX0_appendTransistor := goodIn_r _ [16, 17, 18, 19, 20, 21, 22, 23, 28, 29, 30, 31, 32, 33, 34, 35, 36, 37, 38, 39, 40] (by decide +kernel) (by decide +kernel)
set_option maxRecDepth 20000 in
theorem gX2_addTransistor_X0_appendTransistor : GoodIn wsX2_addTransistor (wsV RX2 53 RX0 yX0_appendTransistor wsX0_appendTransistor) := goodIn_app (goodIn_of _ (by decide +kernel)) ggX2_addTransistor_X0_appendTransistor
theorem dX2_addTransistor_0 : decode cX2_addTransistor 0 = .ok (.aload_n 0, 1) := by decide +kernel
theorem dX2_addTransistor_1 : decode cX2_addTransistor 1 = .ok (.getfield 10, 3) := by decide +kernel
theorem dX2_addTransistor_4 : decode cX2_addTransistor 4 = .ok (.iload_n 3, 1) := by decide +kernel
theorem dX2_addTransistor_5 : decode cX2_addTransistor 5 = .ok (.invokevirtual 46, 3) := by decide +kernel
theorem dX2_addTransistor_8 : decode cX2_addTransistor 8 = .ok (.ifCond .eq 27, 3) := by decide +kernel
theorem dX2_addTransistor_11 : decode cX2_addTransistor 11 = .ok (.aload_n 0, 1) := by decide +kernel
theorem dX2_addTransistor_12 : decode cX2_addTransistor 12 = .ok (.getfield 10, 3) := by decide +kernel
theorem dX2_addTransistor_15 : decode cX2_addTransistor 15 = .ok (.iload 4, 2) := by decide +kernel
theorem dX2_addTransistor_17 : decode cX2_addTransistor 17 = .ok (.invokevirtual 46, 3) := by decide +kernel
theorem dX2_addTransistor_20 : decode cX2_addTransistor 20 = .ok (.ifCond .eq 15, 3) := by decide +kernel
theorem dX2_addTransistor_23 : decode cX2_addTransistor 23 = .ok (.aload_n 0, 1) := by decide +kernel
theorem dX2_addTransistor_24 : decode cX2_addTransistor 24 = .ok (.getfield 10, 3) := by decide +kernel
theorem dX2_addTransistor_27 : decode cX2_addTransistor 27 = .ok (.iload 5, 2) := by decide +kernel
theorem dX2_addTransistor_29 : decode cX2_addTransistor 29 = .ok (.invokevirtual 46, 3) := by decide +kernel
theorem dX2_addTransistor_32 : decode cX2_addTransistor 32 = .ok (.ifCond .ne 5, 3) := by decide +kernel
theorem dX2_addTransistor_35 : decode cX2_addTransistor 35 = .ok (.iconst (-1), 1) := by decide +kernel
theorem dX2_addTransistor_36 : decode cX2_addTransistor 36 = .ok (.ireturn, 1) := by decide +kernel
theorem dX2_addTransistor_37 : decode cX2_addTransistor 37 = .ok (.iload 4, 2) := by decide +kernel
theorem dX2_addTransistor_39 : decode cX2_addTransistor 39 = .ok (.iload 5, 2) := by decide +kernel
theorem dX2_addTransistor_41 : decode cX2_addTransistor 41 = .ok (.if_icmp .ne 6, 3) := by decide +kernel
theorem dX2_addTransistor_44 : decode cX2_addTransistor 44 = .ok (.bipush (-4), 2) := by decide +kernel
theorem dX2_addTransistor_46 : decode cX2_addTransistor 46 = .ok (.ireturn, 1) := by decide +kernel
theorem dX2_addTransistor_47 : decode cX2_addTransistor 47 = .ok (.iload_n 1, 1) := by decide +kernel
theorem dX2_addTransistor_48 : decode cX2_addTransistor 48 = .ok (.iconst 0, 1) := by decide +kernel
theorem dX2_addTransistor_49 : decode cX2_addTransistor 49 = .ok (.iconst 2, 1) := by decide +kernel
theorem dX2_addTransistor_50 : decode cX2_addTransistor 50 = .ok (.invokestatic 38, 3) := by decide +kernel
theorem dX2_addTransistor_53 : decode cX2_addTransistor 53 = .ok (.ifCond .eq 12, 3) := by decide +kernel
theorem dX2_addTransistor_56 : decode cX2_addTransistor 56 = .ok (.iload_n 2, 1) := by decide +kernel
theorem dX2_addTransistor_57 : decode cX2_addTransistor 57 = .ok (.iconst 1, 1) := by decide +kernel
theorem dX2_addTransistor_58 : decode cX2_addTransistor 58 = .ok (.iconst 3, 1) := by decide +kernel
theorem dX2_addTransistor_59 : decode cX2_addTransistor 59 = .ok (.invokestatic 38, 3) := by decide +kernel
theorem dX2_addTransistor_62 : decode cX2_addTransistor 62 = .ok (.ifCond .ne 6, 3) := by decide +kernel
theorem dX2_addTransistor_65 : decode cX2_addTransistor 65 = .ok (.bipush (-3), 2) := by decide +kernel
theorem dX2_addTransistor_67 : decode cX2_addTransistor 67 = .ok (.ireturn, 1) := by decide +kernel
theorem dX2_addTransistor_68 : decode cX2_addTransistor 68 = .ok (.aload_n 0, 1) := by decide +kernel
theorem dX2_addTransistor_69 : decode cX2_addTransistor 69 = .ok (.getfield 10, 3) := by decide +kernel
theorem dX2_addTransistor_72 : decode cX2_addTransistor 72 = .ok (.getfield 50, 3) := by decide +kernel
theorem dX2_addTransistor_75 : decode cX2_addTransistor 75 = .ok (.bipush 40, 2) := by decide +kernel
theorem dX2_addTransistor_77 : decode cX2_addTransistor 77 = .ok (.if_icmp .lt 6, 3) := by decide +kernel
theorem dX2_addTransistor_80 : decode cX2_addTransistor 80 = .ok (.bipush (-6), 2) := by decide +kernel
theorem dX2_addTransistor_82 : decode cX2_addTransistor 82 = .ok (.ireturn, 1) := by decide +kernel
theorem dX2_addTransistor_83 : decode cX2_addTransistor 83 = .ok (.aload_n 0, 1) := by decide +kernel
theorem dX2_addTransistor_84 : decode cX2_addTransistor 84 = .ok (.getfield 10, 3) := by decide +kernel
theorem dX2_addTransistor_87 : decode cX2_addTransistor 87 = .ok (.iload_n 1, 1) := by decide +kernel
theorem dX2_addTransistor_88 : decode cX2_addTransistor 88 = .ok (.iload_n 2, 1) := by decide +kernel
theorem dX2_addTransistor_89 : decode cX2_addTransistor 89 = .ok (.iload_n 3, 1) := by decide +kernel
theorem dX2_addTransistor_90 : decode cX2_addTransistor 90 = .ok (.iload 4, 2) := by decide +kernel
theorem dX2_addTransistor_92 : decode cX2_addTransistor 92 = .ok (.iload 5, 2) := by decide +kernel
theorem dX2_addTransistor_94 : decode cX2_addTransistor 94 = .ok (.invokevirtual 53, 3) := by decide +kernel
theorem dX2_addTransistor_97 : decode cX2_addTransistor 97 = .ok (.ireturn, 1) := by decide +kernel
theorem dX2_nodeCount_0 : decode cX2_nodeCount 0 = .ok (.aload_n 0, 1) := by decide +kernel
theorem dX2_nodeCount_1 : decode cX2_nodeCount 1 = .ok (.getfield 10, 3) := by decide +kernel
theorem dX2_nodeCount_4 : decode cX2_nodeCount 4 = .ok (.getfield 30, 3) := by decide +kernel
theorem dX2_nodeCount_7 : decode cX2_nodeCount 7 = .ok (.ireturn, 1) := by decide +kernel
theorem dX2_transistorCount_0 : decode cX2_transistorCount 0 = .ok (.aload_n 0, 1) := by decide +kernel
theorem dX2_transistorCount_1 : decode cX2_transistorCount 1 = .ok (.getfield 10, 3) := by decide +kernel
theorem dX2_transistorCount_4 : decode cX2_transistorCount 4 = .ok (.getfield 50, 3) := by decide +kernel
theorem dX2_transistorCount_7 : decode cX2_transistorCount 7 = .ok (.ireturn, 1) := by decide +kernel
theorem dX2_inputs_0 : decode cX2_inputs 0 = .ok (.aload_n 0, 1) := by decide +kernel
theorem dX2_inputs_1 : decode cX2_inputs 1 = .ok (.getfield 10, 3) := by decide +kernel
theorem dX2_inputs_4 : decode cX2_inputs 4 = .ok (.getfield 57, 3) := by decide +kernel
theorem dX2_inputs_7 : decode cX2_inputs 7 = .ok (.ireturn, 1) := by decide +kernel
set_option maxRecDepth 20000 in
theorem ggX2_setInput_X2_replaceValue : GoodIn wsX2_setInput wsX2_replaceValue := goodIn_r _ [5, 6, 7, 8, 9, 10, 11, 12, 13, 14, 15, 16, 17, 18, 19, 4, 20, 21, 22, 23, 24, 25, 26, 27, 28, 29, 30, 31, 32, 33, 34, 35, 36, 37, 38, 39, 40, 41, 42, 43, 44, 45, 46, 47, 48, 49, 50] (by decide +kernel) (by decide +kernel)
set_option maxRecDepth 20000 in
theorem gX2_setInput_X2_replaceValue : GoodIn wsX2_setInput (wsV RX2 60 RX2 yX2_replaceValue wsX2_replaceValue) := goodIn_app (goodIn_of _ (by decide +kernel)) ggX2_setInput_X2_replaceValue
theorem dX2_setInput_0 : decode cX2_setInput 0 = .ok (.aload_n 0, 1) := by decide +kernel
theorem dX2_setInput_1 : decode cX2_setInput 1 = .ok (.iload_n 1, 1) := by decide +kernel
theorem dX2_setInput_2 : decode cX2_setInput 2 = .ok (.iload_n 2, 1) := by decide +kernel
theorem dX2_setInput_3 : decode cX2_setInput 3 = .ok (.iconst 1, 1) := by decide +kernel
theorem dX2_setInput_4 : decode cX2_setInput 4 = .ok (.invokevirtual 60, 3) := by decide +kernel
theorem dX2_setInput_7 : decode cX2_setInput 7 = .ok (.ireturn, 1) := by decide +kernel
set_option maxRecDepth 20000 in
theorem ggX2_setCharge_X2_replaceValue : GoodIn wsX2_setCharge wsX2_replaceValue := goodIn_r _ [5, 6, 7, 8, 9, 10, 11, 12, 13, 14, 15, 16, 17, 18, 19, 4, 20, 21, 22, 23, 24, 25, 26, 27, 28, 29, 30, 31, 32, 33, 34, 35, 36, 37, 38, 39, 40, 41, 42, 43, 44, 45, 46, 47, 48, 49, 50] (by decide +kernel) (by decide +kernel)
set_option maxRecDepth 20000 in
theorem gX2_setCharge_X2_replaceValue : GoodIn wsX2_setCharge (wsV RX2 60 RX2 yX2_replaceValue wsX2_replaceValue) := goodIn_app (goodIn_of _ (by decide +kernel)) ggX2_setCharge_X2_replaceValue
theorem dX2_setCharge_0 : decode cX2_setCharge 0 = .ok (.aload_n 0, 1) := by decide +kernel
theorem dX2_setCharge_1 : decode cX2_setCharge 1 = .ok (.iload_n 1, 1) := by decide +kernel
theorem dX2_setCharge_2 : decode cX2_setCharge 2 = .ok (.iload_n 2, 1) := by decide +kernel
theorem dX2_setCharge_3 : decode cX2_setCharge 3 = .ok (.iconst 0, 1) := by decide +kernel
theorem dX2_setCharge_4 : decode cX2_setCharge 4 = .ok (.invokevirtual 60, 3) := by decide +kernel
theorem dX2_setCharge_7 : decode cX2_setCharge 7 = .ok (.ireturn, 1) := by decide +kernel
set_option maxRecDepth 20000 in
theorem ggX2_forget_X0_forgetCharges : GoodIn wsX2_forget wsX0_forgetCharges := goodIn_r _ [6, 7, 8, 9, 10, 11, 12, 5, 13, 14, 15, 16, 17, 18, 19, 20, 25, 26, 27, 28, 29, 30, 31, 32, 33, 34, 35, 36, 37] (by decide +kernel) (by decide +kernel)
set_option maxRecDepth 20000 in
theorem gX2_forget_X0_forgetCharges : GoodIn wsX2_forget (wsV RX2 64 RX0 yX0_forgetCharges wsX0_forgetCharges) := goodIn_app (goodIn_of _ (by decide +kernel)) ggX2_forget_X0_forgetCharges
theorem dX2_forget_0 : decode cX2_forget 0 = .ok (.aload_n 0, 1) := by decide +kernel
theorem dX2_forget_1 : decode cX2_forget 1 = .ok (.getfield 10, 3) := by decide +kernel
theorem dX2_forget_4 : decode cX2_forget 4 = .ok (.invokevirtual 64, 3) := by decide +kernel
theorem dX2_forget_7 : decode cX2_forget 7 = .ok (.ireturn, 1) := by decide +kernel
set_option maxRecDepth 20000 in
theorem ggX2_value_X0_hasNode : GoodIn wsX2_value wsX0_hasNode := goodIn_r _ [6, 7, 18, 19, 20, 21, 22, 23, 24, 25, 26, 27, 28, 29, 30] (by decide +kernel) (by decide +kernel)
set_option maxRecDepth 20000 in
theorem gX2_value_X0_hasNode : GoodIn wsX2_value (wsV RX2 46 RX0 yX0_hasNode wsX0_hasNode) := goodIn_app (goodIn_of _ (by decide +kernel)) ggX2_value_X0_hasNode
set_option maxRecDepth 20000 in
theorem ggX2_value_X0_valueOf : GoodIn wsX2_value wsX0_valueOf := goodIn_r _ [11, 12, 13, 18, 19, 20, 21, 22, 23, 24, 25, 26, 27, 28, 29, 30] (by decide +kernel) (by decide +kernel)
set_option maxRecDepth 20000 in
theorem gX2_value_X0_valueOf : GoodIn wsX2_value (wsV RX2 67 RX0 yX0_valueOf wsX0_valueOf) := goodIn_app (goodIn_of _ (by decide +kernel)) ggX2_value_X0_valueOf
theorem dX2_value_0 : decode cX2_value 0 = .ok (.aload_n 0, 1) := by decide +kernel
theorem dX2_value_1 : decode cX2_value 1 = .ok (.getfield 10, 3) := by decide +kernel
theorem dX2_value_4 : decode cX2_value 4 = .ok (.iload_n 1, 1) := by decide +kernel
theorem dX2_value_5 : decode cX2_value 5 = .ok (.invokevirtual 46, 3) := by decide +kernel
theorem dX2_value_8 : decode cX2_value 8 = .ok (.ifCond .ne 5, 3) := by decide +kernel
theorem dX2_value_11 : decode cX2_value 11 = .ok (.iconst (-1), 1) := by decide +kernel
theorem dX2_value_12 : decode cX2_value 12 = .ok (.ireturn, 1) := by decide +kernel
theorem dX2_value_13 : decode cX2_value 13 = .ok (.aload_n 0, 1) := by decide +kernel
theorem dX2_value_14 : decode cX2_value 14 = .ok (.getfield 10, 3) := by decide +kernel
theorem dX2_value_17 : decode cX2_value 17 = .ok (.iload_n 1, 1) := by decide +kernel
theorem dX2_value_18 : decode cX2_value 18 = .ok (.invokevirtual 67, 3) := by decide +kernel
theorem dX2_value_21 : decode cX2_value 21 = .ok (.ireturn, 1) := by decide +kernel
set_option maxRecDepth 20000 in
theorem ggX2_nodesWith_X2_isValue : GoodIn wsX2_nodesWith wsX2_isValue := goodIn_r _ [5, 6, 7, 4, 8] (by decide +kernel) (by decide +kernel)
set_option maxRecDepth 20000 in
theorem gX2_nodesWith_X2_isValue : GoodIn wsX2_nodesWith (va_wsS RX2 70 yX2_isValue wsX2_isValue) := goodIn_app (goodIn_of _ (by decide +kernel)) ggX2_nodesWith_X2_isValue
set_option maxRecDepth 20000 in
theorem ggX2_nodesWith_X0_nodesOfValue : GoodIn wsX2_nodesWith wsX0_nodesOfValue := goodIn_r _ [13, 14, 15, 20, 21, 22, 23, 24, 25, 26, 27, 28, 29, 30, 31, 32] (by decide +kernel) (by decide +kernel)
set_option maxRecDepth 20000 in
theorem gX2_nodesWith_X0_nodesOfValue : GoodIn wsX2_nodesWith (wsV RX2 73 RX0 yX0_nodesOfValue wsX0_nodesOfValue) := goodIn_app (goodIn_of _ (by decide +kernel)) ggX2_nodesWith_X0_nodesOfValue
theorem dX2_nodesWith_0 : decode cX2_nodesWith 0 = .ok (.iload_n 1, 1) := by decide +kernel
theorem dX2_nodesWith_1 : decode cX2_nodesWith 1 = .ok (.invokestatic 70, 3) := by decide +kernel
theorem dX2_nodesWith_4 : decode cX2_nodesWith 4 = .ok (.ifCond .ne 6, 3) := by decide +kernel
theorem dX2_nodesWith_7 : decode cX2_nodesWith 7 = .ok (.bipush (-3), 2) := by decide +kernel
theorem dX2_nodesWith_9 : decode cX2_nodesWith 9 = .ok (.ireturn, 1) := by decide +kernel
theorem dX2_nodesWith_10 : decode cX2_nodesWith 10 = .ok (.aload_n 0, 1) := by decide +kernel
theorem dX2_nodesWith_11 : decode cX2_nodesWith 11 = .ok (.getfield 10, 3) := by decide +kernel
theorem dX2_nodesWith_14 : decode cX2_nodesWith 14 = .ok (.iload_n 1, 1) := by decide +kernel
theorem dX2_nodesWith_15 : decode cX2_nodesWith 15 = .ok (.invokevirtual 73, 3) := by decide +kernel
theorem dX2_nodesWith_18 : decode cX2_nodesWith 18 = .ok (.ireturn, 1) := by decide +kernel
set_option maxRecDepth 20000 in
theorem ggX2_switchState_X0_hasTransistor : GoodIn wsX2_switchState wsX0_hasTransistor := goodIn_r _ [6, 7, 25, 26, 27, 28, 29, 30, 31, 32, 33, 34, 35, 36, 37] (by decide +kernel) (by decide +kernel)
set_option maxRecDepth 20000 in
theorem gX2_switchState_X0_hasTransistor : GoodIn wsX2_switchState (wsV RX2 76 RX0 yX0_hasTransistor wsX0_hasTransistor) := goodIn_app (goodIn_of _ (by decide +kernel)) ggX2_switchState_X0_hasTransistor
set_option maxRecDepth 20000 in
theorem ggX2_switchState_X0_stateOf : GoodIn wsX2_switchState wsX0_stateOf := goodIn_r _ [11, 12, 13, 14, 15, 16, 17, 5, 18, 19, 20, 25, 26, 27, 28, 29, 30, 31, 32, 33, 34, 35, 36, 37] (by decide +kernel) (by decide +kernel)
set_option maxRecDepth 20000 in
theorem gX2_switchState_X0_stateOf : GoodIn wsX2_switchState (wsV RX2 79 RX0 yX0_stateOf wsX0_stateOf) := goodIn_app (goodIn_of _ (by decide +kernel)) ggX2_switchState_X0_stateOf
theorem dX2_switchState_0 : decode cX2_switchState 0 = .ok (.aload_n 0, 1) := by decide +kernel
theorem dX2_switchState_1 : decode cX2_switchState 1 = .ok (.getfield 10, 3) := by decide +kernel
theorem dX2_switchState_4 : decode cX2_switchState 4 = .ok (.iload_n 1, 1) := by decide +kernel
theorem dX2_switchState_5 : decode cX2_switchState 5 = .ok (.invokevirtual 76, 3) := by decide +kernel
theorem dX2_switchState_8 : decode cX2_switchState 8 = .ok (.ifCond .ne 6, 3) := by decide +kernel
theorem dX2_switchState_11 : decode cX2_switchState 11 = .ok (.bipush (-2), 2) := by decide +kernel
theorem dX2_switchState_13 : decode cX2_switchState 13 = .ok (.ireturn, 1) := by decide +kernel
theorem dX2_switchState_14 : decode cX2_switchState 14 = .ok (.aload_n 0, 1) := by decide +kernel
theorem dX2_switchState_15 : decode cX2_switchState 15 = .ok (.getfield 10, 3) := by decide +kernel
theorem dX2_switchState_18 : decode cX2_switchState 18 = .ok (.iload_n 1, 1) := by decide +kernel
theorem dX2_switchState_19 : decode cX2_switchState 19 = .ok (.invokevirtual 79, 3) := by decide +kernel
theorem dX2_switchState_22 : decode cX2_switchState 22 = .ok (.ireturn, 1) := by decide +kernel
set_option maxRecDepth 20000 in
theorem ggX2_definiteStrength_X0_hasNode : GoodIn wsX2_definiteStrength wsX0_hasNode := goodIn_r _ [7, 8, 83, 84, 85, 86, 87, 88, 89, 90, 91, 92, 93, 94, 95] (by decide +kernel) (by decide +kernel)
set_option maxRecDepth 20000 in
theorem gX2_definiteStrength_X0_hasNode : GoodIn wsX2_definiteStrength (wsV RX2 46 RX0 yX0_hasNode wsX0_hasNode) := goodIn_app (goodIn_of _ (by decide +kernel)) ggX2_definiteStrength_X0_hasNode
set_option maxRecDepth 20000 in
theorem ggX2_definiteStrength_X1_find : GoodIn wsX2_definiteStrength wsX1_find := goodIn_r _ [13, 14, 15, 16, 17, 18, 19, 20, 12, 21, 22, 23, 24, 25, 26, 27, 28, 6, 29, 30, 31, 32, 33, 34, 35, 36, 37, 38, 39, 40, 41, 42, 43, 44, 45, 46, 47, 48, 49, 50, 51, 52, 53, 54, 55, 56, 57, 58, 59, 60, 61, 62, 63, 64, 65, 66, 67, 68, 69, 70, 71, 96, 97, 98, 99, 100, 83, 84, 85, 86, 87, 88, 89, 90, 91, 92, 93, 94, 95] (by decide +kernel) (by decide +kernel)
set_option maxRecDepth 20000 in
theorem gX2_definiteStrength_X1_find : GoodIn wsX2_definiteStrength (wsV RX2 82 RX1 yX1_find wsX1_find) := goodIn_app (goodIn_of _ (by decide +kernel)) ggX2_definiteStrength_X1_find
set_option maxRecDepth 20000 in
theorem ggX2_definiteStrength_X1_definiteLevel : GoodIn wsX2_definiteStrength wsX1_definiteLevel := goodIn_r _ [75, 49, 76, 77, 12, 78, 96, 97, 98, 99, 100] (by decide +kernel) (by decide +kernel)
set_option maxRecDepth 20000 in
theorem gX2_definiteStrength_X1_definiteLevel : GoodIn wsX2_definiteStrength (wsV RX2 86 RX1 yX1_definiteLevel wsX1_definiteLevel) := goodIn_app (goodIn_of _ (by decide +kernel)) ggX2_definiteStrength_X1_definiteLevel
theorem dX2_definiteStrength_0 : decode cX2_definiteStrength 0 = .ok (.aload_n 0, 1) := by decide +kernel
theorem dX2_definiteStrength_1 : decode cX2_definiteStrength 1 = .ok (.getfield 10, 3) := by decide +kernel
theorem dX2_definiteStrength_4 : decode cX2_definiteStrength 4 = .ok (.iload_n 1, 1) := by decide +kernel
theorem dX2_definiteStrength_5 : decode cX2_definiteStrength 5 = .ok (.invokevirtual 46, 3) := by decide +kernel
theorem dX2_definiteStrength_8 : decode cX2_definiteStrength 8 = .ok (.ifCond .ne 5, 3) := by decide +kernel
theorem dX2_definiteStrength_11 : decode cX2_definiteStrength 11 = .ok (.iconst (-1), 1) := by decide +kernel
theorem dX2_definiteStrength_12 : decode cX2_definiteStrength 12 = .ok (.ireturn, 1) := by decide +kernel
theorem dX2_definiteStrength_13 : decode cX2_definiteStrength 13 = .ok (.aload_n 0, 1) := by decide +kernel
theorem dX2_definiteStrength_14 : decode cX2_definiteStrength 14 = .ok (.getfield 26, 3) := by decide +kernel
theorem dX2_definiteStrength_17 : decode cX2_definiteStrength 17 = .ok (.aload_n 0, 1) := by decide +kernel
theorem dX2_definiteStrength_18 : decode cX2_definiteStrength 18 = .ok (.getfield 10, 3) := by decide +kernel
theorem dX2_definiteStrength_21 : decode cX2_definiteStrength 21 = .ok (.invokevirtual 82, 3) := by decide +kernel
theorem dX2_definiteStrength_24 : decode cX2_definiteStrength 24 = .ok (.aload_n 0, 1) := by decide +kernel
theorem dX2_definiteStrength_25 : decode cX2_definiteStrength 25 = .ok (.getfield 26, 3) := by decide +kernel
theorem dX2_definiteStrength_28 : decode cX2_definiteStrength 28 = .ok (.iload_n 1, 1) := by decide +kernel
theorem dX2_definiteStrength_29 : decode cX2_definiteStrength 29 = .ok (.invokevirtual 86, 3) := by decide +kernel
theorem dX2_definiteStrength_32 : decode cX2_definiteStrength 32 = .ok (.ireturn, 1) := by decide +kernel
set_option maxRecDepth 20000 in
theorem ggX2_upStrength_X0_hasNode : GoodIn wsX2_upStrength wsX0_hasNode := goodIn_r _ [7, 8, 83, 84, 85, 86, 87, 88, 89, 90, 91, 92, 93, 94, 95] (by decide +kernel) (by decide +kernel)
set_option maxRecDepth 20000 in
theorem gX2_upStrength_X0_hasNode : GoodIn wsX2_upStrength (wsV RX2 46 RX0 yX0_hasNode wsX0_hasNode) := goodIn_app (goodIn_of _ (by decide +kernel)) ggX2_upStrength_X0_hasNode
set_option maxRecDepth 20000 in
theorem ggX2_upStrength_X1_find : GoodIn wsX2_upStrength wsX1_find := goodIn_r _ [13, 14, 15, 16, 17, 18, 19, 20, 12, 21, 22, 23, 24, 25, 26, 27, 28, 6, 29, 30, 31, 32, 33, 34, 35, 36, 37, 38, 39, 40, 41, 42, 43, 44, 45, 46, 47, 48, 49, 50, 51, 52, 53, 54, 55, 56, 57, 58, 59, 60, 61, 62, 63, 64, 65, 66, 67, 68, 69, 70, 71, 96, 97, 98, 99, 100, 83, 84, 85, 86, 87, 88, 89, 90, 91, 92, 93, 94, 95] (by decide +kernel) (by decide +kernel)
set_option maxRecDepth 20000 in
theorem gX2_upStrength_X1_find : GoodIn wsX2_upStrength (wsV RX2 82 RX1 yX1_find wsX1_find) := goodIn_app (goodIn_of _ (by decide +kernel)) ggX2_upStrength_X1_find
set_option maxRecDepth 20000 in
theorem ggX2_upStrength_X1_upLevel : GoodIn wsX2_upStrength wsX1_upLevel := goodIn_r _ [75, 14, 76, 77, 12, 78, 96, 97, 98, 99, 100] (by decide +kernel) (by decide +kernel)
set_option maxRecDepth 20000 in
theorem gX2_upStrength_X1_upLevel : GoodIn wsX2_upStrength (wsV RX2 89 RX1 yX1_upLevel wsX1_upLevel) := goodIn_app (goodIn_of _ (by decide +kernel)) ggX2_upStrength_X1_upLevel
theorem dX2_upStrength_0 : decode cX2_upStrength 0 = .ok (.aload_n 0, 1) := by decide +kernel
theorem dX2_upStrength_1 : decode cX2_upStrength 1 = .ok (.getfield 10, 3) := by decide +kernel
theorem dX2_upStrength_4 : decode cX2_upStrength 4 = .ok (.iload_n 1, 1) := by decide +kernel
theorem dX2_upStrength_5 : decode cX2_upStrength 5 = .ok (.invokevirtual 46, 3) := by decide +kernel
theorem dX2_upStrength_8 : decode cX2_upStrength 8 = .ok (.ifCond .ne 5, 3) := by decide +kernel
theorem dX2_upStrength_11 : decode cX2_upStrength 11 = .ok (.iconst (-1), 1) := by decide +kernel
theorem dX2_upStrength_12 : decode cX2_upStrength 12 = .ok (.ireturn, 1) := by decide +kernel
theorem dX2_upStrength_13 : decode cX2_upStrength 13 = .ok (.aload_n 0, 1) := by decide +kernel
theorem dX2_upStrength_14 : decode cX2_upStrength 14 = .ok (.getfield 26, 3) := by decide +kernel
theorem dX2_upStrength_17 : decode cX2_upStrength 17 = .ok (.aload_n 0, 1) := by decide +kernel
theorem dX2_upStrength_18 : decode cX2_upStrength 18 = .ok (.getfield 10, 3) := by decide +kernel
theorem dX2_upStrength_21 : decode cX2_upStrength 21 = .ok (.invokevirtual 82, 3) := by decide +kernel
theorem dX2_upStrength_24 : decode cX2_upStrength 24 = .ok (.aload_n 0, 1) := by decide +kernel
theorem dX2_upStrength_25 : decode cX2_upStrength 25 = .ok (.getfield 26, 3) := by decide +kernel
theorem dX2_upStrength_28 : decode cX2_upStrength 28 = .ok (.iload_n 1, 1) := by decide +kernel
theorem dX2_upStrength_29 : decode cX2_upStrength 29 = .ok (.invokevirtual 89, 3) := by decide +kernel
theorem dX2_upStrength_32 : decode cX2_upStrength 32 = .ok (.ireturn, 1) := by decide +kernel
set_option maxRecDepth 20000 in
theorem ggX2_downStrength_X0_hasNode : GoodIn wsX2_downStrength wsX0_hasNode := goodIn_r _ [7, 8, 83, 84, 85, 86, 87, 88, 89, 90, 91, 92, 93, 94, 95] (by decide +kernel) (by decide +kernel)
set_option maxRecDepth 20000 in
theorem gX2_downStrength_X0_hasNode : GoodIn wsX2_downStrength (wsV RX2 46 RX0 yX0_hasNode wsX0_hasNode) := goodIn_app (goodIn_of _ (by decide +kernel)) ggX2_downStrength_X0_hasNode
set_option maxRecDepth 20000 in
theorem ggX2_downStrength_X1_find : GoodIn wsX2_downStrength wsX1_find := goodIn_r _ [13, 14, 15, 16, 17, 18, 19, 20, 12, 21, 22, 23, 24, 25, 26, 27, 28, 6, 29, 30, 31, 32, 33, 34, 35, 36, 37, 38, 39, 40, 41, 42, 43, 44, 45, 46, 47, 48, 49, 50, 51, 52, 53, 54, 55, 56, 57, 58, 59, 60, 61, 62, 63, 64, 65, 66, 67, 68, 69, 70, 71, 96, 97, 98, 99, 100, 83, 84, 85, 86, 87, 88, 89, 90, 91, 92, 93, 94, 95] (by decide +kernel) (by decide +kernel)
set_option maxRecDepth 20000 in
theorem gX2_downStrength_X1_find : GoodIn wsX2_downStrength (wsV RX2 82 RX1 yX1_find wsX1_find) := goodIn_app (goodIn_of _ (by decide +kernel)) ggX2_downStrength_X1_find
set_option maxRecDepth 20000 in
theorem ggX2_downStrength_X1_downLevel : GoodIn wsX2_downStrength wsX1_downLevel := goodIn_r _ [75, 16, 76, 77, 12, 78, 96, 97, 98, 99, 100] (by decide +kernel) (by decide +kernel)
set_option maxRecDepth 20000 in
theorem gX2_downStrength_X1_downLevel : GoodIn wsX2_downStrength (wsV RX2 92 RX1 yX1_downLevel wsX1_downLevel) := goodIn_app (goodIn_of _ (by decide +kernel)) ggX2_downStrength_X1_downLevel
theorem dX2_downStrength_0 : decode cX2_downStrength 0 = .ok (.aload_n 0, 1) := by decide +kernel
theorem dX2_downStrength_1 : decode cX2_downStrength 1 = .ok (.getfield 10, 3) := by decide +kernel
theorem dX2_downStrength_4 : decode cX2_downStrength 4 = .ok (.iload_n 1, 1) := by decide +kernel
theorem dX2_downStrength_5 : decode cX2_downStrength 5 = .ok (.invokevirtual 46, 3) := by decide +kernel
theorem dX2_downStrength_8 : decode cX2_downStrength 8 = .ok (.ifCond .ne 5, 3) := by decide +kernel
theorem dX2_downStrength_11 : decode cX2_downStrength 11 = .ok (.iconst (-1), 1) := by decide +kernel
theorem dX2_downStrength_12 : decode cX2_downStrength 12 = .ok (.ireturn, 1) := by decide +kernel
theorem dX2_downStrength_13 : decode cX2_downStrength 13 = .ok (.aload_n 0, 1) := by decide +kernel
theorem dX2_downStrength_14 : decode cX2_downStrength 14 = .ok (.getfield 26, 3) := by decide +kernel
theorem dX2_downStrength_17 : decode cX2_downStrength 17 = .ok (.aload_n 0, 1) := by decide +kernel
theorem dX2_downStrength_18 : decode cX2_downStrength 18 = .ok (.getfield 10, 3) := by decide +kernel
theorem dX2_downStrength_21 : decode cX2_downStrength 21 = .ok (.invokevirtual 82, 3) := by decide +kernel
theorem dX2_downStrength_24 : decode cX2_downStrength 24 = .ok (.aload_n 0, 1) := by decide +kernel
theorem dX2_downStrength_25 : decode cX2_downStrength 25 = .ok (.getfield 26, 3) := by decide +kernel
theorem dX2_downStrength_28 : decode cX2_downStrength 28 = .ok (.iload_n 1, 1) := by decide +kernel
theorem dX2_downStrength_29 : decode cX2_downStrength 29 = .ok (.invokevirtual 92, 3) := by decide +kernel
theorem dX2_downStrength_32 : decode cX2_downStrength 32 = .ok (.ireturn, 1) := by decide +kernel
set_option maxRecDepth 20000 in
theorem ggX2_steadyValue_X0_hasNode : GoodIn wsX2_steadyValue wsX0_hasNode := goodIn_r _ [7, 8, 106, 107, 108, 109, 110, 111, 112, 113, 114, 115, 116, 117, 118] (by decide +kernel) (by decide +kernel)
set_option maxRecDepth 20000 in
theorem gX2_steadyValue_X0_hasNode : GoodIn wsX2_steadyValue (wsV RX2 46 RX0 yX0_hasNode wsX0_hasNode) := goodIn_app (goodIn_of _ (by decide +kernel)) ggX2_steadyValue_X0_hasNode
set_option maxRecDepth 20000 in
theorem ggX2_steadyValue_X0_copyFrom : GoodIn wsX2_steadyValue wsX0_copyFrom := goodIn_r _ [12, 8, 13, 14, 15, 16, 17, 18, 19, 20, 21, 22, 23, 24, 25, 26, 27, 28, 106, 107, 108, 109, 110, 111, 112, 113, 114, 115, 116, 117, 118] (by decide +kernel) (by decide +kernel)
set_option maxRecDepth 20000 in
theorem gX2_steadyValue_X0_copyFrom : GoodIn wsX2_steadyValue (wsV RX2 95 RX0 yX0_copyFrom wsX0_copyFrom) := goodIn_app (goodIn_of _ (by decide +kernel)) ggX2_steadyValue_X0_copyFrom
set_option maxRecDepth 20000 in
theorem ggX2_steadyValue_X2_advance : GoodIn wsX2_steadyValue wsX2_advance := goodIn_r _ [33, 34, 35, 36, 37, 38, 39, 40, 41, 42, 43, 44, 45, 46, 47, 48, 49, 50, 51, 52, 53, 54, 6, 55, 28, 23, 25, 56, 57, 58, 59, 20, 21, 60, 61, 62, 63, 64, 65, 66, 67, 68, 69, 70, 71, 72, 73, 74, 75, 76, 77, 78, 79, 80, 81, 82, 83, 84, 85, 86, 87, 88, 89, 90, 91, 92, 93, 94, 95, 96, 97, 98, 99, 100, 102, 103, 104, 105, 119, 120, 121, 122, 123, 106, 107, 108, 109, 110, 111, 112, 113, 114, 115, 116, 117, 118] (by decide +kernel) (by decide +kernel)
set_option maxRecDepth 20000 in
theorem gX2_steadyValue_X2_advance : GoodIn wsX2_steadyValue (wsV RX2 98 RX2 yX2_advance wsX2_advance) := goodIn_app (goodIn_of _ (by decide +kernel)) ggX2_steadyValue_X2_advance
set_option maxRecDepth 20000 in
theorem ggX2_steadyValue_X0_valueOf : GoodIn wsX2_steadyValue wsX0_valueOf := goodIn_r _ [59, 20, 21, 106, 107, 108, 109, 110, 111, 112, 113, 114, 115, 116, 117, 118] (by decide +kernel) (by decide +kernel)
set_option maxRecDepth 20000 in
theorem gX2_steadyValue_X0_valueOf : GoodIn wsX2_steadyValue (wsV RX2 67 RX0 yX0_valueOf wsX0_valueOf) := goodIn_app (goodIn_of _ (by decide +kernel)) ggX2_steadyValue_X0_valueOf
theorem dX2_steadyValue_0 : decode cX2_steadyValue 0 = .ok (.aload_n 0, 1) := by decide +kernel
theorem dX2_steadyValue_1 : decode cX2_steadyValue 1 = .ok (.getfield 10, 3) := by decide +kernel
theorem dX2_steadyValue_4 : decode cX2_steadyValue 4 = .ok (.iload_n 1, 1) := by decide +kernel
theorem dX2_steadyValue_5 : decode cX2_steadyValue 5 = .ok (.invokevirtual 46, 3) := by decide +kernel
theorem dX2_steadyValue_8 : decode cX2_steadyValue 8 = .ok (.ifCond .ne 5, 3) := by decide +kernel
theorem dX2_steadyValue_11 : decode cX2_steadyValue 11 = .ok (.iconst (-1), 1) := by decide +kernel
theorem dX2_steadyValue_12 : decode cX2_steadyValue 12 = .ok (.ireturn, 1) := by decide +kernel
theorem dX2_steadyValue_13 : decode cX2_steadyValue 13 = .ok (.aload_n 0, 1) := by decide +kernel
theorem dX2_steadyValue_14 : decode cX2_steadyValue 14 = .ok (.getfield 16, 3) := by decide +kernel
theorem dX2_steadyValue_17 : decode cX2_steadyValue 17 = .ok (.aload_n 0, 1) := by decide +kernel
theorem dX2_steadyValue_18 : decode cX2_steadyValue 18 = .ok (.getfield 10, 3) := by decide +kernel
theorem dX2_steadyValue_21 : decode cX2_steadyValue 21 = .ok (.invokevirtual 95, 3) := by decide +kernel
theorem dX2_steadyValue_24 : decode cX2_steadyValue 24 = .ok (.aload_n 0, 1) := by decide +kernel
theorem dX2_steadyValue_25 : decode cX2_steadyValue 25 = .ok (.aload_n 0, 1) := by decide +kernel
theorem dX2_steadyValue_26 : decode cX2_steadyValue 26 = .ok (.getfield 16, 3) := by decide +kernel
theorem dX2_steadyValue_29 : decode cX2_steadyValue 29 = .ok (.invokevirtual 98, 3) := by decide +kernel
theorem dX2_steadyValue_32 : decode cX2_steadyValue 32 = .ok (.pop, 1) := by decide +kernel
theorem dX2_steadyValue_33 : decode cX2_steadyValue 33 = .ok (.aload_n 0, 1) := by decide +kernel
theorem dX2_steadyValue_34 : decode cX2_steadyValue 34 = .ok (.getfield 16, 3) := by decide +kernel
theorem dX2_steadyValue_37 : decode cX2_steadyValue 37 = .ok (.iload_n 1, 1) := by decide +kernel
theorem dX2_steadyValue_38 : decode cX2_steadyValue 38 = .ok (.invokevirtual 67, 3) := by decide +kernel
theorem dX2_steadyValue_41 : decode cX2_steadyValue 41 = .ok (.ireturn, 1) := by decide +kernel
set_option maxRecDepth 20000 in
theorem ggX2_vicinity_X0_hasNode : GoodIn wsX2_vicinity wsX0_hasNode := goodIn_r _ [7, 8, 59, 60, 61, 62, 63, 64, 65, 66, 67, 68, 69, 70, 71] (by decide +kernel) (by decide +kernel)
set_option maxRecDepth 20000 in
theorem gX2_vicinity_X0_hasNode : GoodIn wsX2_vicinity (wsV RX2 46 RX0 yX0_hasNode wsX0_hasNode) := goodIn_app (goodIn_of _ (by decide +kernel)) ggX2_vicinity_X0_hasNode
set_option maxRecDepth 20000 in
theorem ggX2_vicinity_X0_isInput : GoodIn wsX2_vicinity wsX0_isInput := goodIn_r _ [12, 13, 59, 60, 61, 62, 63, 64, 65, 66, 67, 68, 69, 70, 71] (by decide +kernel) (by decide +kernel)
set_option maxRecDepth 20000 in
theorem gX2_vicinity_X0_isInput : GoodIn wsX2_vicinity (wsV RX2 102 RX0 yX0_isInput wsX0_isInput) := goodIn_app (goodIn_of _ (by decide +kernel)) ggX2_vicinity_X0_isInput
set_option maxRecDepth 20000 in
theorem ggX2_vicinity_X1_storageAround : GoodIn wsX2_vicinity wsX1_storageAround := goodIn_r _ [18, 19, 20, 21, 22, 23, 17, 24, 25, 26, 27, 28, 29, 30, 6, 31, 32, 33, 34, 35, 36, 37, 38, 39, 40, 41, 42, 43, 44, 45, 46, 47, 48, 49, 50, 51, 52, 53, 54, 72, 73, 74, 75, 76, 59, 60, 61, 62, 63, 64, 65, 66, 67, 68, 69, 70, 71] (by decide +kernel) (by decide +kernel)
set_option maxRecDepth 20000 in
theorem gX2_vicinity_X1_storageAround : GoodIn wsX2_vicinity (wsV RX2 105 RX1 yX1_storageAround wsX1_storageAround) := goodIn_app (goodIn_of _ (by decide +kernel)) ggX2_vicinity_X1_storageAround
theorem dX2_vicinity_0 : decode cX2_vicinity 0 = .ok (.aload_n 0, 1) := by decide +kernel
theorem dX2_vicinity_1 : decode cX2_vicinity 1 = .ok (.getfield 10, 3) := by decide +kernel
theorem dX2_vicinity_4 : decode cX2_vicinity 4 = .ok (.iload_n 1, 1) := by decide +kernel
theorem dX2_vicinity_5 : decode cX2_vicinity 5 = .ok (.invokevirtual 46, 3) := by decide +kernel
theorem dX2_vicinity_8 : decode cX2_vicinity 8 = .ok (.ifCond .ne 5, 3) := by decide +kernel
theorem dX2_vicinity_11 : decode cX2_vicinity 11 = .ok (.iconst (-1), 1) := by decide +kernel
theorem dX2_vicinity_12 : decode cX2_vicinity 12 = .ok (.ireturn, 1) := by decide +kernel
theorem dX2_vicinity_13 : decode cX2_vicinity 13 = .ok (.aload_n 0, 1) := by decide +kernel
theorem dX2_vicinity_14 : decode cX2_vicinity 14 = .ok (.getfield 10, 3) := by decide +kernel
theorem dX2_vicinity_17 : decode cX2_vicinity 17 = .ok (.iload_n 1, 1) := by decide +kernel
theorem dX2_vicinity_18 : decode cX2_vicinity 18 = .ok (.invokevirtual 102, 3) := by decide +kernel
theorem dX2_vicinity_21 : decode cX2_vicinity 21 = .ok (.ifCond .eq 5, 3) := by decide +kernel
theorem dX2_vicinity_24 : decode cX2_vicinity 24 = .ok (.iconst 0, 1) := by decide +kernel
theorem dX2_vicinity_25 : decode cX2_vicinity 25 = .ok (.ireturn, 1) := by decide +kernel
theorem dX2_vicinity_26 : decode cX2_vicinity 26 = .ok (.aload_n 0, 1) := by decide +kernel
theorem dX2_vicinity_27 : decode cX2_vicinity 27 = .ok (.getfield 26, 3) := by decide +kernel
theorem dX2_vicinity_30 : decode cX2_vicinity 30 = .ok (.iload_n 1, 1) := by decide +kernel
theorem dX2_vicinity_31 : decode cX2_vicinity 31 = .ok (.aload_n 0, 1) := by decide +kernel
theorem dX2_vicinity_32 : decode cX2_vicinity 32 = .ok (.getfield 10, 3) := by decide +kernel
theorem dX2_vicinity_35 : decode cX2_vicinity 35 = .ok (.invokevirtual 105, 3) := by decide +kernel
theorem dX2_vicinity_38 : decode cX2_vicinity 38 = .ok (.ireturn, 1) := by decide +kernel
set_option maxRecDepth 20000 in
theorem ggX2_step_X2_advance : GoodIn wsX2_step wsX2_advance := goodIn_r _ [6, 7, 8, 9, 10, 11, 12, 13, 14, 15, 16, 17, 18, 19, 20, 21, 22, 23, 24, 25, 26, 27, 28, 29, 30, 31, 32, 33, 34, 35, 36, 37, 38, 39, 40, 41, 42, 43, 44, 45, 46, 47, 48, 49, 50, 51, 52, 53, 54, 55, 56, 57, 58, 59, 60, 61, 62, 63, 64, 65, 66, 67, 68, 69, 70, 71, 72, 73, 74, 75, 76, 77, 78, 79, 80, 81, 82, 83, 84, 85, 86, 87, 88, 89, 90, 91, 92, 93, 94, 95, 96, 97, 98, 99, 100, 101] (by decide +kernel) (by decide +kernel)
set_option maxRecDepth 20000 in
theorem gX2_step_X2_advance : GoodIn wsX2_step (wsV RX2 98 RX2 yX2_advance wsX2_advance) := goodIn_app (goodIn_of _ (by decide +kernel)) ggX2_step_X2_advance
theorem dX2_step_0 : decode cX2_step 0 = .ok (.aload_n 0, 1) := by decide +kernel
theorem dX2_step_1 : decode cX2_step 1 = .ok (.aload_n 0, 1) := by decide +kernel
theorem dX2_step_2 : decode cX2_step 2 = .ok (.getfield 10, 3) := by decide +kernel
theorem dX2_step_5 : decode cX2_step 5 = .ok (.invokevirtual 98, 3) := by decide +kernel
theorem dX2_step_8 : decode cX2_step 8 = .ok (.ireturn, 1) := by decide +kernel
set_option maxRecDepth 20000 in
theorem ggX2_settle_X2_isLimit : GoodIn wsX2_settle wsX2_isLimit := goodIn_r _ [5, 6, 7, 4, 8] (by decide +kernel) (by decide +kernel)
set_option maxRecDepth 20000 in
theorem gX2_settle_X2_isLimit : GoodIn wsX2_settle (va_wsS RX2 109 yX2_isLimit wsX2_isLimit) := goodIn_app (goodIn_of _ (by decide +kernel)) ggX2_settle_X2_isLimit
set_option maxRecDepth 20000 in
theorem ggX2_settle_X2_settleWithin : GoodIn wsX2_settle wsX2_settleWithin := goodIn_r _ [12, 13, 14, 15, 16, 17, 18, 19, 20, 21, 22, 23, 24, 25, 26, 27, 28, 29, 30, 31, 32, 33, 34, 35, 36, 37, 38, 39, 40, 41, 42, 43, 44, 45, 46, 47, 48, 49, 50, 51, 52, 53, 54, 55, 56, 57, 58, 59, 60, 61, 62, 63, 64, 65, 66, 67, 68, 69, 70, 71, 72, 73, 74, 75, 76, 77, 78, 79, 80, 81, 82, 83, 84, 85, 86, 87, 88, 89, 90, 91, 92, 93, 94, 95, 96, 97, 98, 99, 100, 101, 102, 103, 104, 105, 106, 107] (by decide +kernel) (by decide +kernel)
set_option maxRecDepth 20000 in
theorem gX2_settle_X2_settleWithin : GoodIn wsX2_settle (wsV RX2 112 RX2 yX2_settleWithin wsX2_settleWithin) := goodIn_app (goodIn_of _ (by decide +kernel)) ggX2_settle_X2_settleWithin
theorem dX2_settle_0 : decode cX2_settle 0 = .ok (.iload_n 1, 1) := by decide +kernel
theorem dX2_settle_1 : decode cX2_settle 1 = .ok (.invokestatic 109, 3) := by decide +kernel
theorem dX2_settle_4 : decode cX2_settle 4 = .ok (.ifCond .ne 6, 3) := by decide +kernel
theorem dX2_settle_7 : decode cX2_settle 7 = .ok (.bipush (-3), 2) := by decide +kernel
theorem dX2_settle_9 : decode cX2_settle 9 = .ok (.ireturn, 1) := by decide +kernel
theorem dX2_settle_10 : decode cX2_settle 10 = .ok (.aload_n 0, 1) := by decide +kernel
theorem dX2_settle_11 : decode cX2_settle 11 = .ok (.aload_n 0, 1) := by decide +kernel
theorem dX2_settle_12 : decode cX2_settle 12 = .ok (.getfield 10, 3) := by decide +kernel
theorem dX2_settle_15 : decode cX2_settle 15 = .ok (.iload_n 1, 1) := by decide +kernel
theorem dX2_settle_16 : decode cX2_settle 16 = .ok (.invokevirtual 112, 3) := by decide +kernel
theorem dX2_settle_19 : decode cX2_settle 19 = .ok (.ireturn, 1) := by decide +kernel
set_option maxRecDepth 20000 in
theorem ggX2_active_X1_find : GoodIn wsX2_active wsX1_find := goodIn_r _ [7, 8, 9, 10, 11, 12, 13, 14, 6, 15, 16, 17, 18, 19, 20, 21, 22, 23, 24, 25, 26, 27, 28, 29, 30, 31, 32, 33, 34, 35, 36, 37, 38, 39, 40, 41, 42, 43, 44, 45, 46, 47, 48, 49, 50, 51, 52, 53, 54, 55, 56, 57, 58, 59, 60, 61, 62, 63, 64, 65, 66, 75, 76, 77, 78, 79, 80, 81, 82, 83, 84, 85, 86, 87, 88, 89, 90, 91, 92] (by decide +kernel) (by decide +kernel)
set_option maxRecDepth 20000 in
theorem gX2_active_X1_find : GoodIn wsX2_active (wsV RX2 82 RX1 yX1_find wsX1_find) := goodIn_app (goodIn_of _ (by decide +kernel)) ggX2_active_X1_find
set_option maxRecDepth 20000 in
theorem ggX2_active_X1_changesOf : GoodIn wsX2_active wsX1_changesOf := goodIn_r _ [70, 8, 9, 10, 11, 75, 76, 77, 78, 79, 80, 81, 82, 83, 84, 85, 86, 87, 88, 89, 90, 91, 92] (by decide +kernel) (by decide +kernel)
set_option maxRecDepth 20000 in
theorem gX2_active_X1_changesOf : GoodIn wsX2_active (wsV RX2 116 RX1 yX1_changesOf wsX1_changesOf) := goodIn_app (goodIn_of _ (by decide +kernel)) ggX2_active_X1_changesOf
theorem dX2_active_0 : decode cX2_active 0 = .ok (.aload_n 0, 1) := by decide +kernel
theorem dX2_active_1 : decode cX2_active 1 = .ok (.getfield 26, 3) := by decide +kernel
theorem dX2_active_4 : decode cX2_active 4 = .ok (.aload_n 0, 1) := by decide +kernel
theorem dX2_active_5 : decode cX2_active 5 = .ok (.getfield 10, 3) := by decide +kernel
theorem dX2_active_8 : decode cX2_active 8 = .ok (.invokevirtual 82, 3) := by decide +kernel
theorem dX2_active_11 : decode cX2_active 11 = .ok (.aload_n 0, 1) := by decide +kernel
theorem dX2_active_12 : decode cX2_active 12 = .ok (.getfield 26, 3) := by decide +kernel
theorem dX2_active_15 : decode cX2_active 15 = .ok (.aload_n 0, 1) := by decide +kernel
theorem dX2_active_16 : decode cX2_active 16 = .ok (.getfield 10, 3) := by decide +kernel
theorem dX2_active_19 : decode cX2_active 19 = .ok (.invokevirtual 116, 3) := by decide +kernel
theorem dX2_active_22 : decode cX2_active 22 = .ok (.ireturn, 1) := by decide +kernel
set_option maxRecDepth 20000 in
theorem ggX2_period_X2_isLimit : GoodIn wsX2_period wsX2_isLimit := goodIn_r _ [6, 7, 8, 5, 9] (by decide +kernel) (by decide +kernel)
set_option maxRecDepth 20000 in
theorem gX2_period_X2_isLimit : GoodIn wsX2_period (va_wsS RX2 109 yX2_isLimit wsX2_isLimit) := goodIn_app (goodIn_of _ (by decide +kernel)) ggX2_period_X2_isLimit
set_option maxRecDepth 20000 in
theorem ggX2_period_X0_copyFrom : GoodIn wsX2_period wsX0_copyFrom := goodIn_r _ [14, 15, 16, 17, 18, 19, 20, 21, 22, 23, 24, 25, 26, 27, 28, 29, 30, 31, 111, 112, 113, 114, 115, 116, 117, 118, 119, 120, 121, 122, 123] (by decide +kernel) (by decide +kernel)
set_option maxRecDepth 20000 in
theorem gX2_period_X0_copyFrom : GoodIn wsX2_period (wsV RX2 95 RX0 yX0_copyFrom wsX0_copyFrom) := goodIn_app (goodIn_of _ (by decide +kernel)) ggX2_period_X0_copyFrom
set_option maxRecDepth 20000 in
theorem ggX2_period_X2_advance : GoodIn wsX2_period wsX2_advance := goodIn_r _ [35, 36, 37, 38, 39, 40, 41, 42, 43, 44, 45, 46, 47, 48, 49, 50, 51, 52, 53, 54, 55, 56, 13, 57, 31, 26, 28, 58, 59, 60, 61, 23, 24, 62, 63, 64, 65, 66, 67, 68, 69, 70, 71, 72, 73, 74, 75, 76, 77, 78, 79, 80, 81, 82, 83, 84, 85, 86, 87, 88, 89, 90, 91, 92, 93, 94, 95, 96, 97, 98, 99, 100, 101, 102, 107, 108, 109, 110, 124, 125, 126, 127, 128, 111, 112, 113, 114, 115, 116, 117, 118, 119, 120, 121, 122, 123] (by decide +kernel) (by decide +kernel)
set_option maxRecDepth 20000 in
theorem gX2_period_X2_advance : GoodIn wsX2_period (wsV RX2 98 RX2 yX2_advance wsX2_advance) := goodIn_app (goodIn_of _ (by decide +kernel)) ggX2_period_X2_advance
set_option maxRecDepth 20000 in
theorem ggX2_period_X0_hasValuesOf : GoodIn wsX2_period wsX0_hasValuesOf := goodIn_r _ [106, 23, 24, 111, 112, 113, 114, 115, 116, 117, 118, 119, 120, 121, 122, 123] (by decide +kernel) (by decide +kernel)
set_option maxRecDepth 20000 in
theorem gX2_period_X0_hasValuesOf : GoodIn wsX2_period (wsV RX2 119 RX0 yX0_hasValuesOf wsX0_hasValuesOf) := goodIn_app (goodIn_of _ (by decide +kernel)) ggX2_period_X0_hasValuesOf
theorem dX2_period_0 : decode cX2_period 0 = .ok (.iload_n 1, 1) := by decide +kernel
theorem dX2_period_1 : decode cX2_period 1 = .ok (.invokestatic 109, 3) := by decide +kernel
theorem dX2_period_4 : decode cX2_period 4 = .ok (.ifCond .ne 6, 3) := by decide +kernel
theorem dX2_period_7 : decode cX2_period 7 = .ok (.bipush (-3), 2) := by decide +kernel
theorem dX2_period_9 : decode cX2_period 9 = .ok (.ireturn, 1) := by decide +kernel
theorem dX2_period_10 : decode cX2_period 10 = .ok (.aload_n 0, 1) := by decide +kernel
theorem dX2_period_11 : decode cX2_period 11 = .ok (.getfield 16, 3) := by decide +kernel
theorem dX2_period_14 : decode cX2_period 14 = .ok (.aload_n 0, 1) := by decide +kernel
theorem dX2_period_15 : decode cX2_period 15 = .ok (.getfield 10, 3) := by decide +kernel
theorem dX2_period_18 : decode cX2_period 18 = .ok (.invokevirtual 95, 3) := by decide +kernel
theorem dX2_period_21 : decode cX2_period 21 = .ok (.iconst 1, 1) := by decide +kernel
theorem dX2_period_22 : decode cX2_period 22 = .ok (.istore_n 2, 1) := by decide +kernel
theorem dX2_period_23 : decode cX2_period 23 = .ok (.iload_n 2, 1) := by decide +kernel
theorem dX2_period_24 : decode cX2_period 24 = .ok (.iload_n 1, 1) := by decide +kernel
theorem dX2_period_25 : decode cX2_period 25 = .ok (.if_icmp .gt 34, 3) := by decide +kernel
theorem dX2_period_28 : decode cX2_period 28 = .ok (.aload_n 0, 1) := by decide +kernel
theorem dX2_period_29 : decode cX2_period 29 = .ok (.aload_n 0, 1) := by decide +kernel
theorem dX2_period_30 : decode cX2_period 30 = .ok (.getfield 16, 3) := by decide +kernel
theorem dX2_period_33 : decode cX2_period 33 = .ok (.invokevirtual 98, 3) := by decide +kernel
theorem dX2_period_36 : decode cX2_period 36 = .ok (.pop, 1) := by decide +kernel
theorem dX2_period_37 : decode cX2_period 37 = .ok (.aload_n 0, 1) := by decide +kernel
theorem dX2_period_38 : decode cX2_period 38 = .ok (.getfield 16, 3) := by decide +kernel
theorem dX2_period_41 : decode cX2_period 41 = .ok (.aload_n 0, 1) := by decide +kernel
theorem dX2_period_42 : decode cX2_period 42 = .ok (.getfield 10, 3) := by decide +kernel
theorem dX2_period_45 : decode cX2_period 45 = .ok (.invokevirtual 119, 3) := by decide +kernel
theorem dX2_period_48 : decode cX2_period 48 = .ok (.ifCond .eq 5, 3) := by decide +kernel
theorem dX2_period_51 : decode cX2_period 51 = .ok (.iload_n 2, 1) := by decide +kernel
theorem dX2_period_52 : decode cX2_period 52 = .ok (.ireturn, 1) := by decide +kernel
theorem dX2_period_53 : decode cX2_period 53 = .ok (.iinc 2 1, 3) := by decide +kernel
theorem dX2_period_56 : decode cX2_period 56 = .ok (.goto (-33), 3) := by decide +kernel
theorem dX2_period_59 : decode cX2_period 59 = .ok (.bipush (-8), 2) := by decide +kernel
theorem dX2_period_61 : decode cX2_period 61 = .ok (.ireturn, 1) := by decide +kernel
set_option maxRecDepth 20000 in
theorem ggX2_setFault_X0_hasTransistor : GoodIn wsX2_setFault wsX0_hasTransistor := goodIn_r _ [6, 7, 21, 22, 23, 24, 25, 26, 27, 28, 29, 30, 31, 32, 33] (by decide +kernel) (by decide +kernel)
set_option maxRecDepth 20000 in
theorem gX2_setFault_X0_hasTransistor : GoodIn wsX2_setFault (wsV RX2 76 RX0 yX0_hasTransistor wsX0_hasTransistor) := goodIn_app (goodIn_of _ (by decide +kernel)) ggX2_setFault_X0_hasTransistor
set_option maxRecDepth 20000 in
theorem ggX2_setFault_X2_isWithin : GoodIn wsX2_setFault wsX2_isWithin := goodIn_r _ [11] (by decide +kernel) (by decide +kernel)
set_option maxRecDepth 20000 in
theorem gX2_setFault_X2_isWithin : GoodIn wsX2_setFault (va_wsS RX2 38 yX2_isWithin wsX2_isWithin) := goodIn_app (goodIn_of _ (by decide +kernel)) ggX2_setFault_X2_isWithin
set_option maxRecDepth 20000 in
theorem ggX2_setFault_X0_replaceFault : GoodIn wsX2_setFault wsX0_replaceFault := goodIn_r _ [15, 16, 21, 22, 23, 24, 25, 26, 27, 28, 29, 30, 31, 32, 33] (by decide +kernel) (by decide +kernel)
set_option maxRecDepth 20000 in
theorem gX2_setFault_X0_replaceFault : GoodIn wsX2_setFault (wsV RX2 123 RX0 yX0_replaceFault wsX0_replaceFault) := goodIn_app (goodIn_of _ (by decide +kernel)) ggX2_setFault_X0_replaceFault
theorem dX2_setFault_0 : decode cX2_setFault 0 = .ok (.aload_n 0, 1) := by decide +kernel
theorem dX2_setFault_1 : decode cX2_setFault 1 = .ok (.getfield 10, 3) := by decide +kernel
theorem dX2_setFault_4 : decode cX2_setFault 4 = .ok (.iload_n 1, 1) := by decide +kernel
theorem dX2_setFault_5 : decode cX2_setFault 5 = .ok (.invokevirtual 76, 3) := by decide +kernel
theorem dX2_setFault_8 : decode cX2_setFault 8 = .ok (.ifCond .ne 6, 3) := by decide +kernel
theorem dX2_setFault_11 : decode cX2_setFault 11 = .ok (.bipush (-2), 2) := by decide +kernel
theorem dX2_setFault_13 : decode cX2_setFault 13 = .ok (.ireturn, 1) := by decide +kernel
theorem dX2_setFault_14 : decode cX2_setFault 14 = .ok (.iload_n 2, 1) := by decide +kernel
theorem dX2_setFault_15 : decode cX2_setFault 15 = .ok (.iconst 0, 1) := by decide +kernel
theorem dX2_setFault_16 : decode cX2_setFault 16 = .ok (.iconst 2, 1) := by decide +kernel
theorem dX2_setFault_17 : decode cX2_setFault 17 = .ok (.invokestatic 38, 3) := by decide +kernel
theorem dX2_setFault_20 : decode cX2_setFault 20 = .ok (.ifCond .ne 6, 3) := by decide +kernel
theorem dX2_setFault_23 : decode cX2_setFault 23 = .ok (.bipush (-3), 2) := by decide +kernel
theorem dX2_setFault_25 : decode cX2_setFault 25 = .ok (.ireturn, 1) := by decide +kernel
theorem dX2_setFault_26 : decode cX2_setFault 26 = .ok (.aload_n 0, 1) := by decide +kernel
theorem dX2_setFault_27 : decode cX2_setFault 27 = .ok (.getfield 10, 3) := by decide +kernel
theorem dX2_setFault_30 : decode cX2_setFault 30 = .ok (.iload_n 1, 1) := by decide +kernel
theorem dX2_setFault_31 : decode cX2_setFault 31 = .ok (.iload_n 2, 1) := by decide +kernel
theorem dX2_setFault_32 : decode cX2_setFault 32 = .ok (.invokevirtual 123, 3) := by decide +kernel
theorem dX2_setFault_35 : decode cX2_setFault 35 = .ok (.ireturn, 1) := by decide +kernel
set_option maxRecDepth 20000 in
theorem ggX2_clearFaults_X0_removeFaults : GoodIn wsX2_clearFaults wsX0_removeFaults := goodIn_r _ [6, 7, 8, 9, 10, 5, 11, 12, 17, 18, 19, 20, 21, 22, 23, 24, 25, 26, 27, 28, 29] (by decide +kernel) (by decide +kernel)
set_option maxRecDepth 20000 in
theorem gX2_clearFaults_X0_removeFaults : GoodIn wsX2_clearFaults (wsV RX2 127 RX0 yX0_removeFaults wsX0_removeFaults) := goodIn_app (goodIn_of _ (by decide +kernel)) ggX2_clearFaults_X0_removeFaults
theorem dX2_clearFaults_0 : decode cX2_clearFaults 0 = .ok (.aload_n 0, 1) := by decide +kernel
theorem dX2_clearFaults_1 : decode cX2_clearFaults 1 = .ok (.getfield 10, 3) := by decide +kernel
theorem dX2_clearFaults_4 : decode cX2_clearFaults 4 = .ok (.invokevirtual 127, 3) := by decide +kernel
theorem dX2_clearFaults_7 : decode cX2_clearFaults 7 = .ok (.ireturn, 1) := by decide +kernel
set_option maxRecDepth 20000 in
theorem ggX2_detects_X0_hasTransistor : GoodIn wsX2_detects wsX0_hasTransistor := goodIn_r _ [7, 8, 128, 129, 130, 131, 132, 133, 134, 135, 136, 137, 138, 139, 140] (by decide +kernel) (by decide +kernel)
set_option maxRecDepth 20000 in
theorem gX2_detects_X0_hasTransistor : GoodIn wsX2_detects (wsV RX2 76 RX0 yX0_hasTransistor wsX0_hasTransistor) := goodIn_app (goodIn_of _ (by decide +kernel)) ggX2_detects_X0_hasTransistor
set_option maxRecDepth 20000 in
theorem ggX2_detects_X0_hasNode : GoodIn wsX2_detects wsX0_hasNode := goodIn_r _ [12, 13, 128, 129, 130, 131, 132, 133, 134, 135, 136, 137, 138, 139, 140] (by decide +kernel) (by decide +kernel)
set_option maxRecDepth 20000 in
theorem gX2_detects_X0_hasNode : GoodIn wsX2_detects (wsV RX2 46 RX0 yX0_hasNode wsX0_hasNode) := goodIn_app (goodIn_of _ (by decide +kernel)) ggX2_detects_X0_hasNode
set_option maxRecDepth 20000 in
theorem ggX2_detects_X2_isWithin : GoodIn wsX2_detects wsX2_isWithin := goodIn_r _ [17] (by decide +kernel) (by decide +kernel)
set_option maxRecDepth 20000 in
theorem gX2_detects_X2_isWithin : GoodIn wsX2_detects (va_wsS RX2 38 yX2_isWithin wsX2_isWithin) := goodIn_app (goodIn_of _ (by decide +kernel)) ggX2_detects_X2_isWithin
set_option maxRecDepth 20000 in
theorem ggX2_detects_X2_isLimit : GoodIn wsX2_detects wsX2_isLimit := goodIn_r _ [20, 14, 15, 16, 17] (by decide +kernel) (by decide +kernel)
set_option maxRecDepth 20000 in
theorem gX2_detects_X2_isLimit : GoodIn wsX2_detects (va_wsS RX2 109 yX2_isLimit wsX2_isLimit) := goodIn_app (goodIn_of _ (by decide +kernel)) ggX2_detects_X2_isLimit
set_option maxRecDepth 20000 in
theorem ggX2_detects_X0_copyFrom : GoodIn wsX2_detects wsX0_copyFrom := goodIn_r _ [24, 13, 25, 26, 27, 28, 29, 30, 31, 32, 33, 8, 34, 35, 36, 37, 38, 39, 128, 129, 130, 131, 132, 133, 134, 135, 136, 137, 138, 139, 140] (by decide +kernel) (by decide +kernel)
set_option maxRecDepth 20000 in
theorem gX2_detects_X0_copyFrom : GoodIn wsX2_detects (wsV RX2 95 RX0 yX0_copyFrom wsX0_copyFrom) := goodIn_app (goodIn_of _ (by decide +kernel)) ggX2_detects_X0_copyFrom
set_option maxRecDepth 20000 in
theorem ggX2_detects_X2_settledTrialValue : GoodIn wsX2_detects wsX2_settledTrialValue := goodIn_r _ [43, 2, 44, 45, 46, 16, 47, 48, 49, 50, 51, 52, 53, 54, 55, 56, 57, 58, 59, 60, 61, 62, 63, 64, 65, 66, 67, 68, 6, 69, 39, 34, 36, 70, 71, 72, 73, 32, 33, 74, 75, 76, 77, 78, 79, 80, 81, 82, 83, 84, 85, 86, 87, 88, 89, 90, 91, 92, 93, 94, 95, 96, 97, 98, 99, 100, 101, 102, 103, 104, 105, 106, 107, 108, 109, 110, 111, 112, 113, 114, 115, 124, 125, 126, 127, 141, 142, 143, 144, 145, 128, 129, 130, 131, 132, 133, 134, 135, 136, 137, 138, 139, 140] (by decide +kernel) (by decide +kernel)
set_option maxRecDepth 20000 in
theorem gX2_detects_X2_settledTrialValue : GoodIn wsX2_detects (wsV RX2 130 RX2 yX2_settledTrialValue wsX2_settledTrialValue) := goodIn_app (goodIn_of _ (by decide +kernel)) ggX2_detects_X2_settledTrialValue
set_option maxRecDepth 20000 in
theorem ggX2_detects_X0_copyWithFault : GoodIn wsX2_detects wsX0_copyWithFault := goodIn_r _ [119, 39, 120, 22, 23, 6, 24, 13, 25, 26, 27, 28, 29, 30, 31, 32, 33, 8, 34, 35, 36, 37, 38, 128, 129, 130, 131, 132, 133, 134, 135, 136, 137, 138, 139, 140] (by decide +kernel) (by decide +kernel)
set_option maxRecDepth 20000 in
theorem gX2_detects_X0_copyWithFault : GoodIn wsX2_detects (wsV RX2 133 RX0 yX0_copyWithFault wsX0_copyWithFault) := goodIn_app (goodIn_of _ (by decide +kernel)) ggX2_detects_X0_copyWithFault
set_option maxRecDepth 20000 in
theorem ggX2_detects_X2_areOpposite : GoodIn wsX2_detects wsX2_areOpposite := goodIn_r _ [123] (by decide +kernel) (by decide +kernel)
set_option maxRecDepth 20000 in
theorem gX2_detects_X2_areOpposite : GoodIn wsX2_detects (va_wsS RX2 137 yX2_areOpposite wsX2_areOpposite) := goodIn_app (goodIn_of _ (by decide +kernel)) ggX2_detects_X2_areOpposite
theorem dX2_detects_0 : decode cX2_detects 0 = .ok (.aload_n 0, 1) := by decide +kernel
theorem dX2_detects_1 : decode cX2_detects 1 = .ok (.getfield 10, 3) := by decide +kernel
theorem dX2_detects_4 : decode cX2_detects 4 = .ok (.iload_n 1, 1) := by decide +kernel
theorem dX2_detects_5 : decode cX2_detects 5 = .ok (.invokevirtual 76, 3) := by decide +kernel
theorem dX2_detects_8 : decode cX2_detects 8 = .ok (.ifCond .ne 6, 3) := by decide +kernel
theorem dX2_detects_11 : decode cX2_detects 11 = .ok (.bipush (-2), 2) := by decide +kernel
theorem dX2_detects_13 : decode cX2_detects 13 = .ok (.ireturn, 1) := by decide +kernel
theorem dX2_detects_14 : decode cX2_detects 14 = .ok (.aload_n 0, 1) := by decide +kernel
theorem dX2_detects_15 : decode cX2_detects 15 = .ok (.getfield 10, 3) := by decide +kernel
theorem dX2_detects_18 : decode cX2_detects 18 = .ok (.iload_n 3, 1) := by decide +kernel
theorem dX2_detects_19 : decode cX2_detects 19 = .ok (.invokevirtual 46, 3) := by decide +kernel
theorem dX2_detects_22 : decode cX2_detects 22 = .ok (.ifCond .ne 5, 3) := by decide +kernel
theorem dX2_detects_25 : decode cX2_detects 25 = .ok (.iconst (-1), 1) := by decide +kernel
theorem dX2_detects_26 : decode cX2_detects 26 = .ok (.ireturn, 1) := by decide +kernel
theorem dX2_detects_27 : decode cX2_detects 27 = .ok (.iload_n 2, 1) := by decide +kernel
theorem dX2_detects_28 : decode cX2_detects 28 = .ok (.iconst 1, 1) := by decide +kernel
theorem dX2_detects_29 : decode cX2_detects 29 = .ok (.iconst 2, 1) := by decide +kernel
theorem dX2_detects_30 : decode cX2_detects 30 = .ok (.invokestatic 38, 3) := by decide +kernel
theorem dX2_detects_33 : decode cX2_detects 33 = .ok (.ifCond .eq 11, 3) := by decide +kernel
theorem dX2_detects_36 : decode cX2_detects 36 = .ok (.iload 4, 2) := by decide +kernel
theorem dX2_detects_38 : decode cX2_detects 38 = .ok (.invokestatic 109, 3) := by decide +kernel
theorem dX2_detects_41 : decode cX2_detects 41 = .ok (.ifCond .ne 6, 3) := by decide +kernel
theorem dX2_detects_44 : decode cX2_detects 44 = .ok (.bipush (-3), 2) := by decide +kernel
theorem dX2_detects_46 : decode cX2_detects 46 = .ok (.ireturn, 1) := by decide +kernel
theorem dX2_detects_47 : decode cX2_detects 47 = .ok (.aload_n 0, 1) := by decide +kernel
theorem dX2_detects_48 : decode cX2_detects 48 = .ok (.getfield 16, 3) := by decide +kernel
theorem dX2_detects_51 : decode cX2_detects 51 = .ok (.aload_n 0, 1) := by decide +kernel
theorem dX2_detects_52 : decode cX2_detects 52 = .ok (.getfield 10, 3) := by decide +kernel
theorem dX2_detects_55 : decode cX2_detects 55 = .ok (.invokevirtual 95, 3) := by decide +kernel
theorem dX2_detects_58 : decode cX2_detects 58 = .ok (.aload_n 0, 1) := by decide +kernel
theorem dX2_detects_59 : decode cX2_detects 59 = .ok (.iload_n 3, 1) := by decide +kernel
theorem dX2_detects_60 : decode cX2_detects 60 = .ok (.iload 4, 2) := by decide +kernel
theorem dX2_detects_62 : decode cX2_detects 62 = .ok (.invokevirtual 130, 3) := by decide +kernel
theorem dX2_detects_65 : decode cX2_detects 65 = .ok (.istore 5, 2) := by decide +kernel
theorem dX2_detects_67 : decode cX2_detects 67 = .ok (.aload_n 0, 1) := by decide +kernel
theorem dX2_detects_68 : decode cX2_detects 68 = .ok (.getfield 16, 3) := by decide +kernel
theorem dX2_detects_71 : decode cX2_detects 71 = .ok (.aload_n 0, 1) := by decide +kernel
theorem dX2_detects_72 : decode cX2_detects 72 = .ok (.getfield 10, 3) := by decide +kernel
theorem dX2_detects_75 : decode cX2_detects 75 = .ok (.iload_n 1, 1) := by decide +kernel
theorem dX2_detects_76 : decode cX2_detects 76 = .ok (.iload_n 2, 1) := by decide +kernel
theorem dX2_detects_77 : decode cX2_detects 77 = .ok (.invokevirtual 133, 3) := by decide +kernel
theorem dX2_detects_80 : decode cX2_detects 80 = .ok (.aload_n 0, 1) := by decide +kernel
theorem dX2_detects_81 : decode cX2_detects 81 = .ok (.iload_n 3, 1) := by decide +kernel
theorem dX2_detects_82 : decode cX2_detects 82 = .ok (.iload 4, 2) := by decide +kernel
theorem dX2_detects_84 : decode cX2_detects 84 = .ok (.invokevirtual 130, 3) := by decide +kernel
theorem dX2_detects_87 : decode cX2_detects 87 = .ok (.istore 6, 2) := by decide +kernel
theorem dX2_detects_89 : decode cX2_detects 89 = .ok (.iload 5, 2) := by decide +kernel
theorem dX2_detects_91 : decode cX2_detects 91 = .ok (.iload 6, 2) := by decide +kernel
theorem dX2_detects_93 : decode cX2_detects 93 = .ok (.invokestatic 137, 3) := by decide +kernel
theorem dX2_detects_96 : decode cX2_detects 96 = .ok (.ifCond .eq 7, 3) := by decide +kernel
theorem dX2_detects_99 : decode cX2_detects 99 = .ok (.iconst 1, 1) := by decide +kernel
theorem dX2_detects_100 : decode cX2_detects 100 = .ok (.goto 4, 3) := by decide +kernel
theorem dX2_detects_103 : decode cX2_detects 103 = .ok (.iconst 0, 1) := by decide +kernel
theorem dX2_detects_104 : decode cX2_detects 104 = .ok (.ireturn, 1) := by decide +kernel
set_option maxRecDepth 20000 in
theorem ggX2_detectedFaults_X0_hasNode : GoodIn wsX2_detectedFaults wsX0_hasNode := goodIn_r _ [8, 9, 125, 126, 127, 128, 129, 130, 131, 132, 133, 134, 135, 136, 137] (by decide +kernel) (by decide +kernel)
set_option maxRecDepth 20000 in
theorem gX2_detectedFaults_X0_hasNode : GoodIn wsX2_detectedFaults (wsV RX2 46 RX0 yX0_hasNode wsX0_hasNode) := goodIn_app (goodIn_of _ (by decide +kernel)) ggX2_detectedFaults_X0_hasNode
set_option maxRecDepth 20000 in
theorem ggX2_detectedFaults_X2_isLimit : GoodIn wsX2_detectedFaults wsX2_isLimit := goodIn_r _ [13, 14, 15, 12, 16] (by decide +kernel) (by decide +kernel)
set_option maxRecDepth 20000 in
theorem gX2_detectedFaults_X2_isLimit : GoodIn wsX2_detectedFaults (va_wsS RX2 109 yX2_isLimit wsX2_isLimit) := goodIn_app (goodIn_of _ (by decide +kernel)) ggX2_detectedFaults_X2_isLimit
set_option maxRecDepth 20000 in
theorem ggX2_detectedFaults_X0_copyFrom : GoodIn wsX2_detectedFaults wsX0_copyFrom := goodIn_r _ [20, 9, 21, 22, 23, 24, 25, 26, 27, 28, 29, 30, 31, 32, 33, 34, 35, 36, 125, 126, 127, 128, 129, 130, 131, 132, 133, 134, 135, 136, 137] (by decide +kernel) (by decide +kernel)
set_option maxRecDepth 20000 in
theorem gX2_detectedFaults_X0_copyFrom : GoodIn wsX2_detectedFaults (wsV RX2 95 RX0 yX0_copyFrom wsX0_copyFrom) := goodIn_app (goodIn_of _ (by decide +kernel)) ggX2_detectedFaults_X0_copyFrom
set_option maxRecDepth 20000 in
theorem ggX2_detectedFaults_X2_settledTrialValue : GoodIn wsX2_detectedFaults wsX2_settledTrialValue := goodIn_r _ [40, 2, 41, 42, 43, 12, 44, 45, 46, 47, 48, 49, 50, 51, 52, 53, 54, 55, 56, 57, 58, 59, 60, 61, 62, 63, 64, 65, 7, 66, 36, 31, 33, 67, 68, 69, 70, 28, 29, 71, 72, 73, 74, 75, 76, 77, 78, 79, 80, 81, 82, 83, 84, 85, 86, 87, 88, 89, 90, 91, 92, 93, 94, 95, 96, 97, 98, 99, 100, 101, 102, 103, 104, 105, 106, 107, 108, 109, 110, 111, 112, 121, 122, 123, 124, 138, 139, 140, 141, 142, 125, 126, 127, 128, 129, 130, 131, 132, 133, 134, 135, 136, 137] (by decide +kernel) (by decide +kernel)
set_option maxRecDepth 20000 in
theorem gX2_detectedFaults_X2_settledTrialValue : GoodIn wsX2_detectedFaults (wsV RX2 130 RX2 yX2_settledTrialValue wsX2_settledTrialValue) := goodIn_app (goodIn_of _ (by decide +kernel)) ggX2_detectedFaults_X2_settledTrialValue
set_option maxRecDepth 20000 in
theorem ggX2_detectedFaults_X0_copyWithFault : GoodIn wsX2_detectedFaults wsX0_copyWithFault := goodIn_r _ [116, 36, 117, 18, 19, 7, 20, 9, 21, 22, 23, 24, 25, 26, 27, 28, 29, 30, 31, 32, 33, 34, 35, 125, 126, 127, 128, 129, 130, 131, 132, 133, 134, 135, 136, 137] (by decide +kernel) (by decide +kernel)
set_option maxRecDepth 20000 in
theorem gX2_detectedFaults_X0_copyWithFault : GoodIn wsX2_detectedFaults (wsV RX2 133 RX0 yX0_copyWithFault wsX0_copyWithFault) := goodIn_app (goodIn_of _ (by decide +kernel)) ggX2_detectedFaults_X0_copyWithFault
set_option maxRecDepth 20000 in
theorem ggX2_detectedFaults_X2_areOpposite : GoodIn wsX2_detectedFaults wsX2_areOpposite := goodIn_r _ [120] (by decide +kernel) (by decide +kernel)
set_option maxRecDepth 20000 in
theorem gX2_detectedFaults_X2_areOpposite : GoodIn wsX2_detectedFaults (va_wsS RX2 137 yX2_areOpposite wsX2_areOpposite) := goodIn_app (goodIn_of _ (by decide +kernel)) ggX2_detectedFaults_X2_areOpposite
theorem dX2_detectedFaults_0 : decode cX2_detectedFaults 0 = .ok (.aload_n 0, 1) := by decide +kernel
theorem dX2_detectedFaults_1 : decode cX2_detectedFaults 1 = .ok (.getfield 10, 3) := by decide +kernel
theorem dX2_detectedFaults_4 : decode cX2_detectedFaults 4 = .ok (.iload_n 1, 1) := by decide +kernel
theorem dX2_detectedFaults_5 : decode cX2_detectedFaults 5 = .ok (.invokevirtual 46, 3) := by decide +kernel
theorem dX2_detectedFaults_8 : decode cX2_detectedFaults 8 = .ok (.ifCond .ne 5, 3) := by decide +kernel
theorem dX2_detectedFaults_11 : decode cX2_detectedFaults 11 = .ok (.iconst (-1), 1) := by decide +kernel
theorem dX2_detectedFaults_12 : decode cX2_detectedFaults 12 = .ok (.ireturn, 1) := by decide +kernel
theorem dX2_detectedFaults_13 : decode cX2_detectedFaults 13 = .ok (.iload_n 2, 1) := by decide +kernel
theorem dX2_detectedFaults_14 : decode cX2_detectedFaults 14 = .ok (.invokestatic 109, 3) := by decide +kernel
theorem dX2_detectedFaults_17 : decode cX2_detectedFaults 17 = .ok (.ifCond .ne 6, 3) := by decide +kernel
theorem dX2_detectedFaults_20 : decode cX2_detectedFaults 20 = .ok (.bipush (-3), 2) := by decide +kernel
theorem dX2_detectedFaults_22 : decode cX2_detectedFaults 22 = .ok (.ireturn, 1) := by decide +kernel
theorem dX2_detectedFaults_23 : decode cX2_detectedFaults 23 = .ok (.aload_n 0, 1) := by decide +kernel
theorem dX2_detectedFaults_24 : decode cX2_detectedFaults 24 = .ok (.getfield 16, 3) := by decide +kernel
theorem dX2_detectedFaults_27 : decode cX2_detectedFaults 27 = .ok (.aload_n 0, 1) := by decide +kernel
theorem dX2_detectedFaults_28 : decode cX2_detectedFaults 28 = .ok (.getfield 10, 3) := by decide +kernel
theorem dX2_detectedFaults_31 : decode cX2_detectedFaults 31 = .ok (.invokevirtual 95, 3) := by decide +kernel
theorem dX2_detectedFaults_34 : decode cX2_detectedFaults 34 = .ok (.aload_n 0, 1) := by decide +kernel
theorem dX2_detectedFaults_35 : decode cX2_detectedFaults 35 = .ok (.iload_n 1, 1) := by decide +kernel
theorem dX2_detectedFaults_36 : decode cX2_detectedFaults 36 = .ok (.iload_n 2, 1) := by decide +kernel
theorem dX2_detectedFaults_37 : decode cX2_detectedFaults 37 = .ok (.invokevirtual 130, 3) := by decide +kernel
theorem dX2_detectedFaults_40 : decode cX2_detectedFaults 40 = .ok (.istore_n 3, 1) := by decide +kernel
theorem dX2_detectedFaults_41 : decode cX2_detectedFaults 41 = .ok (.iload_n 3, 1) := by decide +kernel
theorem dX2_detectedFaults_42 : decode cX2_detectedFaults 42 = .ok (.iconst 2, 1) := by decide +kernel
theorem dX2_detectedFaults_43 : decode cX2_detectedFaults 43 = .ok (.if_icmp .ne 5, 3) := by decide +kernel
theorem dX2_detectedFaults_46 : decode cX2_detectedFaults 46 = .ok (.iconst 0, 1) := by decide +kernel
theorem dX2_detectedFaults_47 : decode cX2_detectedFaults 47 = .ok (.ireturn, 1) := by decide +kernel
theorem dX2_detectedFaults_48 : decode cX2_detectedFaults 48 = .ok (.iconst 0, 1) := by decide +kernel
theorem dX2_detectedFaults_49 : decode cX2_detectedFaults 49 = .ok (.istore 4, 2) := by decide +kernel
theorem dX2_detectedFaults_51 : decode cX2_detectedFaults 51 = .ok (.iconst 0, 1) := by decide +kernel
theorem dX2_detectedFaults_52 : decode cX2_detectedFaults 52 = .ok (.istore 5, 2) := by decide +kernel
theorem dX2_detectedFaults_54 : decode cX2_detectedFaults 54 = .ok (.iload 5, 2) := by decide +kernel
theorem dX2_detectedFaults_56 : decode cX2_detectedFaults 56 = .ok (.aload_n 0, 1) := by decide +kernel
theorem dX2_detectedFaults_57 : decode cX2_detectedFaults 57 = .ok (.getfield 10, 3) := by decide +kernel
theorem dX2_detectedFaults_60 : decode cX2_detectedFaults 60 = .ok (.getfield 50, 3) := by decide +kernel
theorem dX2_detectedFaults_63 : decode cX2_detectedFaults 63 = .ok (.if_icmp .ge 55, 3) := by decide +kernel
theorem dX2_detectedFaults_66 : decode cX2_detectedFaults 66 = .ok (.iconst 1, 1) := by decide +kernel
theorem dX2_detectedFaults_67 : decode cX2_detectedFaults 67 = .ok (.istore 6, 2) := by decide +kernel
theorem dX2_detectedFaults_69 : decode cX2_detectedFaults 69 = .ok (.iload 6, 2) := by decide +kernel
theorem dX2_detectedFaults_71 : decode cX2_detectedFaults 71 = .ok (.iconst 2, 1) := by decide +kernel
theorem dX2_detectedFaults_72 : decode cX2_detectedFaults 72 = .ok (.if_icmp .gt 40, 3) := by decide +kernel
theorem dX2_detectedFaults_75 : decode cX2_detectedFaults 75 = .ok (.aload_n 0, 1) := by decide +kernel
theorem dX2_detectedFaults_76 : decode cX2_detectedFaults 76 = .ok (.getfield 16, 3) := by decide +kernel
theorem dX2_detectedFaults_79 : decode cX2_detectedFaults 79 = .ok (.aload_n 0, 1) := by decide +kernel
theorem dX2_detectedFaults_80 : decode cX2_detectedFaults 80 = .ok (.getfield 10, 3) := by decide +kernel
theorem dX2_detectedFaults_83 : decode cX2_detectedFaults 83 = .ok (.iload 5, 2) := by decide +kernel
theorem dX2_detectedFaults_85 : decode cX2_detectedFaults 85 = .ok (.iload 6, 2) := by decide +kernel
theorem dX2_detectedFaults_87 : decode cX2_detectedFaults 87 = .ok (.invokevirtual 133, 3) := by decide +kernel
theorem dX2_detectedFaults_90 : decode cX2_detectedFaults 90 = .ok (.iload_n 3, 1) := by decide +kernel
theorem dX2_detectedFaults_91 : decode cX2_detectedFaults 91 = .ok (.aload_n 0, 1) := by decide +kernel
theorem dX2_detectedFaults_92 : decode cX2_detectedFaults 92 = .ok (.iload_n 1, 1) := by decide +kernel
theorem dX2_detectedFaults_93 : decode cX2_detectedFaults 93 = .ok (.iload_n 2, 1) := by decide +kernel
theorem dX2_detectedFaults_94 : decode cX2_detectedFaults 94 = .ok (.invokevirtual 130, 3) := by decide +kernel
theorem dX2_detectedFaults_97 : decode cX2_detectedFaults 97 = .ok (.invokestatic 137, 3) := by decide +kernel
theorem dX2_detectedFaults_100 : decode cX2_detectedFaults 100 = .ok (.ifCond .eq 6, 3) := by decide +kernel
theorem dX2_detectedFaults_103 : decode cX2_detectedFaults 103 = .ok (.iinc 4 1, 3) := by decide +kernel
theorem dX2_detectedFaults_106 : decode cX2_detectedFaults 106 = .ok (.iinc 6 1, 3) := by decide +kernel
theorem dX2_detectedFaults_109 : decode cX2_detectedFaults 109 = .ok (.goto (-40), 3) := by decide +kernel
theorem dX2_detectedFaults_112 : decode cX2_detectedFaults 112 = .ok (.iinc 5 1, 3) := by decide +kernel
theorem dX2_detectedFaults_115 : decode cX2_detectedFaults 115 = .ok (.goto (-61), 3) := by decide +kernel
theorem dX2_detectedFaults_118 : decode cX2_detectedFaults 118 = .ok (.iload 4, 2) := by decide +kernel
theorem dX2_detectedFaults_120 : decode cX2_detectedFaults 120 = .ok (.ireturn, 1) := by decide +kernel
set_option maxRecDepth 20000 in
theorem ggX2_save_X2_isWithin : GoodIn wsX2_save wsX2_isWithin := goodIn_r _ [10] (by decide +kernel) (by decide +kernel)
set_option maxRecDepth 20000 in
theorem gX2_save_X2_isWithin : GoodIn wsX2_save (va_wsS RX2 38 yX2_isWithin wsX2_isWithin) := goodIn_app (goodIn_of _ (by decide +kernel)) ggX2_save_X2_isWithin
set_option maxRecDepth 20000 in
theorem ggX2_save_X0_init : GoodIn wsX2_save wsX0_init := goodIn_r _ [12, 13, 14, 15, 16, 17, 18, 19, 20, 21, 22, 23, 42, 43, 44, 45, 46, 47, 48, 49, 50, 51, 52, 53, 54] (by decide +kernel) (by decide +kernel)
set_option maxRecDepth 20000 in
theorem gX2_save_X0_init_n9 : GoodIn wsX2_save (wsX0_init) := ggX2_save_X0_init
set_option maxRecDepth 20000 in
theorem ggX2_save_X0_copyFrom : GoodIn wsX2_save wsX0_copyFrom := goodIn_r _ [27, 28, 29, 30, 17, 31, 32, 33, 34, 35, 36, 37, 18, 19, 20, 21, 22, 23, 42, 43, 44, 45, 46, 47, 48, 49, 50, 51, 52, 53, 54] (by decide +kernel) (by decide +kernel)
set_option maxRecDepth 20000 in
theorem gX2_save_X0_copyFrom : GoodIn wsX2_save (wsV RX2 95 RX0 yX0_copyFrom wsX0_copyFrom) := goodIn_app (goodIn_of _ (by decide +kernel)) ggX2_save_X0_copyFrom
theorem dX2_save_0 : decode cX2_save 0 = .ok (.iload_n 1, 1) := by decide +kernel
theorem dX2_save_1 : decode cX2_save 1 = .ok (.iconst 0, 1) := by decide +kernel
theorem dX2_save_2 : decode cX2_save 2 = .ok (.iconst 1, 1) := by decide +kernel
theorem dX2_save_3 : decode cX2_save 3 = .ok (.invokestatic 38, 3) := by decide +kernel
theorem dX2_save_6 : decode cX2_save 6 = .ok (.ifCond .ne 6, 3) := by decide +kernel
theorem dX2_save_9 : decode cX2_save 9 = .ok (.bipush (-3), 2) := by decide +kernel
theorem dX2_save_11 : decode cX2_save 11 = .ok (.ireturn, 1) := by decide +kernel
theorem dX2_save_12 : decode cX2_save 12 = .ok (.aload_n 0, 1) := by decide +kernel
theorem dX2_save_13 : decode cX2_save 13 = .ok (.getfield 19, 3) := by decide +kernel
theorem dX2_save_16 : decode cX2_save 16 = .ok (.iload_n 1, 1) := by decide +kernel
theorem dX2_save_17 : decode cX2_save 17 = .ok (.aaload, 1) := by decide +kernel
theorem dX2_save_18 : decode cX2_save 18 = .ok (.astore_n 2, 1) := by decide +kernel
theorem dX2_save_19 : decode cX2_save 19 = .ok (.aload_n 2, 1) := by decide +kernel
theorem dX2_save_20 : decode cX2_save 20 = .ok (.ifnonnull 18, 3) := by decide +kernel
theorem dX2_save_23 : decode cX2_save 23 = .ok (.new 7, 3) := by decide +kernel
theorem dX2_save_26 : decode cX2_save 26 = .ok (.dup, 1) := by decide +kernel
theorem dX2_save_27 : decode cX2_save 27 = .ok (.invokespecial 9, 3) := by decide +kernel
theorem dX2_save_30 : decode cX2_save 30 = .ok (.astore_n 2, 1) := by decide +kernel
theorem dX2_save_31 : decode cX2_save 31 = .ok (.aload_n 0, 1) := by decide +kernel
theorem dX2_save_32 : decode cX2_save 32 = .ok (.getfield 19, 3) := by decide +kernel
theorem dX2_save_35 : decode cX2_save 35 = .ok (.iload_n 1, 1) := by decide +kernel
theorem dX2_save_36 : decode cX2_save 36 = .ok (.aload_n 2, 1) := by decide +kernel
theorem dX2_save_37 : decode cX2_save 37 = .ok (.aastore, 1) := by decide +kernel
theorem dX2_save_38 : decode cX2_save 38 = .ok (.aload_n 2, 1) := by decide +kernel
theorem dX2_save_39 : decode cX2_save 39 = .ok (.aload_n 0, 1) := by decide +kernel
theorem dX2_save_40 : decode cX2_save 40 = .ok (.getfield 10, 3) := by decide +kernel
theorem dX2_save_43 : decode cX2_save 43 = .ok (.invokevirtual 95, 3) := by decide +kernel
theorem dX2_save_46 : decode cX2_save 46 = .ok (.aload_n 0, 1) := by decide +kernel
theorem dX2_save_47 : decode cX2_save 47 = .ok (.getfield 10, 3) := by decide +kernel
theorem dX2_save_50 : decode cX2_save 50 = .ok (.getfield 30, 3) := by decide +kernel
theorem dX2_save_53 : decode cX2_save 53 = .ok (.ireturn, 1) := by decide +kernel
set_option maxRecDepth 20000 in
theorem ggX2_restore_X2_isWithin : GoodIn wsX2_restore wsX2_isWithin := goodIn_r _ [7] (by decide +kernel) (by decide +kernel)
set_option maxRecDepth 20000 in
theorem gX2_restore_X2_isWithin : GoodIn wsX2_restore (va_wsS RX2 38 yX2_isWithin wsX2_isWithin) := goodIn_app (goodIn_of _ (by decide +kernel)) ggX2_restore_X2_isWithin
set_option maxRecDepth 20000 in
theorem ggX2_restore_X0_copyFrom : GoodIn wsX2_restore wsX0_copyFrom := goodIn_r _ [12, 13, 14, 15, 16, 17, 18, 19, 20, 21, 22, 23, 24, 25, 26, 27, 28, 29, 34, 35, 36, 37, 38, 39, 40, 41, 42, 43, 44, 45, 46] (by decide +kernel) (by decide +kernel)
set_option maxRecDepth 20000 in
theorem gX2_restore_X0_copyFrom : GoodIn wsX2_restore (wsV RX2 95 RX0 yX0_copyFrom wsX0_copyFrom) := goodIn_app (goodIn_of _ (by decide +kernel)) ggX2_restore_X0_copyFrom
theorem dX2_restore_0 : decode cX2_restore 0 = .ok (.iload_n 1, 1) := by decide +kernel
theorem dX2_restore_1 : decode cX2_restore 1 = .ok (.iconst 0, 1) := by decide +kernel
theorem dX2_restore_2 : decode cX2_restore 2 = .ok (.iconst 1, 1) := by decide +kernel
theorem dX2_restore_3 : decode cX2_restore 3 = .ok (.invokestatic 38, 3) := by decide +kernel
theorem dX2_restore_6 : decode cX2_restore 6 = .ok (.ifCond .ne 6, 3) := by decide +kernel
theorem dX2_restore_9 : decode cX2_restore 9 = .ok (.bipush (-3), 2) := by decide +kernel
theorem dX2_restore_11 : decode cX2_restore 11 = .ok (.ireturn, 1) := by decide +kernel
theorem dX2_restore_12 : decode cX2_restore 12 = .ok (.aload_n 0, 1) := by decide +kernel
theorem dX2_restore_13 : decode cX2_restore 13 = .ok (.getfield 19, 3) := by decide +kernel
theorem dX2_restore_16 : decode cX2_restore 16 = .ok (.iload_n 1, 1) := by decide +kernel
theorem dX2_restore_17 : decode cX2_restore 17 = .ok (.aaload, 1) := by decide +kernel
theorem dX2_restore_18 : decode cX2_restore 18 = .ok (.astore_n 2, 1) := by decide +kernel
theorem dX2_restore_19 : decode cX2_restore 19 = .ok (.aload_n 2, 1) := by decide +kernel
theorem dX2_restore_20 : decode cX2_restore 20 = .ok (.ifnonnull 6, 3) := by decide +kernel
theorem dX2_restore_23 : decode cX2_restore 23 = .ok (.bipush (-9), 2) := by decide +kernel
theorem dX2_restore_25 : decode cX2_restore 25 = .ok (.ireturn, 1) := by decide +kernel
theorem dX2_restore_26 : decode cX2_restore 26 = .ok (.aload_n 0, 1) := by decide +kernel
theorem dX2_restore_27 : decode cX2_restore 27 = .ok (.getfield 10, 3) := by decide +kernel
theorem dX2_restore_30 : decode cX2_restore 30 = .ok (.aload_n 2, 1) := by decide +kernel
theorem dX2_restore_31 : decode cX2_restore 31 = .ok (.invokevirtual 95, 3) := by decide +kernel
theorem dX2_restore_34 : decode cX2_restore 34 = .ok (.aload_n 0, 1) := by decide +kernel
theorem dX2_restore_35 : decode cX2_restore 35 = .ok (.getfield 10, 3) := by decide +kernel
theorem dX2_restore_38 : decode cX2_restore 38 = .ok (.getfield 30, 3) := by decide +kernel
theorem dX2_restore_41 : decode cX2_restore 41 = .ok (.ireturn, 1) := by decide +kernel
set_option maxRecDepth 20000 in
theorem ggX2_replaceValue_X0_hasNode : GoodIn wsX2_replaceValue wsX0_hasNode := goodIn_r _ [6, 7, 34, 35, 36, 37, 38, 39, 40, 41, 42, 43, 44, 45, 46] (by decide +kernel) (by decide +kernel)
set_option maxRecDepth 20000 in
theorem gX2_replaceValue_X0_hasNode : GoodIn wsX2_replaceValue (wsV RX2 46 RX0 yX0_hasNode wsX0_hasNode) := goodIn_app (goodIn_of _ (by decide +kernel)) ggX2_replaceValue_X0_hasNode
set_option maxRecDepth 20000 in
theorem ggX2_replaceValue_X0_isInput : GoodIn wsX2_replaceValue wsX0_isInput := goodIn_r _ [11, 12, 34, 35, 36, 37, 38, 39, 40, 41, 42, 43, 44, 45, 46] (by decide +kernel) (by decide +kernel)
set_option maxRecDepth 20000 in
theorem gX2_replaceValue_X0_isInput : GoodIn wsX2_replaceValue (wsV RX2 102 RX0 yX0_isInput wsX0_isInput) := goodIn_app (goodIn_of _ (by decide +kernel)) ggX2_replaceValue_X0_isInput
set_option maxRecDepth 20000 in
theorem ggX2_replaceValue_X2_isValue : GoodIn wsX2_replaceValue wsX2_isValue := goodIn_r _ [16, 17, 18, 15, 19] (by decide +kernel) (by decide +kernel)
set_option maxRecDepth 20000 in
theorem gX2_replaceValue_X2_isValue : GoodIn wsX2_replaceValue (va_wsS RX2 70 yX2_isValue wsX2_isValue) := goodIn_app (goodIn_of _ (by decide +kernel)) ggX2_replaceValue_X2_isValue
set_option maxRecDepth 20000 in
theorem ggX2_replaceValue_X0_valueOf : GoodIn wsX2_replaceValue wsX0_valueOf := goodIn_r _ [23, 24, 25, 34, 35, 36, 37, 38, 39, 40, 41, 42, 43, 44, 45, 46] (by decide +kernel) (by decide +kernel)
set_option maxRecDepth 20000 in
theorem gX2_replaceValue_X0_valueOf : GoodIn wsX2_replaceValue (wsV RX2 67 RX0 yX0_valueOf wsX0_valueOf) := goodIn_app (goodIn_of _ (by decide +kernel)) ggX2_replaceValue_X0_valueOf
set_option maxRecDepth 20000 in
theorem ggX2_replaceValue_X0_putValue : GoodIn wsX2_replaceValue wsX0_putValue := goodIn_r _ [29, 24, 25, 34, 35, 36, 37, 38, 39, 40, 41, 42, 43, 44, 45, 46] (by decide +kernel) (by decide +kernel)
set_option maxRecDepth 20000 in
theorem gX2_replaceValue_X0_putValue : GoodIn wsX2_replaceValue (wsV RX2 141 RX0 yX0_putValue wsX0_putValue) := goodIn_app (goodIn_of _ (by decide +kernel)) ggX2_replaceValue_X0_putValue
theorem dX2_replaceValue_0 : decode cX2_replaceValue 0 = .ok (.aload_n 0, 1) := by decide +kernel
theorem dX2_replaceValue_1 : decode cX2_replaceValue 1 = .ok (.getfield 10, 3) := by decide +kernel
theorem dX2_replaceValue_4 : decode cX2_replaceValue 4 = .ok (.iload_n 1, 1) := by decide +kernel
theorem dX2_replaceValue_5 : decode cX2_replaceValue 5 = .ok (.invokevirtual 46, 3) := by decide +kernel
theorem dX2_replaceValue_8 : decode cX2_replaceValue 8 = .ok (.ifCond .ne 5, 3) := by decide +kernel
theorem dX2_replaceValue_11 : decode cX2_replaceValue 11 = .ok (.iconst (-1), 1) := by decide +kernel
theorem dX2_replaceValue_12 : decode cX2_replaceValue 12 = .ok (.ireturn, 1) := by decide +kernel
theorem dX2_replaceValue_13 : decode cX2_replaceValue 13 = .ok (.aload_n 0, 1) := by decide +kernel
theorem dX2_replaceValue_14 : decode cX2_replaceValue 14 = .ok (.getfield 10, 3) := by decide +kernel
theorem dX2_replaceValue_17 : decode cX2_replaceValue 17 = .ok (.iload_n 1, 1) := by decide +kernel
theorem dX2_replaceValue_18 : decode cX2_replaceValue 18 = .ok (.invokevirtual 102, 3) := by decide +kernel
theorem dX2_replaceValue_21 : decode cX2_replaceValue 21 = .ok (.iload_n 3, 1) := by decide +kernel
theorem dX2_replaceValue_22 : decode cX2_replaceValue 22 = .ok (.if_icmp .eq 6, 3) := by decide +kernel
theorem dX2_replaceValue_25 : decode cX2_replaceValue 25 = .ok (.bipush (-5), 2) := by decide +kernel
theorem dX2_replaceValue_27 : decode cX2_replaceValue 27 = .ok (.ireturn, 1) := by decide +kernel
theorem dX2_replaceValue_28 : decode cX2_replaceValue 28 = .ok (.iload_n 2, 1) := by decide +kernel
theorem dX2_replaceValue_29 : decode cX2_replaceValue 29 = .ok (.invokestatic 70, 3) := by decide +kernel
theorem dX2_replaceValue_32 : decode cX2_replaceValue 32 = .ok (.ifCond .ne 6, 3) := by decide +kernel
theorem dX2_replaceValue_35 : decode cX2_replaceValue 35 = .ok (.bipush (-3), 2) := by decide +kernel
theorem dX2_replaceValue_37 : decode cX2_replaceValue 37 = .ok (.ireturn, 1) := by decide +kernel
theorem dX2_replaceValue_38 : decode cX2_replaceValue 38 = .ok (.aload_n 0, 1) := by decide +kernel
theorem dX2_replaceValue_39 : decode cX2_replaceValue 39 = .ok (.getfield 10, 3) := by decide +kernel
theorem dX2_replaceValue_42 : decode cX2_replaceValue 42 = .ok (.iload_n 1, 1) := by decide +kernel
theorem dX2_replaceValue_43 : decode cX2_replaceValue 43 = .ok (.invokevirtual 67, 3) := by decide +kernel
theorem dX2_replaceValue_46 : decode cX2_replaceValue 46 = .ok (.istore 4, 2) := by decide +kernel
theorem dX2_replaceValue_48 : decode cX2_replaceValue 48 = .ok (.aload_n 0, 1) := by decide +kernel
theorem dX2_replaceValue_49 : decode cX2_replaceValue 49 = .ok (.getfield 10, 3) := by decide +kernel
theorem dX2_replaceValue_52 : decode cX2_replaceValue 52 = .ok (.iload_n 1, 1) := by decide +kernel
theorem dX2_replaceValue_53 : decode cX2_replaceValue 53 = .ok (.iload_n 2, 1) := by decide +kernel
theorem dX2_replaceValue_54 : decode cX2_replaceValue 54 = .ok (.invokevirtual 141, 3) := by decide +kernel
theorem dX2_replaceValue_57 : decode cX2_replaceValue 57 = .ok (.iload 4, 2) := by decide +kernel
theorem dX2_replaceValue_59 : decode cX2_replaceValue 59 = .ok (.ireturn, 1) := by decide +kernel
set_option maxRecDepth 20000 in
theorem ggX2_advance_X1_find : GoodIn wsX2_advance wsX1_find := goodIn_r _ [6, 7, 8, 9, 10, 11, 12, 13, 5, 14, 15, 16, 17, 18, 19, 20, 21, 22, 23, 24, 25, 26, 27, 28, 29, 30, 31, 32, 33, 34, 35, 36, 37, 38, 39, 40, 41, 42, 43, 44, 45, 46, 47, 48, 49, 50, 51, 52, 53, 54, 55, 56, 57, 58, 59, 60, 61, 62, 63, 64, 65, 78, 79, 80, 81, 82, 83, 84, 85, 86, 87, 88, 89, 90, 91, 92, 93, 94, 95] (by decide +kernel) (by decide +kernel)
set_option maxRecDepth 20000 in
theorem gX2_advance_X1_find : GoodIn wsX2_advance (wsV RX2 82 RX1 yX1_find wsX1_find) := goodIn_app (goodIn_of _ (by decide +kernel)) ggX2_advance_X1_find
set_option maxRecDepth 20000 in
theorem ggX2_advance_X1_changesOf : GoodIn wsX2_advance wsX1_changesOf := goodIn_r _ [69, 7, 8, 9, 10, 78, 79, 80, 81, 82, 83, 84, 85, 86, 87, 88, 89, 90, 91, 92, 93, 94, 95] (by decide +kernel) (by decide +kernel)
set_option maxRecDepth 20000 in
theorem gX2_advance_X1_changesOf : GoodIn wsX2_advance (wsV RX2 116 RX1 yX1_changesOf wsX1_changesOf) := goodIn_app (goodIn_of _ (by decide +kernel)) ggX2_advance_X1_changesOf
set_option maxRecDepth 20000 in
theorem ggX2_advance_X1_putInto : GoodIn wsX2_advance wsX1_putInto := goodIn_r _ [73, 7, 8, 9, 10, 78, 79, 80, 81, 82, 83, 84, 85, 86, 87, 88, 89, 90, 91, 92, 93, 94, 95] (by decide +kernel) (by decide +kernel)
set_option maxRecDepth 20000 in
theorem gX2_advance_X1_putInto : GoodIn wsX2_advance (wsV RX2 145 RX1 yX1_putInto wsX1_putInto) := goodIn_app (goodIn_of _ (by decide +kernel)) ggX2_advance_X1_putInto
theorem dX2_advance_0 : decode cX2_advance 0 = .ok (.aload_n 0, 1) := by decide +kernel
theorem dX2_advance_1 : decode cX2_advance 1 = .ok (.getfield 26, 3) := by decide +kernel
theorem dX2_advance_4 : decode cX2_advance 4 = .ok (.aload_n 1, 1) := by decide +kernel
theorem dX2_advance_5 : decode cX2_advance 5 = .ok (.invokevirtual 82, 3) := by decide +kernel
theorem dX2_advance_8 : decode cX2_advance 8 = .ok (.aload_n 0, 1) := by decide +kernel
theorem dX2_advance_9 : decode cX2_advance 9 = .ok (.getfield 26, 3) := by decide +kernel
theorem dX2_advance_12 : decode cX2_advance 12 = .ok (.aload_n 1, 1) := by decide +kernel
theorem dX2_advance_13 : decode cX2_advance 13 = .ok (.invokevirtual 116, 3) := by decide +kernel
theorem dX2_advance_16 : decode cX2_advance 16 = .ok (.istore_n 2, 1) := by decide +kernel
theorem dX2_advance_17 : decode cX2_advance 17 = .ok (.aload_n 0, 1) := by decide +kernel
theorem dX2_advance_18 : decode cX2_advance 18 = .ok (.getfield 26, 3) := by decide +kernel
theorem dX2_advance_21 : decode cX2_advance 21 = .ok (.aload_n 1, 1) := by decide +kernel
theorem dX2_advance_22 : decode cX2_advance 22 = .ok (.invokevirtual 145, 3) := by decide +kernel
theorem dX2_advance_25 : decode cX2_advance 25 = .ok (.iload_n 2, 1) := by decide +kernel
theorem dX2_advance_26 : decode cX2_advance 26 = .ok (.ireturn, 1) := by decide +kernel
set_option maxRecDepth 20000 in
theorem ggX2_settleWithin_X1_find : GoodIn wsX2_settleWithin wsX1_find := goodIn_r _ [6, 7, 8, 9, 10, 11, 12, 13, 5, 14, 15, 16, 17, 18, 19, 20, 21, 22, 23, 24, 25, 26, 27, 28, 29, 30, 31, 32, 33, 34, 35, 36, 37, 38, 39, 40, 41, 42, 43, 44, 45, 46, 47, 48, 49, 50, 51, 52, 53, 54, 55, 56, 57, 58, 59, 60, 61, 62, 63, 64, 65, 78, 79, 80, 81, 82, 83, 84, 85, 86, 87, 88, 89, 90, 91, 92, 93, 94, 95] (by decide +kernel) (by decide +kernel)
set_option maxRecDepth 20000 in
theorem gX2_settleWithin_X1_find : GoodIn wsX2_settleWithin (wsV RX2 82 RX1 yX1_find wsX1_find) := goodIn_app (goodIn_of _ (by decide +kernel)) ggX2_settleWithin_X1_find
set_option maxRecDepth 20000 in
theorem ggX2_settleWithin_X1_changesOf : GoodIn wsX2_settleWithin wsX1_changesOf := goodIn_r _ [69, 7, 8, 9, 10, 78, 79, 80, 81, 82, 83, 84, 85, 86, 87, 88, 89, 90, 91, 92, 93, 94, 95] (by decide +kernel) (by decide +kernel)
set_option maxRecDepth 20000 in
theorem gX2_settleWithin_X1_changesOf : GoodIn wsX2_settleWithin (wsV RX2 116 RX1 yX1_changesOf wsX1_changesOf) := goodIn_app (goodIn_of _ (by decide +kernel)) ggX2_settleWithin_X1_changesOf
set_option maxRecDepth 20000 in
theorem ggX2_settleWithin_X1_putInto : GoodIn wsX2_settleWithin wsX1_putInto := goodIn_r _ [73, 7, 8, 9, 10, 78, 79, 80, 81, 82, 83, 84, 85, 86, 87, 88, 89, 90, 91, 92, 93, 94, 95] (by decide +kernel) (by decide +kernel)
set_option maxRecDepth 20000 in
theorem gX2_settleWithin_X1_putInto : GoodIn wsX2_settleWithin (wsV RX2 145 RX1 yX1_putInto wsX1_putInto) := goodIn_app (goodIn_of _ (by decide +kernel)) ggX2_settleWithin_X1_putInto
theorem dX2_settleWithin_0 : decode cX2_settleWithin 0 = .ok (.iconst 0, 1) := by decide +kernel
theorem dX2_settleWithin_1 : decode cX2_settleWithin 1 = .ok (.istore_n 3, 1) := by decide +kernel
theorem dX2_settleWithin_2 : decode cX2_settleWithin 2 = .ok (.iload_n 3, 1) := by decide +kernel
theorem dX2_settleWithin_3 : decode cX2_settleWithin 3 = .ok (.iload_n 2, 1) := by decide +kernel
theorem dX2_settleWithin_4 : decode cX2_settleWithin 4 = .ok (.if_icmp .gt 43, 3) := by decide +kernel
theorem dX2_settleWithin_7 : decode cX2_settleWithin 7 = .ok (.aload_n 0, 1) := by decide +kernel
theorem dX2_settleWithin_8 : decode cX2_settleWithin 8 = .ok (.getfield 26, 3) := by decide +kernel
theorem dX2_settleWithin_11 : decode cX2_settleWithin 11 = .ok (.aload_n 1, 1) := by decide +kernel
theorem dX2_settleWithin_12 : decode cX2_settleWithin 12 = .ok (.invokevirtual 82, 3) := by decide +kernel
theorem dX2_settleWithin_15 : decode cX2_settleWithin 15 = .ok (.aload_n 0, 1) := by decide +kernel
theorem dX2_settleWithin_16 : decode cX2_settleWithin 16 = .ok (.getfield 26, 3) := by decide +kernel
theorem dX2_settleWithin_19 : decode cX2_settleWithin 19 = .ok (.aload_n 1, 1) := by decide +kernel
theorem dX2_settleWithin_20 : decode cX2_settleWithin 20 = .ok (.invokevirtual 116, 3) := by decide +kernel
theorem dX2_settleWithin_23 : decode cX2_settleWithin 23 = .ok (.ifCond .ne 5, 3) := by decide +kernel
theorem dX2_settleWithin_26 : decode cX2_settleWithin 26 = .ok (.iload_n 3, 1) := by decide +kernel
theorem dX2_settleWithin_27 : decode cX2_settleWithin 27 = .ok (.ireturn, 1) := by decide +kernel
theorem dX2_settleWithin_28 : decode cX2_settleWithin 28 = .ok (.iload_n 3, 1) := by decide +kernel
theorem dX2_settleWithin_29 : decode cX2_settleWithin 29 = .ok (.iload_n 2, 1) := by decide +kernel
theorem dX2_settleWithin_30 : decode cX2_settleWithin 30 = .ok (.if_icmp .ge 11, 3) := by decide +kernel
theorem dX2_settleWithin_33 : decode cX2_settleWithin 33 = .ok (.aload_n 0, 1) := by decide +kernel
theorem dX2_settleWithin_34 : decode cX2_settleWithin 34 = .ok (.getfield 26, 3) := by decide +kernel
theorem dX2_settleWithin_37 : decode cX2_settleWithin 37 = .ok (.aload_n 1, 1) := by decide +kernel
theorem dX2_settleWithin_38 : decode cX2_settleWithin 38 = .ok (.invokevirtual 145, 3) := by decide +kernel
theorem dX2_settleWithin_41 : decode cX2_settleWithin 41 = .ok (.iinc 3 1, 3) := by decide +kernel
theorem dX2_settleWithin_44 : decode cX2_settleWithin 44 = .ok (.goto (-42), 3) := by decide +kernel
theorem dX2_settleWithin_47 : decode cX2_settleWithin 47 = .ok (.bipush (-7), 2) := by decide +kernel
theorem dX2_settleWithin_49 : decode cX2_settleWithin 49 = .ok (.ireturn, 1) := by decide +kernel
set_option maxRecDepth 20000 in
theorem ggX2_settledTrialValue_X2_settleWithin : GoodIn wsX2_settledTrialValue wsX2_settleWithin := goodIn_r _ [6, 7, 8, 9, 10, 11, 12, 13, 14, 15, 16, 17, 18, 19, 20, 21, 22, 23, 24, 25, 26, 27, 28, 29, 30, 31, 32, 33, 34, 35, 36, 37, 38, 39, 40, 41, 42, 43, 44, 45, 46, 47, 48, 49, 50, 51, 52, 53, 54, 55, 56, 57, 58, 59, 60, 61, 62, 63, 64, 65, 66, 67, 68, 69, 70, 71, 72, 73, 74, 75, 76, 77, 78, 79, 81, 82, 83, 84, 85, 86, 87, 88, 89, 90, 91, 92, 93, 94, 95, 96, 97, 98, 99, 100, 101, 102] (by decide +kernel) (by decide +kernel)
set_option maxRecDepth 20000 in
theorem gX2_settledTrialValue_X2_settleWithin : GoodIn wsX2_settledTrialValue (wsV RX2 112 RX2 yX2_settleWithin wsX2_settleWithin) := goodIn_app (goodIn_of _ (by decide +kernel)) ggX2_settledTrialValue_X2_settleWithin
set_option maxRecDepth 20000 in
theorem ggX2_settledTrialValue_X0_valueOf : GoodIn wsX2_settledTrialValue wsX0_valueOf := goodIn_r _ [36, 37, 38, 90, 91, 92, 93, 94, 95, 96, 97, 98, 99, 100, 101, 102] (by decide +kernel) (by decide +kernel)
set_option maxRecDepth 20000 in
theorem gX2_settledTrialValue_X0_valueOf : GoodIn wsX2_settledTrialValue (wsV RX2 67 RX0 yX0_valueOf wsX0_valueOf) := goodIn_app (goodIn_of _ (by decide +kernel)) ggX2_settledTrialValue_X0_valueOf
theorem dX2_settledTrialValue_0 : decode cX2_settledTrialValue 0 = .ok (.aload_n 0, 1) := by decide +kernel
theorem dX2_settledTrialValue_1 : decode cX2_settledTrialValue 1 = .ok (.aload_n 0, 1) := by decide +kernel
theorem dX2_settledTrialValue_2 : decode cX2_settledTrialValue 2 = .ok (.getfield 16, 3) := by decide +kernel
theorem dX2_settledTrialValue_5 : decode cX2_settledTrialValue 5 = .ok (.iload_n 2, 1) := by decide +kernel
theorem dX2_settledTrialValue_6 : decode cX2_settledTrialValue 6 = .ok (.invokevirtual 112, 3) := by decide +kernel
theorem dX2_settledTrialValue_9 : decode cX2_settledTrialValue 9 = .ok (.bipush (-7), 2) := by decide +kernel
theorem dX2_settledTrialValue_11 : decode cX2_settledTrialValue 11 = .ok (.if_icmp .ne 5, 3) := by decide +kernel
theorem dX2_settledTrialValue_14 : decode cX2_settledTrialValue 14 = .ok (.iconst 2, 1) := by decide +kernel
theorem dX2_settledTrialValue_15 : decode cX2_settledTrialValue 15 = .ok (.ireturn, 1) := by decide +kernel
theorem dX2_settledTrialValue_16 : decode cX2_settledTrialValue 16 = .ok (.aload_n 0, 1) := by decide +kernel
theorem dX2_settledTrialValue_17 : decode cX2_settledTrialValue 17 = .ok (.getfield 16, 3) := by decide +kernel
theorem dX2_settledTrialValue_20 : decode cX2_settledTrialValue 20 = .ok (.iload_n 1, 1) := by decide +kernel
theorem dX2_settledTrialValue_21 : decode cX2_settledTrialValue 21 = .ok (.invokevirtual 67, 3) := by decide +kernel
theorem dX2_settledTrialValue_24 : decode cX2_settledTrialValue 24 = .ok (.ireturn, 1) := by decide +kernel
theorem dX2_areOpposite_0 : decode cX2_areOpposite 0 = .ok (.iload_n 0, 1) := by decide +kernel
theorem dX2_areOpposite_1 : decode cX2_areOpposite 1 = .ok (.iconst 2, 1) := by decide +kernel
theorem dX2_areOpposite_2 : decode cX2_areOpposite 2 = .ok (.if_icmp .eq 17, 3) := by decide +kernel
theorem dX2_areOpposite_5 : decode cX2_areOpposite 5 = .ok (.iload_n 1, 1) := by decide +kernel
theorem dX2_areOpposite_6 : decode cX2_areOpposite 6 = .ok (.iconst 2, 1) := by decide +kernel
theorem dX2_areOpposite_7 : decode cX2_areOpposite 7 = .ok (.if_icmp .eq 12, 3) := by decide +kernel
theorem dX2_areOpposite_10 : decode cX2_areOpposite 10 = .ok (.iload_n 0, 1) := by decide +kernel
theorem dX2_areOpposite_11 : decode cX2_areOpposite 11 = .ok (.iload_n 1, 1) := by decide +kernel
theorem dX2_areOpposite_12 : decode cX2_areOpposite 12 = .ok (.if_icmp .eq 7, 3) := by decide +kernel
theorem dX2_areOpposite_15 : decode cX2_areOpposite 15 = .ok (.iconst 1, 1) := by decide +kernel
theorem dX2_areOpposite_16 : decode cX2_areOpposite 16 = .ok (.goto 4, 3) := by decide +kernel
theorem dX2_areOpposite_19 : decode cX2_areOpposite 19 = .ok (.iconst 0, 1) := by decide +kernel
theorem dX2_areOpposite_20 : decode cX2_areOpposite 20 = .ok (.ireturn, 1) := by decide +kernel
set_option maxRecDepth 20000 in
theorem ggX2_isValue_X2_isWithin : GoodIn wsX2_isValue wsX2_isWithin := goodIn_r _ [4] (by decide +kernel) (by decide +kernel)
set_option maxRecDepth 20000 in
theorem gX2_isValue_X2_isWithin : GoodIn wsX2_isValue (va_wsS RX2 38 yX2_isWithin wsX2_isWithin) := goodIn_app (goodIn_of _ (by decide +kernel)) ggX2_isValue_X2_isWithin
theorem dX2_isValue_0 : decode cX2_isValue 0 = .ok (.iload_n 0, 1) := by decide +kernel
theorem dX2_isValue_1 : decode cX2_isValue 1 = .ok (.iconst 0, 1) := by decide +kernel
theorem dX2_isValue_2 : decode cX2_isValue 2 = .ok (.iconst 2, 1) := by decide +kernel
theorem dX2_isValue_3 : decode cX2_isValue 3 = .ok (.invokestatic 38, 3) := by decide +kernel
theorem dX2_isValue_6 : decode cX2_isValue 6 = .ok (.ireturn, 1) := by decide +kernel
set_option maxRecDepth 20000 in
theorem ggX2_isLimit_X2_isWithin : GoodIn wsX2_isLimit wsX2_isWithin := goodIn_r _ [4] (by decide +kernel) (by decide +kernel)
set_option maxRecDepth 20000 in
theorem gX2_isLimit_X2_isWithin : GoodIn wsX2_isLimit (va_wsS RX2 38 yX2_isWithin wsX2_isWithin) := goodIn_app (goodIn_of _ (by decide +kernel)) ggX2_isLimit_X2_isWithin
theorem dX2_isLimit_0 : decode cX2_isLimit 0 = .ok (.iload_n 0, 1) := by decide +kernel
theorem dX2_isLimit_1 : decode cX2_isLimit 1 = .ok (.iconst 1, 1) := by decide +kernel
theorem dX2_isLimit_2 : decode cX2_isLimit 2 = .ok (.bipush 100, 2) := by decide +kernel
theorem dX2_isLimit_4 : decode cX2_isLimit 4 = .ok (.invokestatic 38, 3) := by decide +kernel
theorem dX2_isLimit_7 : decode cX2_isLimit 7 = .ok (.ireturn, 1) := by decide +kernel
theorem dX2_isWithin_0 : decode cX2_isWithin 0 = .ok (.iload_n 0, 1) := by decide +kernel
theorem dX2_isWithin_1 : decode cX2_isWithin 1 = .ok (.iload_n 1, 1) := by decide +kernel
theorem dX2_isWithin_2 : decode cX2_isWithin 2 = .ok (.if_icmp .lt 12, 3) := by decide +kernel
theorem dX2_isWithin_5 : decode cX2_isWithin 5 = .ok (.iload_n 0, 1) := by decide +kernel
theorem dX2_isWithin_6 : decode cX2_isWithin 6 = .ok (.iload_n 2, 1) := by decide +kernel
theorem dX2_isWithin_7 : decode cX2_isWithin 7 = .ok (.if_icmp .gt 7, 3) := by decide +kernel
theorem dX2_isWithin_10 : decode cX2_isWithin 10 = .ok (.iconst 1, 1) := by decide +kernel
theorem dX2_isWithin_11 : decode cX2_isWithin 11 = .ok (.goto 4, 3) := by decide +kernel
theorem dX2_isWithin_14 : decode cX2_isWithin 14 = .ok (.iconst 0, 1) := by decide +kernel
theorem dX2_isWithin_15 : decode cX2_isWithin 15 = .ok (.ireturn, 1) := by decide +kernel
