theorem dX3_init_0 : decode cX3_init 0 = .ok (.aload_n 0, 1) := by decide +kernel
theorem dX3_init_1 : decode cX3_init 1 = .ok (.invokespecial 1, 3) := by decide +kernel
theorem dX3_init_4 : decode cX3_init 4 = .ok (.aload_n 0, 1) := by decide +kernel
theorem dX3_init_5 : decode cX3_init 5 = .ok (.sipush 290, 3) := by decide +kernel
theorem dX3_init_8 : decode cX3_init 8 = .ok (.newarray .int, 2) := by decide +kernel
theorem dX3_init_10 : decode cX3_init 10 = .ok (.putfield 7, 3) := by decide +kernel
theorem dX3_init_13 : decode cX3_init 13 = .ok (.aload_n 0, 1) := by decide +kernel
theorem dX3_init_14 : decode cX3_init 14 = .ok (.sipush 580, 3) := by decide +kernel
theorem dX3_init_17 : decode cX3_init 17 = .ok (.newarray .int, 2) := by decide +kernel
theorem dX3_init_19 : decode cX3_init 19 = .ok (.putfield 13, 3) := by decide +kernel
theorem dX3_init_22 : decode cX3_init 22 = .ok (.aload_n 0, 1) := by decide +kernel
theorem dX3_init_23 : decode cX3_init 23 = .ok (.iconst 2, 1) := by decide +kernel
theorem dX3_init_24 : decode cX3_init 24 = .ok (.newarray .boolean, 2) := by decide +kernel
theorem dX3_init_26 : decode cX3_init 26 = .ok (.putfield 16, 3) := by decide +kernel
theorem dX3_init_29 : decode cX3_init 29 = .ok (.aload_n 0, 1) := by decide +kernel
theorem dX3_init_30 : decode cX3_init 30 = .ok (.bipush 24, 2) := by decide +kernel
theorem dX3_init_32 : decode cX3_init 32 = .ok (.newarray .int, 2) := by decide +kernel
theorem dX3_init_34 : decode cX3_init 34 = .ok (.putfield 20, 3) := by decide +kernel
theorem dX3_init_37 : decode cX3_init 37 = .ok (.aload_n 0, 1) := by decide +kernel
theorem dX3_init_38 : decode cX3_init 38 = .ok (.bipush 24, 2) := by decide +kernel
theorem dX3_init_40 : decode cX3_init 40 = .ok (.newarray .int, 2) := by decide +kernel
theorem dX3_init_42 : decode cX3_init 42 = .ok (.putfield 23, 3) := by decide +kernel
theorem dX3_init_45 : decode cX3_init 45 = .ok (.aload_n 0, 1) := by decide +kernel
theorem dX3_init_46 : decode cX3_init 46 = .ok (.bipush 24, 2) := by decide +kernel
theorem dX3_init_48 : decode cX3_init 48 = .ok (.newarray .int, 2) := by decide +kernel
theorem dX3_init_50 : decode cX3_init 50 = .ok (.putfield 26, 3) := by decide +kernel
theorem dX3_init_53 : decode cX3_init 53 = .ok (.aload_n 0, 1) := by decide +kernel
theorem dX3_init_54 : decode cX3_init 54 = .ok (.bipush 40, 2) := by decide +kernel
theorem dX3_init_56 : decode cX3_init 56 = .ok (.newarray .int, 2) := by decide +kernel
theorem dX3_init_58 : decode cX3_init 58 = .ok (.putfield 29, 3) := by decide +kernel
theorem dX3_init_61 : decode cX3_init 61 = .ok (.aload_n 0, 1) := by decide +kernel
theorem dX3_init_62 : decode cX3_init 62 = .ok (.sipush 290, 3) := by decide +kernel
theorem dX3_init_65 : decode cX3_init 65 = .ok (.newarray .int, 2) := by decide +kernel
theorem dX3_init_67 : decode cX3_init 67 = .ok (.putfield 32, 3) := by decide +kernel
theorem dX3_init_70 : decode cX3_init 70 = .ok (.return_, 1) := by decide +kernel
theorem dX3_in_0 : decode cX3_in 0 = .ok (.iload_n 0, 1) := by decide +kernel
theorem dX3_in_1 : decode cX3_in 1 = .ok (.iload_n 1, 1) := by decide +kernel
theorem dX3_in_2 : decode cX3_in 2 = .ok (.if_icmp .lt 12, 3) := by decide +kernel
theorem dX3_in_5 : decode cX3_in 5 = .ok (.iload_n 0, 1) := by decide +kernel
theorem dX3_in_6 : decode cX3_in 6 = .ok (.iload_n 2, 1) := by decide +kernel
theorem dX3_in_7 : decode cX3_in 7 = .ok (.if_icmp .gt 7, 3) := by decide +kernel
theorem dX3_in_10 : decode cX3_in 10 = .ok (.iconst 1, 1) := by decide +kernel
theorem dX3_in_11 : decode cX3_in 11 = .ok (.goto 4, 3) := by decide +kernel
theorem dX3_in_14 : decode cX3_in 14 = .ok (.iconst 0, 1) := by decide +kernel
theorem dX3_in_15 : decode cX3_in 15 = .ok (.ireturn, 1) := by decide +kernel
theorem dX3_nodes_0 : decode cX3_nodes 0 = .ok (.aload_n 0, 1) := by decide +kernel
theorem dX3_nodes_1 : decode cX3_nodes 1 = .ok (.getfield 7, 3) := by decide +kernel
theorem dX3_nodes_4 : decode cX3_nodes 4 = .ok (.iconst 0, 1) := by decide +kernel
theorem dX3_nodes_5 : decode cX3_nodes 5 = .ok (.iaload, 1) := by decide +kernel
theorem dX3_nodes_6 : decode cX3_nodes 6 = .ok (.ireturn, 1) := by decide +kernel
theorem dX3_many_0 : decode cX3_many 0 = .ok (.aload_n 0, 1) := by decide +kernel
theorem dX3_many_1 : decode cX3_many 1 = .ok (.getfield 7, 3) := by decide +kernel
theorem dX3_many_4 : decode cX3_many 4 = .ok (.iconst 1, 1) := by decide +kernel
theorem dX3_many_5 : decode cX3_many 5 = .ok (.iaload, 1) := by decide +kernel
theorem dX3_many_6 : decode cX3_many 6 = .ok (.ireturn, 1) := by decide +kernel
set_option maxRecDepth 20000 in
theorem ggX3_isNode_X3_nodes : GoodIn wsX3_isNode wsX3_nodes := goodIn_r _ [5, 6, 10, 11, 12, 13, 14, 15, 16, 17] (by decide +kernel) (by decide +kernel)
set_option maxRecDepth 20000 in
theorem gX3_isNode_X3_nodes : GoodIn wsX3_isNode (wsV RX3 35 RX3 yX3_nodes wsX3_nodes) := goodIn_app (goodIn_of _ (by decide +kernel)) ggX3_isNode_X3_nodes
set_option maxRecDepth 20000 in
theorem ggX3_isNode_X3_in : GoodIn wsX3_isNode wsX3_in := goodIn_r _ [9] (by decide +kernel) (by decide +kernel)
set_option maxRecDepth 20000 in
theorem gX3_isNode_X3_in : GoodIn wsX3_isNode (va_wsS RX3 39 yX3_in wsX3_in) := goodIn_app (goodIn_of _ (by decide +kernel)) ggX3_isNode_X3_in
theorem dX3_isNode_0 : decode cX3_isNode 0 = .ok (.iload_n 1, 1) := by decide +kernel
theorem dX3_isNode_1 : decode cX3_isNode 1 = .ok (.iconst 0, 1) := by decide +kernel
theorem dX3_isNode_2 : decode cX3_isNode 2 = .ok (.aload_n 0, 1) := by decide +kernel
theorem dX3_isNode_3 : decode cX3_isNode 3 = .ok (.invokevirtual 35, 3) := by decide +kernel
theorem dX3_isNode_6 : decode cX3_isNode 6 = .ok (.iconst 1, 1) := by decide +kernel
theorem dX3_isNode_7 : decode cX3_isNode 7 = .ok (.isub, 1) := by decide +kernel
theorem dX3_isNode_8 : decode cX3_isNode 8 = .ok (.invokestatic 39, 3) := by decide +kernel
theorem dX3_isNode_11 : decode cX3_isNode 11 = .ok (.ireturn, 1) := by decide +kernel
set_option maxRecDepth 20000 in
theorem ggX3_isTransistor_X3_many : GoodIn wsX3_isTransistor wsX3_many := goodIn_r _ [5, 6, 10, 11, 12, 13, 14, 15, 16, 17] (by decide +kernel) (by decide +kernel)
set_option maxRecDepth 20000 in
theorem gX3_isTransistor_X3_many : GoodIn wsX3_isTransistor (wsV RX3 43 RX3 yX3_many wsX3_many) := goodIn_app (goodIn_of _ (by decide +kernel)) ggX3_isTransistor_X3_many
set_option maxRecDepth 20000 in
theorem ggX3_isTransistor_X3_in : GoodIn wsX3_isTransistor wsX3_in := goodIn_r _ [9] (by decide +kernel) (by decide +kernel)
set_option maxRecDepth 20000 in
theorem gX3_isTransistor_X3_in : GoodIn wsX3_isTransistor (va_wsS RX3 39 yX3_in wsX3_in) := goodIn_app (goodIn_of _ (by decide +kernel)) ggX3_isTransistor_X3_in
theorem dX3_isTransistor_0 : decode cX3_isTransistor 0 = .ok (.iload_n 1, 1) := by decide +kernel
theorem dX3_isTransistor_1 : decode cX3_isTransistor 1 = .ok (.iconst 0, 1) := by decide +kernel
theorem dX3_isTransistor_2 : decode cX3_isTransistor 2 = .ok (.aload_n 0, 1) := by decide +kernel
theorem dX3_isTransistor_3 : decode cX3_isTransistor 3 = .ok (.invokevirtual 43, 3) := by decide +kernel
theorem dX3_isTransistor_6 : decode cX3_isTransistor 6 = .ok (.iconst 1, 1) := by decide +kernel
theorem dX3_isTransistor_7 : decode cX3_isTransistor 7 = .ok (.isub, 1) := by decide +kernel
theorem dX3_isTransistor_8 : decode cX3_isTransistor 8 = .ok (.invokestatic 39, 3) := by decide +kernel
theorem dX3_isTransistor_11 : decode cX3_isTransistor 11 = .ok (.ireturn, 1) := by decide +kernel
theorem dX3_isInput_0 : decode cX3_isInput 0 = .ok (.aload_n 0, 1) := by decide +kernel
theorem dX3_isInput_1 : decode cX3_isInput 1 = .ok (.getfield 7, 3) := by decide +kernel
theorem dX3_isInput_4 : decode cX3_isInput 4 = .ok (.iconst 2, 1) := by decide +kernel
theorem dX3_isInput_5 : decode cX3_isInput 5 = .ok (.iload_n 1, 1) := by decide +kernel
theorem dX3_isInput_6 : decode cX3_isInput 6 = .ok (.iadd, 1) := by decide +kernel
theorem dX3_isInput_7 : decode cX3_isInput 7 = .ok (.iaload, 1) := by decide +kernel
theorem dX3_isInput_8 : decode cX3_isInput 8 = .ok (.ifCond .ne 7, 3) := by decide +kernel
theorem dX3_isInput_11 : decode cX3_isInput 11 = .ok (.iconst 1, 1) := by decide +kernel
theorem dX3_isInput_12 : decode cX3_isInput 12 = .ok (.goto 4, 3) := by decide +kernel
theorem dX3_isInput_15 : decode cX3_isInput 15 = .ok (.iconst 0, 1) := by decide +kernel
theorem dX3_isInput_16 : decode cX3_isInput 16 = .ok (.ireturn, 1) := by decide +kernel
theorem dX3_set_0 : decode cX3_set 0 = .ok (.aload_n 0, 1) := by decide +kernel
theorem dX3_set_1 : decode cX3_set 1 = .ok (.getfield 7, 3) := by decide +kernel
theorem dX3_set_4 : decode cX3_set 4 = .ok (.iload_n 1, 1) := by decide +kernel
theorem dX3_set_5 : decode cX3_set 5 = .ok (.iaload, 1) := by decide +kernel
theorem dX3_set_6 : decode cX3_set 6 = .ok (.istore_n 3, 1) := by decide +kernel
theorem dX3_set_7 : decode cX3_set 7 = .ok (.aload_n 0, 1) := by decide +kernel
theorem dX3_set_8 : decode cX3_set 8 = .ok (.getfield 7, 3) := by decide +kernel
theorem dX3_set_11 : decode cX3_set 11 = .ok (.iload_n 1, 1) := by decide +kernel
theorem dX3_set_12 : decode cX3_set 12 = .ok (.iload_n 2, 1) := by decide +kernel
theorem dX3_set_13 : decode cX3_set 13 = .ok (.iastore, 1) := by decide +kernel
theorem dX3_set_14 : decode cX3_set 14 = .ok (.iload_n 3, 1) := by decide +kernel
theorem dX3_set_15 : decode cX3_set 15 = .ok (.ireturn, 1) := by decide +kernel
set_option maxRecDepth 20000 in
theorem ggX3_addNode_X3_nodes : GoodIn wsX3_addNode wsX3_nodes := goodIn_r _ [6, 1, 7, 8, 9, 10, 11, 12, 13, 14] (by decide +kernel) (by decide +kernel)
set_option maxRecDepth 20000 in
theorem gX3_addNode_X3_nodes : GoodIn wsX3_addNode (wsV RX3 35 RX3 yX3_nodes wsX3_nodes) := goodIn_app (goodIn_of _ (by decide +kernel)) ggX3_addNode_X3_nodes
theorem dX3_addNode_0 : decode cX3_addNode 0 = .ok (.aload_n 0, 1) := by decide +kernel
theorem dX3_addNode_1 : decode cX3_addNode 1 = .ok (.invokevirtual 35, 3) := by decide +kernel
theorem dX3_addNode_4 : decode cX3_addNode 4 = .ok (.istore_n 2, 1) := by decide +kernel
theorem dX3_addNode_5 : decode cX3_addNode 5 = .ok (.aload_n 0, 1) := by decide +kernel
theorem dX3_addNode_6 : decode cX3_addNode 6 = .ok (.getfield 7, 3) := by decide +kernel
theorem dX3_addNode_9 : decode cX3_addNode 9 = .ok (.iconst 2, 1) := by decide +kernel
theorem dX3_addNode_10 : decode cX3_addNode 10 = .ok (.iload_n 2, 1) := by decide +kernel
theorem dX3_addNode_11 : decode cX3_addNode 11 = .ok (.iadd, 1) := by decide +kernel
theorem dX3_addNode_12 : decode cX3_addNode 12 = .ok (.iload_n 1, 1) := by decide +kernel
theorem dX3_addNode_13 : decode cX3_addNode 13 = .ok (.iastore, 1) := by decide +kernel
theorem dX3_addNode_14 : decode cX3_addNode 14 = .ok (.aload_n 0, 1) := by decide +kernel
theorem dX3_addNode_15 : decode cX3_addNode 15 = .ok (.getfield 7, 3) := by decide +kernel
theorem dX3_addNode_18 : decode cX3_addNode 18 = .ok (.bipush 26, 2) := by decide +kernel
theorem dX3_addNode_20 : decode cX3_addNode 20 = .ok (.iload_n 2, 1) := by decide +kernel
theorem dX3_addNode_21 : decode cX3_addNode 21 = .ok (.iadd, 1) := by decide +kernel
theorem dX3_addNode_22 : decode cX3_addNode 22 = .ok (.iconst 2, 1) := by decide +kernel
theorem dX3_addNode_23 : decode cX3_addNode 23 = .ok (.iastore, 1) := by decide +kernel
theorem dX3_addNode_24 : decode cX3_addNode 24 = .ok (.aload_n 0, 1) := by decide +kernel
theorem dX3_addNode_25 : decode cX3_addNode 25 = .ok (.getfield 7, 3) := by decide +kernel
theorem dX3_addNode_28 : decode cX3_addNode 28 = .ok (.iconst 0, 1) := by decide +kernel
theorem dX3_addNode_29 : decode cX3_addNode 29 = .ok (.dup2, 1) := by decide +kernel
theorem dX3_addNode_30 : decode cX3_addNode 30 = .ok (.iaload, 1) := by decide +kernel
theorem dX3_addNode_31 : decode cX3_addNode 31 = .ok (.iconst 1, 1) := by decide +kernel
theorem dX3_addNode_32 : decode cX3_addNode 32 = .ok (.iadd, 1) := by decide +kernel
theorem dX3_addNode_33 : decode cX3_addNode 33 = .ok (.iastore, 1) := by decide +kernel
theorem dX3_addNode_34 : decode cX3_addNode 34 = .ok (.iload_n 2, 1) := by decide +kernel
theorem dX3_addNode_35 : decode cX3_addNode 35 = .ok (.ireturn, 1) := by decide +kernel
set_option maxRecDepth 20000 in
theorem ggX3_addInput_X3_nodes : GoodIn wsX3_addInput wsX3_nodes := goodIn_r _ [5, 6, 11, 12, 13, 14, 15, 16, 17, 18] (by decide +kernel) (by decide +kernel)
set_option maxRecDepth 20000 in
theorem gX3_addInput_X3_nodes : GoodIn wsX3_addInput (wsV RX3 35 RX3 yX3_nodes wsX3_nodes) := goodIn_app (goodIn_of _ (by decide +kernel)) ggX3_addInput_X3_nodes
set_option maxRecDepth 20000 in
theorem ggX3_addInput_X3_addNode : GoodIn wsX3_addInput wsX3_addNode := goodIn_r _ [10, 6, 1, 2, 3, 4, 5, 11, 12, 13, 14, 15, 16, 17, 18] (by decide +kernel) (by decide +kernel)
set_option maxRecDepth 20000 in
theorem gX3_addInput_X3_addNode : GoodIn wsX3_addInput (wsV RX3 46 RX3 yX3_addNode wsX3_addNode) := goodIn_app (goodIn_of _ (by decide +kernel)) ggX3_addInput_X3_addNode
theorem dX3_addInput_0 : decode cX3_addInput 0 = .ok (.aload_n 0, 1) := by decide +kernel
theorem dX3_addInput_1 : decode cX3_addInput 1 = .ok (.invokevirtual 35, 3) := by decide +kernel
theorem dX3_addInput_4 : decode cX3_addInput 4 = .ok (.bipush 24, 2) := by decide +kernel
theorem dX3_addInput_6 : decode cX3_addInput 6 = .ok (.if_icmp .ne 8, 3) := by decide +kernel
theorem dX3_addInput_9 : decode cX3_addInput 9 = .ok (.bipush (-6), 2) := by decide +kernel
theorem dX3_addInput_11 : decode cX3_addInput 11 = .ok (.goto 8, 3) := by decide +kernel
theorem dX3_addInput_14 : decode cX3_addInput 14 = .ok (.aload_n 0, 1) := by decide +kernel
theorem dX3_addInput_15 : decode cX3_addInput 15 = .ok (.iconst 0, 1) := by decide +kernel
theorem dX3_addInput_16 : decode cX3_addInput 16 = .ok (.invokevirtual 46, 3) := by decide +kernel
theorem dX3_addInput_19 : decode cX3_addInput 19 = .ok (.ireturn, 1) := by decide +kernel
set_option maxRecDepth 20000 in
theorem ggX3_addStorage_X3_in : GoodIn wsX3_addStorage wsX3_in := goodIn_r _ [4] (by decide +kernel) (by decide +kernel)
set_option maxRecDepth 20000 in
theorem gX3_addStorage_X3_in : GoodIn wsX3_addStorage (va_wsS RX3 39 yX3_in wsX3_in) := goodIn_app (goodIn_of _ (by decide +kernel)) ggX3_addStorage_X3_in
set_option maxRecDepth 20000 in
theorem ggX3_addStorage_X3_nodes : GoodIn wsX3_addStorage wsX3_nodes := goodIn_r _ [8, 9, 14, 15, 16, 17, 18, 19, 20, 21] (by decide +kernel) (by decide +kernel)
set_option maxRecDepth 20000 in
theorem gX3_addStorage_X3_nodes : GoodIn wsX3_addStorage (wsV RX3 35 RX3 yX3_nodes wsX3_nodes) := goodIn_app (goodIn_of _ (by decide +kernel)) ggX3_addStorage_X3_nodes
set_option maxRecDepth 20000 in
theorem ggX3_addStorage_X3_addNode : GoodIn wsX3_addStorage wsX3_addNode := goodIn_r _ [13, 9, 5, 6, 7, 3, 8, 14, 15, 16, 17, 18, 19, 20, 21] (by decide +kernel) (by decide +kernel)
set_option maxRecDepth 20000 in
theorem gX3_addStorage_X3_addNode : GoodIn wsX3_addStorage (wsV RX3 46 RX3 yX3_addNode wsX3_addNode) := goodIn_app (goodIn_of _ (by decide +kernel)) ggX3_addStorage_X3_addNode
theorem dX3_addStorage_0 : decode cX3_addStorage 0 = .ok (.iload_n 1, 1) := by decide +kernel
theorem dX3_addStorage_1 : decode cX3_addStorage 1 = .ok (.iconst 1, 1) := by decide +kernel
theorem dX3_addStorage_2 : decode cX3_addStorage 2 = .ok (.iconst 3, 1) := by decide +kernel
theorem dX3_addStorage_3 : decode cX3_addStorage 3 = .ok (.invokestatic 39, 3) := by decide +kernel
theorem dX3_addStorage_6 : decode cX3_addStorage 6 = .ok (.ifCond .ne 6, 3) := by decide +kernel
theorem dX3_addStorage_9 : decode cX3_addStorage 9 = .ok (.bipush (-3), 2) := by decide +kernel
theorem dX3_addStorage_11 : decode cX3_addStorage 11 = .ok (.ireturn, 1) := by decide +kernel
theorem dX3_addStorage_12 : decode cX3_addStorage 12 = .ok (.aload_n 0, 1) := by decide +kernel
theorem dX3_addStorage_13 : decode cX3_addStorage 13 = .ok (.invokevirtual 35, 3) := by decide +kernel
theorem dX3_addStorage_16 : decode cX3_addStorage 16 = .ok (.bipush 24, 2) := by decide +kernel
theorem dX3_addStorage_18 : decode cX3_addStorage 18 = .ok (.if_icmp .ne 8, 3) := by decide +kernel
theorem dX3_addStorage_21 : decode cX3_addStorage 21 = .ok (.bipush (-6), 2) := by decide +kernel
theorem dX3_addStorage_23 : decode cX3_addStorage 23 = .ok (.goto 8, 3) := by decide +kernel
theorem dX3_addStorage_26 : decode cX3_addStorage 26 = .ok (.aload_n 0, 1) := by decide +kernel
theorem dX3_addStorage_27 : decode cX3_addStorage 27 = .ok (.iload_n 1, 1) := by decide +kernel
theorem dX3_addStorage_28 : decode cX3_addStorage 28 = .ok (.invokevirtual 46, 3) := by decide +kernel
theorem dX3_addStorage_31 : decode cX3_addStorage 31 = .ok (.ireturn, 1) := by decide +kernel
set_option maxRecDepth 20000 in
theorem ggX3_addTransistor_X3_isNode : GoodIn wsX3_addTransistor wsX3_isNode := goodIn_r _ [6, 7, 8, 9, 5, 10, 1, 11, 12, 13, 18, 19, 20, 21, 22, 23, 24, 25] (by decide +kernel) (by decide +kernel)
set_option maxRecDepth 20000 in
theorem gX3_addTransistor_X3_isNode : GoodIn wsX3_addTransistor (wsV RX3 50 RX3 yX3_isNode wsX3_isNode) := goodIn_app (goodIn_of _ (by decide +kernel)) ggX3_addTransistor_X3_isNode
set_option maxRecDepth 20000 in
theorem ggX3_addTransistor_X3_in : GoodIn wsX3_addTransistor wsX3_in := goodIn_r _ [13] (by decide +kernel) (by decide +kernel)
set_option maxRecDepth 20000 in
theorem gX3_addTransistor_X3_in : GoodIn wsX3_addTransistor (va_wsS RX3 39 yX3_in wsX3_in) := goodIn_app (goodIn_of _ (by decide +kernel)) ggX3_addTransistor_X3_in
set_option maxRecDepth 20000 in
theorem ggX3_addTransistor_X3_many : GoodIn wsX3_addTransistor wsX3_many := goodIn_r _ [17, 1, 18, 19, 20, 21, 22, 23, 24, 25] (by decide +kernel) (by decide +kernel)
set_option maxRecDepth 20000 in
theorem gX3_addTransistor_X3_many : GoodIn wsX3_addTransistor (wsV RX3 43 RX3 yX3_many wsX3_many) := goodIn_app (goodIn_of _ (by decide +kernel)) ggX3_addTransistor_X3_many
theorem dX3_addTransistor_0 : decode cX3_addTransistor 0 = .ok (.aload_n 0, 1) := by decide +kernel
theorem dX3_addTransistor_1 : decode cX3_addTransistor 1 = .ok (.iload_n 3, 1) := by decide +kernel
theorem dX3_addTransistor_2 : decode cX3_addTransistor 2 = .ok (.invokevirtual 50, 3) := by decide +kernel
theorem dX3_addTransistor_5 : decode cX3_addTransistor 5 = .ok (.ifCond .eq 21, 3) := by decide +kernel
theorem dX3_addTransistor_8 : decode cX3_addTransistor 8 = .ok (.aload_n 0, 1) := by decide +kernel
theorem dX3_addTransistor_9 : decode cX3_addTransistor 9 = .ok (.iload 4, 2) := by decide +kernel
theorem dX3_addTransistor_11 : decode cX3_addTransistor 11 = .ok (.invokevirtual 50, 3) := by decide +kernel
theorem dX3_addTransistor_14 : decode cX3_addTransistor 14 = .ok (.ifCond .eq 12, 3) := by decide +kernel
theorem dX3_addTransistor_17 : decode cX3_addTransistor 17 = .ok (.aload_n 0, 1) := by decide +kernel
theorem dX3_addTransistor_18 : decode cX3_addTransistor 18 = .ok (.iload 5, 2) := by decide +kernel
theorem dX3_addTransistor_20 : decode cX3_addTransistor 20 = .ok (.invokevirtual 50, 3) := by decide +kernel
theorem dX3_addTransistor_23 : decode cX3_addTransistor 23 = .ok (.ifCond .ne 5, 3) := by decide +kernel
theorem dX3_addTransistor_26 : decode cX3_addTransistor 26 = .ok (.iconst (-1), 1) := by decide +kernel
theorem dX3_addTransistor_27 : decode cX3_addTransistor 27 = .ok (.ireturn, 1) := by decide +kernel
theorem dX3_addTransistor_28 : decode cX3_addTransistor 28 = .ok (.iload 4, 2) := by decide +kernel
theorem dX3_addTransistor_30 : decode cX3_addTransistor 30 = .ok (.iload 5, 2) := by decide +kernel
theorem dX3_addTransistor_32 : decode cX3_addTransistor 32 = .ok (.if_icmp .ne 6, 3) := by decide +kernel
theorem dX3_addTransistor_35 : decode cX3_addTransistor 35 = .ok (.bipush (-4), 2) := by decide +kernel
theorem dX3_addTransistor_37 : decode cX3_addTransistor 37 = .ok (.ireturn, 1) := by decide +kernel
theorem dX3_addTransistor_38 : decode cX3_addTransistor 38 = .ok (.iload_n 1, 1) := by decide +kernel
theorem dX3_addTransistor_39 : decode cX3_addTransistor 39 = .ok (.iconst 0, 1) := by decide +kernel
theorem dX3_addTransistor_40 : decode cX3_addTransistor 40 = .ok (.iconst 2, 1) := by decide +kernel
theorem dX3_addTransistor_41 : decode cX3_addTransistor 41 = .ok (.invokestatic 39, 3) := by decide +kernel
theorem dX3_addTransistor_44 : decode cX3_addTransistor 44 = .ok (.ifCond .eq 12, 3) := by decide +kernel
theorem dX3_addTransistor_47 : decode cX3_addTransistor 47 = .ok (.iload_n 2, 1) := by decide +kernel
theorem dX3_addTransistor_48 : decode cX3_addTransistor 48 = .ok (.iconst 1, 1) := by decide +kernel
theorem dX3_addTransistor_49 : decode cX3_addTransistor 49 = .ok (.iconst 3, 1) := by decide +kernel
theorem dX3_addTransistor_50 : decode cX3_addTransistor 50 = .ok (.invokestatic 39, 3) := by decide +kernel
theorem dX3_addTransistor_53 : decode cX3_addTransistor 53 = .ok (.ifCond .ne 6, 3) := by decide +kernel
theorem dX3_addTransistor_56 : decode cX3_addTransistor 56 = .ok (.bipush (-3), 2) := by decide +kernel
theorem dX3_addTransistor_58 : decode cX3_addTransistor 58 = .ok (.ireturn, 1) := by decide +kernel
theorem dX3_addTransistor_59 : decode cX3_addTransistor 59 = .ok (.aload_n 0, 1) := by decide +kernel
theorem dX3_addTransistor_60 : decode cX3_addTransistor 60 = .ok (.invokevirtual 43, 3) := by decide +kernel
theorem dX3_addTransistor_63 : decode cX3_addTransistor 63 = .ok (.bipush 40, 2) := by decide +kernel
theorem dX3_addTransistor_65 : decode cX3_addTransistor 65 = .ok (.if_icmp .ne 6, 3) := by decide +kernel
theorem dX3_addTransistor_68 : decode cX3_addTransistor 68 = .ok (.bipush (-6), 2) := by decide +kernel
theorem dX3_addTransistor_70 : decode cX3_addTransistor 70 = .ok (.ireturn, 1) := by decide +kernel
theorem dX3_addTransistor_71 : decode cX3_addTransistor 71 = .ok (.aload_n 0, 1) := by decide +kernel
theorem dX3_addTransistor_72 : decode cX3_addTransistor 72 = .ok (.invokevirtual 43, 3) := by decide +kernel
theorem dX3_addTransistor_75 : decode cX3_addTransistor 75 = .ok (.istore 6, 2) := by decide +kernel
theorem dX3_addTransistor_77 : decode cX3_addTransistor 77 = .ok (.aload_n 0, 1) := by decide +kernel
theorem dX3_addTransistor_78 : decode cX3_addTransistor 78 = .ok (.getfield 7, 3) := by decide +kernel
theorem dX3_addTransistor_81 : decode cX3_addTransistor 81 = .ok (.bipush 50, 2) := by decide +kernel
theorem dX3_addTransistor_83 : decode cX3_addTransistor 83 = .ok (.iload 6, 2) := by decide +kernel
theorem dX3_addTransistor_85 : decode cX3_addTransistor 85 = .ok (.iadd, 1) := by decide +kernel
theorem dX3_addTransistor_86 : decode cX3_addTransistor 86 = .ok (.iload_n 1, 1) := by decide +kernel
theorem dX3_addTransistor_87 : decode cX3_addTransistor 87 = .ok (.iastore, 1) := by decide +kernel
theorem dX3_addTransistor_88 : decode cX3_addTransistor 88 = .ok (.aload_n 0, 1) := by decide +kernel
theorem dX3_addTransistor_89 : decode cX3_addTransistor 89 = .ok (.getfield 7, 3) := by decide +kernel
theorem dX3_addTransistor_92 : decode cX3_addTransistor 92 = .ok (.bipush 90, 2) := by decide +kernel
theorem dX3_addTransistor_94 : decode cX3_addTransistor 94 = .ok (.iload 6, 2) := by decide +kernel
theorem dX3_addTransistor_96 : decode cX3_addTransistor 96 = .ok (.iadd, 1) := by decide +kernel
theorem dX3_addTransistor_97 : decode cX3_addTransistor 97 = .ok (.iload_n 2, 1) := by decide +kernel
theorem dX3_addTransistor_98 : decode cX3_addTransistor 98 = .ok (.iastore, 1) := by decide +kernel
theorem dX3_addTransistor_99 : decode cX3_addTransistor 99 = .ok (.aload_n 0, 1) := by decide +kernel
theorem dX3_addTransistor_100 : decode cX3_addTransistor 100 = .ok (.getfield 7, 3) := by decide +kernel
theorem dX3_addTransistor_103 : decode cX3_addTransistor 103 = .ok (.sipush 130, 3) := by decide +kernel
theorem dX3_addTransistor_106 : decode cX3_addTransistor 106 = .ok (.iload 6, 2) := by decide +kernel
theorem dX3_addTransistor_108 : decode cX3_addTransistor 108 = .ok (.iadd, 1) := by decide +kernel
theorem dX3_addTransistor_109 : decode cX3_addTransistor 109 = .ok (.iload_n 3, 1) := by decide +kernel
theorem dX3_addTransistor_110 : decode cX3_addTransistor 110 = .ok (.iastore, 1) := by decide +kernel
theorem dX3_addTransistor_111 : decode cX3_addTransistor 111 = .ok (.aload_n 0, 1) := by decide +kernel
theorem dX3_addTransistor_112 : decode cX3_addTransistor 112 = .ok (.getfield 7, 3) := by decide +kernel
theorem dX3_addTransistor_115 : decode cX3_addTransistor 115 = .ok (.sipush 170, 3) := by decide +kernel
theorem dX3_addTransistor_118 : decode cX3_addTransistor 118 = .ok (.iload 6, 2) := by decide +kernel
theorem dX3_addTransistor_120 : decode cX3_addTransistor 120 = .ok (.iadd, 1) := by decide +kernel
theorem dX3_addTransistor_121 : decode cX3_addTransistor 121 = .ok (.iload 4, 2) := by decide +kernel
theorem dX3_addTransistor_123 : decode cX3_addTransistor 123 = .ok (.iastore, 1) := by decide +kernel
theorem dX3_addTransistor_124 : decode cX3_addTransistor 124 = .ok (.aload_n 0, 1) := by decide +kernel
theorem dX3_addTransistor_125 : decode cX3_addTransistor 125 = .ok (.getfield 7, 3) := by decide +kernel
theorem dX3_addTransistor_128 : decode cX3_addTransistor 128 = .ok (.sipush 210, 3) := by decide +kernel
theorem dX3_addTransistor_131 : decode cX3_addTransistor 131 = .ok (.iload 6, 2) := by decide +kernel
theorem dX3_addTransistor_133 : decode cX3_addTransistor 133 = .ok (.iadd, 1) := by decide +kernel
theorem dX3_addTransistor_134 : decode cX3_addTransistor 134 = .ok (.iload 5, 2) := by decide +kernel
theorem dX3_addTransistor_136 : decode cX3_addTransistor 136 = .ok (.iastore, 1) := by decide +kernel
theorem dX3_addTransistor_137 : decode cX3_addTransistor 137 = .ok (.aload_n 0, 1) := by decide +kernel
theorem dX3_addTransistor_138 : decode cX3_addTransistor 138 = .ok (.getfield 7, 3) := by decide +kernel
theorem dX3_addTransistor_141 : decode cX3_addTransistor 141 = .ok (.sipush 250, 3) := by decide +kernel
theorem dX3_addTransistor_144 : decode cX3_addTransistor 144 = .ok (.iload 6, 2) := by decide +kernel
theorem dX3_addTransistor_146 : decode cX3_addTransistor 146 = .ok (.iadd, 1) := by decide +kernel
theorem dX3_addTransistor_147 : decode cX3_addTransistor 147 = .ok (.iconst 0, 1) := by decide +kernel
theorem dX3_addTransistor_148 : decode cX3_addTransistor 148 = .ok (.iastore, 1) := by decide +kernel
theorem dX3_addTransistor_149 : decode cX3_addTransistor 149 = .ok (.aload_n 0, 1) := by decide +kernel
theorem dX3_addTransistor_150 : decode cX3_addTransistor 150 = .ok (.getfield 7, 3) := by decide +kernel
theorem dX3_addTransistor_153 : decode cX3_addTransistor 153 = .ok (.iconst 1, 1) := by decide +kernel
theorem dX3_addTransistor_154 : decode cX3_addTransistor 154 = .ok (.dup2, 1) := by decide +kernel
theorem dX3_addTransistor_155 : decode cX3_addTransistor 155 = .ok (.iaload, 1) := by decide +kernel
theorem dX3_addTransistor_156 : decode cX3_addTransistor 156 = .ok (.iconst 1, 1) := by decide +kernel
theorem dX3_addTransistor_157 : decode cX3_addTransistor 157 = .ok (.iadd, 1) := by decide +kernel
theorem dX3_addTransistor_158 : decode cX3_addTransistor 158 = .ok (.iastore, 1) := by decide +kernel
theorem dX3_addTransistor_159 : decode cX3_addTransistor 159 = .ok (.iload 6, 2) := by decide +kernel
theorem dX3_addTransistor_161 : decode cX3_addTransistor 161 = .ok (.ireturn, 1) := by decide +kernel
set_option maxRecDepth 20000 in
theorem ggX3_nodeCount_X3_nodes : GoodIn wsX3_nodeCount wsX3_nodes := goodIn_r _ [5, 6, 7, 8, 9, 10, 11, 12, 13, 14] (by decide +kernel) (by decide +kernel)
set_option maxRecDepth 20000 in
theorem gX3_nodeCount_X3_nodes : GoodIn wsX3_nodeCount (wsV RX3 35 RX3 yX3_nodes wsX3_nodes) := goodIn_app (goodIn_of _ (by decide +kernel)) ggX3_nodeCount_X3_nodes
theorem dX3_nodeCount_0 : decode cX3_nodeCount 0 = .ok (.aload_n 0, 1) := by decide +kernel
theorem dX3_nodeCount_1 : decode cX3_nodeCount 1 = .ok (.invokevirtual 35, 3) := by decide +kernel
theorem dX3_nodeCount_4 : decode cX3_nodeCount 4 = .ok (.ireturn, 1) := by decide +kernel
set_option maxRecDepth 20000 in
theorem ggX3_transistorCount_X3_many : GoodIn wsX3_transistorCount wsX3_many := goodIn_r _ [5, 6, 7, 8, 9, 10, 11, 12, 13, 14] (by decide +kernel) (by decide +kernel)
set_option maxRecDepth 20000 in
theorem gX3_transistorCount_X3_many : GoodIn wsX3_transistorCount (wsV RX3 43 RX3 yX3_many wsX3_many) := goodIn_app (goodIn_of _ (by decide +kernel)) ggX3_transistorCount_X3_many
theorem dX3_transistorCount_0 : decode cX3_transistorCount 0 = .ok (.aload_n 0, 1) := by decide +kernel
theorem dX3_transistorCount_1 : decode cX3_transistorCount 1 = .ok (.invokevirtual 43, 3) := by decide +kernel
theorem dX3_transistorCount_4 : decode cX3_transistorCount 4 = .ok (.ireturn, 1) := by decide +kernel
set_option maxRecDepth 20000 in
theorem ggX3_inputs_X3_nodes : GoodIn wsX3_inputs wsX3_nodes := goodIn_r _ [5, 6, 11, 12, 13, 14, 15, 16, 17, 18] (by decide +kernel) (by decide +kernel)
set_option maxRecDepth 20000 in
theorem gX3_inputs_X3_nodes : GoodIn wsX3_inputs (wsV RX3 35 RX3 yX3_nodes wsX3_nodes) := goodIn_app (goodIn_of _ (by decide +kernel)) ggX3_inputs_X3_nodes
set_option maxRecDepth 20000 in
theorem ggX3_inputs_X3_isInput : GoodIn wsX3_inputs wsX3_isInput := goodIn_r _ [10, 6, 11, 12, 13, 14, 15, 16, 17, 18] (by decide +kernel) (by decide +kernel)
set_option maxRecDepth 20000 in
theorem gX3_inputs_X3_isInput : GoodIn wsX3_inputs (wsV RX3 54 RX3 yX3_isInput wsX3_isInput) := goodIn_app (goodIn_of _ (by decide +kernel)) ggX3_inputs_X3_isInput
theorem dX3_inputs_0 : decode cX3_inputs 0 = .ok (.iconst 0, 1) := by decide +kernel
theorem dX3_inputs_1 : decode cX3_inputs 1 = .ok (.istore_n 1, 1) := by decide +kernel
theorem dX3_inputs_2 : decode cX3_inputs 2 = .ok (.iconst 0, 1) := by decide +kernel
theorem dX3_inputs_3 : decode cX3_inputs 3 = .ok (.istore_n 2, 1) := by decide +kernel
theorem dX3_inputs_4 : decode cX3_inputs 4 = .ok (.iload_n 2, 1) := by decide +kernel
theorem dX3_inputs_5 : decode cX3_inputs 5 = .ok (.aload_n 0, 1) := by decide +kernel
theorem dX3_inputs_6 : decode cX3_inputs 6 = .ok (.invokevirtual 35, 3) := by decide +kernel
theorem dX3_inputs_9 : decode cX3_inputs 9 = .ok (.if_icmp .ge 27, 3) := by decide +kernel
theorem dX3_inputs_12 : decode cX3_inputs 12 = .ok (.iload_n 1, 1) := by decide +kernel
theorem dX3_inputs_13 : decode cX3_inputs 13 = .ok (.aload_n 0, 1) := by decide +kernel
theorem dX3_inputs_14 : decode cX3_inputs 14 = .ok (.iload_n 2, 1) := by decide +kernel
theorem dX3_inputs_15 : decode cX3_inputs 15 = .ok (.invokevirtual 54, 3) := by decide +kernel
theorem dX3_inputs_18 : decode cX3_inputs 18 = .ok (.ifCond .eq 9, 3) := by decide +kernel
theorem dX3_inputs_21 : decode cX3_inputs 21 = .ok (.iconst 1, 1) := by decide +kernel
theorem dX3_inputs_22 : decode cX3_inputs 22 = .ok (.iload_n 2, 1) := by decide +kernel
theorem dX3_inputs_23 : decode cX3_inputs 23 = .ok (.ishl, 1) := by decide +kernel
theorem dX3_inputs_24 : decode cX3_inputs 24 = .ok (.goto 4, 3) := by decide +kernel
theorem dX3_inputs_27 : decode cX3_inputs 27 = .ok (.iconst 0, 1) := by decide +kernel
theorem dX3_inputs_28 : decode cX3_inputs 28 = .ok (.ior, 1) := by decide +kernel
theorem dX3_inputs_29 : decode cX3_inputs 29 = .ok (.istore_n 1, 1) := by decide +kernel
theorem dX3_inputs_30 : decode cX3_inputs 30 = .ok (.iinc 2 1, 3) := by decide +kernel
theorem dX3_inputs_33 : decode cX3_inputs 33 = .ok (.goto (-29), 3) := by decide +kernel
theorem dX3_inputs_36 : decode cX3_inputs 36 = .ok (.iload_n 1, 1) := by decide +kernel
theorem dX3_inputs_37 : decode cX3_inputs 37 = .ok (.ireturn, 1) := by decide +kernel
set_option maxRecDepth 20000 in
theorem ggX3_setInput_X3_isNode : GoodIn wsX3_setInput wsX3_isNode := goodIn_r _ [5, 6, 7, 8, 4, 9, 10, 11, 12, 13, 22, 23, 24, 25, 26, 27, 28, 29] (by decide +kernel) (by decide +kernel)
set_option maxRecDepth 20000 in
theorem gX3_setInput_X3_isNode : GoodIn wsX3_setInput (wsV RX3 50 RX3 yX3_isNode wsX3_isNode) := goodIn_app (goodIn_of _ (by decide +kernel)) ggX3_setInput_X3_isNode
set_option maxRecDepth 20000 in
theorem ggX3_setInput_X3_isInput : GoodIn wsX3_setInput wsX3_isInput := goodIn_r _ [17, 10, 22, 23, 24, 25, 26, 27, 28, 29] (by decide +kernel) (by decide +kernel)
set_option maxRecDepth 20000 in
theorem gX3_setInput_X3_isInput : GoodIn wsX3_setInput (wsV RX3 54 RX3 yX3_isInput wsX3_isInput) := goodIn_app (goodIn_of _ (by decide +kernel)) ggX3_setInput_X3_isInput
set_option maxRecDepth 20000 in
theorem ggX3_setInput_X3_in : GoodIn wsX3_setInput wsX3_in := goodIn_r _ [13] (by decide +kernel) (by decide +kernel)
set_option maxRecDepth 20000 in
theorem gX3_setInput_X3_in : GoodIn wsX3_setInput (va_wsS RX3 39 yX3_in wsX3_in) := goodIn_app (goodIn_of _ (by decide +kernel)) ggX3_setInput_X3_in
set_option maxRecDepth 20000 in
theorem ggX3_setInput_X3_set : GoodIn wsX3_setInput wsX3_set := goodIn_r _ [21, 10, 22, 23, 24, 25, 26, 27, 28, 29] (by decide +kernel) (by decide +kernel)
set_option maxRecDepth 20000 in
theorem gX3_setInput_X3_set : GoodIn wsX3_setInput (wsV RX3 57 RX3 yX3_set wsX3_set) := goodIn_app (goodIn_of _ (by decide +kernel)) ggX3_setInput_X3_set
theorem dX3_setInput_0 : decode cX3_setInput 0 = .ok (.aload_n 0, 1) := by decide +kernel
theorem dX3_setInput_1 : decode cX3_setInput 1 = .ok (.iload_n 1, 1) := by decide +kernel
theorem dX3_setInput_2 : decode cX3_setInput 2 = .ok (.invokevirtual 50, 3) := by decide +kernel
theorem dX3_setInput_5 : decode cX3_setInput 5 = .ok (.ifCond .ne 5, 3) := by decide +kernel
theorem dX3_setInput_8 : decode cX3_setInput 8 = .ok (.iconst (-1), 1) := by decide +kernel
theorem dX3_setInput_9 : decode cX3_setInput 9 = .ok (.ireturn, 1) := by decide +kernel
theorem dX3_setInput_10 : decode cX3_setInput 10 = .ok (.aload_n 0, 1) := by decide +kernel
theorem dX3_setInput_11 : decode cX3_setInput 11 = .ok (.iload_n 1, 1) := by decide +kernel
theorem dX3_setInput_12 : decode cX3_setInput 12 = .ok (.invokevirtual 54, 3) := by decide +kernel
theorem dX3_setInput_15 : decode cX3_setInput 15 = .ok (.ifCond .ne 6, 3) := by decide +kernel
theorem dX3_setInput_18 : decode cX3_setInput 18 = .ok (.bipush (-5), 2) := by decide +kernel
theorem dX3_setInput_20 : decode cX3_setInput 20 = .ok (.ireturn, 1) := by decide +kernel
theorem dX3_setInput_21 : decode cX3_setInput 21 = .ok (.iload_n 2, 1) := by decide +kernel
theorem dX3_setInput_22 : decode cX3_setInput 22 = .ok (.iconst 0, 1) := by decide +kernel
theorem dX3_setInput_23 : decode cX3_setInput 23 = .ok (.iconst 2, 1) := by decide +kernel
theorem dX3_setInput_24 : decode cX3_setInput 24 = .ok (.invokestatic 39, 3) := by decide +kernel
theorem dX3_setInput_27 : decode cX3_setInput 27 = .ok (.ifCond .eq 15, 3) := by decide +kernel
theorem dX3_setInput_30 : decode cX3_setInput 30 = .ok (.aload_n 0, 1) := by decide +kernel
theorem dX3_setInput_31 : decode cX3_setInput 31 = .ok (.bipush 26, 2) := by decide +kernel
theorem dX3_setInput_33 : decode cX3_setInput 33 = .ok (.iload_n 1, 1) := by decide +kernel
theorem dX3_setInput_34 : decode cX3_setInput 34 = .ok (.iadd, 1) := by decide +kernel
theorem dX3_setInput_35 : decode cX3_setInput 35 = .ok (.iload_n 2, 1) := by decide +kernel
theorem dX3_setInput_36 : decode cX3_setInput 36 = .ok (.invokevirtual 57, 3) := by decide +kernel
theorem dX3_setInput_39 : decode cX3_setInput 39 = .ok (.goto 5, 3) := by decide +kernel
theorem dX3_setInput_42 : decode cX3_setInput 42 = .ok (.bipush (-3), 2) := by decide +kernel
theorem dX3_setInput_44 : decode cX3_setInput 44 = .ok (.ireturn, 1) := by decide +kernel
set_option maxRecDepth 20000 in
theorem ggX3_setCharge_X3_isNode : GoodIn wsX3_setCharge wsX3_isNode := goodIn_r _ [5, 6, 7, 8, 4, 9, 10, 11, 12, 13, 22, 23, 24, 25, 26, 27, 28, 29] (by decide +kernel) (by decide +kernel)
set_option maxRecDepth 20000 in
theorem gX3_setCharge_X3_isNode : GoodIn wsX3_setCharge (wsV RX3 50 RX3 yX3_isNode wsX3_isNode) := goodIn_app (goodIn_of _ (by decide +kernel)) ggX3_setCharge_X3_isNode
set_option maxRecDepth 20000 in
theorem ggX3_setCharge_X3_isInput : GoodIn wsX3_setCharge wsX3_isInput := goodIn_r _ [17, 10, 22, 23, 24, 25, 26, 27, 28, 29] (by decide +kernel) (by decide +kernel)
set_option maxRecDepth 20000 in
theorem gX3_setCharge_X3_isInput : GoodIn wsX3_setCharge (wsV RX3 54 RX3 yX3_isInput wsX3_isInput) := goodIn_app (goodIn_of _ (by decide +kernel)) ggX3_setCharge_X3_isInput
set_option maxRecDepth 20000 in
theorem ggX3_setCharge_X3_in : GoodIn wsX3_setCharge wsX3_in := goodIn_r _ [13] (by decide +kernel) (by decide +kernel)
set_option maxRecDepth 20000 in
theorem gX3_setCharge_X3_in : GoodIn wsX3_setCharge (va_wsS RX3 39 yX3_in wsX3_in) := goodIn_app (goodIn_of _ (by decide +kernel)) ggX3_setCharge_X3_in
set_option maxRecDepth 20000 in
theorem ggX3_setCharge_X3_set : GoodIn wsX3_setCharge wsX3_set := goodIn_r _ [21, 10, 22, 23, 24, 25, 26, 27, 28, 29] (by decide +kernel) (by decide +kernel)
set_option maxRecDepth 20000 in
theorem gX3_setCharge_X3_set : GoodIn wsX3_setCharge (wsV RX3 57 RX3 yX3_set wsX3_set) := goodIn_app (goodIn_of _ (by decide +kernel)) ggX3_setCharge_X3_set
theorem dX3_setCharge_0 : decode cX3_setCharge 0 = .ok (.aload_n 0, 1) := by decide +kernel
theorem dX3_setCharge_1 : decode cX3_setCharge 1 = .ok (.iload_n 1, 1) := by decide +kernel
theorem dX3_setCharge_2 : decode cX3_setCharge 2 = .ok (.invokevirtual 50, 3) := by decide +kernel
theorem dX3_setCharge_5 : decode cX3_setCharge 5 = .ok (.ifCond .ne 5, 3) := by decide +kernel
theorem dX3_setCharge_8 : decode cX3_setCharge 8 = .ok (.iconst (-1), 1) := by decide +kernel
theorem dX3_setCharge_9 : decode cX3_setCharge 9 = .ok (.ireturn, 1) := by decide +kernel
theorem dX3_setCharge_10 : decode cX3_setCharge 10 = .ok (.aload_n 0, 1) := by decide +kernel
theorem dX3_setCharge_11 : decode cX3_setCharge 11 = .ok (.iload_n 1, 1) := by decide +kernel
theorem dX3_setCharge_12 : decode cX3_setCharge 12 = .ok (.invokevirtual 54, 3) := by decide +kernel
theorem dX3_setCharge_15 : decode cX3_setCharge 15 = .ok (.ifCond .eq 6, 3) := by decide +kernel
theorem dX3_setCharge_18 : decode cX3_setCharge 18 = .ok (.bipush (-5), 2) := by decide +kernel
theorem dX3_setCharge_20 : decode cX3_setCharge 20 = .ok (.ireturn, 1) := by decide +kernel
theorem dX3_setCharge_21 : decode cX3_setCharge 21 = .ok (.iload_n 2, 1) := by decide +kernel
theorem dX3_setCharge_22 : decode cX3_setCharge 22 = .ok (.iconst 0, 1) := by decide +kernel
theorem dX3_setCharge_23 : decode cX3_setCharge 23 = .ok (.iconst 2, 1) := by decide +kernel
theorem dX3_setCharge_24 : decode cX3_setCharge 24 = .ok (.invokestatic 39, 3) := by decide +kernel
theorem dX3_setCharge_27 : decode cX3_setCharge 27 = .ok (.ifCond .eq 15, 3) := by decide +kernel
theorem dX3_setCharge_30 : decode cX3_setCharge 30 = .ok (.aload_n 0, 1) := by decide +kernel
theorem dX3_setCharge_31 : decode cX3_setCharge 31 = .ok (.bipush 26, 2) := by decide +kernel
theorem dX3_setCharge_33 : decode cX3_setCharge 33 = .ok (.iload_n 1, 1) := by decide +kernel
theorem dX3_setCharge_34 : decode cX3_setCharge 34 = .ok (.iadd, 1) := by decide +kernel
theorem dX3_setCharge_35 : decode cX3_setCharge 35 = .ok (.iload_n 2, 1) := by decide +kernel
theorem dX3_setCharge_36 : decode cX3_setCharge 36 = .ok (.invokevirtual 57, 3) := by decide +kernel
theorem dX3_setCharge_39 : decode cX3_setCharge 39 = .ok (.goto 5, 3) := by decide +kernel
theorem dX3_setCharge_42 : decode cX3_setCharge 42 = .ok (.bipush (-3), 2) := by decide +kernel
theorem dX3_setCharge_44 : decode cX3_setCharge 44 = .ok (.ireturn, 1) := by decide +kernel
set_option maxRecDepth 20000 in
theorem ggX3_forget_X3_nodes : GoodIn wsX3_forget wsX3_nodes := goodIn_r _ [6, 1, 11, 12, 13, 14, 15, 16, 17, 18] (by decide +kernel) (by decide +kernel)
set_option maxRecDepth 20000 in
theorem gX3_forget_X3_nodes : GoodIn wsX3_forget (wsV RX3 35 RX3 yX3_nodes wsX3_nodes) := goodIn_app (goodIn_of _ (by decide +kernel)) ggX3_forget_X3_nodes
set_option maxRecDepth 20000 in
theorem ggX3_forget_X3_isInput : GoodIn wsX3_forget wsX3_isInput := goodIn_r _ [10, 1, 11, 12, 13, 14, 15, 16, 17, 18] (by decide +kernel) (by decide +kernel)
set_option maxRecDepth 20000 in
theorem gX3_forget_X3_isInput : GoodIn wsX3_forget (wsV RX3 54 RX3 yX3_isInput wsX3_isInput) := goodIn_app (goodIn_of _ (by decide +kernel)) ggX3_forget_X3_isInput
theorem dX3_forget_0 : decode cX3_forget 0 = .ok (.iconst 0, 1) := by decide +kernel
theorem dX3_forget_1 : decode cX3_forget 1 = .ok (.istore_n 1, 1) := by decide +kernel
theorem dX3_forget_2 : decode cX3_forget 2 = .ok (.iconst 0, 1) := by decide +kernel
theorem dX3_forget_3 : decode cX3_forget 3 = .ok (.istore_n 2, 1) := by decide +kernel
theorem dX3_forget_4 : decode cX3_forget 4 = .ok (.iload_n 2, 1) := by decide +kernel
theorem dX3_forget_5 : decode cX3_forget 5 = .ok (.aload_n 0, 1) := by decide +kernel
theorem dX3_forget_6 : decode cX3_forget 6 = .ok (.invokevirtual 35, 3) := by decide +kernel
theorem dX3_forget_9 : decode cX3_forget 9 = .ok (.if_icmp .ge 48, 3) := by decide +kernel
theorem dX3_forget_12 : decode cX3_forget 12 = .ok (.aload_n 0, 1) := by decide +kernel
theorem dX3_forget_13 : decode cX3_forget 13 = .ok (.iload_n 2, 1) := by decide +kernel
theorem dX3_forget_14 : decode cX3_forget 14 = .ok (.invokevirtual 54, 3) := by decide +kernel
theorem dX3_forget_17 : decode cX3_forget 17 = .ok (.ifCond .ne 34, 3) := by decide +kernel
theorem dX3_forget_20 : decode cX3_forget 20 = .ok (.iload_n 1, 1) := by decide +kernel
theorem dX3_forget_21 : decode cX3_forget 21 = .ok (.aload_n 0, 1) := by decide +kernel
theorem dX3_forget_22 : decode cX3_forget 22 = .ok (.getfield 7, 3) := by decide +kernel
theorem dX3_forget_25 : decode cX3_forget 25 = .ok (.bipush 26, 2) := by decide +kernel
theorem dX3_forget_27 : decode cX3_forget 27 = .ok (.iload_n 2, 1) := by decide +kernel
theorem dX3_forget_28 : decode cX3_forget 28 = .ok (.iadd, 1) := by decide +kernel
theorem dX3_forget_29 : decode cX3_forget 29 = .ok (.iaload, 1) := by decide +kernel
theorem dX3_forget_30 : decode cX3_forget 30 = .ok (.iconst 2, 1) := by decide +kernel
theorem dX3_forget_31 : decode cX3_forget 31 = .ok (.if_icmp .eq 7, 3) := by decide +kernel
theorem dX3_forget_34 : decode cX3_forget 34 = .ok (.iconst 1, 1) := by decide +kernel
theorem dX3_forget_35 : decode cX3_forget 35 = .ok (.goto 4, 3) := by decide +kernel
theorem dX3_forget_38 : decode cX3_forget 38 = .ok (.iconst 0, 1) := by decide +kernel
theorem dX3_forget_39 : decode cX3_forget 39 = .ok (.iadd, 1) := by decide +kernel
theorem dX3_forget_40 : decode cX3_forget 40 = .ok (.istore_n 1, 1) := by decide +kernel
theorem dX3_forget_41 : decode cX3_forget 41 = .ok (.aload_n 0, 1) := by decide +kernel
theorem dX3_forget_42 : decode cX3_forget 42 = .ok (.getfield 7, 3) := by decide +kernel
theorem dX3_forget_45 : decode cX3_forget 45 = .ok (.bipush 26, 2) := by decide +kernel
theorem dX3_forget_47 : decode cX3_forget 47 = .ok (.iload_n 2, 1) := by decide +kernel
theorem dX3_forget_48 : decode cX3_forget 48 = .ok (.iadd, 1) := by decide +kernel
theorem dX3_forget_49 : decode cX3_forget 49 = .ok (.iconst 2, 1) := by decide +kernel
theorem dX3_forget_50 : decode cX3_forget 50 = .ok (.iastore, 1) := by decide +kernel
theorem dX3_forget_51 : decode cX3_forget 51 = .ok (.iinc 2 1, 3) := by decide +kernel
theorem dX3_forget_54 : decode cX3_forget 54 = .ok (.goto (-50), 3) := by decide +kernel
theorem dX3_forget_57 : decode cX3_forget 57 = .ok (.iload_n 1, 1) := by decide +kernel
theorem dX3_forget_58 : decode cX3_forget 58 = .ok (.ireturn, 1) := by decide +kernel
set_option maxRecDepth 20000 in
theorem ggX3_value_X3_isNode : GoodIn wsX3_value wsX3_isNode := goodIn_r _ [6, 7, 8, 9, 5, 10, 1, 11, 12, 13, 14, 15, 16, 17, 18, 19, 20, 21] (by decide +kernel) (by decide +kernel)
set_option maxRecDepth 20000 in
theorem gX3_value_X3_isNode : GoodIn wsX3_value (wsV RX3 50 RX3 yX3_isNode wsX3_isNode) := goodIn_app (goodIn_of _ (by decide +kernel)) ggX3_value_X3_isNode
theorem dX3_value_0 : decode cX3_value 0 = .ok (.aload_n 0, 1) := by decide +kernel
theorem dX3_value_1 : decode cX3_value 1 = .ok (.iload_n 1, 1) := by decide +kernel
theorem dX3_value_2 : decode cX3_value 2 = .ok (.invokevirtual 50, 3) := by decide +kernel
theorem dX3_value_5 : decode cX3_value 5 = .ok (.ifCond .eq 15, 3) := by decide +kernel
theorem dX3_value_8 : decode cX3_value 8 = .ok (.aload_n 0, 1) := by decide +kernel
theorem dX3_value_9 : decode cX3_value 9 = .ok (.getfield 7, 3) := by decide +kernel
theorem dX3_value_12 : decode cX3_value 12 = .ok (.bipush 26, 2) := by decide +kernel
theorem dX3_value_14 : decode cX3_value 14 = .ok (.iload_n 1, 1) := by decide +kernel
theorem dX3_value_15 : decode cX3_value 15 = .ok (.iadd, 1) := by decide +kernel
theorem dX3_value_16 : decode cX3_value 16 = .ok (.iaload, 1) := by decide +kernel
theorem dX3_value_17 : decode cX3_value 17 = .ok (.goto 4, 3) := by decide +kernel
theorem dX3_value_20 : decode cX3_value 20 = .ok (.iconst (-1), 1) := by decide +kernel
theorem dX3_value_21 : decode cX3_value 21 = .ok (.ireturn, 1) := by decide +kernel
set_option maxRecDepth 20000 in
theorem ggX3_nodesWith_X3_in : GoodIn wsX3_nodesWith wsX3_in := goodIn_r _ [5] (by decide +kernel) (by decide +kernel)
set_option maxRecDepth 20000 in
theorem gX3_nodesWith_X3_in : GoodIn wsX3_nodesWith (va_wsS RX3 39 yX3_in wsX3_in) := goodIn_app (goodIn_of _ (by decide +kernel)) ggX3_nodesWith_X3_in
set_option maxRecDepth 20000 in
theorem ggX3_nodesWith_X3_nodes : GoodIn wsX3_nodesWith wsX3_nodes := goodIn_r _ [9, 1, 10, 11, 12, 13, 14, 15, 16, 17] (by decide +kernel) (by decide +kernel)
set_option maxRecDepth 20000 in
theorem gX3_nodesWith_X3_nodes : GoodIn wsX3_nodesWith (wsV RX3 35 RX3 yX3_nodes wsX3_nodes) := goodIn_app (goodIn_of _ (by decide +kernel)) ggX3_nodesWith_X3_nodes
theorem dX3_nodesWith_0 : decode cX3_nodesWith 0 = .ok (.iload_n 1, 1) := by decide +kernel
theorem dX3_nodesWith_1 : decode cX3_nodesWith 1 = .ok (.iconst 0, 1) := by decide +kernel
theorem dX3_nodesWith_2 : decode cX3_nodesWith 2 = .ok (.iconst 2, 1) := by decide +kernel
theorem dX3_nodesWith_3 : decode cX3_nodesWith 3 = .ok (.invokestatic 39, 3) := by decide +kernel
theorem dX3_nodesWith_6 : decode cX3_nodesWith 6 = .ok (.ifCond .ne 6, 3) := by decide +kernel
theorem dX3_nodesWith_9 : decode cX3_nodesWith 9 = .ok (.bipush (-3), 2) := by decide +kernel
theorem dX3_nodesWith_11 : decode cX3_nodesWith 11 = .ok (.ireturn, 1) := by decide +kernel
theorem dX3_nodesWith_12 : decode cX3_nodesWith 12 = .ok (.iconst 0, 1) := by decide +kernel
theorem dX3_nodesWith_13 : decode cX3_nodesWith 13 = .ok (.istore_n 2, 1) := by decide +kernel
theorem dX3_nodesWith_14 : decode cX3_nodesWith 14 = .ok (.iconst 0, 1) := by decide +kernel
theorem dX3_nodesWith_15 : decode cX3_nodesWith 15 = .ok (.istore_n 3, 1) := by decide +kernel
theorem dX3_nodesWith_16 : decode cX3_nodesWith 16 = .ok (.iload_n 3, 1) := by decide +kernel
theorem dX3_nodesWith_17 : decode cX3_nodesWith 17 = .ok (.aload_n 0, 1) := by decide +kernel
theorem dX3_nodesWith_18 : decode cX3_nodesWith 18 = .ok (.invokevirtual 35, 3) := by decide +kernel
theorem dX3_nodesWith_21 : decode cX3_nodesWith 21 = .ok (.if_icmp .ge 32, 3) := by decide +kernel
theorem dX3_nodesWith_24 : decode cX3_nodesWith 24 = .ok (.iload_n 2, 1) := by decide +kernel
theorem dX3_nodesWith_25 : decode cX3_nodesWith 25 = .ok (.aload_n 0, 1) := by decide +kernel
theorem dX3_nodesWith_26 : decode cX3_nodesWith 26 = .ok (.getfield 7, 3) := by decide +kernel
theorem dX3_nodesWith_29 : decode cX3_nodesWith 29 = .ok (.bipush 26, 2) := by decide +kernel
theorem dX3_nodesWith_31 : decode cX3_nodesWith 31 = .ok (.iload_n 3, 1) := by decide +kernel
theorem dX3_nodesWith_32 : decode cX3_nodesWith 32 = .ok (.iadd, 1) := by decide +kernel
theorem dX3_nodesWith_33 : decode cX3_nodesWith 33 = .ok (.iaload, 1) := by decide +kernel
theorem dX3_nodesWith_34 : decode cX3_nodesWith 34 = .ok (.iload_n 1, 1) := by decide +kernel
theorem dX3_nodesWith_35 : decode cX3_nodesWith 35 = .ok (.if_icmp .ne 9, 3) := by decide +kernel
theorem dX3_nodesWith_38 : decode cX3_nodesWith 38 = .ok (.iconst 1, 1) := by decide +kernel
theorem dX3_nodesWith_39 : decode cX3_nodesWith 39 = .ok (.iload_n 3, 1) := by decide +kernel
theorem dX3_nodesWith_40 : decode cX3_nodesWith 40 = .ok (.ishl, 1) := by decide +kernel
theorem dX3_nodesWith_41 : decode cX3_nodesWith 41 = .ok (.goto 4, 3) := by decide +kernel
theorem dX3_nodesWith_44 : decode cX3_nodesWith 44 = .ok (.iconst 0, 1) := by decide +kernel
theorem dX3_nodesWith_45 : decode cX3_nodesWith 45 = .ok (.ior, 1) := by decide +kernel
theorem dX3_nodesWith_46 : decode cX3_nodesWith 46 = .ok (.istore_n 2, 1) := by decide +kernel
theorem dX3_nodesWith_47 : decode cX3_nodesWith 47 = .ok (.iinc 3 1, 3) := by decide +kernel
theorem dX3_nodesWith_50 : decode cX3_nodesWith 50 = .ok (.goto (-34), 3) := by decide +kernel
theorem dX3_nodesWith_53 : decode cX3_nodesWith 53 = .ok (.iload_n 2, 1) := by decide +kernel
theorem dX3_nodesWith_54 : decode cX3_nodesWith 54 = .ok (.ireturn, 1) := by decide +kernel
theorem dX3_stateOf_0 : decode cX3_stateOf 0 = .ok (.aload_n 0, 1) := by decide +kernel
theorem dX3_stateOf_1 : decode cX3_stateOf 1 = .ok (.getfield 7, 3) := by decide +kernel
theorem dX3_stateOf_4 : decode cX3_stateOf 4 = .ok (.sipush 250, 3) := by decide +kernel
theorem dX3_stateOf_7 : decode cX3_stateOf 7 = .ok (.iload_n 1, 1) := by decide +kernel
theorem dX3_stateOf_8 : decode cX3_stateOf 8 = .ok (.iadd, 1) := by decide +kernel
theorem dX3_stateOf_9 : decode cX3_stateOf 9 = .ok (.iaload, 1) := by decide +kernel
theorem dX3_stateOf_10 : decode cX3_stateOf 10 = .ok (.istore_n 2, 1) := by decide +kernel
theorem dX3_stateOf_11 : decode cX3_stateOf 11 = .ok (.iload_n 2, 1) := by decide +kernel
theorem dX3_stateOf_12 : decode cX3_stateOf 12 = .ok (.ifCond .eq 14, 3) := by decide +kernel
theorem dX3_stateOf_15 : decode cX3_stateOf 15 = .ok (.iload_n 2, 1) := by decide +kernel
theorem dX3_stateOf_16 : decode cX3_stateOf 16 = .ok (.iconst 1, 1) := by decide +kernel
theorem dX3_stateOf_17 : decode cX3_stateOf 17 = .ok (.if_icmp .ne 7, 3) := by decide +kernel
theorem dX3_stateOf_20 : decode cX3_stateOf 20 = .ok (.iconst 0, 1) := by decide +kernel
theorem dX3_stateOf_21 : decode cX3_stateOf 21 = .ok (.goto 4, 3) := by decide +kernel
theorem dX3_stateOf_24 : decode cX3_stateOf 24 = .ok (.iconst 1, 1) := by decide +kernel
theorem dX3_stateOf_25 : decode cX3_stateOf 25 = .ok (.ireturn, 1) := by decide +kernel
theorem dX3_stateOf_26 : decode cX3_stateOf 26 = .ok (.aload_n 0, 1) := by decide +kernel
theorem dX3_stateOf_27 : decode cX3_stateOf 27 = .ok (.getfield 7, 3) := by decide +kernel
theorem dX3_stateOf_30 : decode cX3_stateOf 30 = .ok (.bipush 50, 2) := by decide +kernel
theorem dX3_stateOf_32 : decode cX3_stateOf 32 = .ok (.iload_n 1, 1) := by decide +kernel
theorem dX3_stateOf_33 : decode cX3_stateOf 33 = .ok (.iadd, 1) := by decide +kernel
theorem dX3_stateOf_34 : decode cX3_stateOf 34 = .ok (.iaload, 1) := by decide +kernel
theorem dX3_stateOf_35 : decode cX3_stateOf 35 = .ok (.iconst 2, 1) := by decide +kernel
theorem dX3_stateOf_36 : decode cX3_stateOf 36 = .ok (.if_icmp .ne 5, 3) := by decide +kernel
theorem dX3_stateOf_39 : decode cX3_stateOf 39 = .ok (.iconst 1, 1) := by decide +kernel
theorem dX3_stateOf_40 : decode cX3_stateOf 40 = .ok (.ireturn, 1) := by decide +kernel
theorem dX3_stateOf_41 : decode cX3_stateOf 41 = .ok (.aload_n 0, 1) := by decide +kernel
theorem dX3_stateOf_42 : decode cX3_stateOf 42 = .ok (.getfield 7, 3) := by decide +kernel
theorem dX3_stateOf_45 : decode cX3_stateOf 45 = .ok (.bipush 26, 2) := by decide +kernel
theorem dX3_stateOf_47 : decode cX3_stateOf 47 = .ok (.aload_n 0, 1) := by decide +kernel
theorem dX3_stateOf_48 : decode cX3_stateOf 48 = .ok (.getfield 7, 3) := by decide +kernel
theorem dX3_stateOf_51 : decode cX3_stateOf 51 = .ok (.sipush 130, 3) := by decide +kernel
theorem dX3_stateOf_54 : decode cX3_stateOf 54 = .ok (.iload_n 1, 1) := by decide +kernel
theorem dX3_stateOf_55 : decode cX3_stateOf 55 = .ok (.iadd, 1) := by decide +kernel
theorem dX3_stateOf_56 : decode cX3_stateOf 56 = .ok (.iaload, 1) := by decide +kernel
theorem dX3_stateOf_57 : decode cX3_stateOf 57 = .ok (.iadd, 1) := by decide +kernel
theorem dX3_stateOf_58 : decode cX3_stateOf 58 = .ok (.iaload, 1) := by decide +kernel
theorem dX3_stateOf_59 : decode cX3_stateOf 59 = .ok (.istore_n 3, 1) := by decide +kernel
theorem dX3_stateOf_60 : decode cX3_stateOf 60 = .ok (.iload_n 3, 1) := by decide +kernel
theorem dX3_stateOf_61 : decode cX3_stateOf 61 = .ok (.iconst 2, 1) := by decide +kernel
theorem dX3_stateOf_62 : decode cX3_stateOf 62 = .ok (.if_icmp .ne 7, 3) := by decide +kernel
theorem dX3_stateOf_65 : decode cX3_stateOf 65 = .ok (.iconst 2, 1) := by decide +kernel
theorem dX3_stateOf_66 : decode cX3_stateOf 66 = .ok (.goto 38, 3) := by decide +kernel
theorem dX3_stateOf_69 : decode cX3_stateOf 69 = .ok (.iload_n 3, 1) := by decide +kernel
theorem dX3_stateOf_70 : decode cX3_stateOf 70 = .ok (.iconst 1, 1) := by decide +kernel
theorem dX3_stateOf_71 : decode cX3_stateOf 71 = .ok (.if_icmp .ne 7, 3) := by decide +kernel
theorem dX3_stateOf_74 : decode cX3_stateOf 74 = .ok (.iconst 1, 1) := by decide +kernel
theorem dX3_stateOf_75 : decode cX3_stateOf 75 = .ok (.goto 4, 3) := by decide +kernel
theorem dX3_stateOf_78 : decode cX3_stateOf 78 = .ok (.iconst 0, 1) := by decide +kernel
theorem dX3_stateOf_79 : decode cX3_stateOf 79 = .ok (.aload_n 0, 1) := by decide +kernel
theorem dX3_stateOf_80 : decode cX3_stateOf 80 = .ok (.getfield 7, 3) := by decide +kernel
theorem dX3_stateOf_83 : decode cX3_stateOf 83 = .ok (.bipush 50, 2) := by decide +kernel
theorem dX3_stateOf_85 : decode cX3_stateOf 85 = .ok (.iload_n 1, 1) := by decide +kernel
theorem dX3_stateOf_86 : decode cX3_stateOf 86 = .ok (.iadd, 1) := by decide +kernel
theorem dX3_stateOf_87 : decode cX3_stateOf 87 = .ok (.iaload, 1) := by decide +kernel
theorem dX3_stateOf_88 : decode cX3_stateOf 88 = .ok (.ifCond .ne 7, 3) := by decide +kernel
theorem dX3_stateOf_91 : decode cX3_stateOf 91 = .ok (.iconst 1, 1) := by decide +kernel
theorem dX3_stateOf_92 : decode cX3_stateOf 92 = .ok (.goto 4, 3) := by decide +kernel
theorem dX3_stateOf_95 : decode cX3_stateOf 95 = .ok (.iconst 0, 1) := by decide +kernel
theorem dX3_stateOf_96 : decode cX3_stateOf 96 = .ok (.if_icmp .ne 7, 3) := by decide +kernel
theorem dX3_stateOf_99 : decode cX3_stateOf 99 = .ok (.iconst 1, 1) := by decide +kernel
theorem dX3_stateOf_100 : decode cX3_stateOf 100 = .ok (.goto 4, 3) := by decide +kernel
theorem dX3_stateOf_103 : decode cX3_stateOf 103 = .ok (.iconst 0, 1) := by decide +kernel
theorem dX3_stateOf_104 : decode cX3_stateOf 104 = .ok (.ireturn, 1) := by decide +kernel
set_option maxRecDepth 20000 in
theorem ggX3_switchState_X3_isTransistor : GoodIn wsX3_switchState wsX3_isTransistor := goodIn_r _ [5, 6, 7, 8, 4, 9, 10, 11, 12, 13, 18, 19, 20, 21, 22, 23, 24, 25] (by decide +kernel) (by decide +kernel)
set_option maxRecDepth 20000 in
theorem gX3_switchState_X3_isTransistor : GoodIn wsX3_switchState (wsV RX3 61 RX3 yX3_isTransistor wsX3_isTransistor) := goodIn_app (goodIn_of _ (by decide +kernel)) ggX3_switchState_X3_isTransistor
set_option maxRecDepth 20000 in
theorem ggX3_switchState_X3_stateOf : GoodIn wsX3_switchState wsX3_stateOf := goodIn_r _ [17, 10, 18, 19, 20, 21, 22, 23, 24, 25] (by decide +kernel) (by decide +kernel)
set_option maxRecDepth 20000 in
theorem gX3_switchState_X3_stateOf : GoodIn wsX3_switchState (wsV RX3 64 RX3 yX3_stateOf wsX3_stateOf) := goodIn_app (goodIn_of _ (by decide +kernel)) ggX3_switchState_X3_stateOf
theorem dX3_switchState_0 : decode cX3_switchState 0 = .ok (.aload_n 0, 1) := by decide +kernel
theorem dX3_switchState_1 : decode cX3_switchState 1 = .ok (.iload_n 1, 1) := by decide +kernel
theorem dX3_switchState_2 : decode cX3_switchState 2 = .ok (.invokevirtual 61, 3) := by decide +kernel
theorem dX3_switchState_5 : decode cX3_switchState 5 = .ok (.ifCond .eq 11, 3) := by decide +kernel
theorem dX3_switchState_8 : decode cX3_switchState 8 = .ok (.aload_n 0, 1) := by decide +kernel
theorem dX3_switchState_9 : decode cX3_switchState 9 = .ok (.iload_n 1, 1) := by decide +kernel
theorem dX3_switchState_10 : decode cX3_switchState 10 = .ok (.invokevirtual 64, 3) := by decide +kernel
theorem dX3_switchState_13 : decode cX3_switchState 13 = .ok (.goto 5, 3) := by decide +kernel
theorem dX3_switchState_16 : decode cX3_switchState 16 = .ok (.bipush (-2), 2) := by decide +kernel
theorem dX3_switchState_18 : decode cX3_switchState 18 = .ok (.ireturn, 1) := by decide +kernel
theorem dX3_lesser_0 : decode cX3_lesser 0 = .ok (.iload_n 0, 1) := by decide +kernel
theorem dX3_lesser_1 : decode cX3_lesser 1 = .ok (.iload_n 1, 1) := by decide +kernel
theorem dX3_lesser_2 : decode cX3_lesser 2 = .ok (.if_icmp .ge 7, 3) := by decide +kernel
theorem dX3_lesser_5 : decode cX3_lesser 5 = .ok (.iload_n 0, 1) := by decide +kernel
theorem dX3_lesser_6 : decode cX3_lesser 6 = .ok (.goto 4, 3) := by decide +kernel
theorem dX3_lesser_9 : decode cX3_lesser 9 = .ok (.iload_n 1, 1) := by decide +kernel
theorem dX3_lesser_10 : decode cX3_lesser 10 = .ok (.ireturn, 1) := by decide +kernel
theorem dX3_signal_0 : decode cX3_signal 0 = .ok (.aload_n 0, 1) := by decide +kernel
theorem dX3_signal_1 : decode cX3_signal 1 = .ok (.getfield 7, 3) := by decide +kernel
theorem dX3_signal_4 : decode cX3_signal 4 = .ok (.bipush 90, 2) := by decide +kernel
theorem dX3_signal_6 : decode cX3_signal 6 = .ok (.iload_n 1, 1) := by decide +kernel
theorem dX3_signal_7 : decode cX3_signal 7 = .ok (.iadd, 1) := by decide +kernel
theorem dX3_signal_8 : decode cX3_signal 8 = .ok (.iaload, 1) := by decide +kernel
theorem dX3_signal_9 : decode cX3_signal 9 = .ok (.iconst 3, 1) := by decide +kernel
theorem dX3_signal_10 : decode cX3_signal 10 = .ok (.iadd, 1) := by decide +kernel
theorem dX3_signal_11 : decode cX3_signal 11 = .ok (.ireturn, 1) := by decide +kernel
set_option maxRecDepth 20000 in
theorem ggX3_growDefinite_X3_signal : GoodIn wsX3_growDefinite wsX3_signal := goodIn_r _ [6, 7, 15, 16, 17, 18, 19, 20, 21, 22] (by decide +kernel) (by decide +kernel)
set_option maxRecDepth 20000 in
theorem gX3_growDefinite_X3_signal : GoodIn wsX3_growDefinite (wsV RX3 67 RX3 yX3_signal wsX3_signal) := goodIn_app (goodIn_of _ (by decide +kernel)) ggX3_growDefinite_X3_signal
set_option maxRecDepth 20000 in
theorem ggX3_growDefinite_X3_lesser : GoodIn wsX3_growDefinite wsX3_lesser := goodIn_r _ [10] (by decide +kernel) (by decide +kernel)
set_option maxRecDepth 20000 in
theorem gX3_growDefinite_X3_lesser : GoodIn wsX3_growDefinite (va_wsS RX3 70 yX3_lesser wsX3_lesser) := goodIn_app (goodIn_of _ (by decide +kernel)) ggX3_growDefinite_X3_lesser
set_option maxRecDepth 20000 in
theorem ggX3_growDefinite_X3_isInput : GoodIn wsX3_growDefinite wsX3_isInput := goodIn_r _ [14, 7, 15, 16, 17, 18, 19, 20, 21, 22] (by decide +kernel) (by decide +kernel)
set_option maxRecDepth 20000 in
theorem gX3_growDefinite_X3_isInput : GoodIn wsX3_growDefinite (wsV RX3 54 RX3 yX3_isInput wsX3_isInput) := goodIn_app (goodIn_of _ (by decide +kernel)) ggX3_growDefinite_X3_isInput
theorem dX3_growDefinite_0 : decode cX3_growDefinite 0 = .ok (.aload_n 0, 1) := by decide +kernel
theorem dX3_growDefinite_1 : decode cX3_growDefinite 1 = .ok (.iload_n 1, 1) := by decide +kernel
theorem dX3_growDefinite_2 : decode cX3_growDefinite 2 = .ok (.invokevirtual 67, 3) := by decide +kernel
theorem dX3_growDefinite_5 : decode cX3_growDefinite 5 = .ok (.aload_n 0, 1) := by decide +kernel
theorem dX3_growDefinite_6 : decode cX3_growDefinite 6 = .ok (.getfield 20, 3) := by decide +kernel
theorem dX3_growDefinite_9 : decode cX3_growDefinite 9 = .ok (.iload_n 2, 1) := by decide +kernel
theorem dX3_growDefinite_10 : decode cX3_growDefinite 10 = .ok (.iaload, 1) := by decide +kernel
theorem dX3_growDefinite_11 : decode cX3_growDefinite 11 = .ok (.invokestatic 70, 3) := by decide +kernel
theorem dX3_growDefinite_14 : decode cX3_growDefinite 14 = .ok (.istore 4, 2) := by decide +kernel
theorem dX3_growDefinite_16 : decode cX3_growDefinite 16 = .ok (.aload_n 0, 1) := by decide +kernel
theorem dX3_growDefinite_17 : decode cX3_growDefinite 17 = .ok (.iload_n 3, 1) := by decide +kernel
theorem dX3_growDefinite_18 : decode cX3_growDefinite 18 = .ok (.invokevirtual 54, 3) := by decide +kernel
theorem dX3_growDefinite_21 : decode cX3_growDefinite 21 = .ok (.ifCond .ne 18, 3) := by decide +kernel
theorem dX3_growDefinite_24 : decode cX3_growDefinite 24 = .ok (.iload 4, 2) := by decide +kernel
theorem dX3_growDefinite_26 : decode cX3_growDefinite 26 = .ok (.aload_n 0, 1) := by decide +kernel
theorem dX3_growDefinite_27 : decode cX3_growDefinite 27 = .ok (.getfield 20, 3) := by decide +kernel
theorem dX3_growDefinite_30 : decode cX3_growDefinite 30 = .ok (.iload_n 3, 1) := by decide +kernel
theorem dX3_growDefinite_31 : decode cX3_growDefinite 31 = .ok (.iaload, 1) := by decide +kernel
theorem dX3_growDefinite_32 : decode cX3_growDefinite 32 = .ok (.if_icmp .le 7, 3) := by decide +kernel
theorem dX3_growDefinite_35 : decode cX3_growDefinite 35 = .ok (.iconst 1, 1) := by decide +kernel
theorem dX3_growDefinite_36 : decode cX3_growDefinite 36 = .ok (.goto 4, 3) := by decide +kernel
theorem dX3_growDefinite_39 : decode cX3_growDefinite 39 = .ok (.iconst 0, 1) := by decide +kernel
theorem dX3_growDefinite_40 : decode cX3_growDefinite 40 = .ok (.istore 5, 2) := by decide +kernel
theorem dX3_growDefinite_42 : decode cX3_growDefinite 42 = .ok (.aload_n 0, 1) := by decide +kernel
theorem dX3_growDefinite_43 : decode cX3_growDefinite 43 = .ok (.getfield 20, 3) := by decide +kernel
theorem dX3_growDefinite_46 : decode cX3_growDefinite 46 = .ok (.iload_n 3, 1) := by decide +kernel
theorem dX3_growDefinite_47 : decode cX3_growDefinite 47 = .ok (.iload 5, 2) := by decide +kernel
theorem dX3_growDefinite_49 : decode cX3_growDefinite 49 = .ok (.ifCond .eq 8, 3) := by decide +kernel
theorem dX3_growDefinite_52 : decode cX3_growDefinite 52 = .ok (.iload 4, 2) := by decide +kernel
theorem dX3_growDefinite_54 : decode cX3_growDefinite 54 = .ok (.goto 9, 3) := by decide +kernel
theorem dX3_growDefinite_57 : decode cX3_growDefinite 57 = .ok (.aload_n 0, 1) := by decide +kernel
theorem dX3_growDefinite_58 : decode cX3_growDefinite 58 = .ok (.getfield 20, 3) := by decide +kernel
theorem dX3_growDefinite_61 : decode cX3_growDefinite 61 = .ok (.iload_n 3, 1) := by decide +kernel
theorem dX3_growDefinite_62 : decode cX3_growDefinite 62 = .ok (.iaload, 1) := by decide +kernel
theorem dX3_growDefinite_63 : decode cX3_growDefinite 63 = .ok (.iastore, 1) := by decide +kernel
theorem dX3_growDefinite_64 : decode cX3_growDefinite 64 = .ok (.iload 5, 2) := by decide +kernel
theorem dX3_growDefinite_66 : decode cX3_growDefinite 66 = .ok (.ireturn, 1) := by decide +kernel
set_option maxRecDepth 20000 in
theorem ggX3_layDefinite_X3_nodes : GoodIn wsX3_layDefinite wsX3_nodes := goodIn_r _ [8, 2, 28, 29, 30, 31, 32, 33, 34, 35] (by decide +kernel) (by decide +kernel)
set_option maxRecDepth 20000 in
theorem gX3_layDefinite_X3_nodes : GoodIn wsX3_layDefinite (wsV RX3 35 RX3 yX3_nodes wsX3_nodes) := goodIn_app (goodIn_of _ (by decide +kernel)) ggX3_layDefinite_X3_nodes
set_option maxRecDepth 20000 in
theorem ggX3_layDefinite_X3_isInput : GoodIn wsX3_layDefinite wsX3_isInput := goodIn_r _ [12, 2, 28, 29, 30, 31, 32, 33, 34, 35] (by decide +kernel) (by decide +kernel)
set_option maxRecDepth 20000 in
theorem gX3_layDefinite_X3_isInput : GoodIn wsX3_layDefinite (wsV RX3 54 RX3 yX3_isInput wsX3_isInput) := goodIn_app (goodIn_of _ (by decide +kernel)) ggX3_layDefinite_X3_isInput
set_option maxRecDepth 20000 in
theorem ggX3_layDefinite_X3_many : GoodIn wsX3_layDefinite wsX3_many := goodIn_r _ [16, 2, 28, 29, 30, 31, 32, 33, 34, 35] (by decide +kernel) (by decide +kernel)
set_option maxRecDepth 20000 in
theorem gX3_layDefinite_X3_many : GoodIn wsX3_layDefinite (wsV RX3 43 RX3 yX3_many wsX3_many) := goodIn_app (goodIn_of _ (by decide +kernel)) ggX3_layDefinite_X3_many
set_option maxRecDepth 20000 in
theorem ggX3_layDefinite_X3_growDefinite : GoodIn wsX3_layDefinite wsX3_growDefinite := goodIn_r _ [20, 1, 21, 22, 23, 7, 24, 2, 25, 26, 27, 9, 10, 11, 12, 28, 29, 30, 31, 32, 33, 34, 35] (by decide +kernel) (by decide +kernel)
set_option maxRecDepth 20000 in
theorem gX3_layDefinite_X3_growDefinite : GoodIn wsX3_layDefinite (wsV RX3 73 RX3 yX3_growDefinite wsX3_growDefinite) := goodIn_app (goodIn_of _ (by decide +kernel)) ggX3_layDefinite_X3_growDefinite
theorem dX3_layDefinite_0 : decode cX3_layDefinite 0 = .ok (.iconst 0, 1) := by decide +kernel
theorem dX3_layDefinite_1 : decode cX3_layDefinite 1 = .ok (.istore_n 1, 1) := by decide +kernel
theorem dX3_layDefinite_2 : decode cX3_layDefinite 2 = .ok (.iload_n 1, 1) := by decide +kernel
theorem dX3_layDefinite_3 : decode cX3_layDefinite 3 = .ok (.aload_n 0, 1) := by decide +kernel
theorem dX3_layDefinite_4 : decode cX3_layDefinite 4 = .ok (.invokevirtual 35, 3) := by decide +kernel
theorem dX3_layDefinite_7 : decode cX3_layDefinite 7 = .ok (.if_icmp .ge 36, 3) := by decide +kernel
theorem dX3_layDefinite_10 : decode cX3_layDefinite 10 = .ok (.aload_n 0, 1) := by decide +kernel
theorem dX3_layDefinite_11 : decode cX3_layDefinite 11 = .ok (.getfield 20, 3) := by decide +kernel
theorem dX3_layDefinite_14 : decode cX3_layDefinite 14 = .ok (.iload_n 1, 1) := by decide +kernel
theorem dX3_layDefinite_15 : decode cX3_layDefinite 15 = .ok (.aload_n 0, 1) := by decide +kernel
theorem dX3_layDefinite_16 : decode cX3_layDefinite 16 = .ok (.iload_n 1, 1) := by decide +kernel
theorem dX3_layDefinite_17 : decode cX3_layDefinite 17 = .ok (.invokevirtual 54, 3) := by decide +kernel
theorem dX3_layDefinite_20 : decode cX3_layDefinite 20 = .ok (.ifCond .eq 8, 3) := by decide +kernel
theorem dX3_layDefinite_23 : decode cX3_layDefinite 23 = .ok (.bipush 7, 2) := by decide +kernel
theorem dX3_layDefinite_25 : decode cX3_layDefinite 25 = .ok (.goto 11, 3) := by decide +kernel
theorem dX3_layDefinite_28 : decode cX3_layDefinite 28 = .ok (.aload_n 0, 1) := by decide +kernel
theorem dX3_layDefinite_29 : decode cX3_layDefinite 29 = .ok (.getfield 7, 3) := by decide +kernel
theorem dX3_layDefinite_32 : decode cX3_layDefinite 32 = .ok (.iconst 2, 1) := by decide +kernel
theorem dX3_layDefinite_33 : decode cX3_layDefinite 33 = .ok (.iload_n 1, 1) := by decide +kernel
theorem dX3_layDefinite_34 : decode cX3_layDefinite 34 = .ok (.iadd, 1) := by decide +kernel
theorem dX3_layDefinite_35 : decode cX3_layDefinite 35 = .ok (.iaload, 1) := by decide +kernel
theorem dX3_layDefinite_36 : decode cX3_layDefinite 36 = .ok (.iastore, 1) := by decide +kernel
theorem dX3_layDefinite_37 : decode cX3_layDefinite 37 = .ok (.iinc 1 1, 3) := by decide +kernel
theorem dX3_layDefinite_40 : decode cX3_layDefinite 40 = .ok (.goto (-38), 3) := by decide +kernel
theorem dX3_layDefinite_43 : decode cX3_layDefinite 43 = .ok (.iconst 1, 1) := by decide +kernel
theorem dX3_layDefinite_44 : decode cX3_layDefinite 44 = .ok (.istore_n 1, 1) := by decide +kernel
theorem dX3_layDefinite_45 : decode cX3_layDefinite 45 = .ok (.iload_n 1, 1) := by decide +kernel
theorem dX3_layDefinite_46 : decode cX3_layDefinite 46 = .ok (.ifCond .eq 110, 3) := by decide +kernel
theorem dX3_layDefinite_49 : decode cX3_layDefinite 49 = .ok (.iconst 0, 1) := by decide +kernel
theorem dX3_layDefinite_50 : decode cX3_layDefinite 50 = .ok (.istore_n 1, 1) := by decide +kernel
theorem dX3_layDefinite_51 : decode cX3_layDefinite 51 = .ok (.iconst 0, 1) := by decide +kernel
theorem dX3_layDefinite_52 : decode cX3_layDefinite 52 = .ok (.istore_n 2, 1) := by decide +kernel
theorem dX3_layDefinite_53 : decode cX3_layDefinite 53 = .ok (.iload_n 2, 1) := by decide +kernel
theorem dX3_layDefinite_54 : decode cX3_layDefinite 54 = .ok (.aload_n 0, 1) := by decide +kernel
theorem dX3_layDefinite_55 : decode cX3_layDefinite 55 = .ok (.invokevirtual 43, 3) := by decide +kernel
theorem dX3_layDefinite_58 : decode cX3_layDefinite 58 = .ok (.if_icmp .ge 95, 3) := by decide +kernel
theorem dX3_layDefinite_61 : decode cX3_layDefinite 61 = .ok (.aload_n 0, 1) := by decide +kernel
theorem dX3_layDefinite_62 : decode cX3_layDefinite 62 = .ok (.getfield 29, 3) := by decide +kernel
theorem dX3_layDefinite_65 : decode cX3_layDefinite 65 = .ok (.iload_n 2, 1) := by decide +kernel
theorem dX3_layDefinite_66 : decode cX3_layDefinite 66 = .ok (.iaload, 1) := by decide +kernel
theorem dX3_layDefinite_67 : decode cX3_layDefinite 67 = .ok (.iconst 1, 1) := by decide +kernel
theorem dX3_layDefinite_68 : decode cX3_layDefinite 68 = .ok (.if_icmp .ne 79, 3) := by decide +kernel
theorem dX3_layDefinite_71 : decode cX3_layDefinite 71 = .ok (.aload_n 0, 1) := by decide +kernel
theorem dX3_layDefinite_72 : decode cX3_layDefinite 72 = .ok (.iload_n 2, 1) := by decide +kernel
theorem dX3_layDefinite_73 : decode cX3_layDefinite 73 = .ok (.aload_n 0, 1) := by decide +kernel
theorem dX3_layDefinite_74 : decode cX3_layDefinite 74 = .ok (.getfield 7, 3) := by decide +kernel
theorem dX3_layDefinite_77 : decode cX3_layDefinite 77 = .ok (.sipush 170, 3) := by decide +kernel
theorem dX3_layDefinite_80 : decode cX3_layDefinite 80 = .ok (.iload_n 2, 1) := by decide +kernel
theorem dX3_layDefinite_81 : decode cX3_layDefinite 81 = .ok (.iadd, 1) := by decide +kernel
theorem dX3_layDefinite_82 : decode cX3_layDefinite 82 = .ok (.iaload, 1) := by decide +kernel
theorem dX3_layDefinite_83 : decode cX3_layDefinite 83 = .ok (.aload_n 0, 1) := by decide +kernel
theorem dX3_layDefinite_84 : decode cX3_layDefinite 84 = .ok (.getfield 7, 3) := by decide +kernel
theorem dX3_layDefinite_87 : decode cX3_layDefinite 87 = .ok (.sipush 210, 3) := by decide +kernel
theorem dX3_layDefinite_90 : decode cX3_layDefinite 90 = .ok (.iload_n 2, 1) := by decide +kernel
theorem dX3_layDefinite_91 : decode cX3_layDefinite 91 = .ok (.iadd, 1) := by decide +kernel
theorem dX3_layDefinite_92 : decode cX3_layDefinite 92 = .ok (.iaload, 1) := by decide +kernel
theorem dX3_layDefinite_93 : decode cX3_layDefinite 93 = .ok (.invokevirtual 73, 3) := by decide +kernel
theorem dX3_layDefinite_96 : decode cX3_layDefinite 96 = .ok (.ifCond .ne 7, 3) := by decide +kernel
theorem dX3_layDefinite_99 : decode cX3_layDefinite 99 = .ok (.iload_n 1, 1) := by decide +kernel
theorem dX3_layDefinite_100 : decode cX3_layDefinite 100 = .ok (.ifCond .eq 7, 3) := by decide +kernel
theorem dX3_layDefinite_103 : decode cX3_layDefinite 103 = .ok (.iconst 1, 1) := by decide +kernel
theorem dX3_layDefinite_104 : decode cX3_layDefinite 104 = .ok (.goto 4, 3) := by decide +kernel
theorem dX3_layDefinite_107 : decode cX3_layDefinite 107 = .ok (.iconst 0, 1) := by decide +kernel
theorem dX3_layDefinite_108 : decode cX3_layDefinite 108 = .ok (.istore_n 1, 1) := by decide +kernel
theorem dX3_layDefinite_109 : decode cX3_layDefinite 109 = .ok (.aload_n 0, 1) := by decide +kernel
theorem dX3_layDefinite_110 : decode cX3_layDefinite 110 = .ok (.iload_n 2, 1) := by decide +kernel
theorem dX3_layDefinite_111 : decode cX3_layDefinite 111 = .ok (.aload_n 0, 1) := by decide +kernel
theorem dX3_layDefinite_112 : decode cX3_layDefinite 112 = .ok (.getfield 7, 3) := by decide +kernel
theorem dX3_layDefinite_115 : decode cX3_layDefinite 115 = .ok (.sipush 210, 3) := by decide +kernel
theorem dX3_layDefinite_118 : decode cX3_layDefinite 118 = .ok (.iload_n 2, 1) := by decide +kernel
theorem dX3_layDefinite_119 : decode cX3_layDefinite 119 = .ok (.iadd, 1) := by decide +kernel
theorem dX3_layDefinite_120 : decode cX3_layDefinite 120 = .ok (.iaload, 1) := by decide +kernel
theorem dX3_layDefinite_121 : decode cX3_layDefinite 121 = .ok (.aload_n 0, 1) := by decide +kernel
theorem dX3_layDefinite_122 : decode cX3_layDefinite 122 = .ok (.getfield 7, 3) := by decide +kernel
theorem dX3_layDefinite_125 : decode cX3_layDefinite 125 = .ok (.sipush 170, 3) := by decide +kernel
theorem dX3_layDefinite_128 : decode cX3_layDefinite 128 = .ok (.iload_n 2, 1) := by decide +kernel
theorem dX3_layDefinite_129 : decode cX3_layDefinite 129 = .ok (.iadd, 1) := by decide +kernel
theorem dX3_layDefinite_130 : decode cX3_layDefinite 130 = .ok (.iaload, 1) := by decide +kernel
theorem dX3_layDefinite_131 : decode cX3_layDefinite 131 = .ok (.invokevirtual 73, 3) := by decide +kernel
theorem dX3_layDefinite_134 : decode cX3_layDefinite 134 = .ok (.ifCond .ne 7, 3) := by decide +kernel
theorem dX3_layDefinite_137 : decode cX3_layDefinite 137 = .ok (.iload_n 1, 1) := by decide +kernel
theorem dX3_layDefinite_138 : decode cX3_layDefinite 138 = .ok (.ifCond .eq 7, 3) := by decide +kernel
theorem dX3_layDefinite_141 : decode cX3_layDefinite 141 = .ok (.iconst 1, 1) := by decide +kernel
theorem dX3_layDefinite_142 : decode cX3_layDefinite 142 = .ok (.goto 4, 3) := by decide +kernel
theorem dX3_layDefinite_145 : decode cX3_layDefinite 145 = .ok (.iconst 0, 1) := by decide +kernel
theorem dX3_layDefinite_146 : decode cX3_layDefinite 146 = .ok (.istore_n 1, 1) := by decide +kernel
theorem dX3_layDefinite_147 : decode cX3_layDefinite 147 = .ok (.iinc 2 1, 3) := by decide +kernel
theorem dX3_layDefinite_150 : decode cX3_layDefinite 150 = .ok (.goto (-97), 3) := by decide +kernel
theorem dX3_layDefinite_153 : decode cX3_layDefinite 153 = .ok (.goto (-108), 3) := by decide +kernel
theorem dX3_layDefinite_156 : decode cX3_layDefinite 156 = .ok (.return_, 1) := by decide +kernel
set_option maxRecDepth 20000 in
theorem ggX3_grow_X3_signal : GoodIn wsX3_grow wsX3_signal := goodIn_r _ [6, 7, 15, 16, 17, 18, 19, 20, 21, 22] (by decide +kernel) (by decide +kernel)
set_option maxRecDepth 20000 in
theorem gX3_grow_X3_signal : GoodIn wsX3_grow (wsV RX3 67 RX3 yX3_signal wsX3_signal) := goodIn_app (goodIn_of _ (by decide +kernel)) ggX3_grow_X3_signal
set_option maxRecDepth 20000 in
theorem ggX3_grow_X3_lesser : GoodIn wsX3_grow wsX3_lesser := goodIn_r _ [10] (by decide +kernel) (by decide +kernel)
set_option maxRecDepth 20000 in
theorem gX3_grow_X3_lesser : GoodIn wsX3_grow (va_wsS RX3 70 yX3_lesser wsX3_lesser) := goodIn_app (goodIn_of _ (by decide +kernel)) ggX3_grow_X3_lesser
set_option maxRecDepth 20000 in
theorem ggX3_grow_X3_isInput : GoodIn wsX3_grow wsX3_isInput := goodIn_r _ [14, 7, 15, 16, 17, 18, 19, 20, 21, 22] (by decide +kernel) (by decide +kernel)
set_option maxRecDepth 20000 in
theorem gX3_grow_X3_isInput : GoodIn wsX3_grow (wsV RX3 54 RX3 yX3_isInput wsX3_isInput) := goodIn_app (goodIn_of _ (by decide +kernel)) ggX3_grow_X3_isInput
theorem dX3_grow_0 : decode cX3_grow 0 = .ok (.aload_n 0, 1) := by decide +kernel
theorem dX3_grow_1 : decode cX3_grow 1 = .ok (.iload_n 2, 1) := by decide +kernel
theorem dX3_grow_2 : decode cX3_grow 2 = .ok (.invokevirtual 67, 3) := by decide +kernel
theorem dX3_grow_5 : decode cX3_grow 5 = .ok (.aload_n 1, 1) := by decide +kernel
theorem dX3_grow_6 : decode cX3_grow 6 = .ok (.iload_n 3, 1) := by decide +kernel
theorem dX3_grow_7 : decode cX3_grow 7 = .ok (.iaload, 1) := by decide +kernel
theorem dX3_grow_8 : decode cX3_grow 8 = .ok (.invokestatic 70, 3) := by decide +kernel
theorem dX3_grow_11 : decode cX3_grow 11 = .ok (.istore 5, 2) := by decide +kernel
theorem dX3_grow_13 : decode cX3_grow 13 = .ok (.aload_n 0, 1) := by decide +kernel
theorem dX3_grow_14 : decode cX3_grow 14 = .ok (.iload 4, 2) := by decide +kernel
theorem dX3_grow_16 : decode cX3_grow 16 = .ok (.invokevirtual 54, 3) := by decide +kernel
theorem dX3_grow_19 : decode cX3_grow 19 = .ok (.ifCond .ne 28, 3) := by decide +kernel
theorem dX3_grow_22 : decode cX3_grow 22 = .ok (.iload 5, 2) := by decide +kernel
theorem dX3_grow_24 : decode cX3_grow 24 = .ok (.aload_n 1, 1) := by decide +kernel
theorem dX3_grow_25 : decode cX3_grow 25 = .ok (.iload 4, 2) := by decide +kernel
theorem dX3_grow_27 : decode cX3_grow 27 = .ok (.iaload, 1) := by decide +kernel
theorem dX3_grow_28 : decode cX3_grow 28 = .ok (.if_icmp .le 19, 3) := by decide +kernel
theorem dX3_grow_31 : decode cX3_grow 31 = .ok (.iload 5, 2) := by decide +kernel
theorem dX3_grow_33 : decode cX3_grow 33 = .ok (.aload_n 0, 1) := by decide +kernel
theorem dX3_grow_34 : decode cX3_grow 34 = .ok (.getfield 20, 3) := by decide +kernel
theorem dX3_grow_37 : decode cX3_grow 37 = .ok (.iload 4, 2) := by decide +kernel
theorem dX3_grow_39 : decode cX3_grow 39 = .ok (.iaload, 1) := by decide +kernel
theorem dX3_grow_40 : decode cX3_grow 40 = .ok (.if_icmp .lt 7, 3) := by decide +kernel
theorem dX3_grow_43 : decode cX3_grow 43 = .ok (.iconst 1, 1) := by decide +kernel
theorem dX3_grow_44 : decode cX3_grow 44 = .ok (.goto 4, 3) := by decide +kernel
theorem dX3_grow_47 : decode cX3_grow 47 = .ok (.iconst 0, 1) := by decide +kernel
theorem dX3_grow_48 : decode cX3_grow 48 = .ok (.istore 6, 2) := by decide +kernel
theorem dX3_grow_50 : decode cX3_grow 50 = .ok (.aload_n 1, 1) := by decide +kernel
theorem dX3_grow_51 : decode cX3_grow 51 = .ok (.iload 4, 2) := by decide +kernel
theorem dX3_grow_53 : decode cX3_grow 53 = .ok (.iload 6, 2) := by decide +kernel
theorem dX3_grow_55 : decode cX3_grow 55 = .ok (.ifCond .eq 8, 3) := by decide +kernel
theorem dX3_grow_58 : decode cX3_grow 58 = .ok (.iload 5, 2) := by decide +kernel
theorem dX3_grow_60 : decode cX3_grow 60 = .ok (.goto 7, 3) := by decide +kernel
theorem dX3_grow_63 : decode cX3_grow 63 = .ok (.aload_n 1, 1) := by decide +kernel
theorem dX3_grow_64 : decode cX3_grow 64 = .ok (.iload 4, 2) := by decide +kernel
theorem dX3_grow_66 : decode cX3_grow 66 = .ok (.iaload, 1) := by decide +kernel
theorem dX3_grow_67 : decode cX3_grow 67 = .ok (.iastore, 1) := by decide +kernel
theorem dX3_grow_68 : decode cX3_grow 68 = .ok (.iload 6, 2) := by decide +kernel
theorem dX3_grow_70 : decode cX3_grow 70 = .ok (.ireturn, 1) := by decide +kernel
set_option maxRecDepth 20000 in
theorem ggX3_layStrength_X3_nodes : GoodIn wsX3_layStrength wsX3_nodes := goodIn_r _ [8, 1, 28, 29, 30, 31, 32, 33, 34, 35] (by decide +kernel) (by decide +kernel)
set_option maxRecDepth 20000 in
theorem gX3_layStrength_X3_nodes : GoodIn wsX3_layStrength (wsV RX3 35 RX3 yX3_nodes wsX3_nodes) := goodIn_app (goodIn_of _ (by decide +kernel)) ggX3_layStrength_X3_nodes
set_option maxRecDepth 20000 in
theorem ggX3_layStrength_X3_isInput : GoodIn wsX3_layStrength wsX3_isInput := goodIn_r _ [12, 1, 28, 29, 30, 31, 32, 33, 34, 35] (by decide +kernel) (by decide +kernel)
set_option maxRecDepth 20000 in
theorem gX3_layStrength_X3_isInput : GoodIn wsX3_layStrength (wsV RX3 54 RX3 yX3_isInput wsX3_isInput) := goodIn_app (goodIn_of _ (by decide +kernel)) ggX3_layStrength_X3_isInput
set_option maxRecDepth 20000 in
theorem ggX3_layStrength_X3_many : GoodIn wsX3_layStrength wsX3_many := goodIn_r _ [16, 1, 28, 29, 30, 31, 32, 33, 34, 35] (by decide +kernel) (by decide +kernel)
set_option maxRecDepth 20000 in
theorem gX3_layStrength_X3_many : GoodIn wsX3_layStrength (wsV RX3 43 RX3 yX3_many wsX3_many) := goodIn_app (goodIn_of _ (by decide +kernel)) ggX3_layStrength_X3_many
set_option maxRecDepth 20000 in
theorem ggX3_layStrength_X3_grow : GoodIn wsX3_layStrength wsX3_grow := goodIn_r _ [20, 2, 21, 22, 23, 7, 24, 1, 25, 26, 27, 9, 10, 11, 12, 28, 29, 30, 31, 32, 33, 34, 35] (by decide +kernel) (by decide +kernel)
set_option maxRecDepth 20000 in
theorem gX3_layStrength_X3_grow : GoodIn wsX3_layStrength (wsV RX3 76 RX3 yX3_grow wsX3_grow) := goodIn_app (goodIn_of _ (by decide +kernel)) ggX3_layStrength_X3_grow
theorem dX3_layStrength_0 : decode cX3_layStrength 0 = .ok (.iconst 0, 1) := by decide +kernel
theorem dX3_layStrength_1 : decode cX3_layStrength 1 = .ok (.istore_n 3, 1) := by decide +kernel
theorem dX3_layStrength_2 : decode cX3_layStrength 2 = .ok (.iload_n 3, 1) := by decide +kernel
theorem dX3_layStrength_3 : decode cX3_layStrength 3 = .ok (.aload_n 0, 1) := by decide +kernel
theorem dX3_layStrength_4 : decode cX3_layStrength 4 = .ok (.invokevirtual 35, 3) := by decide +kernel
theorem dX3_layStrength_7 : decode cX3_layStrength 7 = .ok (.if_icmp .ge 90, 3) := by decide +kernel
theorem dX3_layStrength_10 : decode cX3_layStrength 10 = .ok (.aload_n 0, 1) := by decide +kernel
theorem dX3_layStrength_11 : decode cX3_layStrength 11 = .ok (.getfield 7, 3) := by decide +kernel
theorem dX3_layStrength_14 : decode cX3_layStrength 14 = .ok (.bipush 26, 2) := by decide +kernel
theorem dX3_layStrength_16 : decode cX3_layStrength 16 = .ok (.iload_n 3, 1) := by decide +kernel
theorem dX3_layStrength_17 : decode cX3_layStrength 17 = .ok (.iadd, 1) := by decide +kernel
theorem dX3_layStrength_18 : decode cX3_layStrength 18 = .ok (.iaload, 1) := by decide +kernel
theorem dX3_layStrength_19 : decode cX3_layStrength 19 = .ok (.iload_n 2, 1) := by decide +kernel
theorem dX3_layStrength_20 : decode cX3_layStrength 20 = .ok (.if_icmp .eq 16, 3) := by decide +kernel
theorem dX3_layStrength_23 : decode cX3_layStrength 23 = .ok (.aload_n 0, 1) := by decide +kernel
theorem dX3_layStrength_24 : decode cX3_layStrength 24 = .ok (.getfield 7, 3) := by decide +kernel
theorem dX3_layStrength_27 : decode cX3_layStrength 27 = .ok (.bipush 26, 2) := by decide +kernel
theorem dX3_layStrength_29 : decode cX3_layStrength 29 = .ok (.iload_n 3, 1) := by decide +kernel
theorem dX3_layStrength_30 : decode cX3_layStrength 30 = .ok (.iadd, 1) := by decide +kernel
theorem dX3_layStrength_31 : decode cX3_layStrength 31 = .ok (.iaload, 1) := by decide +kernel
theorem dX3_layStrength_32 : decode cX3_layStrength 32 = .ok (.iconst 2, 1) := by decide +kernel
theorem dX3_layStrength_33 : decode cX3_layStrength 33 = .ok (.if_icmp .ne 7, 3) := by decide +kernel
theorem dX3_layStrength_36 : decode cX3_layStrength 36 = .ok (.iconst 1, 1) := by decide +kernel
theorem dX3_layStrength_37 : decode cX3_layStrength 37 = .ok (.goto 4, 3) := by decide +kernel
theorem dX3_layStrength_40 : decode cX3_layStrength 40 = .ok (.iconst 0, 1) := by decide +kernel
theorem dX3_layStrength_41 : decode cX3_layStrength 41 = .ok (.istore 4, 2) := by decide +kernel
theorem dX3_layStrength_43 : decode cX3_layStrength 43 = .ok (.aload_n 0, 1) := by decide +kernel
theorem dX3_layStrength_44 : decode cX3_layStrength 44 = .ok (.iload_n 3, 1) := by decide +kernel
theorem dX3_layStrength_45 : decode cX3_layStrength 45 = .ok (.invokevirtual 54, 3) := by decide +kernel
theorem dX3_layStrength_48 : decode cX3_layStrength 48 = .ok (.ifCond .eq 8, 3) := by decide +kernel
theorem dX3_layStrength_51 : decode cX3_layStrength 51 = .ok (.bipush 7, 2) := by decide +kernel
theorem dX3_layStrength_53 : decode cX3_layStrength 53 = .ok (.goto 11, 3) := by decide +kernel
theorem dX3_layStrength_56 : decode cX3_layStrength 56 = .ok (.aload_n 0, 1) := by decide +kernel
theorem dX3_layStrength_57 : decode cX3_layStrength 57 = .ok (.getfield 7, 3) := by decide +kernel
theorem dX3_layStrength_60 : decode cX3_layStrength 60 = .ok (.iconst 2, 1) := by decide +kernel
theorem dX3_layStrength_61 : decode cX3_layStrength 61 = .ok (.iload_n 3, 1) := by decide +kernel
theorem dX3_layStrength_62 : decode cX3_layStrength 62 = .ok (.iadd, 1) := by decide +kernel
theorem dX3_layStrength_63 : decode cX3_layStrength 63 = .ok (.iaload, 1) := by decide +kernel
theorem dX3_layStrength_64 : decode cX3_layStrength 64 = .ok (.istore 5, 2) := by decide +kernel
theorem dX3_layStrength_66 : decode cX3_layStrength 66 = .ok (.aload_n 1, 1) := by decide +kernel
theorem dX3_layStrength_67 : decode cX3_layStrength 67 = .ok (.iload_n 3, 1) := by decide +kernel
theorem dX3_layStrength_68 : decode cX3_layStrength 68 = .ok (.iload 4, 2) := by decide +kernel
theorem dX3_layStrength_70 : decode cX3_layStrength 70 = .ok (.ifCond .eq 19, 3) := by decide +kernel
theorem dX3_layStrength_73 : decode cX3_layStrength 73 = .ok (.iload 5, 2) := by decide +kernel
theorem dX3_layStrength_75 : decode cX3_layStrength 75 = .ok (.aload_n 0, 1) := by decide +kernel
theorem dX3_layStrength_76 : decode cX3_layStrength 76 = .ok (.getfield 20, 3) := by decide +kernel
theorem dX3_layStrength_79 : decode cX3_layStrength 79 = .ok (.iload_n 3, 1) := by decide +kernel
theorem dX3_layStrength_80 : decode cX3_layStrength 80 = .ok (.iaload, 1) := by decide +kernel
theorem dX3_layStrength_81 : decode cX3_layStrength 81 = .ok (.if_icmp .lt 8, 3) := by decide +kernel
theorem dX3_layStrength_84 : decode cX3_layStrength 84 = .ok (.iload 5, 2) := by decide +kernel
theorem dX3_layStrength_86 : decode cX3_layStrength 86 = .ok (.goto 4, 3) := by decide +kernel
theorem dX3_layStrength_89 : decode cX3_layStrength 89 = .ok (.iconst 0, 1) := by decide +kernel
theorem dX3_layStrength_90 : decode cX3_layStrength 90 = .ok (.iastore, 1) := by decide +kernel
theorem dX3_layStrength_91 : decode cX3_layStrength 91 = .ok (.iinc 3 1, 3) := by decide +kernel
theorem dX3_layStrength_94 : decode cX3_layStrength 94 = .ok (.goto (-92), 3) := by decide +kernel
theorem dX3_layStrength_97 : decode cX3_layStrength 97 = .ok (.iconst 1, 1) := by decide +kernel
theorem dX3_layStrength_98 : decode cX3_layStrength 98 = .ok (.istore_n 3, 1) := by decide +kernel
theorem dX3_layStrength_99 : decode cX3_layStrength 99 = .ok (.iload_n 3, 1) := by decide +kernel
theorem dX3_layStrength_100 : decode cX3_layStrength 100 = .ok (.ifCond .eq 120, 3) := by decide +kernel
theorem dX3_layStrength_103 : decode cX3_layStrength 103 = .ok (.iconst 0, 1) := by decide +kernel
theorem dX3_layStrength_104 : decode cX3_layStrength 104 = .ok (.istore_n 3, 1) := by decide +kernel
theorem dX3_layStrength_105 : decode cX3_layStrength 105 = .ok (.iconst 0, 1) := by decide +kernel
theorem dX3_layStrength_106 : decode cX3_layStrength 106 = .ok (.istore 4, 2) := by decide +kernel
theorem dX3_layStrength_108 : decode cX3_layStrength 108 = .ok (.iload 4, 2) := by decide +kernel
theorem dX3_layStrength_110 : decode cX3_layStrength 110 = .ok (.aload_n 0, 1) := by decide +kernel
theorem dX3_layStrength_111 : decode cX3_layStrength 111 = .ok (.invokevirtual 43, 3) := by decide +kernel
theorem dX3_layStrength_114 : decode cX3_layStrength 114 = .ok (.if_icmp .ge 103, 3) := by decide +kernel
theorem dX3_layStrength_117 : decode cX3_layStrength 117 = .ok (.aload_n 0, 1) := by decide +kernel
theorem dX3_layStrength_118 : decode cX3_layStrength 118 = .ok (.getfield 29, 3) := by decide +kernel
theorem dX3_layStrength_121 : decode cX3_layStrength 121 = .ok (.iload 4, 2) := by decide +kernel
theorem dX3_layStrength_123 : decode cX3_layStrength 123 = .ok (.iaload, 1) := by decide +kernel
theorem dX3_layStrength_124 : decode cX3_layStrength 124 = .ok (.ifCond .eq 87, 3) := by decide +kernel
theorem dX3_layStrength_127 : decode cX3_layStrength 127 = .ok (.aload_n 0, 1) := by decide +kernel
theorem dX3_layStrength_128 : decode cX3_layStrength 128 = .ok (.aload_n 1, 1) := by decide +kernel
theorem dX3_layStrength_129 : decode cX3_layStrength 129 = .ok (.iload 4, 2) := by decide +kernel
theorem dX3_layStrength_131 : decode cX3_layStrength 131 = .ok (.aload_n 0, 1) := by decide +kernel
theorem dX3_layStrength_132 : decode cX3_layStrength 132 = .ok (.getfield 7, 3) := by decide +kernel
theorem dX3_layStrength_135 : decode cX3_layStrength 135 = .ok (.sipush 170, 3) := by decide +kernel
theorem dX3_layStrength_138 : decode cX3_layStrength 138 = .ok (.iload 4, 2) := by decide +kernel
theorem dX3_layStrength_140 : decode cX3_layStrength 140 = .ok (.iadd, 1) := by decide +kernel
theorem dX3_layStrength_141 : decode cX3_layStrength 141 = .ok (.iaload, 1) := by decide +kernel
theorem dX3_layStrength_142 : decode cX3_layStrength 142 = .ok (.aload_n 0, 1) := by decide +kernel
theorem dX3_layStrength_143 : decode cX3_layStrength 143 = .ok (.getfield 7, 3) := by decide +kernel
theorem dX3_layStrength_146 : decode cX3_layStrength 146 = .ok (.sipush 210, 3) := by decide +kernel
theorem dX3_layStrength_149 : decode cX3_layStrength 149 = .ok (.iload 4, 2) := by decide +kernel
theorem dX3_layStrength_151 : decode cX3_layStrength 151 = .ok (.iadd, 1) := by decide +kernel
theorem dX3_layStrength_152 : decode cX3_layStrength 152 = .ok (.iaload, 1) := by decide +kernel
theorem dX3_layStrength_153 : decode cX3_layStrength 153 = .ok (.invokevirtual 76, 3) := by decide +kernel
theorem dX3_layStrength_156 : decode cX3_layStrength 156 = .ok (.ifCond .ne 7, 3) := by decide +kernel
theorem dX3_layStrength_159 : decode cX3_layStrength 159 = .ok (.iload_n 3, 1) := by decide +kernel
theorem dX3_layStrength_160 : decode cX3_layStrength 160 = .ok (.ifCond .eq 7, 3) := by decide +kernel
theorem dX3_layStrength_163 : decode cX3_layStrength 163 = .ok (.iconst 1, 1) := by decide +kernel
theorem dX3_layStrength_164 : decode cX3_layStrength 164 = .ok (.goto 4, 3) := by decide +kernel
theorem dX3_layStrength_167 : decode cX3_layStrength 167 = .ok (.iconst 0, 1) := by decide +kernel
theorem dX3_layStrength_168 : decode cX3_layStrength 168 = .ok (.istore_n 3, 1) := by decide +kernel
theorem dX3_layStrength_169 : decode cX3_layStrength 169 = .ok (.aload_n 0, 1) := by decide +kernel
theorem dX3_layStrength_170 : decode cX3_layStrength 170 = .ok (.aload_n 1, 1) := by decide +kernel
theorem dX3_layStrength_171 : decode cX3_layStrength 171 = .ok (.iload 4, 2) := by decide +kernel
theorem dX3_layStrength_173 : decode cX3_layStrength 173 = .ok (.aload_n 0, 1) := by decide +kernel
theorem dX3_layStrength_174 : decode cX3_layStrength 174 = .ok (.getfield 7, 3) := by decide +kernel
theorem dX3_layStrength_177 : decode cX3_layStrength 177 = .ok (.sipush 210, 3) := by decide +kernel
theorem dX3_layStrength_180 : decode cX3_layStrength 180 = .ok (.iload 4, 2) := by decide +kernel
theorem dX3_layStrength_182 : decode cX3_layStrength 182 = .ok (.iadd, 1) := by decide +kernel
theorem dX3_layStrength_183 : decode cX3_layStrength 183 = .ok (.iaload, 1) := by decide +kernel
theorem dX3_layStrength_184 : decode cX3_layStrength 184 = .ok (.aload_n 0, 1) := by decide +kernel
theorem dX3_layStrength_185 : decode cX3_layStrength 185 = .ok (.getfield 7, 3) := by decide +kernel
theorem dX3_layStrength_188 : decode cX3_layStrength 188 = .ok (.sipush 170, 3) := by decide +kernel
theorem dX3_layStrength_191 : decode cX3_layStrength 191 = .ok (.iload 4, 2) := by decide +kernel
theorem dX3_layStrength_193 : decode cX3_layStrength 193 = .ok (.iadd, 1) := by decide +kernel
theorem dX3_layStrength_194 : decode cX3_layStrength 194 = .ok (.iaload, 1) := by decide +kernel
theorem dX3_layStrength_195 : decode cX3_layStrength 195 = .ok (.invokevirtual 76, 3) := by decide +kernel
theorem dX3_layStrength_198 : decode cX3_layStrength 198 = .ok (.ifCond .ne 7, 3) := by decide +kernel
theorem dX3_layStrength_201 : decode cX3_layStrength 201 = .ok (.iload_n 3, 1) := by decide +kernel
theorem dX3_layStrength_202 : decode cX3_layStrength 202 = .ok (.ifCond .eq 7, 3) := by decide +kernel
theorem dX3_layStrength_205 : decode cX3_layStrength 205 = .ok (.iconst 1, 1) := by decide +kernel
theorem dX3_layStrength_206 : decode cX3_layStrength 206 = .ok (.goto 4, 3) := by decide +kernel
theorem dX3_layStrength_209 : decode cX3_layStrength 209 = .ok (.iconst 0, 1) := by decide +kernel
theorem dX3_layStrength_210 : decode cX3_layStrength 210 = .ok (.istore_n 3, 1) := by decide +kernel
theorem dX3_layStrength_211 : decode cX3_layStrength 211 = .ok (.iinc 4 1, 3) := by decide +kernel
theorem dX3_layStrength_214 : decode cX3_layStrength 214 = .ok (.goto (-106), 3) := by decide +kernel
theorem dX3_layStrength_217 : decode cX3_layStrength 217 = .ok (.goto (-118), 3) := by decide +kernel
theorem dX3_layStrength_220 : decode cX3_layStrength 220 = .ok (.return_, 1) := by decide +kernel
set_option maxRecDepth 20000 in
theorem ggX3_layAll_X3_many : GoodIn wsX3_layAll wsX3_many := goodIn_r _ [8, 9, 46, 47, 48, 49, 50, 51, 52, 53] (by decide +kernel) (by decide +kernel)
set_option maxRecDepth 20000 in
theorem gX3_layAll_X3_many : GoodIn wsX3_layAll (wsV RX3 43 RX3 yX3_many wsX3_many) := goodIn_app (goodIn_of _ (by decide +kernel)) ggX3_layAll_X3_many
set_option maxRecDepth 20000 in
theorem ggX3_layAll_X3_stateOf : GoodIn wsX3_layAll wsX3_stateOf := goodIn_r _ [13, 9, 46, 47, 48, 49, 50, 51, 52, 53] (by decide +kernel) (by decide +kernel)
set_option maxRecDepth 20000 in
theorem gX3_layAll_X3_stateOf : GoodIn wsX3_layAll (wsV RX3 64 RX3 yX3_stateOf wsX3_stateOf) := goodIn_app (goodIn_of _ (by decide +kernel)) ggX3_layAll_X3_stateOf
set_option maxRecDepth 20000 in
theorem ggX3_layAll_X3_layDefinite : GoodIn wsX3_layAll wsX3_layDefinite := goodIn_r _ [17, 18, 9, 1, 19, 20, 21, 7, 22, 23, 24, 25, 26, 4, 5, 6, 8, 27, 28, 29, 30, 31, 32, 33, 34, 35, 36, 37, 46, 47, 48, 49, 50, 51, 52, 53] (by decide +kernel) (by decide +kernel)
set_option maxRecDepth 20000 in
theorem gX3_layAll_X3_layDefinite : GoodIn wsX3_layAll (wsV RX3 80 RX3 yX3_layDefinite wsX3_layDefinite) := goodIn_app (goodIn_of _ (by decide +kernel)) ggX3_layAll_X3_layDefinite
set_option maxRecDepth 20000 in
theorem ggX3_layAll_X3_layStrength : GoodIn wsX3_layAll wsX3_layStrength := goodIn_r _ [41, 9, 18, 1, 19, 20, 21, 7, 22, 23, 24, 25, 26, 4, 5, 6, 8, 42, 43, 44, 45, 31, 32, 33, 34, 35, 36, 37, 46, 47, 48, 49, 50, 51, 52, 53] (by decide +kernel) (by decide +kernel)
set_option maxRecDepth 20000 in
theorem gX3_layAll_X3_layStrength : GoodIn wsX3_layAll (wsV RX3 83 RX3 yX3_layStrength wsX3_layStrength) := goodIn_app (goodIn_of _ (by decide +kernel)) ggX3_layAll_X3_layStrength
theorem dX3_layAll_0 : decode cX3_layAll 0 = .ok (.iconst 0, 1) := by decide +kernel
theorem dX3_layAll_1 : decode cX3_layAll 1 = .ok (.istore_n 1, 1) := by decide +kernel
theorem dX3_layAll_2 : decode cX3_layAll 2 = .ok (.iload_n 1, 1) := by decide +kernel
theorem dX3_layAll_3 : decode cX3_layAll 3 = .ok (.aload_n 0, 1) := by decide +kernel
theorem dX3_layAll_4 : decode cX3_layAll 4 = .ok (.invokevirtual 43, 3) := by decide +kernel
theorem dX3_layAll_7 : decode cX3_layAll 7 = .ok (.if_icmp .ge 20, 3) := by decide +kernel
theorem dX3_layAll_10 : decode cX3_layAll 10 = .ok (.aload_n 0, 1) := by decide +kernel
theorem dX3_layAll_11 : decode cX3_layAll 11 = .ok (.getfield 29, 3) := by decide +kernel
theorem dX3_layAll_14 : decode cX3_layAll 14 = .ok (.iload_n 1, 1) := by decide +kernel
theorem dX3_layAll_15 : decode cX3_layAll 15 = .ok (.aload_n 0, 1) := by decide +kernel
theorem dX3_layAll_16 : decode cX3_layAll 16 = .ok (.iload_n 1, 1) := by decide +kernel
theorem dX3_layAll_17 : decode cX3_layAll 17 = .ok (.invokevirtual 64, 3) := by decide +kernel
theorem dX3_layAll_20 : decode cX3_layAll 20 = .ok (.iastore, 1) := by decide +kernel
theorem dX3_layAll_21 : decode cX3_layAll 21 = .ok (.iinc 1 1, 3) := by decide +kernel
theorem dX3_layAll_24 : decode cX3_layAll 24 = .ok (.goto (-22), 3) := by decide +kernel
theorem dX3_layAll_27 : decode cX3_layAll 27 = .ok (.aload_n 0, 1) := by decide +kernel
theorem dX3_layAll_28 : decode cX3_layAll 28 = .ok (.invokevirtual 80, 3) := by decide +kernel
theorem dX3_layAll_31 : decode cX3_layAll 31 = .ok (.aload_n 0, 1) := by decide +kernel
theorem dX3_layAll_32 : decode cX3_layAll 32 = .ok (.aload_n 0, 1) := by decide +kernel
theorem dX3_layAll_33 : decode cX3_layAll 33 = .ok (.getfield 23, 3) := by decide +kernel
theorem dX3_layAll_36 : decode cX3_layAll 36 = .ok (.iconst 1, 1) := by decide +kernel
theorem dX3_layAll_37 : decode cX3_layAll 37 = .ok (.invokevirtual 83, 3) := by decide +kernel
theorem dX3_layAll_40 : decode cX3_layAll 40 = .ok (.aload_n 0, 1) := by decide +kernel
theorem dX3_layAll_41 : decode cX3_layAll 41 = .ok (.aload_n 0, 1) := by decide +kernel
theorem dX3_layAll_42 : decode cX3_layAll 42 = .ok (.getfield 26, 3) := by decide +kernel
theorem dX3_layAll_45 : decode cX3_layAll 45 = .ok (.iconst 0, 1) := by decide +kernel
theorem dX3_layAll_46 : decode cX3_layAll 46 = .ok (.invokevirtual 83, 3) := by decide +kernel
theorem dX3_layAll_49 : decode cX3_layAll 49 = .ok (.return_, 1) := by decide +kernel
set_option maxRecDepth 20000 in
theorem ggX3_definiteStrength_X3_isNode : GoodIn wsX3_definiteStrength wsX3_isNode := goodIn_r _ [6, 7, 8, 9, 5, 10, 11, 12, 13, 14, 57, 58, 59, 60, 61, 62, 63, 64] (by decide +kernel) (by decide +kernel)
set_option maxRecDepth 20000 in
theorem gX3_definiteStrength_X3_isNode : GoodIn wsX3_definiteStrength (wsV RX3 50 RX3 yX3_isNode wsX3_isNode) := goodIn_app (goodIn_of _ (by decide +kernel)) ggX3_definiteStrength_X3_isNode
set_option maxRecDepth 20000 in
theorem ggX3_definiteStrength_X3_layAll : GoodIn wsX3_definiteStrength wsX3_layAll := goodIn_r _ [18, 19, 20, 21, 22, 23, 24, 5, 25, 11, 26, 27, 28, 29, 30, 31, 32, 33, 1, 7, 8, 9, 10, 34, 35, 36, 37, 38, 39, 40, 41, 42, 43, 44, 45, 46, 47, 48, 49, 50, 51, 52, 53, 54, 55, 56, 57, 58, 59, 60, 61, 62, 63, 64] (by decide +kernel) (by decide +kernel)
set_option maxRecDepth 20000 in
theorem gX3_definiteStrength_X3_layAll : GoodIn wsX3_definiteStrength (wsV RX3 87 RX3 yX3_layAll wsX3_layAll) := goodIn_app (goodIn_of _ (by decide +kernel)) ggX3_definiteStrength_X3_layAll
theorem dX3_definiteStrength_0 : decode cX3_definiteStrength 0 = .ok (.aload_n 0, 1) := by decide +kernel
theorem dX3_definiteStrength_1 : decode cX3_definiteStrength 1 = .ok (.iload_n 1, 1) := by decide +kernel
theorem dX3_definiteStrength_2 : decode cX3_definiteStrength 2 = .ok (.invokevirtual 50, 3) := by decide +kernel
theorem dX3_definiteStrength_5 : decode cX3_definiteStrength 5 = .ok (.ifCond .ne 5, 3) := by decide +kernel
theorem dX3_definiteStrength_8 : decode cX3_definiteStrength 8 = .ok (.iconst (-1), 1) := by decide +kernel
theorem dX3_definiteStrength_9 : decode cX3_definiteStrength 9 = .ok (.ireturn, 1) := by decide +kernel
theorem dX3_definiteStrength_10 : decode cX3_definiteStrength 10 = .ok (.aload_n 0, 1) := by decide +kernel
theorem dX3_definiteStrength_11 : decode cX3_definiteStrength 11 = .ok (.invokevirtual 87, 3) := by decide +kernel
theorem dX3_definiteStrength_14 : decode cX3_definiteStrength 14 = .ok (.aload_n 0, 1) := by decide +kernel
theorem dX3_definiteStrength_15 : decode cX3_definiteStrength 15 = .ok (.getfield 20, 3) := by decide +kernel
theorem dX3_definiteStrength_18 : decode cX3_definiteStrength 18 = .ok (.iload_n 1, 1) := by decide +kernel
theorem dX3_definiteStrength_19 : decode cX3_definiteStrength 19 = .ok (.iaload, 1) := by decide +kernel
theorem dX3_definiteStrength_20 : decode cX3_definiteStrength 20 = .ok (.ireturn, 1) := by decide +kernel
set_option maxRecDepth 20000 in
theorem ggX3_upStrength_X3_isNode : GoodIn wsX3_upStrength wsX3_isNode := goodIn_r _ [6, 7, 8, 9, 5, 10, 11, 12, 13, 14, 57, 58, 59, 60, 61, 62, 63, 64] (by decide +kernel) (by decide +kernel)
set_option maxRecDepth 20000 in
theorem gX3_upStrength_X3_isNode : GoodIn wsX3_upStrength (wsV RX3 50 RX3 yX3_isNode wsX3_isNode) := goodIn_app (goodIn_of _ (by decide +kernel)) ggX3_upStrength_X3_isNode
set_option maxRecDepth 20000 in
theorem ggX3_upStrength_X3_layAll : GoodIn wsX3_upStrength wsX3_layAll := goodIn_r _ [18, 19, 1, 20, 21, 22, 23, 5, 24, 11, 25, 26, 27, 28, 29, 30, 31, 32, 33, 7, 8, 9, 10, 34, 35, 36, 37, 38, 39, 40, 41, 42, 43, 44, 45, 46, 47, 48, 49, 50, 51, 52, 53, 54, 55, 56, 57, 58, 59, 60, 61, 62, 63, 64] (by decide +kernel) (by decide +kernel)
set_option maxRecDepth 20000 in
theorem gX3_upStrength_X3_layAll : GoodIn wsX3_upStrength (wsV RX3 87 RX3 yX3_layAll wsX3_layAll) := goodIn_app (goodIn_of _ (by decide +kernel)) ggX3_upStrength_X3_layAll
theorem dX3_upStrength_0 : decode cX3_upStrength 0 = .ok (.aload_n 0, 1) := by decide +kernel
theorem dX3_upStrength_1 : decode cX3_upStrength 1 = .ok (.iload_n 1, 1) := by decide +kernel
theorem dX3_upStrength_2 : decode cX3_upStrength 2 = .ok (.invokevirtual 50, 3) := by decide +kernel
theorem dX3_upStrength_5 : decode cX3_upStrength 5 = .ok (.ifCond .ne 5, 3) := by decide +kernel
theorem dX3_upStrength_8 : decode cX3_upStrength 8 = .ok (.iconst (-1), 1) := by decide +kernel
theorem dX3_upStrength_9 : decode cX3_upStrength 9 = .ok (.ireturn, 1) := by decide +kernel
theorem dX3_upStrength_10 : decode cX3_upStrength 10 = .ok (.aload_n 0, 1) := by decide +kernel
theorem dX3_upStrength_11 : decode cX3_upStrength 11 = .ok (.invokevirtual 87, 3) := by decide +kernel
theorem dX3_upStrength_14 : decode cX3_upStrength 14 = .ok (.aload_n 0, 1) := by decide +kernel
theorem dX3_upStrength_15 : decode cX3_upStrength 15 = .ok (.getfield 23, 3) := by decide +kernel
theorem dX3_upStrength_18 : decode cX3_upStrength 18 = .ok (.iload_n 1, 1) := by decide +kernel
theorem dX3_upStrength_19 : decode cX3_upStrength 19 = .ok (.iaload, 1) := by decide +kernel
theorem dX3_upStrength_20 : decode cX3_upStrength 20 = .ok (.ireturn, 1) := by decide +kernel
set_option maxRecDepth 20000 in
theorem ggX3_downStrength_X3_isNode : GoodIn wsX3_downStrength wsX3_isNode := goodIn_r _ [6, 7, 8, 9, 5, 10, 11, 12, 13, 14, 57, 58, 59, 60, 61, 62, 63, 64] (by decide +kernel) (by decide +kernel)
set_option maxRecDepth 20000 in
theorem gX3_downStrength_X3_isNode : GoodIn wsX3_downStrength (wsV RX3 50 RX3 yX3_isNode wsX3_isNode) := goodIn_app (goodIn_of _ (by decide +kernel)) ggX3_downStrength_X3_isNode
set_option maxRecDepth 20000 in
theorem ggX3_downStrength_X3_layAll : GoodIn wsX3_downStrength wsX3_layAll := goodIn_r _ [18, 19, 20, 1, 21, 22, 23, 5, 24, 11, 25, 26, 27, 28, 29, 30, 31, 32, 33, 7, 8, 9, 10, 34, 35, 36, 37, 38, 39, 40, 41, 42, 43, 44, 45, 46, 47, 48, 49, 50, 51, 52, 53, 54, 55, 56, 57, 58, 59, 60, 61, 62, 63, 64] (by decide +kernel) (by decide +kernel)
set_option maxRecDepth 20000 in
theorem gX3_downStrength_X3_layAll : GoodIn wsX3_downStrength (wsV RX3 87 RX3 yX3_layAll wsX3_layAll) := goodIn_app (goodIn_of _ (by decide +kernel)) ggX3_downStrength_X3_layAll
theorem dX3_downStrength_0 : decode cX3_downStrength 0 = .ok (.aload_n 0, 1) := by decide +kernel
theorem dX3_downStrength_1 : decode cX3_downStrength 1 = .ok (.iload_n 1, 1) := by decide +kernel
theorem dX3_downStrength_2 : decode cX3_downStrength 2 = .ok (.invokevirtual 50, 3) := by decide +kernel
theorem dX3_downStrength_5 : decode cX3_downStrength 5 = .ok (.ifCond .ne 5, 3) := by decide +kernel
theorem dX3_downStrength_8 : decode cX3_downStrength 8 = .ok (.iconst (-1), 1) := by decide +kernel
theorem dX3_downStrength_9 : decode cX3_downStrength 9 = .ok (.ireturn, 1) := by decide +kernel
theorem dX3_downStrength_10 : decode cX3_downStrength 10 = .ok (.aload_n 0, 1) := by decide +kernel
theorem dX3_downStrength_11 : decode cX3_downStrength 11 = .ok (.invokevirtual 87, 3) := by decide +kernel
theorem dX3_downStrength_14 : decode cX3_downStrength 14 = .ok (.aload_n 0, 1) := by decide +kernel
theorem dX3_downStrength_15 : decode cX3_downStrength 15 = .ok (.getfield 26, 3) := by decide +kernel
theorem dX3_downStrength_18 : decode cX3_downStrength 18 = .ok (.iload_n 1, 1) := by decide +kernel
theorem dX3_downStrength_19 : decode cX3_downStrength 19 = .ok (.iaload, 1) := by decide +kernel
theorem dX3_downStrength_20 : decode cX3_downStrength 20 = .ok (.ireturn, 1) := by decide +kernel
set_option maxRecDepth 20000 in
theorem ggX3_steady_X3_isInput : GoodIn wsX3_steady wsX3_isInput := goodIn_r _ [8, 1, 9, 10, 11, 12, 13, 14, 15, 16] (by decide +kernel) (by decide +kernel)
set_option maxRecDepth 20000 in
theorem gX3_steady_X3_isInput : GoodIn wsX3_steady (wsV RX3 54 RX3 yX3_isInput wsX3_isInput) := goodIn_app (goodIn_of _ (by decide +kernel)) ggX3_steady_X3_isInput
theorem dX3_steady_0 : decode cX3_steady 0 = .ok (.aload_n 0, 1) := by decide +kernel
theorem dX3_steady_1 : decode cX3_steady 1 = .ok (.iload_n 1, 1) := by decide +kernel
theorem dX3_steady_2 : decode cX3_steady 2 = .ok (.invokevirtual 54, 3) := by decide +kernel
theorem dX3_steady_5 : decode cX3_steady 5 = .ok (.ifCond .eq 15, 3) := by decide +kernel
theorem dX3_steady_8 : decode cX3_steady 8 = .ok (.aload_n 0, 1) := by decide +kernel
theorem dX3_steady_9 : decode cX3_steady 9 = .ok (.getfield 7, 3) := by decide +kernel
theorem dX3_steady_12 : decode cX3_steady 12 = .ok (.bipush 26, 2) := by decide +kernel
theorem dX3_steady_14 : decode cX3_steady 14 = .ok (.iload_n 1, 1) := by decide +kernel
theorem dX3_steady_15 : decode cX3_steady 15 = .ok (.iadd, 1) := by decide +kernel
theorem dX3_steady_16 : decode cX3_steady 16 = .ok (.iaload, 1) := by decide +kernel
theorem dX3_steady_17 : decode cX3_steady 17 = .ok (.goto 30, 3) := by decide +kernel
theorem dX3_steady_20 : decode cX3_steady 20 = .ok (.aload_n 0, 1) := by decide +kernel
theorem dX3_steady_21 : decode cX3_steady 21 = .ok (.getfield 26, 3) := by decide +kernel
theorem dX3_steady_24 : decode cX3_steady 24 = .ok (.iload_n 1, 1) := by decide +kernel
theorem dX3_steady_25 : decode cX3_steady 25 = .ok (.iaload, 1) := by decide +kernel
theorem dX3_steady_26 : decode cX3_steady 26 = .ok (.ifCond .ne 7, 3) := by decide +kernel
theorem dX3_steady_29 : decode cX3_steady 29 = .ok (.iconst 1, 1) := by decide +kernel
theorem dX3_steady_30 : decode cX3_steady 30 = .ok (.goto 17, 3) := by decide +kernel
theorem dX3_steady_33 : decode cX3_steady 33 = .ok (.aload_n 0, 1) := by decide +kernel
theorem dX3_steady_34 : decode cX3_steady 34 = .ok (.getfield 23, 3) := by decide +kernel
theorem dX3_steady_37 : decode cX3_steady 37 = .ok (.iload_n 1, 1) := by decide +kernel
theorem dX3_steady_38 : decode cX3_steady 38 = .ok (.iaload, 1) := by decide +kernel
theorem dX3_steady_39 : decode cX3_steady 39 = .ok (.ifCond .ne 7, 3) := by decide +kernel
theorem dX3_steady_42 : decode cX3_steady 42 = .ok (.iconst 0, 1) := by decide +kernel
theorem dX3_steady_43 : decode cX3_steady 43 = .ok (.goto 4, 3) := by decide +kernel
theorem dX3_steady_46 : decode cX3_steady 46 = .ok (.iconst 2, 1) := by decide +kernel
theorem dX3_steady_47 : decode cX3_steady 47 = .ok (.ireturn, 1) := by decide +kernel
set_option maxRecDepth 20000 in
theorem ggX3_steadyValue_X3_isNode : GoodIn wsX3_steadyValue wsX3_isNode := goodIn_r _ [5, 6, 7, 8, 4, 9, 10, 11, 12, 13, 61, 62, 63, 64, 65, 66, 67, 68] (by decide +kernel) (by decide +kernel)
set_option maxRecDepth 20000 in
theorem gX3_steadyValue_X3_isNode : GoodIn wsX3_steadyValue (wsV RX3 50 RX3 yX3_isNode wsX3_isNode) := goodIn_app (goodIn_of _ (by decide +kernel)) ggX3_steadyValue_X3_isNode
set_option maxRecDepth 20000 in
theorem ggX3_steadyValue_X3_layAll : GoodIn wsX3_steadyValue wsX3_layAll := goodIn_r _ [17, 18, 19, 20, 21, 22, 23, 4, 24, 10, 25, 26, 27, 28, 29, 30, 31, 32, 33, 6, 7, 8, 9, 34, 35, 36, 37, 38, 39, 40, 41, 42, 43, 44, 45, 46, 47, 48, 49, 50, 51, 52, 53, 54, 55, 56, 61, 62, 63, 64, 65, 66, 67, 68] (by decide +kernel) (by decide +kernel)
set_option maxRecDepth 20000 in
theorem gX3_steadyValue_X3_layAll : GoodIn wsX3_steadyValue (wsV RX3 87 RX3 yX3_layAll wsX3_layAll) := goodIn_app (goodIn_of _ (by decide +kernel)) ggX3_steadyValue_X3_layAll
set_option maxRecDepth 20000 in
theorem ggX3_steadyValue_X3_steady : GoodIn wsX3_steadyValue wsX3_steady := goodIn_r _ [60, 10, 20, 19, 34, 35, 36, 4, 37, 61, 62, 63, 64, 65, 66, 67, 68] (by decide +kernel) (by decide +kernel)
set_option maxRecDepth 20000 in
theorem gX3_steadyValue_X3_steady : GoodIn wsX3_steadyValue (wsV RX3 90 RX3 yX3_steady wsX3_steady) := goodIn_app (goodIn_of _ (by decide +kernel)) ggX3_steadyValue_X3_steady
theorem dX3_steadyValue_0 : decode cX3_steadyValue 0 = .ok (.aload_n 0, 1) := by decide +kernel
theorem dX3_steadyValue_1 : decode cX3_steadyValue 1 = .ok (.iload_n 1, 1) := by decide +kernel
theorem dX3_steadyValue_2 : decode cX3_steadyValue 2 = .ok (.invokevirtual 50, 3) := by decide +kernel
theorem dX3_steadyValue_5 : decode cX3_steadyValue 5 = .ok (.ifCond .ne 5, 3) := by decide +kernel
theorem dX3_steadyValue_8 : decode cX3_steadyValue 8 = .ok (.iconst (-1), 1) := by decide +kernel
theorem dX3_steadyValue_9 : decode cX3_steadyValue 9 = .ok (.ireturn, 1) := by decide +kernel
theorem dX3_steadyValue_10 : decode cX3_steadyValue 10 = .ok (.aload_n 0, 1) := by decide +kernel
theorem dX3_steadyValue_11 : decode cX3_steadyValue 11 = .ok (.invokevirtual 87, 3) := by decide +kernel
theorem dX3_steadyValue_14 : decode cX3_steadyValue 14 = .ok (.aload_n 0, 1) := by decide +kernel
theorem dX3_steadyValue_15 : decode cX3_steadyValue 15 = .ok (.iload_n 1, 1) := by decide +kernel
theorem dX3_steadyValue_16 : decode cX3_steadyValue 16 = .ok (.invokevirtual 90, 3) := by decide +kernel
theorem dX3_steadyValue_19 : decode cX3_steadyValue 19 = .ok (.ireturn, 1) := by decide +kernel
set_option maxRecDepth 20000 in
theorem ggX3_vicinity_X3_isNode : GoodIn wsX3_vicinity wsX3_isNode := goodIn_r _ [6, 7, 8, 9, 5, 10, 1, 11, 12, 13, 26, 27, 28, 29, 30, 31, 32, 33] (by decide +kernel) (by decide +kernel)
set_option maxRecDepth 20000 in
theorem gX3_vicinity_X3_isNode : GoodIn wsX3_vicinity (wsV RX3 50 RX3 yX3_isNode wsX3_isNode) := goodIn_app (goodIn_of _ (by decide +kernel)) ggX3_vicinity_X3_isNode
set_option maxRecDepth 20000 in
theorem ggX3_vicinity_X3_isInput : GoodIn wsX3_vicinity wsX3_isInput := goodIn_r _ [17, 1, 26, 27, 28, 29, 30, 31, 32, 33] (by decide +kernel) (by decide +kernel)
set_option maxRecDepth 20000 in
theorem gX3_vicinity_X3_isInput : GoodIn wsX3_vicinity (wsV RX3 54 RX3 yX3_isInput wsX3_isInput) := goodIn_app (goodIn_of _ (by decide +kernel)) ggX3_vicinity_X3_isInput
set_option maxRecDepth 20000 in
theorem ggX3_vicinity_X3_many : GoodIn wsX3_vicinity wsX3_many := goodIn_r _ [21, 1, 26, 27, 28, 29, 30, 31, 32, 33] (by decide +kernel) (by decide +kernel)
set_option maxRecDepth 20000 in
theorem gX3_vicinity_X3_many : GoodIn wsX3_vicinity (wsV RX3 43 RX3 yX3_many wsX3_many) := goodIn_app (goodIn_of _ (by decide +kernel)) ggX3_vicinity_X3_many
set_option maxRecDepth 20000 in
theorem ggX3_vicinity_X3_stateOf : GoodIn wsX3_vicinity wsX3_stateOf := goodIn_r _ [25, 1, 26, 27, 28, 29, 30, 31, 32, 33] (by decide +kernel) (by decide +kernel)
set_option maxRecDepth 20000 in
theorem gX3_vicinity_X3_stateOf : GoodIn wsX3_vicinity (wsV RX3 64 RX3 yX3_stateOf wsX3_stateOf) := goodIn_app (goodIn_of _ (by decide +kernel)) ggX3_vicinity_X3_stateOf
theorem dX3_vicinity_0 : decode cX3_vicinity 0 = .ok (.aload_n 0, 1) := by decide +kernel
theorem dX3_vicinity_1 : decode cX3_vicinity 1 = .ok (.iload_n 1, 1) := by decide +kernel
theorem dX3_vicinity_2 : decode cX3_vicinity 2 = .ok (.invokevirtual 50, 3) := by decide +kernel
theorem dX3_vicinity_5 : decode cX3_vicinity 5 = .ok (.ifCond .ne 5, 3) := by decide +kernel
theorem dX3_vicinity_8 : decode cX3_vicinity 8 = .ok (.iconst (-1), 1) := by decide +kernel
theorem dX3_vicinity_9 : decode cX3_vicinity 9 = .ok (.ireturn, 1) := by decide +kernel
theorem dX3_vicinity_10 : decode cX3_vicinity 10 = .ok (.aload_n 0, 1) := by decide +kernel
theorem dX3_vicinity_11 : decode cX3_vicinity 11 = .ok (.iload_n 1, 1) := by decide +kernel
theorem dX3_vicinity_12 : decode cX3_vicinity 12 = .ok (.invokevirtual 54, 3) := by decide +kernel
theorem dX3_vicinity_15 : decode cX3_vicinity 15 = .ok (.ifCond .eq 7, 3) := by decide +kernel
theorem dX3_vicinity_18 : decode cX3_vicinity 18 = .ok (.iconst 0, 1) := by decide +kernel
theorem dX3_vicinity_19 : decode cX3_vicinity 19 = .ok (.goto 6, 3) := by decide +kernel
theorem dX3_vicinity_22 : decode cX3_vicinity 22 = .ok (.iconst 1, 1) := by decide +kernel
theorem dX3_vicinity_23 : decode cX3_vicinity 23 = .ok (.iload_n 1, 1) := by decide +kernel
theorem dX3_vicinity_24 : decode cX3_vicinity 24 = .ok (.ishl, 1) := by decide +kernel
theorem dX3_vicinity_25 : decode cX3_vicinity 25 = .ok (.istore_n 2, 1) := by decide +kernel
theorem dX3_vicinity_26 : decode cX3_vicinity 26 = .ok (.iconst (-1), 1) := by decide +kernel
theorem dX3_vicinity_27 : decode cX3_vicinity 27 = .ok (.istore_n 3, 1) := by decide +kernel
theorem dX3_vicinity_28 : decode cX3_vicinity 28 = .ok (.iload_n 2, 1) := by decide +kernel
theorem dX3_vicinity_29 : decode cX3_vicinity 29 = .ok (.iload_n 3, 1) := by decide +kernel
theorem dX3_vicinity_30 : decode cX3_vicinity 30 = .ok (.if_icmp .eq 120, 3) := by decide +kernel
theorem dX3_vicinity_33 : decode cX3_vicinity 33 = .ok (.iload_n 2, 1) := by decide +kernel
theorem dX3_vicinity_34 : decode cX3_vicinity 34 = .ok (.istore_n 3, 1) := by decide +kernel
theorem dX3_vicinity_35 : decode cX3_vicinity 35 = .ok (.iconst 0, 1) := by decide +kernel
theorem dX3_vicinity_36 : decode cX3_vicinity 36 = .ok (.istore 4, 2) := by decide +kernel
theorem dX3_vicinity_38 : decode cX3_vicinity 38 = .ok (.iload 4, 2) := by decide +kernel
theorem dX3_vicinity_40 : decode cX3_vicinity 40 = .ok (.aload_n 0, 1) := by decide +kernel
theorem dX3_vicinity_41 : decode cX3_vicinity 41 = .ok (.invokevirtual 43, 3) := by decide +kernel
theorem dX3_vicinity_44 : decode cX3_vicinity 44 = .ok (.if_icmp .ge 103, 3) := by decide +kernel
theorem dX3_vicinity_47 : decode cX3_vicinity 47 = .ok (.aload_n 0, 1) := by decide +kernel
theorem dX3_vicinity_48 : decode cX3_vicinity 48 = .ok (.getfield 7, 3) := by decide +kernel
theorem dX3_vicinity_51 : decode cX3_vicinity 51 = .ok (.sipush 170, 3) := by decide +kernel
theorem dX3_vicinity_54 : decode cX3_vicinity 54 = .ok (.iload 4, 2) := by decide +kernel
theorem dX3_vicinity_56 : decode cX3_vicinity 56 = .ok (.iadd, 1) := by decide +kernel
theorem dX3_vicinity_57 : decode cX3_vicinity 57 = .ok (.iaload, 1) := by decide +kernel
theorem dX3_vicinity_58 : decode cX3_vicinity 58 = .ok (.istore 5, 2) := by decide +kernel
theorem dX3_vicinity_60 : decode cX3_vicinity 60 = .ok (.aload_n 0, 1) := by decide +kernel
theorem dX3_vicinity_61 : decode cX3_vicinity 61 = .ok (.getfield 7, 3) := by decide +kernel
theorem dX3_vicinity_64 : decode cX3_vicinity 64 = .ok (.sipush 210, 3) := by decide +kernel
theorem dX3_vicinity_67 : decode cX3_vicinity 67 = .ok (.iload 4, 2) := by decide +kernel
theorem dX3_vicinity_69 : decode cX3_vicinity 69 = .ok (.iadd, 1) := by decide +kernel
theorem dX3_vicinity_70 : decode cX3_vicinity 70 = .ok (.iaload, 1) := by decide +kernel
theorem dX3_vicinity_71 : decode cX3_vicinity 71 = .ok (.istore 6, 2) := by decide +kernel
theorem dX3_vicinity_73 : decode cX3_vicinity 73 = .ok (.aload_n 0, 1) := by decide +kernel
theorem dX3_vicinity_74 : decode cX3_vicinity 74 = .ok (.iload 4, 2) := by decide +kernel
theorem dX3_vicinity_76 : decode cX3_vicinity 76 = .ok (.invokevirtual 64, 3) := by decide +kernel
theorem dX3_vicinity_79 : decode cX3_vicinity 79 = .ok (.ifCond .eq 25, 3) := by decide +kernel
theorem dX3_vicinity_82 : decode cX3_vicinity 82 = .ok (.aload_n 0, 1) := by decide +kernel
theorem dX3_vicinity_83 : decode cX3_vicinity 83 = .ok (.iload 5, 2) := by decide +kernel
theorem dX3_vicinity_85 : decode cX3_vicinity 85 = .ok (.invokevirtual 54, 3) := by decide +kernel
theorem dX3_vicinity_88 : decode cX3_vicinity 88 = .ok (.ifCond .ne 16, 3) := by decide +kernel
theorem dX3_vicinity_91 : decode cX3_vicinity 91 = .ok (.aload_n 0, 1) := by decide +kernel
theorem dX3_vicinity_92 : decode cX3_vicinity 92 = .ok (.iload 6, 2) := by decide +kernel
theorem dX3_vicinity_94 : decode cX3_vicinity 94 = .ok (.invokevirtual 54, 3) := by decide +kernel
theorem dX3_vicinity_97 : decode cX3_vicinity 97 = .ok (.ifCond .ne 7, 3) := by decide +kernel
theorem dX3_vicinity_100 : decode cX3_vicinity 100 = .ok (.iconst 1, 1) := by decide +kernel
theorem dX3_vicinity_101 : decode cX3_vicinity 101 = .ok (.goto 4, 3) := by decide +kernel
theorem dX3_vicinity_104 : decode cX3_vicinity 104 = .ok (.iconst 0, 1) := by decide +kernel
theorem dX3_vicinity_105 : decode cX3_vicinity 105 = .ok (.istore 7, 2) := by decide +kernel
theorem dX3_vicinity_107 : decode cX3_vicinity 107 = .ok (.iload 7, 2) := by decide +kernel
theorem dX3_vicinity_109 : decode cX3_vicinity 109 = .ok (.ifCond .eq 32, 3) := by decide +kernel
theorem dX3_vicinity_112 : decode cX3_vicinity 112 = .ok (.iload_n 2, 1) := by decide +kernel
theorem dX3_vicinity_113 : decode cX3_vicinity 113 = .ok (.iload 5, 2) := by decide +kernel
theorem dX3_vicinity_115 : decode cX3_vicinity 115 = .ok (.ishr, 1) := by decide +kernel
theorem dX3_vicinity_116 : decode cX3_vicinity 116 = .ok (.iconst 1, 1) := by decide +kernel
theorem dX3_vicinity_117 : decode cX3_vicinity 117 = .ok (.iand, 1) := by decide +kernel
theorem dX3_vicinity_118 : decode cX3_vicinity 118 = .ok (.iload_n 2, 1) := by decide +kernel
theorem dX3_vicinity_119 : decode cX3_vicinity 119 = .ok (.iload 6, 2) := by decide +kernel
theorem dX3_vicinity_121 : decode cX3_vicinity 121 = .ok (.ishr, 1) := by decide +kernel
theorem dX3_vicinity_122 : decode cX3_vicinity 122 = .ok (.iconst 1, 1) := by decide +kernel
theorem dX3_vicinity_123 : decode cX3_vicinity 123 = .ok (.iand, 1) := by decide +kernel
theorem dX3_vicinity_124 : decode cX3_vicinity 124 = .ok (.ior, 1) := by decide +kernel
theorem dX3_vicinity_125 : decode cX3_vicinity 125 = .ok (.iconst 1, 1) := by decide +kernel
theorem dX3_vicinity_126 : decode cX3_vicinity 126 = .ok (.if_icmp .ne 15, 3) := by decide +kernel
theorem dX3_vicinity_129 : decode cX3_vicinity 129 = .ok (.iload_n 2, 1) := by decide +kernel
theorem dX3_vicinity_130 : decode cX3_vicinity 130 = .ok (.iconst 1, 1) := by decide +kernel
theorem dX3_vicinity_131 : decode cX3_vicinity 131 = .ok (.iload 5, 2) := by decide +kernel
theorem dX3_vicinity_133 : decode cX3_vicinity 133 = .ok (.ishl, 1) := by decide +kernel
theorem dX3_vicinity_134 : decode cX3_vicinity 134 = .ok (.iconst 1, 1) := by decide +kernel
theorem dX3_vicinity_135 : decode cX3_vicinity 135 = .ok (.iload 6, 2) := by decide +kernel
theorem dX3_vicinity_137 : decode cX3_vicinity 137 = .ok (.ishl, 1) := by decide +kernel
theorem dX3_vicinity_138 : decode cX3_vicinity 138 = .ok (.ior, 1) := by decide +kernel
theorem dX3_vicinity_139 : decode cX3_vicinity 139 = .ok (.ior, 1) := by decide +kernel
theorem dX3_vicinity_140 : decode cX3_vicinity 140 = .ok (.istore_n 2, 1) := by decide +kernel
theorem dX3_vicinity_141 : decode cX3_vicinity 141 = .ok (.iinc 4 1, 3) := by decide +kernel
theorem dX3_vicinity_144 : decode cX3_vicinity 144 = .ok (.goto (-106), 3) := by decide +kernel
theorem dX3_vicinity_147 : decode cX3_vicinity 147 = .ok (.goto (-119), 3) := by decide +kernel
theorem dX3_vicinity_150 : decode cX3_vicinity 150 = .ok (.iload_n 2, 1) := by decide +kernel
theorem dX3_vicinity_151 : decode cX3_vicinity 151 = .ok (.ireturn, 1) := by decide +kernel
set_option maxRecDepth 20000 in
theorem ggX3_activeNow_X3_layAll : GoodIn wsX3_activeNow wsX3_layAll := goodIn_r _ [6, 7, 8, 9, 10, 11, 12, 5, 13, 1, 14, 15, 16, 17, 18, 19, 20, 21, 22, 23, 24, 25, 26, 27, 28, 29, 30, 31, 32, 33, 34, 35, 36, 37, 38, 39, 40, 41, 42, 43, 44, 45, 46, 47, 48, 49, 54, 55, 56, 57, 58, 59, 60, 61] (by decide +kernel) (by decide +kernel)
set_option maxRecDepth 20000 in
theorem gX3_activeNow_X3_layAll : GoodIn wsX3_activeNow (wsV RX3 87 RX3 yX3_layAll wsX3_layAll) := goodIn_app (goodIn_of _ (by decide +kernel)) ggX3_activeNow_X3_layAll
set_option maxRecDepth 20000 in
theorem ggX3_activeNow_X3_nodes : GoodIn wsX3_activeNow wsX3_nodes := goodIn_r _ [26, 1, 54, 55, 56, 57, 58, 59, 60, 61] (by decide +kernel) (by decide +kernel)
set_option maxRecDepth 20000 in
theorem gX3_activeNow_X3_nodes : GoodIn wsX3_activeNow (wsV RX3 35 RX3 yX3_nodes wsX3_nodes) := goodIn_app (goodIn_of _ (by decide +kernel)) ggX3_activeNow_X3_nodes
set_option maxRecDepth 20000 in
theorem ggX3_activeNow_X3_steady : GoodIn wsX3_activeNow wsX3_steady := goodIn_r _ [53, 1, 9, 8, 27, 28, 29, 5, 30, 54, 55, 56, 57, 58, 59, 60, 61] (by decide +kernel) (by decide +kernel)
set_option maxRecDepth 20000 in
theorem gX3_activeNow_X3_steady : GoodIn wsX3_activeNow (wsV RX3 90 RX3 yX3_steady wsX3_steady) := goodIn_app (goodIn_of _ (by decide +kernel)) ggX3_activeNow_X3_steady
theorem dX3_activeNow_0 : decode cX3_activeNow 0 = .ok (.aload_n 0, 1) := by decide +kernel
theorem dX3_activeNow_1 : decode cX3_activeNow 1 = .ok (.invokevirtual 87, 3) := by decide +kernel
theorem dX3_activeNow_4 : decode cX3_activeNow 4 = .ok (.iconst 0, 1) := by decide +kernel
theorem dX3_activeNow_5 : decode cX3_activeNow 5 = .ok (.istore_n 1, 1) := by decide +kernel
theorem dX3_activeNow_6 : decode cX3_activeNow 6 = .ok (.iconst 0, 1) := by decide +kernel
theorem dX3_activeNow_7 : decode cX3_activeNow 7 = .ok (.istore_n 2, 1) := by decide +kernel
theorem dX3_activeNow_8 : decode cX3_activeNow 8 = .ok (.iload_n 2, 1) := by decide +kernel
theorem dX3_activeNow_9 : decode cX3_activeNow 9 = .ok (.aload_n 0, 1) := by decide +kernel
theorem dX3_activeNow_10 : decode cX3_activeNow 10 = .ok (.invokevirtual 35, 3) := by decide +kernel
theorem dX3_activeNow_13 : decode cX3_activeNow 13 = .ok (.if_icmp .ge 36, 3) := by decide +kernel
theorem dX3_activeNow_16 : decode cX3_activeNow 16 = .ok (.iload_n 1, 1) := by decide +kernel
theorem dX3_activeNow_17 : decode cX3_activeNow 17 = .ok (.aload_n 0, 1) := by decide +kernel
theorem dX3_activeNow_18 : decode cX3_activeNow 18 = .ok (.iload_n 2, 1) := by decide +kernel
theorem dX3_activeNow_19 : decode cX3_activeNow 19 = .ok (.invokevirtual 90, 3) := by decide +kernel
theorem dX3_activeNow_22 : decode cX3_activeNow 22 = .ok (.aload_n 0, 1) := by decide +kernel
theorem dX3_activeNow_23 : decode cX3_activeNow 23 = .ok (.getfield 7, 3) := by decide +kernel
theorem dX3_activeNow_26 : decode cX3_activeNow 26 = .ok (.bipush 26, 2) := by decide +kernel
theorem dX3_activeNow_28 : decode cX3_activeNow 28 = .ok (.iload_n 2, 1) := by decide +kernel
theorem dX3_activeNow_29 : decode cX3_activeNow 29 = .ok (.iadd, 1) := by decide +kernel
theorem dX3_activeNow_30 : decode cX3_activeNow 30 = .ok (.iaload, 1) := by decide +kernel
theorem dX3_activeNow_31 : decode cX3_activeNow 31 = .ok (.if_icmp .eq 9, 3) := by decide +kernel
theorem dX3_activeNow_34 : decode cX3_activeNow 34 = .ok (.iconst 1, 1) := by decide +kernel
theorem dX3_activeNow_35 : decode cX3_activeNow 35 = .ok (.iload_n 2, 1) := by decide +kernel
theorem dX3_activeNow_36 : decode cX3_activeNow 36 = .ok (.ishl, 1) := by decide +kernel
theorem dX3_activeNow_37 : decode cX3_activeNow 37 = .ok (.goto 4, 3) := by decide +kernel
theorem dX3_activeNow_40 : decode cX3_activeNow 40 = .ok (.iconst 0, 1) := by decide +kernel
theorem dX3_activeNow_41 : decode cX3_activeNow 41 = .ok (.ior, 1) := by decide +kernel
theorem dX3_activeNow_42 : decode cX3_activeNow 42 = .ok (.istore_n 1, 1) := by decide +kernel
theorem dX3_activeNow_43 : decode cX3_activeNow 43 = .ok (.iinc 2 1, 3) := by decide +kernel
theorem dX3_activeNow_46 : decode cX3_activeNow 46 = .ok (.goto (-38), 3) := by decide +kernel
theorem dX3_activeNow_49 : decode cX3_activeNow 49 = .ok (.iload_n 1, 1) := by decide +kernel
theorem dX3_activeNow_50 : decode cX3_activeNow 50 = .ok (.ireturn, 1) := by decide +kernel
set_option maxRecDepth 20000 in
theorem ggX3_stepNow_X3_activeNow : GoodIn wsX3_stepNow wsX3_activeNow := goodIn_r _ [6, 1, 7, 8, 9, 5, 10, 11, 12, 13, 14, 15, 16, 17, 18, 19, 20, 21, 22, 23, 24, 25, 26, 27, 28, 29, 30, 31, 32, 33, 34, 35, 36, 37, 38, 39, 40, 41, 42, 43, 44, 45, 46, 47, 48, 49, 50, 51, 52, 53, 54, 55, 56, 57, 58, 59, 60, 61, 62, 63, 64, 65] (by decide +kernel) (by decide +kernel)
set_option maxRecDepth 20000 in
theorem gX3_stepNow_X3_activeNow : GoodIn wsX3_stepNow (wsV RX3 93 RX3 yX3_activeNow wsX3_activeNow) := goodIn_app (goodIn_of _ (by decide +kernel)) ggX3_stepNow_X3_activeNow
set_option maxRecDepth 20000 in
theorem ggX3_stepNow_X3_nodes : GoodIn wsX3_stepNow wsX3_nodes := goodIn_r _ [30, 1, 58, 59, 60, 61, 62, 63, 64, 65] (by decide +kernel) (by decide +kernel)
set_option maxRecDepth 20000 in
theorem gX3_stepNow_X3_nodes : GoodIn wsX3_stepNow (wsV RX3 35 RX3 yX3_nodes wsX3_nodes) := goodIn_app (goodIn_of _ (by decide +kernel)) ggX3_stepNow_X3_nodes
set_option maxRecDepth 20000 in
theorem ggX3_stepNow_X3_steady : GoodIn wsX3_stepNow wsX3_steady := goodIn_r _ [57, 1, 13, 12, 31, 32, 33, 5, 34, 58, 59, 60, 61, 62, 63, 64, 65] (by decide +kernel) (by decide +kernel)
set_option maxRecDepth 20000 in
theorem gX3_stepNow_X3_steady : GoodIn wsX3_stepNow (wsV RX3 90 RX3 yX3_steady wsX3_steady) := goodIn_app (goodIn_of _ (by decide +kernel)) ggX3_stepNow_X3_steady
theorem dX3_stepNow_0 : decode cX3_stepNow 0 = .ok (.aload_n 0, 1) := by decide +kernel
theorem dX3_stepNow_1 : decode cX3_stepNow 1 = .ok (.invokevirtual 93, 3) := by decide +kernel
theorem dX3_stepNow_4 : decode cX3_stepNow 4 = .ok (.istore_n 1, 1) := by decide +kernel
theorem dX3_stepNow_5 : decode cX3_stepNow 5 = .ok (.iconst 0, 1) := by decide +kernel
theorem dX3_stepNow_6 : decode cX3_stepNow 6 = .ok (.istore_n 2, 1) := by decide +kernel
theorem dX3_stepNow_7 : decode cX3_stepNow 7 = .ok (.iload_n 2, 1) := by decide +kernel
theorem dX3_stepNow_8 : decode cX3_stepNow 8 = .ok (.aload_n 0, 1) := by decide +kernel
theorem dX3_stepNow_9 : decode cX3_stepNow 9 = .ok (.invokevirtual 35, 3) := by decide +kernel
theorem dX3_stepNow_12 : decode cX3_stepNow 12 = .ok (.if_icmp .ge 23, 3) := by decide +kernel
theorem dX3_stepNow_15 : decode cX3_stepNow 15 = .ok (.aload_n 0, 1) := by decide +kernel
theorem dX3_stepNow_16 : decode cX3_stepNow 16 = .ok (.getfield 7, 3) := by decide +kernel
theorem dX3_stepNow_19 : decode cX3_stepNow 19 = .ok (.bipush 26, 2) := by decide +kernel
theorem dX3_stepNow_21 : decode cX3_stepNow 21 = .ok (.iload_n 2, 1) := by decide +kernel
theorem dX3_stepNow_22 : decode cX3_stepNow 22 = .ok (.iadd, 1) := by decide +kernel
theorem dX3_stepNow_23 : decode cX3_stepNow 23 = .ok (.aload_n 0, 1) := by decide +kernel
theorem dX3_stepNow_24 : decode cX3_stepNow 24 = .ok (.iload_n 2, 1) := by decide +kernel
theorem dX3_stepNow_25 : decode cX3_stepNow 25 = .ok (.invokevirtual 90, 3) := by decide +kernel
theorem dX3_stepNow_28 : decode cX3_stepNow 28 = .ok (.iastore, 1) := by decide +kernel
theorem dX3_stepNow_29 : decode cX3_stepNow 29 = .ok (.iinc 2 1, 3) := by decide +kernel
theorem dX3_stepNow_32 : decode cX3_stepNow 32 = .ok (.goto (-25), 3) := by decide +kernel
theorem dX3_stepNow_35 : decode cX3_stepNow 35 = .ok (.iload_n 1, 1) := by decide +kernel
theorem dX3_stepNow_36 : decode cX3_stepNow 36 = .ok (.ireturn, 1) := by decide +kernel
set_option maxRecDepth 20000 in
theorem ggX3_step_X3_stepNow : GoodIn wsX3_step wsX3_stepNow := goodIn_r _ [5, 6, 7, 8, 9, 4, 10, 11, 12, 13, 14, 15, 16, 17, 18, 19, 20, 21, 22, 23, 24, 25, 26, 27, 28, 29, 30, 31, 32, 33, 34, 35, 36, 37, 38, 39, 40, 41, 42, 43, 44, 45, 46, 47, 48, 49, 50, 51, 52, 53, 54, 55, 56, 57, 58, 59, 60, 61, 62, 63, 64, 65, 66, 67, 68, 69] (by decide +kernel) (by decide +kernel)
set_option maxRecDepth 20000 in
theorem gX3_step_X3_stepNow : GoodIn wsX3_step (wsV RX3 96 RX3 yX3_stepNow wsX3_stepNow) := goodIn_app (goodIn_of _ (by decide +kernel)) ggX3_step_X3_stepNow
theorem dX3_step_0 : decode cX3_step 0 = .ok (.aload_n 0, 1) := by decide +kernel
theorem dX3_step_1 : decode cX3_step 1 = .ok (.invokevirtual 96, 3) := by decide +kernel
theorem dX3_step_4 : decode cX3_step 4 = .ok (.ireturn, 1) := by decide +kernel
set_option maxRecDepth 20000 in
theorem ggX3_isLimit_X3_in : GoodIn wsX3_isLimit wsX3_in := goodIn_r _ [4] (by decide +kernel) (by decide +kernel)
set_option maxRecDepth 20000 in
theorem gX3_isLimit_X3_in : GoodIn wsX3_isLimit (va_wsS RX3 39 yX3_in wsX3_in) := goodIn_app (goodIn_of _ (by decide +kernel)) ggX3_isLimit_X3_in
theorem dX3_isLimit_0 : decode cX3_isLimit 0 = .ok (.iload_n 0, 1) := by decide +kernel
theorem dX3_isLimit_1 : decode cX3_isLimit 1 = .ok (.iconst 1, 1) := by decide +kernel
theorem dX3_isLimit_2 : decode cX3_isLimit 2 = .ok (.bipush 100, 2) := by decide +kernel
theorem dX3_isLimit_4 : decode cX3_isLimit 4 = .ok (.invokestatic 39, 3) := by decide +kernel
theorem dX3_isLimit_7 : decode cX3_isLimit 7 = .ok (.ireturn, 1) := by decide +kernel
set_option maxRecDepth 20000 in
theorem ggX3_settleNow_X3_stepNow : GoodIn wsX3_settleNow wsX3_stepNow := goodIn_r _ [5, 6, 7, 8, 9, 4, 10, 11, 12, 13, 14, 15, 16, 17, 18, 19, 20, 21, 22, 23, 24, 25, 26, 27, 28, 29, 30, 31, 32, 33, 34, 35, 36, 37, 38, 39, 40, 41, 42, 43, 44, 45, 46, 47, 48, 49, 50, 51, 52, 53, 54, 55, 56, 57, 58, 59, 60, 61, 62, 63, 64, 65, 66, 67, 68, 69] (by decide +kernel) (by decide +kernel)
set_option maxRecDepth 20000 in
theorem gX3_settleNow_X3_stepNow : GoodIn wsX3_settleNow (wsV RX3 96 RX3 yX3_stepNow wsX3_stepNow) := goodIn_app (goodIn_of _ (by decide +kernel)) ggX3_settleNow_X3_stepNow
set_option maxRecDepth 20000 in
theorem ggX3_settleNow_X3_activeNow : GoodIn wsX3_settleNow wsX3_activeNow := goodIn_r _ [10, 6, 11, 12, 13, 4, 14, 15, 16, 17, 18, 19, 20, 21, 22, 23, 24, 25, 26, 27, 28, 29, 30, 31, 32, 33, 34, 35, 36, 37, 38, 39, 40, 41, 42, 43, 44, 45, 46, 47, 48, 49, 50, 51, 52, 53, 54, 55, 56, 57, 58, 59, 60, 61, 62, 63, 64, 65, 66, 67, 68, 69] (by decide +kernel) (by decide +kernel)
set_option maxRecDepth 20000 in
theorem gX3_settleNow_X3_activeNow : GoodIn wsX3_settleNow (wsV RX3 93 RX3 yX3_activeNow wsX3_activeNow) := goodIn_app (goodIn_of _ (by decide +kernel)) ggX3_settleNow_X3_activeNow
theorem dX3_settleNow_0 : decode cX3_settleNow 0 = .ok (.iconst 0, 1) := by decide +kernel
theorem dX3_settleNow_1 : decode cX3_settleNow 1 = .ok (.istore_n 2, 1) := by decide +kernel
theorem dX3_settleNow_2 : decode cX3_settleNow 2 = .ok (.iload_n 2, 1) := by decide +kernel
theorem dX3_settleNow_3 : decode cX3_settleNow 3 = .ok (.iload_n 1, 1) := by decide +kernel
theorem dX3_settleNow_4 : decode cX3_settleNow 4 = .ok (.if_icmp .ge 18, 3) := by decide +kernel
theorem dX3_settleNow_7 : decode cX3_settleNow 7 = .ok (.aload_n 0, 1) := by decide +kernel
theorem dX3_settleNow_8 : decode cX3_settleNow 8 = .ok (.invokevirtual 96, 3) := by decide +kernel
theorem dX3_settleNow_11 : decode cX3_settleNow 11 = .ok (.ifCond .ne 5, 3) := by decide +kernel
theorem dX3_settleNow_14 : decode cX3_settleNow 14 = .ok (.iload_n 2, 1) := by decide +kernel
theorem dX3_settleNow_15 : decode cX3_settleNow 15 = .ok (.ireturn, 1) := by decide +kernel
theorem dX3_settleNow_16 : decode cX3_settleNow 16 = .ok (.iinc 2 1, 3) := by decide +kernel
theorem dX3_settleNow_19 : decode cX3_settleNow 19 = .ok (.goto (-17), 3) := by decide +kernel
theorem dX3_settleNow_22 : decode cX3_settleNow 22 = .ok (.aload_n 0, 1) := by decide +kernel
theorem dX3_settleNow_23 : decode cX3_settleNow 23 = .ok (.invokevirtual 93, 3) := by decide +kernel
theorem dX3_settleNow_26 : decode cX3_settleNow 26 = .ok (.ifCond .ne 7, 3) := by decide +kernel
theorem dX3_settleNow_29 : decode cX3_settleNow 29 = .ok (.iload_n 1, 1) := by decide +kernel
theorem dX3_settleNow_30 : decode cX3_settleNow 30 = .ok (.goto 5, 3) := by decide +kernel
theorem dX3_settleNow_33 : decode cX3_settleNow 33 = .ok (.bipush (-7), 2) := by decide +kernel
theorem dX3_settleNow_35 : decode cX3_settleNow 35 = .ok (.ireturn, 1) := by decide +kernel
set_option maxRecDepth 20000 in
theorem ggX3_settle_X3_isLimit : GoodIn wsX3_settle wsX3_isLimit := goodIn_r _ [4, 5, 6, 3, 7] (by decide +kernel) (by decide +kernel)
set_option maxRecDepth 20000 in
theorem gX3_settle_X3_isLimit : GoodIn wsX3_settle (va_wsS RX3 99 yX3_isLimit wsX3_isLimit) := goodIn_app (goodIn_of _ (by decide +kernel)) ggX3_settle_X3_isLimit
set_option maxRecDepth 20000 in
theorem ggX3_settle_X3_settleNow : GoodIn wsX3_settle wsX3_settleNow := goodIn_r _ [11, 12, 13, 14, 3, 15, 16, 17, 18, 19, 20, 21, 22, 23, 24, 25, 26, 27, 28, 29, 30, 31, 32, 33, 34, 35, 36, 37, 38, 39, 40, 41, 42, 43, 44, 45, 46, 47, 48, 49, 50, 51, 52, 53, 54, 55, 56, 57, 58, 59, 60, 61, 62, 63, 64, 65, 66, 67, 68, 69, 70, 71, 72, 73, 74, 75, 76, 77, 78, 79] (by decide +kernel) (by decide +kernel)
set_option maxRecDepth 20000 in
theorem gX3_settle_X3_settleNow : GoodIn wsX3_settle (wsV RX3 102 RX3 yX3_settleNow wsX3_settleNow) := goodIn_app (goodIn_of _ (by decide +kernel)) ggX3_settle_X3_settleNow
theorem dX3_settle_0 : decode cX3_settle 0 = .ok (.iload_n 1, 1) := by decide +kernel
theorem dX3_settle_1 : decode cX3_settle 1 = .ok (.invokestatic 99, 3) := by decide +kernel
theorem dX3_settle_4 : decode cX3_settle 4 = .ok (.ifCond .eq 11, 3) := by decide +kernel
theorem dX3_settle_7 : decode cX3_settle 7 = .ok (.aload_n 0, 1) := by decide +kernel
theorem dX3_settle_8 : decode cX3_settle 8 = .ok (.iload_n 1, 1) := by decide +kernel
theorem dX3_settle_9 : decode cX3_settle 9 = .ok (.invokevirtual 102, 3) := by decide +kernel
theorem dX3_settle_12 : decode cX3_settle 12 = .ok (.goto 5, 3) := by decide +kernel
theorem dX3_settle_15 : decode cX3_settle 15 = .ok (.bipush (-3), 2) := by decide +kernel
theorem dX3_settle_17 : decode cX3_settle 17 = .ok (.ireturn, 1) := by decide +kernel
set_option maxRecDepth 20000 in
theorem ggX3_active_X3_activeNow : GoodIn wsX3_active wsX3_activeNow := goodIn_r _ [5, 6, 7, 8, 9, 4, 10, 11, 12, 13, 14, 15, 16, 17, 18, 19, 20, 21, 22, 23, 24, 25, 26, 27, 28, 29, 30, 31, 32, 33, 34, 35, 36, 37, 38, 39, 40, 41, 42, 43, 44, 45, 46, 47, 48, 49, 50, 51, 52, 53, 54, 55, 56, 57, 58, 59, 60, 61, 62, 63, 64, 65] (by decide +kernel) (by decide +kernel)
set_option maxRecDepth 20000 in
theorem gX3_active_X3_activeNow : GoodIn wsX3_active (wsV RX3 93 RX3 yX3_activeNow wsX3_activeNow) := goodIn_app (goodIn_of _ (by decide +kernel)) ggX3_active_X3_activeNow
theorem dX3_active_0 : decode cX3_active 0 = .ok (.aload_n 0, 1) := by decide +kernel
theorem dX3_active_1 : decode cX3_active 1 = .ok (.invokevirtual 93, 3) := by decide +kernel
theorem dX3_active_4 : decode cX3_active 4 = .ok (.ireturn, 1) := by decide +kernel
theorem dX3_keep_0 : decode cX3_keep 0 = .ok (.iconst 0, 1) := by decide +kernel
theorem dX3_keep_1 : decode cX3_keep 1 = .ok (.istore_n 1, 1) := by decide +kernel
theorem dX3_keep_2 : decode cX3_keep 2 = .ok (.iload_n 1, 1) := by decide +kernel
theorem dX3_keep_3 : decode cX3_keep 3 = .ok (.sipush 290, 3) := by decide +kernel
theorem dX3_keep_6 : decode cX3_keep 6 = .ok (.if_icmp .ge 21, 3) := by decide +kernel
theorem dX3_keep_9 : decode cX3_keep 9 = .ok (.aload_n 0, 1) := by decide +kernel
theorem dX3_keep_10 : decode cX3_keep 10 = .ok (.getfield 32, 3) := by decide +kernel
theorem dX3_keep_13 : decode cX3_keep 13 = .ok (.iload_n 1, 1) := by decide +kernel
theorem dX3_keep_14 : decode cX3_keep 14 = .ok (.aload_n 0, 1) := by decide +kernel
theorem dX3_keep_15 : decode cX3_keep 15 = .ok (.getfield 7, 3) := by decide +kernel
theorem dX3_keep_18 : decode cX3_keep 18 = .ok (.iload_n 1, 1) := by decide +kernel
theorem dX3_keep_19 : decode cX3_keep 19 = .ok (.iaload, 1) := by decide +kernel
theorem dX3_keep_20 : decode cX3_keep 20 = .ok (.iastore, 1) := by decide +kernel
theorem dX3_keep_21 : decode cX3_keep 21 = .ok (.iinc 1 1, 3) := by decide +kernel
theorem dX3_keep_24 : decode cX3_keep 24 = .ok (.goto (-22), 3) := by decide +kernel
theorem dX3_keep_27 : decode cX3_keep 27 = .ok (.return_, 1) := by decide +kernel
theorem dX3_putBack_0 : decode cX3_putBack 0 = .ok (.iconst 0, 1) := by decide +kernel
theorem dX3_putBack_1 : decode cX3_putBack 1 = .ok (.istore_n 1, 1) := by decide +kernel
theorem dX3_putBack_2 : decode cX3_putBack 2 = .ok (.iload_n 1, 1) := by decide +kernel
theorem dX3_putBack_3 : decode cX3_putBack 3 = .ok (.sipush 290, 3) := by decide +kernel
theorem dX3_putBack_6 : decode cX3_putBack 6 = .ok (.if_icmp .ge 21, 3) := by decide +kernel
theorem dX3_putBack_9 : decode cX3_putBack 9 = .ok (.aload_n 0, 1) := by decide +kernel
theorem dX3_putBack_10 : decode cX3_putBack 10 = .ok (.getfield 7, 3) := by decide +kernel
theorem dX3_putBack_13 : decode cX3_putBack 13 = .ok (.iload_n 1, 1) := by decide +kernel
theorem dX3_putBack_14 : decode cX3_putBack 14 = .ok (.aload_n 0, 1) := by decide +kernel
theorem dX3_putBack_15 : decode cX3_putBack 15 = .ok (.getfield 32, 3) := by decide +kernel
theorem dX3_putBack_18 : decode cX3_putBack 18 = .ok (.iload_n 1, 1) := by decide +kernel
theorem dX3_putBack_19 : decode cX3_putBack 19 = .ok (.iaload, 1) := by decide +kernel
theorem dX3_putBack_20 : decode cX3_putBack 20 = .ok (.iastore, 1) := by decide +kernel
theorem dX3_putBack_21 : decode cX3_putBack 21 = .ok (.iinc 1 1, 3) := by decide +kernel
theorem dX3_putBack_24 : decode cX3_putBack 24 = .ok (.goto (-22), 3) := by decide +kernel
theorem dX3_putBack_27 : decode cX3_putBack 27 = .ok (.return_, 1) := by decide +kernel
set_option maxRecDepth 20000 in
theorem ggX3_period_X3_isLimit : GoodIn wsX3_period wsX3_isLimit := goodIn_r _ [6, 7, 8, 5, 9] (by decide +kernel) (by decide +kernel)
set_option maxRecDepth 20000 in
theorem gX3_period_X3_isLimit : GoodIn wsX3_period (va_wsS RX3 99 yX3_isLimit wsX3_isLimit) := goodIn_app (goodIn_of _ (by decide +kernel)) ggX3_period_X3_isLimit
set_option maxRecDepth 20000 in
theorem ggX3_period_X3_keep : GoodIn wsX3_period wsX3_keep := goodIn_r _ [13, 2, 1, 77, 78, 79, 80, 81, 82, 83, 84] (by decide +kernel) (by decide +kernel)
set_option maxRecDepth 20000 in
theorem gX3_period_X3_keep : GoodIn wsX3_period (wsV RX3 105 RX3 yX3_keep wsX3_keep) := goodIn_app (goodIn_of _ (by decide +kernel)) ggX3_period_X3_keep
set_option maxRecDepth 20000 in
theorem ggX3_period_X3_stepNow : GoodIn wsX3_period wsX3_stepNow := goodIn_r _ [17, 1, 18, 19, 20, 5, 21, 22, 23, 24, 25, 26, 27, 28, 29, 30, 31, 32, 33, 34, 35, 36, 37, 38, 39, 40, 41, 42, 43, 44, 45, 46, 47, 48, 49, 50, 51, 52, 53, 54, 55, 56, 57, 58, 59, 60, 61, 62, 63, 64, 65, 66, 67, 68, 69, 70, 71, 72, 77, 78, 79, 80, 81, 82, 83, 84] (by decide +kernel) (by decide +kernel)
set_option maxRecDepth 20000 in
theorem gX3_period_X3_stepNow : GoodIn wsX3_period (wsV RX3 96 RX3 yX3_stepNow wsX3_stepNow) := goodIn_app (goodIn_of _ (by decide +kernel)) ggX3_period_X3_stepNow
set_option maxRecDepth 20000 in
theorem ggX3_period_X3_nodes : GoodIn wsX3_period wsX3_nodes := goodIn_r _ [45, 1, 77, 78, 79, 80, 81, 82, 83, 84] (by decide +kernel) (by decide +kernel)
set_option maxRecDepth 20000 in
theorem gX3_period_X3_nodes : GoodIn wsX3_period (wsV RX3 35 RX3 yX3_nodes wsX3_nodes) := goodIn_app (goodIn_of _ (by decide +kernel)) ggX3_period_X3_nodes
set_option maxRecDepth 20000 in
theorem ggX3_period_X3_putBack : GoodIn wsX3_period wsX3_putBack := goodIn_r _ [76, 1, 2, 77, 78, 79, 80, 81, 82, 83, 84] (by decide +kernel) (by decide +kernel)
set_option maxRecDepth 20000 in
theorem gX3_period_X3_putBack : GoodIn wsX3_period (wsV RX3 108 RX3 yX3_putBack wsX3_putBack) := goodIn_app (goodIn_of _ (by decide +kernel)) ggX3_period_X3_putBack
theorem dX3_period_0 : decode cX3_period 0 = .ok (.iload_n 1, 1) := by decide +kernel
theorem dX3_period_1 : decode cX3_period 1 = .ok (.invokestatic 99, 3) := by decide +kernel
theorem dX3_period_4 : decode cX3_period 4 = .ok (.ifCond .ne 6, 3) := by decide +kernel
theorem dX3_period_7 : decode cX3_period 7 = .ok (.bipush (-3), 2) := by decide +kernel
theorem dX3_period_9 : decode cX3_period 9 = .ok (.ireturn, 1) := by decide +kernel
theorem dX3_period_10 : decode cX3_period 10 = .ok (.aload_n 0, 1) := by decide +kernel
theorem dX3_period_11 : decode cX3_period 11 = .ok (.invokevirtual 105, 3) := by decide +kernel
theorem dX3_period_14 : decode cX3_period 14 = .ok (.bipush (-8), 2) := by decide +kernel
theorem dX3_period_16 : decode cX3_period 16 = .ok (.istore_n 2, 1) := by decide +kernel
theorem dX3_period_17 : decode cX3_period 17 = .ok (.iconst 1, 1) := by decide +kernel
theorem dX3_period_18 : decode cX3_period 18 = .ok (.istore_n 3, 1) := by decide +kernel
theorem dX3_period_19 : decode cX3_period 19 = .ok (.iload_n 3, 1) := by decide +kernel
theorem dX3_period_20 : decode cX3_period 20 = .ok (.iload_n 1, 1) := by decide +kernel
theorem dX3_period_21 : decode cX3_period 21 = .ok (.if_icmp .gt 86, 3) := by decide +kernel
theorem dX3_period_24 : decode cX3_period 24 = .ok (.iload_n 2, 1) := by decide +kernel
theorem dX3_period_25 : decode cX3_period 25 = .ok (.ifCond .ge 82, 3) := by decide +kernel
theorem dX3_period_28 : decode cX3_period 28 = .ok (.aload_n 0, 1) := by decide +kernel
theorem dX3_period_29 : decode cX3_period 29 = .ok (.invokevirtual 96, 3) := by decide +kernel
theorem dX3_period_32 : decode cX3_period 32 = .ok (.pop, 1) := by decide +kernel
theorem dX3_period_33 : decode cX3_period 33 = .ok (.iconst 1, 1) := by decide +kernel
theorem dX3_period_34 : decode cX3_period 34 = .ok (.istore 4, 2) := by decide +kernel
theorem dX3_period_36 : decode cX3_period 36 = .ok (.iconst 0, 1) := by decide +kernel
theorem dX3_period_37 : decode cX3_period 37 = .ok (.istore 5, 2) := by decide +kernel
theorem dX3_period_39 : decode cX3_period 39 = .ok (.iload 5, 2) := by decide +kernel
theorem dX3_period_41 : decode cX3_period 41 = .ok (.aload_n 0, 1) := by decide +kernel
theorem dX3_period_42 : decode cX3_period 42 = .ok (.invokevirtual 35, 3) := by decide +kernel
theorem dX3_period_45 : decode cX3_period 45 = .ok (.if_icmp .ge 44, 3) := by decide +kernel
theorem dX3_period_48 : decode cX3_period 48 = .ok (.iload 4, 2) := by decide +kernel
theorem dX3_period_50 : decode cX3_period 50 = .ok (.ifCond .eq 30, 3) := by decide +kernel
theorem dX3_period_53 : decode cX3_period 53 = .ok (.aload_n 0, 1) := by decide +kernel
theorem dX3_period_54 : decode cX3_period 54 = .ok (.getfield 7, 3) := by decide +kernel
theorem dX3_period_57 : decode cX3_period 57 = .ok (.bipush 26, 2) := by decide +kernel
theorem dX3_period_59 : decode cX3_period 59 = .ok (.iload 5, 2) := by decide +kernel
theorem dX3_period_61 : decode cX3_period 61 = .ok (.iadd, 1) := by decide +kernel
theorem dX3_period_62 : decode cX3_period 62 = .ok (.iaload, 1) := by decide +kernel
theorem dX3_period_63 : decode cX3_period 63 = .ok (.aload_n 0, 1) := by decide +kernel
theorem dX3_period_64 : decode cX3_period 64 = .ok (.getfield 32, 3) := by decide +kernel
theorem dX3_period_67 : decode cX3_period 67 = .ok (.bipush 26, 2) := by decide +kernel
theorem dX3_period_69 : decode cX3_period 69 = .ok (.iload 5, 2) := by decide +kernel
theorem dX3_period_71 : decode cX3_period 71 = .ok (.iadd, 1) := by decide +kernel
theorem dX3_period_72 : decode cX3_period 72 = .ok (.iaload, 1) := by decide +kernel
theorem dX3_period_73 : decode cX3_period 73 = .ok (.if_icmp .ne 7, 3) := by decide +kernel
theorem dX3_period_76 : decode cX3_period 76 = .ok (.iconst 1, 1) := by decide +kernel
theorem dX3_period_77 : decode cX3_period 77 = .ok (.goto 4, 3) := by decide +kernel
theorem dX3_period_80 : decode cX3_period 80 = .ok (.iconst 0, 1) := by decide +kernel
theorem dX3_period_81 : decode cX3_period 81 = .ok (.istore 4, 2) := by decide +kernel
theorem dX3_period_83 : decode cX3_period 83 = .ok (.iinc 5 1, 3) := by decide +kernel
theorem dX3_period_86 : decode cX3_period 86 = .ok (.goto (-47), 3) := by decide +kernel
theorem dX3_period_89 : decode cX3_period 89 = .ok (.iload 4, 2) := by decide +kernel
theorem dX3_period_91 : decode cX3_period 91 = .ok (.ifCond .eq 7, 3) := by decide +kernel
theorem dX3_period_94 : decode cX3_period 94 = .ok (.iload_n 3, 1) := by decide +kernel
theorem dX3_period_95 : decode cX3_period 95 = .ok (.goto 5, 3) := by decide +kernel
theorem dX3_period_98 : decode cX3_period 98 = .ok (.bipush (-8), 2) := by decide +kernel
theorem dX3_period_100 : decode cX3_period 100 = .ok (.istore_n 2, 1) := by decide +kernel
theorem dX3_period_101 : decode cX3_period 101 = .ok (.iinc 3 1, 3) := by decide +kernel
theorem dX3_period_104 : decode cX3_period 104 = .ok (.goto (-85), 3) := by decide +kernel
theorem dX3_period_107 : decode cX3_period 107 = .ok (.aload_n 0, 1) := by decide +kernel
theorem dX3_period_108 : decode cX3_period 108 = .ok (.invokevirtual 108, 3) := by decide +kernel
theorem dX3_period_111 : decode cX3_period 111 = .ok (.iload_n 2, 1) := by decide +kernel
theorem dX3_period_112 : decode cX3_period 112 = .ok (.ireturn, 1) := by decide +kernel
set_option maxRecDepth 20000 in
theorem ggX3_setFault_X3_isTransistor : GoodIn wsX3_setFault wsX3_isTransistor := goodIn_r _ [5, 6, 7, 8, 4, 9, 10, 11, 12, 13, 18, 19, 20, 21, 22, 23, 24, 25] (by decide +kernel) (by decide +kernel)
set_option maxRecDepth 20000 in
theorem gX3_setFault_X3_isTransistor : GoodIn wsX3_setFault (wsV RX3 61 RX3 yX3_isTransistor wsX3_isTransistor) := goodIn_app (goodIn_of _ (by decide +kernel)) ggX3_setFault_X3_isTransistor
set_option maxRecDepth 20000 in
theorem ggX3_setFault_X3_in : GoodIn wsX3_setFault wsX3_in := goodIn_r _ [13] (by decide +kernel) (by decide +kernel)
set_option maxRecDepth 20000 in
theorem gX3_setFault_X3_in : GoodIn wsX3_setFault (va_wsS RX3 39 yX3_in wsX3_in) := goodIn_app (goodIn_of _ (by decide +kernel)) ggX3_setFault_X3_in
set_option maxRecDepth 20000 in
theorem ggX3_setFault_X3_set : GoodIn wsX3_setFault wsX3_set := goodIn_r _ [17, 10, 18, 19, 20, 21, 22, 23, 24, 25] (by decide +kernel) (by decide +kernel)
set_option maxRecDepth 20000 in
theorem gX3_setFault_X3_set : GoodIn wsX3_setFault (wsV RX3 57 RX3 yX3_set wsX3_set) := goodIn_app (goodIn_of _ (by decide +kernel)) ggX3_setFault_X3_set
theorem dX3_setFault_0 : decode cX3_setFault 0 = .ok (.aload_n 0, 1) := by decide +kernel
theorem dX3_setFault_1 : decode cX3_setFault 1 = .ok (.iload_n 1, 1) := by decide +kernel
theorem dX3_setFault_2 : decode cX3_setFault 2 = .ok (.invokevirtual 61, 3) := by decide +kernel
theorem dX3_setFault_5 : decode cX3_setFault 5 = .ok (.ifCond .ne 6, 3) := by decide +kernel
theorem dX3_setFault_8 : decode cX3_setFault 8 = .ok (.bipush (-2), 2) := by decide +kernel
theorem dX3_setFault_10 : decode cX3_setFault 10 = .ok (.ireturn, 1) := by decide +kernel
theorem dX3_setFault_11 : decode cX3_setFault 11 = .ok (.iload_n 2, 1) := by decide +kernel
theorem dX3_setFault_12 : decode cX3_setFault 12 = .ok (.iconst 0, 1) := by decide +kernel
theorem dX3_setFault_13 : decode cX3_setFault 13 = .ok (.iconst 2, 1) := by decide +kernel
theorem dX3_setFault_14 : decode cX3_setFault 14 = .ok (.invokestatic 39, 3) := by decide +kernel
theorem dX3_setFault_17 : decode cX3_setFault 17 = .ok (.ifCond .eq 16, 3) := by decide +kernel
theorem dX3_setFault_20 : decode cX3_setFault 20 = .ok (.aload_n 0, 1) := by decide +kernel
theorem dX3_setFault_21 : decode cX3_setFault 21 = .ok (.sipush 250, 3) := by decide +kernel
theorem dX3_setFault_24 : decode cX3_setFault 24 = .ok (.iload_n 1, 1) := by decide +kernel
theorem dX3_setFault_25 : decode cX3_setFault 25 = .ok (.iadd, 1) := by decide +kernel
theorem dX3_setFault_26 : decode cX3_setFault 26 = .ok (.iload_n 2, 1) := by decide +kernel
theorem dX3_setFault_27 : decode cX3_setFault 27 = .ok (.invokevirtual 57, 3) := by decide +kernel
theorem dX3_setFault_30 : decode cX3_setFault 30 = .ok (.goto 5, 3) := by decide +kernel
theorem dX3_setFault_33 : decode cX3_setFault 33 = .ok (.bipush (-3), 2) := by decide +kernel
theorem dX3_setFault_35 : decode cX3_setFault 35 = .ok (.ireturn, 1) := by decide +kernel
set_option maxRecDepth 20000 in
theorem ggX3_clearFaults_X3_many : GoodIn wsX3_clearFaults wsX3_many := goodIn_r _ [6, 1, 7, 8, 9, 10, 11, 12, 13, 14] (by decide +kernel) (by decide +kernel)
set_option maxRecDepth 20000 in
theorem gX3_clearFaults_X3_many : GoodIn wsX3_clearFaults (wsV RX3 43 RX3 yX3_many wsX3_many) := goodIn_app (goodIn_of _ (by decide +kernel)) ggX3_clearFaults_X3_many
theorem dX3_clearFaults_0 : decode cX3_clearFaults 0 = .ok (.iconst 0, 1) := by decide +kernel
theorem dX3_clearFaults_1 : decode cX3_clearFaults 1 = .ok (.istore_n 1, 1) := by decide +kernel
theorem dX3_clearFaults_2 : decode cX3_clearFaults 2 = .ok (.iconst 0, 1) := by decide +kernel
theorem dX3_clearFaults_3 : decode cX3_clearFaults 3 = .ok (.istore_n 2, 1) := by decide +kernel
theorem dX3_clearFaults_4 : decode cX3_clearFaults 4 = .ok (.iload_n 2, 1) := by decide +kernel
theorem dX3_clearFaults_5 : decode cX3_clearFaults 5 = .ok (.aload_n 0, 1) := by decide +kernel
theorem dX3_clearFaults_6 : decode cX3_clearFaults 6 = .ok (.invokevirtual 43, 3) := by decide +kernel
theorem dX3_clearFaults_9 : decode cX3_clearFaults 9 = .ok (.if_icmp .ge 41, 3) := by decide +kernel
theorem dX3_clearFaults_12 : decode cX3_clearFaults 12 = .ok (.iload_n 1, 1) := by decide +kernel
theorem dX3_clearFaults_13 : decode cX3_clearFaults 13 = .ok (.aload_n 0, 1) := by decide +kernel
theorem dX3_clearFaults_14 : decode cX3_clearFaults 14 = .ok (.getfield 7, 3) := by decide +kernel
theorem dX3_clearFaults_17 : decode cX3_clearFaults 17 = .ok (.sipush 250, 3) := by decide +kernel
theorem dX3_clearFaults_20 : decode cX3_clearFaults 20 = .ok (.iload_n 2, 1) := by decide +kernel
theorem dX3_clearFaults_21 : decode cX3_clearFaults 21 = .ok (.iadd, 1) := by decide +kernel
theorem dX3_clearFaults_22 : decode cX3_clearFaults 22 = .ok (.iaload, 1) := by decide +kernel
theorem dX3_clearFaults_23 : decode cX3_clearFaults 23 = .ok (.ifCond .eq 7, 3) := by decide +kernel
theorem dX3_clearFaults_26 : decode cX3_clearFaults 26 = .ok (.iconst 1, 1) := by decide +kernel
theorem dX3_clearFaults_27 : decode cX3_clearFaults 27 = .ok (.goto 4, 3) := by decide +kernel
theorem dX3_clearFaults_30 : decode cX3_clearFaults 30 = .ok (.iconst 0, 1) := by decide +kernel
theorem dX3_clearFaults_31 : decode cX3_clearFaults 31 = .ok (.iadd, 1) := by decide +kernel
theorem dX3_clearFaults_32 : decode cX3_clearFaults 32 = .ok (.istore_n 1, 1) := by decide +kernel
theorem dX3_clearFaults_33 : decode cX3_clearFaults 33 = .ok (.aload_n 0, 1) := by decide +kernel
theorem dX3_clearFaults_34 : decode cX3_clearFaults 34 = .ok (.getfield 7, 3) := by decide +kernel
theorem dX3_clearFaults_37 : decode cX3_clearFaults 37 = .ok (.sipush 250, 3) := by decide +kernel
theorem dX3_clearFaults_40 : decode cX3_clearFaults 40 = .ok (.iload_n 2, 1) := by decide +kernel
theorem dX3_clearFaults_41 : decode cX3_clearFaults 41 = .ok (.iadd, 1) := by decide +kernel
theorem dX3_clearFaults_42 : decode cX3_clearFaults 42 = .ok (.iconst 0, 1) := by decide +kernel
theorem dX3_clearFaults_43 : decode cX3_clearFaults 43 = .ok (.iastore, 1) := by decide +kernel
theorem dX3_clearFaults_44 : decode cX3_clearFaults 44 = .ok (.iinc 2 1, 3) := by decide +kernel
theorem dX3_clearFaults_47 : decode cX3_clearFaults 47 = .ok (.goto (-43), 3) := by decide +kernel
theorem dX3_clearFaults_50 : decode cX3_clearFaults 50 = .ok (.iload_n 1, 1) := by decide +kernel
theorem dX3_clearFaults_51 : decode cX3_clearFaults 51 = .ok (.ireturn, 1) := by decide +kernel
set_option maxRecDepth 20000 in
theorem ggX3_settledValue_X3_settleNow : GoodIn wsX3_settledValue wsX3_settleNow := goodIn_r _ [6, 7, 8, 9, 5, 10, 1, 11, 12, 13, 14, 15, 16, 17, 18, 19, 20, 21, 22, 23, 24, 25, 26, 27, 28, 29, 30, 31, 32, 33, 34, 35, 36, 37, 38, 39, 40, 41, 42, 43, 44, 45, 46, 47, 48, 49, 50, 51, 52, 53, 54, 55, 56, 57, 58, 59, 60, 61, 62, 63, 64, 65, 71, 72, 73, 74, 75, 76, 77, 78] (by decide +kernel) (by decide +kernel)
set_option maxRecDepth 20000 in
theorem gX3_settledValue_X3_settleNow : GoodIn wsX3_settledValue (wsV RX3 102 RX3 yX3_settleNow wsX3_settleNow) := goodIn_app (goodIn_of _ (by decide +kernel)) ggX3_settledValue_X3_settleNow
set_option maxRecDepth 20000 in
theorem ggX3_settledValue_X3_putBack : GoodIn wsX3_settledValue wsX3_putBack := goodIn_r _ [69, 1, 70, 71, 72, 73, 74, 75, 76, 77, 78] (by decide +kernel) (by decide +kernel)
set_option maxRecDepth 20000 in
theorem gX3_settledValue_X3_putBack : GoodIn wsX3_settledValue (wsV RX3 108 RX3 yX3_putBack wsX3_putBack) := goodIn_app (goodIn_of _ (by decide +kernel)) ggX3_settledValue_X3_putBack
theorem dX3_settledValue_0 : decode cX3_settledValue 0 = .ok (.aload_n 0, 1) := by decide +kernel
theorem dX3_settledValue_1 : decode cX3_settledValue 1 = .ok (.iload_n 2, 1) := by decide +kernel
theorem dX3_settledValue_2 : decode cX3_settledValue 2 = .ok (.invokevirtual 102, 3) := by decide +kernel
theorem dX3_settledValue_5 : decode cX3_settledValue 5 = .ok (.istore_n 3, 1) := by decide +kernel
theorem dX3_settledValue_6 : decode cX3_settledValue 6 = .ok (.iload_n 3, 1) := by decide +kernel
theorem dX3_settledValue_7 : decode cX3_settledValue 7 = .ok (.ifCond .ge 8, 3) := by decide +kernel
theorem dX3_settledValue_10 : decode cX3_settledValue 10 = .ok (.bipush (-8), 2) := by decide +kernel
theorem dX3_settledValue_12 : decode cX3_settledValue 12 = .ok (.goto 12, 3) := by decide +kernel
theorem dX3_settledValue_15 : decode cX3_settledValue 15 = .ok (.aload_n 0, 1) := by decide +kernel
theorem dX3_settledValue_16 : decode cX3_settledValue 16 = .ok (.getfield 7, 3) := by decide +kernel
theorem dX3_settledValue_19 : decode cX3_settledValue 19 = .ok (.bipush 26, 2) := by decide +kernel
theorem dX3_settledValue_21 : decode cX3_settledValue 21 = .ok (.iload_n 1, 1) := by decide +kernel
theorem dX3_settledValue_22 : decode cX3_settledValue 22 = .ok (.iadd, 1) := by decide +kernel
theorem dX3_settledValue_23 : decode cX3_settledValue 23 = .ok (.iaload, 1) := by decide +kernel
theorem dX3_settledValue_24 : decode cX3_settledValue 24 = .ok (.istore 4, 2) := by decide +kernel
theorem dX3_settledValue_26 : decode cX3_settledValue 26 = .ok (.aload_n 0, 1) := by decide +kernel
theorem dX3_settledValue_27 : decode cX3_settledValue 27 = .ok (.invokevirtual 108, 3) := by decide +kernel
theorem dX3_settledValue_30 : decode cX3_settledValue 30 = .ok (.iload 4, 2) := by decide +kernel
theorem dX3_settledValue_32 : decode cX3_settledValue 32 = .ok (.ireturn, 1) := by decide +kernel
set_option maxRecDepth 20000 in
theorem ggX3_isDetected_X3_settledValue : GoodIn wsX3_isDetected wsX3_settledValue := goodIn_r _ [6, 1, 7, 8, 9, 5, 10, 11, 12, 13, 14, 15, 16, 17, 18, 19, 20, 21, 22, 23, 24, 25, 26, 27, 28, 29, 30, 31, 32, 33, 34, 35, 36, 37, 38, 39, 40, 41, 42, 43, 44, 45, 46, 47, 48, 49, 50, 51, 52, 53, 54, 55, 56, 57, 58, 59, 60, 61, 62, 63, 64, 65, 66, 67, 68, 69, 70, 71, 72, 73, 74, 75, 76, 77, 78, 79, 80, 81, 82] (by decide +kernel) (by decide +kernel)
set_option maxRecDepth 20000 in
theorem gX3_isDetected_X3_settledValue : GoodIn wsX3_isDetected (wsV RX3 111 RX3 yX3_settledValue wsX3_settledValue) := goodIn_app (goodIn_of _ (by decide +kernel)) ggX3_isDetected_X3_settledValue
theorem dX3_isDetected_0 : decode cX3_isDetected 0 = .ok (.aload_n 0, 1) := by decide +kernel
theorem dX3_isDetected_1 : decode cX3_isDetected 1 = .ok (.getfield 7, 3) := by decide +kernel
theorem dX3_isDetected_4 : decode cX3_isDetected 4 = .ok (.sipush 250, 3) := by decide +kernel
theorem dX3_isDetected_7 : decode cX3_isDetected 7 = .ok (.iload_n 1, 1) := by decide +kernel
theorem dX3_isDetected_8 : decode cX3_isDetected 8 = .ok (.iadd, 1) := by decide +kernel
theorem dX3_isDetected_9 : decode cX3_isDetected 9 = .ok (.iload_n 2, 1) := by decide +kernel
theorem dX3_isDetected_10 : decode cX3_isDetected 10 = .ok (.iastore, 1) := by decide +kernel
theorem dX3_isDetected_11 : decode cX3_isDetected 11 = .ok (.aload_n 0, 1) := by decide +kernel
theorem dX3_isDetected_12 : decode cX3_isDetected 12 = .ok (.iload_n 3, 1) := by decide +kernel
theorem dX3_isDetected_13 : decode cX3_isDetected 13 = .ok (.iload 4, 2) := by decide +kernel
theorem dX3_isDetected_15 : decode cX3_isDetected 15 = .ok (.invokevirtual 111, 3) := by decide +kernel
theorem dX3_isDetected_18 : decode cX3_isDetected 18 = .ok (.istore 6, 2) := by decide +kernel
theorem dX3_isDetected_20 : decode cX3_isDetected 20 = .ok (.iload 5, 2) := by decide +kernel
theorem dX3_isDetected_22 : decode cX3_isDetected 22 = .ok (.ifCond .ne 9, 3) := by decide +kernel
theorem dX3_isDetected_25 : decode cX3_isDetected 25 = .ok (.iload 6, 2) := by decide +kernel
theorem dX3_isDetected_27 : decode cX3_isDetected 27 = .ok (.iconst 1, 1) := by decide +kernel
theorem dX3_isDetected_28 : decode cX3_isDetected 28 = .ok (.if_icmp .eq 14, 3) := by decide +kernel
theorem dX3_isDetected_31 : decode cX3_isDetected 31 = .ok (.iload 5, 2) := by decide +kernel
theorem dX3_isDetected_33 : decode cX3_isDetected 33 = .ok (.iconst 1, 1) := by decide +kernel
theorem dX3_isDetected_34 : decode cX3_isDetected 34 = .ok (.if_icmp .ne 12, 3) := by decide +kernel
theorem dX3_isDetected_37 : decode cX3_isDetected 37 = .ok (.iload 6, 2) := by decide +kernel
theorem dX3_isDetected_39 : decode cX3_isDetected 39 = .ok (.ifCond .ne 7, 3) := by decide +kernel
theorem dX3_isDetected_42 : decode cX3_isDetected 42 = .ok (.iconst 1, 1) := by decide +kernel
theorem dX3_isDetected_43 : decode cX3_isDetected 43 = .ok (.goto 4, 3) := by decide +kernel
theorem dX3_isDetected_46 : decode cX3_isDetected 46 = .ok (.iconst 0, 1) := by decide +kernel
theorem dX3_isDetected_47 : decode cX3_isDetected 47 = .ok (.ireturn, 1) := by decide +kernel
set_option maxRecDepth 20000 in
theorem ggX3_detects_X3_isTransistor : GoodIn wsX3_detects wsX3_isTransistor := goodIn_r _ [5, 6, 7, 8, 4, 9, 10, 11, 12, 13, 97, 98, 99, 100, 101, 102, 103, 104] (by decide +kernel) (by decide +kernel)
set_option maxRecDepth 20000 in
theorem gX3_detects_X3_isTransistor : GoodIn wsX3_detects (wsV RX3 61 RX3 yX3_isTransistor wsX3_isTransistor) := goodIn_app (goodIn_of _ (by decide +kernel)) ggX3_detects_X3_isTransistor
set_option maxRecDepth 20000 in
theorem ggX3_detects_X3_isNode : GoodIn wsX3_detects wsX3_isNode := goodIn_r _ [17, 18, 19, 20, 4, 21, 10, 11, 12, 13, 97, 98, 99, 100, 101, 102, 103, 104] (by decide +kernel) (by decide +kernel)
set_option maxRecDepth 20000 in
theorem gX3_detects_X3_isNode : GoodIn wsX3_detects (wsV RX3 50 RX3 yX3_isNode wsX3_isNode) := goodIn_app (goodIn_of _ (by decide +kernel)) ggX3_detects_X3_isNode
set_option maxRecDepth 20000 in
theorem ggX3_detects_X3_in : GoodIn wsX3_detects wsX3_in := goodIn_r _ [13] (by decide +kernel) (by decide +kernel)
set_option maxRecDepth 20000 in
theorem gX3_detects_X3_in : GoodIn wsX3_detects (va_wsS RX3 39 yX3_in wsX3_in) := goodIn_app (goodIn_of _ (by decide +kernel)) ggX3_detects_X3_in
set_option maxRecDepth 20000 in
theorem ggX3_detects_X3_isLimit : GoodIn wsX3_detects wsX3_isLimit := goodIn_r _ [24, 11, 12, 4, 13] (by decide +kernel) (by decide +kernel)
set_option maxRecDepth 20000 in
theorem gX3_detects_X3_isLimit : GoodIn wsX3_detects (va_wsS RX3 99 yX3_isLimit wsX3_isLimit) := goodIn_app (goodIn_of _ (by decide +kernel)) ggX3_detects_X3_isLimit
set_option maxRecDepth 20000 in
theorem ggX3_detects_X3_keep : GoodIn wsX3_detects wsX3_keep := goodIn_r _ [28, 29, 10, 97, 98, 99, 100, 101, 102, 103, 104] (by decide +kernel) (by decide +kernel)
set_option maxRecDepth 20000 in
theorem gX3_detects_X3_keep : GoodIn wsX3_detects (wsV RX3 105 RX3 yX3_keep wsX3_keep) := goodIn_app (goodIn_of _ (by decide +kernel)) ggX3_detects_X3_keep
set_option maxRecDepth 20000 in
theorem ggX3_detects_X3_settledValue : GoodIn wsX3_detects wsX3_settledValue := goodIn_r _ [33, 10, 34, 35, 36, 4, 37, 38, 39, 40, 41, 42, 43, 44, 45, 46, 47, 48, 49, 50, 51, 52, 6, 7, 8, 9, 53, 54, 55, 56, 57, 58, 59, 60, 61, 18, 19, 20, 21, 62, 63, 64, 65, 66, 67, 68, 69, 70, 71, 72, 73, 74, 75, 76, 77, 78, 79, 80, 81, 82, 83, 84, 85, 86, 87, 88, 89, 90, 91, 92, 29, 97, 98, 99, 100, 101, 102, 103, 104] (by decide +kernel) (by decide +kernel)
set_option maxRecDepth 20000 in
theorem gX3_detects_X3_settledValue : GoodIn wsX3_detects (wsV RX3 111 RX3 yX3_settledValue wsX3_settledValue) := goodIn_app (goodIn_of _ (by decide +kernel)) ggX3_detects_X3_settledValue
set_option maxRecDepth 20000 in
theorem ggX3_detects_X3_isDetected : GoodIn wsX3_detects wsX3_isDetected := goodIn_r _ [96, 10, 30, 31, 32, 4, 33, 34, 35, 36, 37, 38, 39, 40, 41, 42, 43, 44, 45, 46, 47, 48, 49, 50, 51, 52, 6, 7, 8, 9, 53, 54, 55, 56, 57, 58, 59, 60, 61, 18, 19, 20, 21, 62, 63, 64, 65, 66, 67, 68, 69, 70, 71, 72, 73, 74, 75, 76, 77, 78, 79, 80, 81, 82, 83, 84, 85, 86, 87, 88, 89, 90, 91, 92, 29, 97, 98, 99, 100, 101, 102, 103, 104] (by decide +kernel) (by decide +kernel)
set_option maxRecDepth 20000 in
theorem gX3_detects_X3_isDetected : GoodIn wsX3_detects (wsV RX3 114 RX3 yX3_isDetected wsX3_isDetected) := goodIn_app (goodIn_of _ (by decide +kernel)) ggX3_detects_X3_isDetected
theorem dX3_detects_0 : decode cX3_detects 0 = .ok (.aload_n 0, 1) := by decide +kernel
theorem dX3_detects_1 : decode cX3_detects 1 = .ok (.iload_n 1, 1) := by decide +kernel
theorem dX3_detects_2 : decode cX3_detects 2 = .ok (.invokevirtual 61, 3) := by decide +kernel
theorem dX3_detects_5 : decode cX3_detects 5 = .ok (.ifCond .ne 6, 3) := by decide +kernel
theorem dX3_detects_8 : decode cX3_detects 8 = .ok (.bipush (-2), 2) := by decide +kernel
theorem dX3_detects_10 : decode cX3_detects 10 = .ok (.ireturn, 1) := by decide +kernel
theorem dX3_detects_11 : decode cX3_detects 11 = .ok (.aload_n 0, 1) := by decide +kernel
theorem dX3_detects_12 : decode cX3_detects 12 = .ok (.iload_n 3, 1) := by decide +kernel
theorem dX3_detects_13 : decode cX3_detects 13 = .ok (.invokevirtual 50, 3) := by decide +kernel
theorem dX3_detects_16 : decode cX3_detects 16 = .ok (.ifCond .ne 5, 3) := by decide +kernel
theorem dX3_detects_19 : decode cX3_detects 19 = .ok (.iconst (-1), 1) := by decide +kernel
theorem dX3_detects_20 : decode cX3_detects 20 = .ok (.ireturn, 1) := by decide +kernel
theorem dX3_detects_21 : decode cX3_detects 21 = .ok (.iload_n 2, 1) := by decide +kernel
theorem dX3_detects_22 : decode cX3_detects 22 = .ok (.iconst 1, 1) := by decide +kernel
theorem dX3_detects_23 : decode cX3_detects 23 = .ok (.iconst 2, 1) := by decide +kernel
theorem dX3_detects_24 : decode cX3_detects 24 = .ok (.invokestatic 39, 3) := by decide +kernel
theorem dX3_detects_27 : decode cX3_detects 27 = .ok (.ifCond .eq 11, 3) := by decide +kernel
theorem dX3_detects_30 : decode cX3_detects 30 = .ok (.iload 4, 2) := by decide +kernel
theorem dX3_detects_32 : decode cX3_detects 32 = .ok (.invokestatic 99, 3) := by decide +kernel
theorem dX3_detects_35 : decode cX3_detects 35 = .ok (.ifCond .ne 6, 3) := by decide +kernel
theorem dX3_detects_38 : decode cX3_detects 38 = .ok (.bipush (-3), 2) := by decide +kernel
theorem dX3_detects_40 : decode cX3_detects 40 = .ok (.ireturn, 1) := by decide +kernel
theorem dX3_detects_41 : decode cX3_detects 41 = .ok (.aload_n 0, 1) := by decide +kernel
theorem dX3_detects_42 : decode cX3_detects 42 = .ok (.invokevirtual 105, 3) := by decide +kernel
theorem dX3_detects_45 : decode cX3_detects 45 = .ok (.aload_n 0, 1) := by decide +kernel
theorem dX3_detects_46 : decode cX3_detects 46 = .ok (.iload_n 3, 1) := by decide +kernel
theorem dX3_detects_47 : decode cX3_detects 47 = .ok (.iload 4, 2) := by decide +kernel
theorem dX3_detects_49 : decode cX3_detects 49 = .ok (.invokevirtual 111, 3) := by decide +kernel
theorem dX3_detects_52 : decode cX3_detects 52 = .ok (.istore 5, 2) := by decide +kernel
theorem dX3_detects_54 : decode cX3_detects 54 = .ok (.aload_n 0, 1) := by decide +kernel
theorem dX3_detects_55 : decode cX3_detects 55 = .ok (.iload_n 1, 1) := by decide +kernel
theorem dX3_detects_56 : decode cX3_detects 56 = .ok (.iload_n 2, 1) := by decide +kernel
theorem dX3_detects_57 : decode cX3_detects 57 = .ok (.iload_n 3, 1) := by decide +kernel
theorem dX3_detects_58 : decode cX3_detects 58 = .ok (.iload 4, 2) := by decide +kernel
theorem dX3_detects_60 : decode cX3_detects 60 = .ok (.iload 5, 2) := by decide +kernel
theorem dX3_detects_62 : decode cX3_detects 62 = .ok (.invokevirtual 114, 3) := by decide +kernel
theorem dX3_detects_65 : decode cX3_detects 65 = .ok (.ifCond .eq 7, 3) := by decide +kernel
theorem dX3_detects_68 : decode cX3_detects 68 = .ok (.iconst 1, 1) := by decide +kernel
theorem dX3_detects_69 : decode cX3_detects 69 = .ok (.goto 4, 3) := by decide +kernel
theorem dX3_detects_72 : decode cX3_detects 72 = .ok (.iconst 0, 1) := by decide +kernel
theorem dX3_detects_73 : decode cX3_detects 73 = .ok (.ireturn, 1) := by decide +kernel
set_option maxRecDepth 20000 in
theorem ggX3_detectedFaults_X3_isNode : GoodIn wsX3_detectedFaults wsX3_isNode := goodIn_r _ [5, 6, 7, 8, 4, 9, 10, 11, 12, 13, 93, 94, 95, 96, 97, 98, 99, 100] (by decide +kernel) (by decide +kernel)
set_option maxRecDepth 20000 in
theorem gX3_detectedFaults_X3_isNode : GoodIn wsX3_detectedFaults (wsV RX3 50 RX3 yX3_isNode wsX3_isNode) := goodIn_app (goodIn_of _ (by decide +kernel)) ggX3_detectedFaults_X3_isNode
set_option maxRecDepth 20000 in
theorem ggX3_detectedFaults_X3_isLimit : GoodIn wsX3_detectedFaults wsX3_isLimit := goodIn_r _ [16, 11, 12, 4, 13] (by decide +kernel) (by decide +kernel)
set_option maxRecDepth 20000 in
theorem gX3_detectedFaults_X3_isLimit : GoodIn wsX3_detectedFaults (va_wsS RX3 99 yX3_isLimit wsX3_isLimit) := goodIn_app (goodIn_of _ (by decide +kernel)) ggX3_detectedFaults_X3_isLimit
set_option maxRecDepth 20000 in
theorem ggX3_detectedFaults_X3_keep : GoodIn wsX3_detectedFaults wsX3_keep := goodIn_r _ [20, 21, 10, 93, 94, 95, 96, 97, 98, 99, 100] (by decide +kernel) (by decide +kernel)
set_option maxRecDepth 20000 in
theorem gX3_detectedFaults_X3_keep : GoodIn wsX3_detectedFaults (wsV RX3 105 RX3 yX3_keep wsX3_keep) := goodIn_app (goodIn_of _ (by decide +kernel)) ggX3_detectedFaults_X3_keep
set_option maxRecDepth 20000 in
theorem ggX3_detectedFaults_X3_settledValue : GoodIn wsX3_detectedFaults wsX3_settledValue := goodIn_r _ [25, 10, 26, 27, 28, 4, 29, 30, 31, 32, 33, 34, 35, 36, 37, 38, 39, 40, 41, 42, 43, 44, 45, 46, 47, 48, 49, 50, 51, 52, 53, 54, 55, 56, 57, 6, 7, 8, 9, 58, 59, 60, 61, 62, 63, 64, 65, 66, 67, 68, 69, 70, 71, 72, 73, 74, 75, 76, 77, 78, 79, 80, 81, 82, 83, 84, 85, 86, 87, 88, 21, 93, 94, 95, 96, 97, 98, 99, 100] (by decide +kernel) (by decide +kernel)
set_option maxRecDepth 20000 in
theorem gX3_detectedFaults_X3_settledValue : GoodIn wsX3_detectedFaults (wsV RX3 111 RX3 yX3_settledValue wsX3_settledValue) := goodIn_app (goodIn_of _ (by decide +kernel)) ggX3_detectedFaults_X3_settledValue
set_option maxRecDepth 20000 in
theorem ggX3_detectedFaults_X3_many : GoodIn wsX3_detectedFaults wsX3_many := goodIn_r _ [48, 10, 93, 94, 95, 96, 97, 98, 99, 100] (by decide +kernel) (by decide +kernel)
set_option maxRecDepth 20000 in
theorem gX3_detectedFaults_X3_many : GoodIn wsX3_detectedFaults (wsV RX3 43 RX3 yX3_many wsX3_many) := goodIn_app (goodIn_of _ (by decide +kernel)) ggX3_detectedFaults_X3_many
set_option maxRecDepth 20000 in
theorem ggX3_detectedFaults_X3_isDetected : GoodIn wsX3_detectedFaults wsX3_isDetected := goodIn_r _ [92, 10, 22, 23, 24, 4, 25, 26, 27, 28, 29, 30, 31, 32, 33, 34, 35, 36, 37, 38, 39, 40, 41, 42, 43, 44, 45, 46, 47, 48, 49, 50, 51, 52, 53, 54, 55, 56, 57, 6, 7, 8, 9, 58, 59, 60, 61, 62, 63, 64, 65, 66, 67, 68, 69, 70, 71, 72, 73, 74, 75, 76, 77, 78, 79, 80, 81, 82, 83, 84, 85, 86, 87, 88, 21, 93, 94, 95, 96, 97, 98, 99, 100] (by decide +kernel) (by decide +kernel)
set_option maxRecDepth 20000 in
theorem gX3_detectedFaults_X3_isDetected : GoodIn wsX3_detectedFaults (wsV RX3 114 RX3 yX3_isDetected wsX3_isDetected) := goodIn_app (goodIn_of _ (by decide +kernel)) ggX3_detectedFaults_X3_isDetected
theorem dX3_detectedFaults_0 : decode cX3_detectedFaults 0 = .ok (.aload_n 0, 1) := by decide +kernel
theorem dX3_detectedFaults_1 : decode cX3_detectedFaults 1 = .ok (.iload_n 1, 1) := by decide +kernel
theorem dX3_detectedFaults_2 : decode cX3_detectedFaults 2 = .ok (.invokevirtual 50, 3) := by decide +kernel
theorem dX3_detectedFaults_5 : decode cX3_detectedFaults 5 = .ok (.ifCond .ne 5, 3) := by decide +kernel
theorem dX3_detectedFaults_8 : decode cX3_detectedFaults 8 = .ok (.iconst (-1), 1) := by decide +kernel
theorem dX3_detectedFaults_9 : decode cX3_detectedFaults 9 = .ok (.ireturn, 1) := by decide +kernel
theorem dX3_detectedFaults_10 : decode cX3_detectedFaults 10 = .ok (.iload_n 2, 1) := by decide +kernel
theorem dX3_detectedFaults_11 : decode cX3_detectedFaults 11 = .ok (.invokestatic 99, 3) := by decide +kernel
theorem dX3_detectedFaults_14 : decode cX3_detectedFaults 14 = .ok (.ifCond .ne 6, 3) := by decide +kernel
theorem dX3_detectedFaults_17 : decode cX3_detectedFaults 17 = .ok (.bipush (-3), 2) := by decide +kernel
theorem dX3_detectedFaults_19 : decode cX3_detectedFaults 19 = .ok (.ireturn, 1) := by decide +kernel
theorem dX3_detectedFaults_20 : decode cX3_detectedFaults 20 = .ok (.aload_n 0, 1) := by decide +kernel
theorem dX3_detectedFaults_21 : decode cX3_detectedFaults 21 = .ok (.invokevirtual 105, 3) := by decide +kernel
theorem dX3_detectedFaults_24 : decode cX3_detectedFaults 24 = .ok (.aload_n 0, 1) := by decide +kernel
theorem dX3_detectedFaults_25 : decode cX3_detectedFaults 25 = .ok (.iload_n 1, 1) := by decide +kernel
theorem dX3_detectedFaults_26 : decode cX3_detectedFaults 26 = .ok (.iload_n 2, 1) := by decide +kernel
theorem dX3_detectedFaults_27 : decode cX3_detectedFaults 27 = .ok (.invokevirtual 111, 3) := by decide +kernel
theorem dX3_detectedFaults_30 : decode cX3_detectedFaults 30 = .ok (.istore_n 3, 1) := by decide +kernel
theorem dX3_detectedFaults_31 : decode cX3_detectedFaults 31 = .ok (.iconst 0, 1) := by decide +kernel
theorem dX3_detectedFaults_32 : decode cX3_detectedFaults 32 = .ok (.istore 4, 2) := by decide +kernel
theorem dX3_detectedFaults_34 : decode cX3_detectedFaults 34 = .ok (.iconst 0, 1) := by decide +kernel
theorem dX3_detectedFaults_35 : decode cX3_detectedFaults 35 = .ok (.istore 5, 2) := by decide +kernel
theorem dX3_detectedFaults_37 : decode cX3_detectedFaults 37 = .ok (.iload 5, 2) := by decide +kernel
theorem dX3_detectedFaults_39 : decode cX3_detectedFaults 39 = .ok (.iconst 2, 1) := by decide +kernel
theorem dX3_detectedFaults_40 : decode cX3_detectedFaults 40 = .ok (.aload_n 0, 1) := by decide +kernel
theorem dX3_detectedFaults_41 : decode cX3_detectedFaults 41 = .ok (.invokevirtual 43, 3) := by decide +kernel
theorem dX3_detectedFaults_44 : decode cX3_detectedFaults 44 = .ok (.imul, 1) := by decide +kernel
theorem dX3_detectedFaults_45 : decode cX3_detectedFaults 45 = .ok (.if_icmp .ge 39, 3) := by decide +kernel
theorem dX3_detectedFaults_48 : decode cX3_detectedFaults 48 = .ok (.iload 4, 2) := by decide +kernel
theorem dX3_detectedFaults_50 : decode cX3_detectedFaults 50 = .ok (.aload_n 0, 1) := by decide +kernel
theorem dX3_detectedFaults_51 : decode cX3_detectedFaults 51 = .ok (.iload 5, 2) := by decide +kernel
theorem dX3_detectedFaults_53 : decode cX3_detectedFaults 53 = .ok (.iconst 2, 1) := by decide +kernel
theorem dX3_detectedFaults_54 : decode cX3_detectedFaults 54 = .ok (.idiv, 1) := by decide +kernel
theorem dX3_detectedFaults_55 : decode cX3_detectedFaults 55 = .ok (.iload 5, 2) := by decide +kernel
theorem dX3_detectedFaults_57 : decode cX3_detectedFaults 57 = .ok (.iconst 2, 1) := by decide +kernel
theorem dX3_detectedFaults_58 : decode cX3_detectedFaults 58 = .ok (.irem, 1) := by decide +kernel
theorem dX3_detectedFaults_59 : decode cX3_detectedFaults 59 = .ok (.iconst 1, 1) := by decide +kernel
theorem dX3_detectedFaults_60 : decode cX3_detectedFaults 60 = .ok (.iadd, 1) := by decide +kernel
theorem dX3_detectedFaults_61 : decode cX3_detectedFaults 61 = .ok (.iload_n 1, 1) := by decide +kernel
theorem dX3_detectedFaults_62 : decode cX3_detectedFaults 62 = .ok (.iload_n 2, 1) := by decide +kernel
theorem dX3_detectedFaults_63 : decode cX3_detectedFaults 63 = .ok (.iload_n 3, 1) := by decide +kernel
theorem dX3_detectedFaults_64 : decode cX3_detectedFaults 64 = .ok (.invokevirtual 114, 3) := by decide +kernel
theorem dX3_detectedFaults_67 : decode cX3_detectedFaults 67 = .ok (.ifCond .eq 7, 3) := by decide +kernel
theorem dX3_detectedFaults_70 : decode cX3_detectedFaults 70 = .ok (.iconst 1, 1) := by decide +kernel
theorem dX3_detectedFaults_71 : decode cX3_detectedFaults 71 = .ok (.goto 4, 3) := by decide +kernel
theorem dX3_detectedFaults_74 : decode cX3_detectedFaults 74 = .ok (.iconst 0, 1) := by decide +kernel
theorem dX3_detectedFaults_75 : decode cX3_detectedFaults 75 = .ok (.iadd, 1) := by decide +kernel
theorem dX3_detectedFaults_76 : decode cX3_detectedFaults 76 = .ok (.istore 4, 2) := by decide +kernel
theorem dX3_detectedFaults_78 : decode cX3_detectedFaults 78 = .ok (.iinc 5 1, 3) := by decide +kernel
theorem dX3_detectedFaults_81 : decode cX3_detectedFaults 81 = .ok (.goto (-44), 3) := by decide +kernel
theorem dX3_detectedFaults_84 : decode cX3_detectedFaults 84 = .ok (.iload 4, 2) := by decide +kernel
theorem dX3_detectedFaults_86 : decode cX3_detectedFaults 86 = .ok (.ireturn, 1) := by decide +kernel
set_option maxRecDepth 20000 in
theorem ggX3_save_X3_in : GoodIn wsX3_save wsX3_in := goodIn_r _ [7] (by decide +kernel) (by decide +kernel)
set_option maxRecDepth 20000 in
theorem gX3_save_X3_in : GoodIn wsX3_save (va_wsS RX3 39 yX3_in wsX3_in) := goodIn_app (goodIn_of _ (by decide +kernel)) ggX3_save_X3_in
set_option maxRecDepth 20000 in
theorem ggX3_save_X3_nodes : GoodIn wsX3_save wsX3_nodes := goodIn_r _ [11, 2, 12, 13, 14, 15, 16, 17, 18, 19] (by decide +kernel) (by decide +kernel)
set_option maxRecDepth 20000 in
theorem gX3_save_X3_nodes : GoodIn wsX3_save (wsV RX3 35 RX3 yX3_nodes wsX3_nodes) := goodIn_app (goodIn_of _ (by decide +kernel)) ggX3_save_X3_nodes
theorem dX3_save_0 : decode cX3_save 0 = .ok (.iload_n 1, 1) := by decide +kernel
theorem dX3_save_1 : decode cX3_save 1 = .ok (.iconst 0, 1) := by decide +kernel
theorem dX3_save_2 : decode cX3_save 2 = .ok (.iconst 1, 1) := by decide +kernel
theorem dX3_save_3 : decode cX3_save 3 = .ok (.invokestatic 39, 3) := by decide +kernel
theorem dX3_save_6 : decode cX3_save 6 = .ok (.ifCond .ne 6, 3) := by decide +kernel
theorem dX3_save_9 : decode cX3_save 9 = .ok (.bipush (-3), 2) := by decide +kernel
theorem dX3_save_11 : decode cX3_save 11 = .ok (.ireturn, 1) := by decide +kernel
theorem dX3_save_12 : decode cX3_save 12 = .ok (.iconst 0, 1) := by decide +kernel
theorem dX3_save_13 : decode cX3_save 13 = .ok (.istore_n 2, 1) := by decide +kernel
theorem dX3_save_14 : decode cX3_save 14 = .ok (.iload_n 2, 1) := by decide +kernel
theorem dX3_save_15 : decode cX3_save 15 = .ok (.sipush 290, 3) := by decide +kernel
theorem dX3_save_18 : decode cX3_save 18 = .ok (.if_icmp .ge 27, 3) := by decide +kernel
theorem dX3_save_21 : decode cX3_save 21 = .ok (.aload_n 0, 1) := by decide +kernel
theorem dX3_save_22 : decode cX3_save 22 = .ok (.getfield 13, 3) := by decide +kernel
theorem dX3_save_25 : decode cX3_save 25 = .ok (.sipush 290, 3) := by decide +kernel
theorem dX3_save_28 : decode cX3_save 28 = .ok (.iload_n 1, 1) := by decide +kernel
theorem dX3_save_29 : decode cX3_save 29 = .ok (.imul, 1) := by decide +kernel
theorem dX3_save_30 : decode cX3_save 30 = .ok (.iload_n 2, 1) := by decide +kernel
theorem dX3_save_31 : decode cX3_save 31 = .ok (.iadd, 1) := by decide +kernel
theorem dX3_save_32 : decode cX3_save 32 = .ok (.aload_n 0, 1) := by decide +kernel
theorem dX3_save_33 : decode cX3_save 33 = .ok (.getfield 7, 3) := by decide +kernel
theorem dX3_save_36 : decode cX3_save 36 = .ok (.iload_n 2, 1) := by decide +kernel
theorem dX3_save_37 : decode cX3_save 37 = .ok (.iaload, 1) := by decide +kernel
theorem dX3_save_38 : decode cX3_save 38 = .ok (.iastore, 1) := by decide +kernel
theorem dX3_save_39 : decode cX3_save 39 = .ok (.iinc 2 1, 3) := by decide +kernel
theorem dX3_save_42 : decode cX3_save 42 = .ok (.goto (-28), 3) := by decide +kernel
theorem dX3_save_45 : decode cX3_save 45 = .ok (.aload_n 0, 1) := by decide +kernel
theorem dX3_save_46 : decode cX3_save 46 = .ok (.getfield 16, 3) := by decide +kernel
theorem dX3_save_49 : decode cX3_save 49 = .ok (.iload_n 1, 1) := by decide +kernel
theorem dX3_save_50 : decode cX3_save 50 = .ok (.iconst 1, 1) := by decide +kernel
theorem dX3_save_51 : decode cX3_save 51 = .ok (.bastore, 1) := by decide +kernel
theorem dX3_save_52 : decode cX3_save 52 = .ok (.aload_n 0, 1) := by decide +kernel
theorem dX3_save_53 : decode cX3_save 53 = .ok (.invokevirtual 35, 3) := by decide +kernel
theorem dX3_save_56 : decode cX3_save 56 = .ok (.ireturn, 1) := by decide +kernel
set_option maxRecDepth 20000 in
theorem ggX3_restore_X3_in : GoodIn wsX3_restore wsX3_in := goodIn_r _ [7] (by decide +kernel) (by decide +kernel)
set_option maxRecDepth 20000 in
theorem gX3_restore_X3_in : GoodIn wsX3_restore (va_wsS RX3 39 yX3_in wsX3_in) := goodIn_app (goodIn_of _ (by decide +kernel)) ggX3_restore_X3_in
set_option maxRecDepth 20000 in
theorem ggX3_restore_X3_nodes : GoodIn wsX3_restore wsX3_nodes := goodIn_r _ [11, 2, 12, 13, 14, 15, 16, 17, 18, 19] (by decide +kernel) (by decide +kernel)
set_option maxRecDepth 20000 in
theorem gX3_restore_X3_nodes : GoodIn wsX3_restore (wsV RX3 35 RX3 yX3_nodes wsX3_nodes) := goodIn_app (goodIn_of _ (by decide +kernel)) ggX3_restore_X3_nodes
theorem dX3_restore_0 : decode cX3_restore 0 = .ok (.iload_n 1, 1) := by decide +kernel
theorem dX3_restore_1 : decode cX3_restore 1 = .ok (.iconst 0, 1) := by decide +kernel
theorem dX3_restore_2 : decode cX3_restore 2 = .ok (.iconst 1, 1) := by decide +kernel
theorem dX3_restore_3 : decode cX3_restore 3 = .ok (.invokestatic 39, 3) := by decide +kernel
theorem dX3_restore_6 : decode cX3_restore 6 = .ok (.ifCond .ne 6, 3) := by decide +kernel
theorem dX3_restore_9 : decode cX3_restore 9 = .ok (.bipush (-3), 2) := by decide +kernel
theorem dX3_restore_11 : decode cX3_restore 11 = .ok (.ireturn, 1) := by decide +kernel
theorem dX3_restore_12 : decode cX3_restore 12 = .ok (.aload_n 0, 1) := by decide +kernel
theorem dX3_restore_13 : decode cX3_restore 13 = .ok (.getfield 16, 3) := by decide +kernel
theorem dX3_restore_16 : decode cX3_restore 16 = .ok (.iload_n 1, 1) := by decide +kernel
theorem dX3_restore_17 : decode cX3_restore 17 = .ok (.baload, 1) := by decide +kernel
theorem dX3_restore_18 : decode cX3_restore 18 = .ok (.ifCond .ne 6, 3) := by decide +kernel
theorem dX3_restore_21 : decode cX3_restore 21 = .ok (.bipush (-9), 2) := by decide +kernel
theorem dX3_restore_23 : decode cX3_restore 23 = .ok (.ireturn, 1) := by decide +kernel
theorem dX3_restore_24 : decode cX3_restore 24 = .ok (.iconst 0, 1) := by decide +kernel
theorem dX3_restore_25 : decode cX3_restore 25 = .ok (.istore_n 2, 1) := by decide +kernel
theorem dX3_restore_26 : decode cX3_restore 26 = .ok (.iload_n 2, 1) := by decide +kernel
theorem dX3_restore_27 : decode cX3_restore 27 = .ok (.sipush 290, 3) := by decide +kernel
theorem dX3_restore_30 : decode cX3_restore 30 = .ok (.if_icmp .ge 27, 3) := by decide +kernel
theorem dX3_restore_33 : decode cX3_restore 33 = .ok (.aload_n 0, 1) := by decide +kernel
theorem dX3_restore_34 : decode cX3_restore 34 = .ok (.getfield 7, 3) := by decide +kernel
theorem dX3_restore_37 : decode cX3_restore 37 = .ok (.iload_n 2, 1) := by decide +kernel
theorem dX3_restore_38 : decode cX3_restore 38 = .ok (.aload_n 0, 1) := by decide +kernel
theorem dX3_restore_39 : decode cX3_restore 39 = .ok (.getfield 13, 3) := by decide +kernel
theorem dX3_restore_42 : decode cX3_restore 42 = .ok (.sipush 290, 3) := by decide +kernel
theorem dX3_restore_45 : decode cX3_restore 45 = .ok (.iload_n 1, 1) := by decide +kernel
theorem dX3_restore_46 : decode cX3_restore 46 = .ok (.imul, 1) := by decide +kernel
theorem dX3_restore_47 : decode cX3_restore 47 = .ok (.iload_n 2, 1) := by decide +kernel
theorem dX3_restore_48 : decode cX3_restore 48 = .ok (.iadd, 1) := by decide +kernel
theorem dX3_restore_49 : decode cX3_restore 49 = .ok (.iaload, 1) := by decide +kernel
theorem dX3_restore_50 : decode cX3_restore 50 = .ok (.iastore, 1) := by decide +kernel
theorem dX3_restore_51 : decode cX3_restore 51 = .ok (.iinc 2 1, 3) := by decide +kernel
theorem dX3_restore_54 : decode cX3_restore 54 = .ok (.goto (-28), 3) := by decide +kernel
theorem dX3_restore_57 : decode cX3_restore 57 = .ok (.aload_n 0, 1) := by decide +kernel
theorem dX3_restore_58 : decode cX3_restore 58 = .ok (.invokevirtual 35, 3) := by decide +kernel
theorem dX3_restore_61 : decode cX3_restore 61 = .ok (.ireturn, 1) := by decide +kernel
