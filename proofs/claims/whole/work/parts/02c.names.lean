theorem dX1_init_0 : decode cX1_init 0 = .ok (.aload_n 0, 1) := by decide +kernel
theorem dX1_init_1 : decode cX1_init 1 = .ok (.invokespecial 3, 3) := by decide +kernel
theorem dX1_init_4 : decode cX1_init 4 = .ok (.aload_n 0, 1) := by decide +kernel
theorem dX1_init_5 : decode cX1_init 5 = .ok (.bipush 8, 2) := by decide +kernel
theorem dX1_init_7 : decode cX1_init 7 = .ok (.newarray .int, 2) := by decide +kernel
theorem dX1_init_9 : decode cX1_init 9 = .ok (.putfield 9, 3) := by decide +kernel
theorem dX1_init_12 : decode cX1_init 12 = .ok (.aload_n 0, 1) := by decide +kernel
theorem dX1_init_13 : decode cX1_init 13 = .ok (.bipush 8, 2) := by decide +kernel
theorem dX1_init_15 : decode cX1_init 15 = .ok (.newarray .int, 2) := by decide +kernel
theorem dX1_init_17 : decode cX1_init 17 = .ok (.putfield 15, 3) := by decide +kernel
theorem dX1_init_20 : decode cX1_init 20 = .ok (.aload_n 0, 1) := by decide +kernel
theorem dX1_init_21 : decode cX1_init 21 = .ok (.bipush 8, 2) := by decide +kernel
theorem dX1_init_23 : decode cX1_init 23 = .ok (.newarray .int, 2) := by decide +kernel
theorem dX1_init_25 : decode cX1_init 25 = .ok (.putfield 18, 3) := by decide +kernel
theorem dX1_init_28 : decode cX1_init 28 = .ok (.aload_n 0, 1) := by decide +kernel
theorem dX1_init_29 : decode cX1_init 29 = .ok (.iconst 4, 1) := by decide +kernel
theorem dX1_init_30 : decode cX1_init 30 = .ok (.bipush 24, 2) := by decide +kernel
theorem dX1_init_32 : decode cX1_init 32 = .ok (.multianewarray 21 2, 4) := by decide +kernel
theorem dX1_init_36 : decode cX1_init 36 = .ok (.putfield 23, 3) := by decide +kernel
theorem dX1_init_39 : decode cX1_init 39 = .ok (.aload_n 0, 1) := by decide +kernel
theorem dX1_init_40 : decode cX1_init 40 = .ok (.iconst 4, 1) := by decide +kernel
theorem dX1_init_41 : decode cX1_init 41 = .ok (.bipush 24, 2) := by decide +kernel
theorem dX1_init_43 : decode cX1_init 43 = .ok (.multianewarray 21 2, 4) := by decide +kernel
theorem dX1_init_47 : decode cX1_init 47 = .ok (.putfield 26, 3) := by decide +kernel
theorem dX1_init_50 : decode cX1_init 50 = .ok (.return_, 1) := by decide +kernel
set_option maxRecDepth 20000 in
theorem ggX1_find_X1_findNeighbors : GoodIn wsX1_find wsX1_findNeighbors := goodIn_r _ [9, 10, 11, 12, 13, 14, 15, 16, 17, 18, 19, 20, 21, 22, 23, 24, 25, 26, 27, 28, 29, 8, 30, 31, 32, 33, 66, 67, 68, 69, 70, 71, 72, 73, 74, 75, 76, 77, 78, 61, 62, 63, 64, 65] (by decide +kernel) (by decide +kernel)
set_option maxRecDepth 20000 in
theorem gX1_find_X1_findNeighbors : GoodIn wsX1_find (wsV RX1 29 RX1 yX1_findNeighbors wsX1_findNeighbors) := goodIn_app (goodIn_of _ (by decide +kernel)) ggX1_find_X1_findNeighbors
set_option maxRecDepth 20000 in
theorem ggX1_find_X1_findDefinite : GoodIn wsX1_find wsX1_findDefinite := goodIn_r _ [37, 38, 39, 40, 11, 41, 42, 43, 8, 44, 45, 46, 47, 48, 49, 50, 51, 52, 53, 54, 55, 56, 61, 62, 63, 64, 65, 66, 67, 68, 69, 70, 71, 72, 73, 74, 75, 76, 77, 78] (by decide +kernel) (by decide +kernel)
set_option maxRecDepth 20000 in
theorem gX1_find_X1_findDefinite : GoodIn wsX1_find (wsV RX1 33 RX1 yX1_findDefinite wsX1_findDefinite) := goodIn_app (goodIn_of _ (by decide +kernel)) ggX1_find_X1_findDefinite
set_option maxRecDepth 20000 in
theorem ggX1_find_X1_findSide : GoodIn wsX1_find wsX1_findSide := goodIn_r _ [60, 39, 41, 38, 40, 12, 42, 43, 8, 44, 45, 46, 47, 48, 49, 50, 51, 52, 53, 54, 55, 56, 66, 67, 68, 69, 70, 71, 72, 73, 74, 75, 76, 77, 78, 61, 62, 63, 64, 65] (by decide +kernel) (by decide +kernel)
set_option maxRecDepth 20000 in
theorem gX1_find_X1_findSide : GoodIn wsX1_find (wsV RX1 42 RX1 yX1_findSide wsX1_findSide) := goodIn_app (goodIn_of _ (by decide +kernel)) ggX1_find_X1_findSide
theorem dX1_find_0 : decode cX1_find 0 = .ok (.aload_n 0, 1) := by decide +kernel
theorem dX1_find_1 : decode cX1_find 1 = .ok (.aload_n 1, 1) := by decide +kernel
theorem dX1_find_2 : decode cX1_find 2 = .ok (.invokevirtual 29, 3) := by decide +kernel
theorem dX1_find_5 : decode cX1_find 5 = .ok (.aload_n 0, 1) := by decide +kernel
theorem dX1_find_6 : decode cX1_find 6 = .ok (.aload_n 1, 1) := by decide +kernel
theorem dX1_find_7 : decode cX1_find 7 = .ok (.invokevirtual 33, 3) := by decide +kernel
theorem dX1_find_10 : decode cX1_find 10 = .ok (.aload_n 0, 1) := by decide +kernel
theorem dX1_find_11 : decode cX1_find 11 = .ok (.aload_n 0, 1) := by decide +kernel
theorem dX1_find_12 : decode cX1_find 12 = .ok (.getfield 15, 3) := by decide +kernel
theorem dX1_find_15 : decode cX1_find 15 = .ok (.aload_n 1, 1) := by decide +kernel
theorem dX1_find_16 : decode cX1_find 16 = .ok (.getfield 36, 3) := by decide +kernel
theorem dX1_find_19 : decode cX1_find 19 = .ok (.aload_n 1, 1) := by decide +kernel
theorem dX1_find_20 : decode cX1_find 20 = .ok (.invokevirtual 42, 3) := by decide +kernel
theorem dX1_find_23 : decode cX1_find 23 = .ok (.aload_n 0, 1) := by decide +kernel
theorem dX1_find_24 : decode cX1_find 24 = .ok (.aload_n 0, 1) := by decide +kernel
theorem dX1_find_25 : decode cX1_find 25 = .ok (.getfield 18, 3) := by decide +kernel
theorem dX1_find_28 : decode cX1_find 28 = .ok (.aload_n 1, 1) := by decide +kernel
theorem dX1_find_29 : decode cX1_find 29 = .ok (.getfield 46, 3) := by decide +kernel
theorem dX1_find_32 : decode cX1_find 32 = .ok (.aload_n 1, 1) := by decide +kernel
theorem dX1_find_33 : decode cX1_find 33 = .ok (.invokevirtual 42, 3) := by decide +kernel
theorem dX1_find_36 : decode cX1_find 36 = .ok (.return_, 1) := by decide +kernel
set_option maxRecDepth 20000 in
theorem ggX1_definiteLevel_X1_levelIn : GoodIn wsX1_definiteLevel wsX1_levelIn := goodIn_r _ [5] (by decide +kernel) (by decide +kernel)
set_option maxRecDepth 20000 in
theorem gX1_definiteLevel_X1_levelIn : GoodIn wsX1_definiteLevel (va_wsS RX1 49 yX1_levelIn wsX1_levelIn) := goodIn_app (goodIn_of _ (by decide +kernel)) ggX1_definiteLevel_X1_levelIn
theorem dX1_definiteLevel_0 : decode cX1_definiteLevel 0 = .ok (.aload_n 0, 1) := by decide +kernel
theorem dX1_definiteLevel_1 : decode cX1_definiteLevel 1 = .ok (.getfield 9, 3) := by decide +kernel
theorem dX1_definiteLevel_4 : decode cX1_definiteLevel 4 = .ok (.iload_n 1, 1) := by decide +kernel
theorem dX1_definiteLevel_5 : decode cX1_definiteLevel 5 = .ok (.invokestatic 49, 3) := by decide +kernel
theorem dX1_definiteLevel_8 : decode cX1_definiteLevel 8 = .ok (.ireturn, 1) := by decide +kernel
set_option maxRecDepth 20000 in
theorem ggX1_upLevel_X1_levelIn : GoodIn wsX1_upLevel wsX1_levelIn := goodIn_r _ [5] (by decide +kernel) (by decide +kernel)
set_option maxRecDepth 20000 in
theorem gX1_upLevel_X1_levelIn : GoodIn wsX1_upLevel (va_wsS RX1 49 yX1_levelIn wsX1_levelIn) := goodIn_app (goodIn_of _ (by decide +kernel)) ggX1_upLevel_X1_levelIn
theorem dX1_upLevel_0 : decode cX1_upLevel 0 = .ok (.aload_n 0, 1) := by decide +kernel
theorem dX1_upLevel_1 : decode cX1_upLevel 1 = .ok (.getfield 15, 3) := by decide +kernel
theorem dX1_upLevel_4 : decode cX1_upLevel 4 = .ok (.iload_n 1, 1) := by decide +kernel
theorem dX1_upLevel_5 : decode cX1_upLevel 5 = .ok (.invokestatic 49, 3) := by decide +kernel
theorem dX1_upLevel_8 : decode cX1_upLevel 8 = .ok (.ireturn, 1) := by decide +kernel
set_option maxRecDepth 20000 in
theorem ggX1_downLevel_X1_levelIn : GoodIn wsX1_downLevel wsX1_levelIn := goodIn_r _ [5] (by decide +kernel) (by decide +kernel)
set_option maxRecDepth 20000 in
theorem gX1_downLevel_X1_levelIn : GoodIn wsX1_downLevel (va_wsS RX1 49 yX1_levelIn wsX1_levelIn) := goodIn_app (goodIn_of _ (by decide +kernel)) ggX1_downLevel_X1_levelIn
theorem dX1_downLevel_0 : decode cX1_downLevel 0 = .ok (.aload_n 0, 1) := by decide +kernel
theorem dX1_downLevel_1 : decode cX1_downLevel 1 = .ok (.getfield 18, 3) := by decide +kernel
theorem dX1_downLevel_4 : decode cX1_downLevel 4 = .ok (.iload_n 1, 1) := by decide +kernel
theorem dX1_downLevel_5 : decode cX1_downLevel 5 = .ok (.invokestatic 49, 3) := by decide +kernel
theorem dX1_downLevel_8 : decode cX1_downLevel 8 = .ok (.ireturn, 1) := by decide +kernel
theorem dX1_changesOf_0 : decode cX1_changesOf 0 = .ok (.aload_n 0, 1) := by decide +kernel
theorem dX1_changesOf_1 : decode cX1_changesOf 1 = .ok (.getfield 15, 3) := by decide +kernel
theorem dX1_changesOf_4 : decode cX1_changesOf 4 = .ok (.iconst 1, 1) := by decide +kernel
theorem dX1_changesOf_5 : decode cX1_changesOf 5 = .ok (.iaload, 1) := by decide +kernel
theorem dX1_changesOf_6 : decode cX1_changesOf 6 = .ok (.aload_n 1, 1) := by decide +kernel
theorem dX1_changesOf_7 : decode cX1_changesOf 7 = .ok (.getfield 36, 3) := by decide +kernel
theorem dX1_changesOf_10 : decode cX1_changesOf 10 = .ok (.ixor, 1) := by decide +kernel
theorem dX1_changesOf_11 : decode cX1_changesOf 11 = .ok (.aload_n 0, 1) := by decide +kernel
theorem dX1_changesOf_12 : decode cX1_changesOf 12 = .ok (.getfield 18, 3) := by decide +kernel
theorem dX1_changesOf_15 : decode cX1_changesOf 15 = .ok (.iconst 1, 1) := by decide +kernel
theorem dX1_changesOf_16 : decode cX1_changesOf 16 = .ok (.iaload, 1) := by decide +kernel
theorem dX1_changesOf_17 : decode cX1_changesOf 17 = .ok (.aload_n 1, 1) := by decide +kernel
theorem dX1_changesOf_18 : decode cX1_changesOf 18 = .ok (.getfield 46, 3) := by decide +kernel
theorem dX1_changesOf_21 : decode cX1_changesOf 21 = .ok (.ixor, 1) := by decide +kernel
theorem dX1_changesOf_22 : decode cX1_changesOf 22 = .ok (.ior, 1) := by decide +kernel
theorem dX1_changesOf_23 : decode cX1_changesOf 23 = .ok (.ireturn, 1) := by decide +kernel
theorem dX1_putInto_0 : decode cX1_putInto 0 = .ok (.aload_n 1, 1) := by decide +kernel
theorem dX1_putInto_1 : decode cX1_putInto 1 = .ok (.aload_n 0, 1) := by decide +kernel
theorem dX1_putInto_2 : decode cX1_putInto 2 = .ok (.getfield 15, 3) := by decide +kernel
theorem dX1_putInto_5 : decode cX1_putInto 5 = .ok (.iconst 1, 1) := by decide +kernel
theorem dX1_putInto_6 : decode cX1_putInto 6 = .ok (.iaload, 1) := by decide +kernel
theorem dX1_putInto_7 : decode cX1_putInto 7 = .ok (.putfield 36, 3) := by decide +kernel
theorem dX1_putInto_10 : decode cX1_putInto 10 = .ok (.aload_n 1, 1) := by decide +kernel
theorem dX1_putInto_11 : decode cX1_putInto 11 = .ok (.aload_n 0, 1) := by decide +kernel
theorem dX1_putInto_12 : decode cX1_putInto 12 = .ok (.getfield 18, 3) := by decide +kernel
theorem dX1_putInto_15 : decode cX1_putInto 15 = .ok (.iconst 1, 1) := by decide +kernel
theorem dX1_putInto_16 : decode cX1_putInto 16 = .ok (.iaload, 1) := by decide +kernel
theorem dX1_putInto_17 : decode cX1_putInto 17 = .ok (.putfield 46, 3) := by decide +kernel
theorem dX1_putInto_20 : decode cX1_putInto 20 = .ok (.return_, 1) := by decide +kernel
set_option maxRecDepth 20000 in
theorem ggX1_storageAround_X1_findNeighbors : GoodIn wsX1_storageAround wsX1_findNeighbors := goodIn_r _ [7, 8, 9, 1, 10, 11, 12, 13, 14, 15, 16, 17, 18, 19, 20, 21, 22, 23, 24, 25, 26, 6, 27, 28, 29, 30, 44, 45, 46, 47, 48, 49, 50, 51, 52, 53, 54, 55, 56, 39, 40, 41, 42, 43] (by decide +kernel) (by decide +kernel)
set_option maxRecDepth 20000 in
theorem gX1_storageAround_X1_findNeighbors : GoodIn wsX1_storageAround (wsV RX1 29 RX1 yX1_findNeighbors wsX1_findNeighbors) := goodIn_app (goodIn_of _ (by decide +kernel)) ggX1_storageAround_X1_findNeighbors
set_option maxRecDepth 20000 in
theorem ggX1_storageAround_X1_reach : GoodIn wsX1_storageAround wsX1_reach := goodIn_r _ [33, 34, 35, 36, 37, 38] (by decide +kernel) (by decide +kernel)
set_option maxRecDepth 20000 in
theorem gX1_storageAround_X1_reach : GoodIn wsX1_storageAround (va_wsS RX1 56 yX1_reach wsX1_reach) := goodIn_app (goodIn_of _ (by decide +kernel)) ggX1_storageAround_X1_reach
theorem dX1_storageAround_0 : decode cX1_storageAround 0 = .ok (.aload_n 0, 1) := by decide +kernel
theorem dX1_storageAround_1 : decode cX1_storageAround 1 = .ok (.aload_n 2, 1) := by decide +kernel
theorem dX1_storageAround_2 : decode cX1_storageAround 2 = .ok (.invokevirtual 29, 3) := by decide +kernel
theorem dX1_storageAround_5 : decode cX1_storageAround 5 = .ok (.iconst 1, 1) := by decide +kernel
theorem dX1_storageAround_6 : decode cX1_storageAround 6 = .ok (.iload_n 1, 1) := by decide +kernel
theorem dX1_storageAround_7 : decode cX1_storageAround 7 = .ok (.ishl, 1) := by decide +kernel
theorem dX1_storageAround_8 : decode cX1_storageAround 8 = .ok (.aload_n 0, 1) := by decide +kernel
theorem dX1_storageAround_9 : decode cX1_storageAround 9 = .ok (.getfield 26, 3) := by decide +kernel
theorem dX1_storageAround_12 : decode cX1_storageAround 12 = .ok (.iconst 1, 1) := by decide +kernel
theorem dX1_storageAround_13 : decode cX1_storageAround 13 = .ok (.aaload, 1) := by decide +kernel
theorem dX1_storageAround_14 : decode cX1_storageAround 14 = .ok (.aload_n 2, 1) := by decide +kernel
theorem dX1_storageAround_15 : decode cX1_storageAround 15 = .ok (.getfield 53, 3) := by decide +kernel
theorem dX1_storageAround_18 : decode cX1_storageAround 18 = .ok (.invokestatic 56, 3) := by decide +kernel
theorem dX1_storageAround_21 : decode cX1_storageAround 21 = .ok (.ireturn, 1) := by decide +kernel
set_option maxRecDepth 20000 in
theorem ggX1_findDefinite_X1_strengthPassing : GoodIn wsX1_findDefinite wsX1_strengthPassing := goodIn_r _ [9, 10, 11, 12, 13] (by decide +kernel) (by decide +kernel)
set_option maxRecDepth 20000 in
theorem gX1_findDefinite_X1_strengthPassing : GoodIn wsX1_findDefinite (va_wsS RX1 66 yX1_strengthPassing wsX1_strengthPassing) := goodIn_app (goodIn_of _ (by decide +kernel)) ggX1_findDefinite_X1_strengthPassing
set_option maxRecDepth 20000 in
theorem ggX1_findDefinite_X1_reach : GoodIn wsX1_findDefinite wsX1_reach := goodIn_r _ [16, 17, 18, 19, 20, 21] (by decide +kernel) (by decide +kernel)
set_option maxRecDepth 20000 in
theorem gX1_findDefinite_X1_reach : GoodIn wsX1_findDefinite (va_wsS RX1 56 yX1_reach wsX1_reach) := goodIn_app (goodIn_of _ (by decide +kernel)) ggX1_findDefinite_X1_reach
theorem dX1_findDefinite_0 : decode cX1_findDefinite 0 = .ok (.aload_n 0, 1) := by decide +kernel
theorem dX1_findDefinite_1 : decode cX1_findDefinite 1 = .ok (.getfield 9, 3) := by decide +kernel
theorem dX1_findDefinite_4 : decode cX1_findDefinite 4 = .ok (.bipush 7, 2) := by decide +kernel
theorem dX1_findDefinite_6 : decode cX1_findDefinite 6 = .ok (.aload_n 1, 1) := by decide +kernel
theorem dX1_findDefinite_7 : decode cX1_findDefinite 7 = .ok (.getfield 60, 3) := by decide +kernel
theorem dX1_findDefinite_10 : decode cX1_findDefinite 10 = .ok (.iastore, 1) := by decide +kernel
theorem dX1_findDefinite_11 : decode cX1_findDefinite 11 = .ok (.bipush 6, 2) := by decide +kernel
theorem dX1_findDefinite_13 : decode cX1_findDefinite 13 = .ok (.istore_n 2, 1) := by decide +kernel
theorem dX1_findDefinite_14 : decode cX1_findDefinite 14 = .ok (.iload_n 2, 1) := by decide +kernel
theorem dX1_findDefinite_15 : decode cX1_findDefinite 15 = .ok (.iconst 1, 1) := by decide +kernel
theorem dX1_findDefinite_16 : decode cX1_findDefinite 16 = .ok (.if_icmp .lt 48, 3) := by decide +kernel
theorem dX1_findDefinite_19 : decode cX1_findDefinite 19 = .ok (.aload_n 0, 1) := by decide +kernel
theorem dX1_findDefinite_20 : decode cX1_findDefinite 20 = .ok (.getfield 9, 3) := by decide +kernel
theorem dX1_findDefinite_23 : decode cX1_findDefinite 23 = .ok (.iload_n 2, 1) := by decide +kernel
theorem dX1_findDefinite_24 : decode cX1_findDefinite 24 = .ok (.iconst 1, 1) := by decide +kernel
theorem dX1_findDefinite_25 : decode cX1_findDefinite 25 = .ok (.iadd, 1) := by decide +kernel
theorem dX1_findDefinite_26 : decode cX1_findDefinite 26 = .ok (.iaload, 1) := by decide +kernel
theorem dX1_findDefinite_27 : decode cX1_findDefinite 27 = .ok (.aload_n 1, 1) := by decide +kernel
theorem dX1_findDefinite_28 : decode cX1_findDefinite 28 = .ok (.getfield 63, 3) := by decide +kernel
theorem dX1_findDefinite_31 : decode cX1_findDefinite 31 = .ok (.iload_n 2, 1) := by decide +kernel
theorem dX1_findDefinite_32 : decode cX1_findDefinite 32 = .ok (.iaload, 1) := by decide +kernel
theorem dX1_findDefinite_33 : decode cX1_findDefinite 33 = .ok (.ior, 1) := by decide +kernel
theorem dX1_findDefinite_34 : decode cX1_findDefinite 34 = .ok (.istore_n 3, 1) := by decide +kernel
theorem dX1_findDefinite_35 : decode cX1_findDefinite 35 = .ok (.aload_n 0, 1) := by decide +kernel
theorem dX1_findDefinite_36 : decode cX1_findDefinite 36 = .ok (.getfield 9, 3) := by decide +kernel
theorem dX1_findDefinite_39 : decode cX1_findDefinite 39 = .ok (.iload_n 2, 1) := by decide +kernel
theorem dX1_findDefinite_40 : decode cX1_findDefinite 40 = .ok (.iload_n 3, 1) := by decide +kernel
theorem dX1_findDefinite_41 : decode cX1_findDefinite 41 = .ok (.aload_n 0, 1) := by decide +kernel
theorem dX1_findDefinite_42 : decode cX1_findDefinite 42 = .ok (.getfield 23, 3) := by decide +kernel
theorem dX1_findDefinite_45 : decode cX1_findDefinite 45 = .ok (.iload_n 2, 1) := by decide +kernel
theorem dX1_findDefinite_46 : decode cX1_findDefinite 46 = .ok (.invokestatic 66, 3) := by decide +kernel
theorem dX1_findDefinite_49 : decode cX1_findDefinite 49 = .ok (.aaload, 1) := by decide +kernel
theorem dX1_findDefinite_50 : decode cX1_findDefinite 50 = .ok (.aload_n 1, 1) := by decide +kernel
theorem dX1_findDefinite_51 : decode cX1_findDefinite 51 = .ok (.getfield 53, 3) := by decide +kernel
theorem dX1_findDefinite_54 : decode cX1_findDefinite 54 = .ok (.invokestatic 56, 3) := by decide +kernel
theorem dX1_findDefinite_57 : decode cX1_findDefinite 57 = .ok (.iastore, 1) := by decide +kernel
theorem dX1_findDefinite_58 : decode cX1_findDefinite 58 = .ok (.iinc 2 (-1), 3) := by decide +kernel
theorem dX1_findDefinite_61 : decode cX1_findDefinite 61 = .ok (.goto (-47), 3) := by decide +kernel
theorem dX1_findDefinite_64 : decode cX1_findDefinite 64 = .ok (.return_, 1) := by decide +kernel
set_option maxRecDepth 20000 in
theorem ggX1_findSide_X1_strengthPassing : GoodIn wsX1_findSide wsX1_strengthPassing := goodIn_r _ [9, 10, 11, 12, 13] (by decide +kernel) (by decide +kernel)
set_option maxRecDepth 20000 in
theorem gX1_findSide_X1_strengthPassing : GoodIn wsX1_findSide (va_wsS RX1 66 yX1_strengthPassing wsX1_strengthPassing) := goodIn_app (goodIn_of _ (by decide +kernel)) ggX1_findSide_X1_strengthPassing
set_option maxRecDepth 20000 in
theorem ggX1_findSide_X1_reach : GoodIn wsX1_findSide wsX1_reach := goodIn_r _ [16, 17, 18, 19, 20, 21] (by decide +kernel) (by decide +kernel)
set_option maxRecDepth 20000 in
theorem gX1_findSide_X1_reach : GoodIn wsX1_findSide (va_wsS RX1 56 yX1_reach wsX1_reach) := goodIn_app (goodIn_of _ (by decide +kernel)) ggX1_findSide_X1_reach
theorem dX1_findSide_0 : decode cX1_findSide 0 = .ok (.aload_n 1, 1) := by decide +kernel
theorem dX1_findSide_1 : decode cX1_findSide 1 = .ok (.bipush 7, 2) := by decide +kernel
theorem dX1_findSide_3 : decode cX1_findSide 3 = .ok (.aload_n 3, 1) := by decide +kernel
theorem dX1_findSide_4 : decode cX1_findSide 4 = .ok (.getfield 60, 3) := by decide +kernel
theorem dX1_findSide_7 : decode cX1_findSide 7 = .ok (.iload_n 2, 1) := by decide +kernel
theorem dX1_findSide_8 : decode cX1_findSide 8 = .ok (.iand, 1) := by decide +kernel
theorem dX1_findSide_9 : decode cX1_findSide 9 = .ok (.iastore, 1) := by decide +kernel
theorem dX1_findSide_10 : decode cX1_findSide 10 = .ok (.bipush 6, 2) := by decide +kernel
theorem dX1_findSide_12 : decode cX1_findSide 12 = .ok (.istore 4, 2) := by decide +kernel
theorem dX1_findSide_14 : decode cX1_findSide 14 = .ok (.iload 4, 2) := by decide +kernel
theorem dX1_findSide_16 : decode cX1_findSide 16 = .ok (.iconst 1, 1) := by decide +kernel
theorem dX1_findSide_17 : decode cX1_findSide 17 = .ok (.if_icmp .lt 69, 3) := by decide +kernel
theorem dX1_findSide_20 : decode cX1_findSide 20 = .ok (.aload_n 3, 1) := by decide +kernel
theorem dX1_findSide_21 : decode cX1_findSide 21 = .ok (.getfield 53, 3) := by decide +kernel
theorem dX1_findSide_24 : decode cX1_findSide 24 = .ok (.aload_n 0, 1) := by decide +kernel
theorem dX1_findSide_25 : decode cX1_findSide 25 = .ok (.getfield 9, 3) := by decide +kernel
theorem dX1_findSide_28 : decode cX1_findSide 28 = .ok (.iload 4, 2) := by decide +kernel
theorem dX1_findSide_30 : decode cX1_findSide 30 = .ok (.iconst 1, 1) := by decide +kernel
theorem dX1_findSide_31 : decode cX1_findSide 31 = .ok (.iadd, 1) := by decide +kernel
theorem dX1_findSide_32 : decode cX1_findSide 32 = .ok (.iaload, 1) := by decide +kernel
theorem dX1_findSide_33 : decode cX1_findSide 33 = .ok (.iconst (-1), 1) := by decide +kernel
theorem dX1_findSide_34 : decode cX1_findSide 34 = .ok (.ixor, 1) := by decide +kernel
theorem dX1_findSide_35 : decode cX1_findSide 35 = .ok (.iand, 1) := by decide +kernel
theorem dX1_findSide_36 : decode cX1_findSide 36 = .ok (.istore 5, 2) := by decide +kernel
theorem dX1_findSide_38 : decode cX1_findSide 38 = .ok (.aload_n 1, 1) := by decide +kernel
theorem dX1_findSide_39 : decode cX1_findSide 39 = .ok (.iload 4, 2) := by decide +kernel
theorem dX1_findSide_41 : decode cX1_findSide 41 = .ok (.iconst 1, 1) := by decide +kernel
theorem dX1_findSide_42 : decode cX1_findSide 42 = .ok (.iadd, 1) := by decide +kernel
theorem dX1_findSide_43 : decode cX1_findSide 43 = .ok (.iaload, 1) := by decide +kernel
theorem dX1_findSide_44 : decode cX1_findSide 44 = .ok (.aload_n 3, 1) := by decide +kernel
theorem dX1_findSide_45 : decode cX1_findSide 45 = .ok (.getfield 63, 3) := by decide +kernel
theorem dX1_findSide_48 : decode cX1_findSide 48 = .ok (.iload 4, 2) := by decide +kernel
theorem dX1_findSide_50 : decode cX1_findSide 50 = .ok (.iaload, 1) := by decide +kernel
theorem dX1_findSide_51 : decode cX1_findSide 51 = .ok (.iload_n 2, 1) := by decide +kernel
theorem dX1_findSide_52 : decode cX1_findSide 52 = .ok (.iand, 1) := by decide +kernel
theorem dX1_findSide_53 : decode cX1_findSide 53 = .ok (.iload 5, 2) := by decide +kernel
theorem dX1_findSide_55 : decode cX1_findSide 55 = .ok (.iand, 1) := by decide +kernel
theorem dX1_findSide_56 : decode cX1_findSide 56 = .ok (.ior, 1) := by decide +kernel
theorem dX1_findSide_57 : decode cX1_findSide 57 = .ok (.istore 6, 2) := by decide +kernel
theorem dX1_findSide_59 : decode cX1_findSide 59 = .ok (.aload_n 1, 1) := by decide +kernel
theorem dX1_findSide_60 : decode cX1_findSide 60 = .ok (.iload 4, 2) := by decide +kernel
theorem dX1_findSide_62 : decode cX1_findSide 62 = .ok (.iload 6, 2) := by decide +kernel
theorem dX1_findSide_64 : decode cX1_findSide 64 = .ok (.aload_n 0, 1) := by decide +kernel
theorem dX1_findSide_65 : decode cX1_findSide 65 = .ok (.getfield 26, 3) := by decide +kernel
theorem dX1_findSide_68 : decode cX1_findSide 68 = .ok (.iload 4, 2) := by decide +kernel
theorem dX1_findSide_70 : decode cX1_findSide 70 = .ok (.invokestatic 66, 3) := by decide +kernel
theorem dX1_findSide_73 : decode cX1_findSide 73 = .ok (.aaload, 1) := by decide +kernel
theorem dX1_findSide_74 : decode cX1_findSide 74 = .ok (.iload 5, 2) := by decide +kernel
theorem dX1_findSide_76 : decode cX1_findSide 76 = .ok (.invokestatic 56, 3) := by decide +kernel
theorem dX1_findSide_79 : decode cX1_findSide 79 = .ok (.iastore, 1) := by decide +kernel
theorem dX1_findSide_80 : decode cX1_findSide 80 = .ok (.iinc 4 (-1), 3) := by decide +kernel
theorem dX1_findSide_83 : decode cX1_findSide 83 = .ok (.goto (-69), 3) := by decide +kernel
theorem dX1_findSide_86 : decode cX1_findSide 86 = .ok (.return_, 1) := by decide +kernel
theorem dX1_strengthPassing_0 : decode cX1_strengthPassing 0 = .ok (.iconst 1, 1) := by decide +kernel
theorem dX1_strengthPassing_1 : decode cX1_strengthPassing 1 = .ok (.iload_n 0, 1) := by decide +kernel
theorem dX1_strengthPassing_2 : decode cX1_strengthPassing 2 = .ok (.iconst 3, 1) := by decide +kernel
theorem dX1_strengthPassing_3 : decode cX1_strengthPassing 3 = .ok (.isub, 1) := by decide +kernel
theorem dX1_strengthPassing_4 : decode cX1_strengthPassing 4 = .ok (.invokestatic 70, 3) := by decide +kernel
theorem dX1_strengthPassing_7 : decode cX1_strengthPassing 7 = .ok (.ireturn, 1) := by decide +kernel
set_option maxRecDepth 20000 in
theorem ggX1_findNeighbors_X0_stateOf : GoodIn wsX1_findNeighbors wsX0_stateOf := goodIn_r _ [9, 10, 11, 12, 13, 14, 15, 8, 16, 17, 18, 26, 27, 28, 29, 30, 31, 32, 33, 34, 35, 36, 37, 38] (by decide +kernel) (by decide +kernel)
set_option maxRecDepth 20000 in
theorem gX1_findNeighbors_X0_stateOf : GoodIn wsX1_findNeighbors (wsV RX1 82 RX0 yX0_stateOf wsX0_stateOf) := goodIn_app (goodIn_of _ (by decide +kernel)) ggX1_findNeighbors_X0_stateOf
set_option maxRecDepth 20000 in
theorem ggX1_findNeighbors_X1_connect : GoodIn wsX1_findNeighbors wsX1_connect := goodIn_r _ [22, 23, 24, 25, 26, 27, 28, 29, 30, 31, 32, 33, 34, 35, 36, 37, 38] (by decide +kernel) (by decide +kernel)
set_option maxRecDepth 20000 in
theorem gX1_findNeighbors_X1_connect : GoodIn wsX1_findNeighbors (va_wsS RX1 85 yX1_connect wsX1_connect) := goodIn_app (goodIn_of _ (by decide +kernel)) ggX1_findNeighbors_X1_connect
theorem dX1_findNeighbors_0 : decode cX1_findNeighbors 0 = .ok (.iconst 1, 1) := by decide +kernel
theorem dX1_findNeighbors_1 : decode cX1_findNeighbors 1 = .ok (.istore_n 2, 1) := by decide +kernel
theorem dX1_findNeighbors_2 : decode cX1_findNeighbors 2 = .ok (.iload_n 2, 1) := by decide +kernel
theorem dX1_findNeighbors_3 : decode cX1_findNeighbors 3 = .ok (.iconst 3, 1) := by decide +kernel
theorem dX1_findNeighbors_4 : decode cX1_findNeighbors 4 = .ok (.if_icmp .gt 43, 3) := by decide +kernel
theorem dX1_findNeighbors_7 : decode cX1_findNeighbors 7 = .ok (.iconst 0, 1) := by decide +kernel
theorem dX1_findNeighbors_8 : decode cX1_findNeighbors 8 = .ok (.istore_n 3, 1) := by decide +kernel
theorem dX1_findNeighbors_9 : decode cX1_findNeighbors 9 = .ok (.iload_n 3, 1) := by decide +kernel
theorem dX1_findNeighbors_10 : decode cX1_findNeighbors 10 = .ok (.aload_n 1, 1) := by decide +kernel
theorem dX1_findNeighbors_11 : decode cX1_findNeighbors 11 = .ok (.getfield 76, 3) := by decide +kernel
theorem dX1_findNeighbors_14 : decode cX1_findNeighbors 14 = .ok (.if_icmp .ge 27, 3) := by decide +kernel
theorem dX1_findNeighbors_17 : decode cX1_findNeighbors 17 = .ok (.aload_n 0, 1) := by decide +kernel
theorem dX1_findNeighbors_18 : decode cX1_findNeighbors 18 = .ok (.getfield 23, 3) := by decide +kernel
theorem dX1_findNeighbors_21 : decode cX1_findNeighbors 21 = .ok (.iload_n 2, 1) := by decide +kernel
theorem dX1_findNeighbors_22 : decode cX1_findNeighbors 22 = .ok (.aaload, 1) := by decide +kernel
theorem dX1_findNeighbors_23 : decode cX1_findNeighbors 23 = .ok (.iload_n 3, 1) := by decide +kernel
theorem dX1_findNeighbors_24 : decode cX1_findNeighbors 24 = .ok (.iconst 0, 1) := by decide +kernel
theorem dX1_findNeighbors_25 : decode cX1_findNeighbors 25 = .ok (.iastore, 1) := by decide +kernel
theorem dX1_findNeighbors_26 : decode cX1_findNeighbors 26 = .ok (.aload_n 0, 1) := by decide +kernel
theorem dX1_findNeighbors_27 : decode cX1_findNeighbors 27 = .ok (.getfield 26, 3) := by decide +kernel
theorem dX1_findNeighbors_30 : decode cX1_findNeighbors 30 = .ok (.iload_n 2, 1) := by decide +kernel
theorem dX1_findNeighbors_31 : decode cX1_findNeighbors 31 = .ok (.aaload, 1) := by decide +kernel
theorem dX1_findNeighbors_32 : decode cX1_findNeighbors 32 = .ok (.iload_n 3, 1) := by decide +kernel
theorem dX1_findNeighbors_33 : decode cX1_findNeighbors 33 = .ok (.iconst 0, 1) := by decide +kernel
theorem dX1_findNeighbors_34 : decode cX1_findNeighbors 34 = .ok (.iastore, 1) := by decide +kernel
theorem dX1_findNeighbors_35 : decode cX1_findNeighbors 35 = .ok (.iinc 3 1, 3) := by decide +kernel
theorem dX1_findNeighbors_38 : decode cX1_findNeighbors 38 = .ok (.goto (-29), 3) := by decide +kernel
theorem dX1_findNeighbors_41 : decode cX1_findNeighbors 41 = .ok (.iinc 2 1, 3) := by decide +kernel
theorem dX1_findNeighbors_44 : decode cX1_findNeighbors 44 = .ok (.goto (-42), 3) := by decide +kernel
theorem dX1_findNeighbors_47 : decode cX1_findNeighbors 47 = .ok (.iconst 0, 1) := by decide +kernel
theorem dX1_findNeighbors_48 : decode cX1_findNeighbors 48 = .ok (.istore_n 2, 1) := by decide +kernel
theorem dX1_findNeighbors_49 : decode cX1_findNeighbors 49 = .ok (.iload_n 2, 1) := by decide +kernel
theorem dX1_findNeighbors_50 : decode cX1_findNeighbors 50 = .ok (.aload_n 1, 1) := by decide +kernel
theorem dX1_findNeighbors_51 : decode cX1_findNeighbors 51 = .ok (.getfield 79, 3) := by decide +kernel
theorem dX1_findNeighbors_54 : decode cX1_findNeighbors 54 = .ok (.if_icmp .ge 42, 3) := by decide +kernel
theorem dX1_findNeighbors_57 : decode cX1_findNeighbors 57 = .ok (.aload_n 1, 1) := by decide +kernel
theorem dX1_findNeighbors_58 : decode cX1_findNeighbors 58 = .ok (.iload_n 2, 1) := by decide +kernel
theorem dX1_findNeighbors_59 : decode cX1_findNeighbors 59 = .ok (.invokevirtual 82, 3) := by decide +kernel
theorem dX1_findNeighbors_62 : decode cX1_findNeighbors 62 = .ok (.istore_n 3, 1) := by decide +kernel
theorem dX1_findNeighbors_63 : decode cX1_findNeighbors 63 = .ok (.iload_n 3, 1) := by decide +kernel
theorem dX1_findNeighbors_64 : decode cX1_findNeighbors 64 = .ok (.ifCond .eq 12, 3) := by decide +kernel
theorem dX1_findNeighbors_67 : decode cX1_findNeighbors 67 = .ok (.aload_n 0, 1) := by decide +kernel
theorem dX1_findNeighbors_68 : decode cX1_findNeighbors 68 = .ok (.getfield 26, 3) := by decide +kernel
theorem dX1_findNeighbors_71 : decode cX1_findNeighbors 71 = .ok (.aload_n 1, 1) := by decide +kernel
theorem dX1_findNeighbors_72 : decode cX1_findNeighbors 72 = .ok (.iload_n 2, 1) := by decide +kernel
theorem dX1_findNeighbors_73 : decode cX1_findNeighbors 73 = .ok (.invokestatic 85, 3) := by decide +kernel
theorem dX1_findNeighbors_76 : decode cX1_findNeighbors 76 = .ok (.iload_n 3, 1) := by decide +kernel
theorem dX1_findNeighbors_77 : decode cX1_findNeighbors 77 = .ok (.iconst 1, 1) := by decide +kernel
theorem dX1_findNeighbors_78 : decode cX1_findNeighbors 78 = .ok (.if_icmp .ne 12, 3) := by decide +kernel
theorem dX1_findNeighbors_81 : decode cX1_findNeighbors 81 = .ok (.aload_n 0, 1) := by decide +kernel
theorem dX1_findNeighbors_82 : decode cX1_findNeighbors 82 = .ok (.getfield 23, 3) := by decide +kernel
theorem dX1_findNeighbors_85 : decode cX1_findNeighbors 85 = .ok (.aload_n 1, 1) := by decide +kernel
theorem dX1_findNeighbors_86 : decode cX1_findNeighbors 86 = .ok (.iload_n 2, 1) := by decide +kernel
theorem dX1_findNeighbors_87 : decode cX1_findNeighbors 87 = .ok (.invokestatic 85, 3) := by decide +kernel
theorem dX1_findNeighbors_90 : decode cX1_findNeighbors 90 = .ok (.iinc 2 1, 3) := by decide +kernel
theorem dX1_findNeighbors_93 : decode cX1_findNeighbors 93 = .ok (.goto (-44), 3) := by decide +kernel
theorem dX1_findNeighbors_96 : decode cX1_findNeighbors 96 = .ok (.return_, 1) := by decide +kernel
theorem dX1_connect_0 : decode cX1_connect 0 = .ok (.aload_n 1, 1) := by decide +kernel
theorem dX1_connect_1 : decode cX1_connect 1 = .ok (.getfield 89, 3) := by decide +kernel
theorem dX1_connect_4 : decode cX1_connect 4 = .ok (.iload_n 2, 1) := by decide +kernel
theorem dX1_connect_5 : decode cX1_connect 5 = .ok (.iaload, 1) := by decide +kernel
theorem dX1_connect_6 : decode cX1_connect 6 = .ok (.istore_n 3, 1) := by decide +kernel
theorem dX1_connect_7 : decode cX1_connect 7 = .ok (.aload_n 1, 1) := by decide +kernel
theorem dX1_connect_8 : decode cX1_connect 8 = .ok (.getfield 92, 3) := by decide +kernel
theorem dX1_connect_11 : decode cX1_connect 11 = .ok (.iload_n 2, 1) := by decide +kernel
theorem dX1_connect_12 : decode cX1_connect 12 = .ok (.iaload, 1) := by decide +kernel
theorem dX1_connect_13 : decode cX1_connect 13 = .ok (.istore 4, 2) := by decide +kernel
theorem dX1_connect_15 : decode cX1_connect 15 = .ok (.iconst 1, 1) := by decide +kernel
theorem dX1_connect_16 : decode cX1_connect 16 = .ok (.istore 5, 2) := by decide +kernel
theorem dX1_connect_18 : decode cX1_connect 18 = .ok (.iload 5, 2) := by decide +kernel
theorem dX1_connect_20 : decode cX1_connect 20 = .ok (.aload_n 1, 1) := by decide +kernel
theorem dX1_connect_21 : decode cX1_connect 21 = .ok (.getfield 95, 3) := by decide +kernel
theorem dX1_connect_24 : decode cX1_connect 24 = .ok (.iload_n 2, 1) := by decide +kernel
theorem dX1_connect_25 : decode cX1_connect 25 = .ok (.iaload, 1) := by decide +kernel
theorem dX1_connect_26 : decode cX1_connect 26 = .ok (.if_icmp .gt 35, 3) := by decide +kernel
theorem dX1_connect_29 : decode cX1_connect 29 = .ok (.aload_n 0, 1) := by decide +kernel
theorem dX1_connect_30 : decode cX1_connect 30 = .ok (.iload 5, 2) := by decide +kernel
theorem dX1_connect_32 : decode cX1_connect 32 = .ok (.aaload, 1) := by decide +kernel
theorem dX1_connect_33 : decode cX1_connect 33 = .ok (.iload_n 3, 1) := by decide +kernel
theorem dX1_connect_34 : decode cX1_connect 34 = .ok (.dup2, 1) := by decide +kernel
theorem dX1_connect_35 : decode cX1_connect 35 = .ok (.iaload, 1) := by decide +kernel
theorem dX1_connect_36 : decode cX1_connect 36 = .ok (.iconst 1, 1) := by decide +kernel
theorem dX1_connect_37 : decode cX1_connect 37 = .ok (.iload 4, 2) := by decide +kernel
theorem dX1_connect_39 : decode cX1_connect 39 = .ok (.ishl, 1) := by decide +kernel
theorem dX1_connect_40 : decode cX1_connect 40 = .ok (.ior, 1) := by decide +kernel
theorem dX1_connect_41 : decode cX1_connect 41 = .ok (.iastore, 1) := by decide +kernel
theorem dX1_connect_42 : decode cX1_connect 42 = .ok (.aload_n 0, 1) := by decide +kernel
theorem dX1_connect_43 : decode cX1_connect 43 = .ok (.iload 5, 2) := by decide +kernel
theorem dX1_connect_45 : decode cX1_connect 45 = .ok (.aaload, 1) := by decide +kernel
theorem dX1_connect_46 : decode cX1_connect 46 = .ok (.iload 4, 2) := by decide +kernel
theorem dX1_connect_48 : decode cX1_connect 48 = .ok (.dup2, 1) := by decide +kernel
theorem dX1_connect_49 : decode cX1_connect 49 = .ok (.iaload, 1) := by decide +kernel
theorem dX1_connect_50 : decode cX1_connect 50 = .ok (.iconst 1, 1) := by decide +kernel
theorem dX1_connect_51 : decode cX1_connect 51 = .ok (.iload_n 3, 1) := by decide +kernel
theorem dX1_connect_52 : decode cX1_connect 52 = .ok (.ishl, 1) := by decide +kernel
theorem dX1_connect_53 : decode cX1_connect 53 = .ok (.ior, 1) := by decide +kernel
theorem dX1_connect_54 : decode cX1_connect 54 = .ok (.iastore, 1) := by decide +kernel
theorem dX1_connect_55 : decode cX1_connect 55 = .ok (.iinc 5 1, 3) := by decide +kernel
theorem dX1_connect_58 : decode cX1_connect 58 = .ok (.goto (-40), 3) := by decide +kernel
theorem dX1_connect_61 : decode cX1_connect 61 = .ok (.return_, 1) := by decide +kernel
set_option maxRecDepth 20000 in
theorem ggX1_reach_J6_numberOfTrailingZeros_0f7a4 : GoodIn wsX1_reach wsJ6_numberOfTrailingZeros_0f7a4 := goodIn_r _ [4, 5] (by decide +kernel) (by decide +kernel)
set_option maxRecDepth 20000 in
theorem gX1_reach_J6_numberOfTrailingZeros_0f7a4 : GoodIn wsX1_reach (va_wsS RX1 98 yJ6_numberOfTrailingZeros_0f7a4 wsJ6_numberOfTrailingZeros_0f7a4) := goodIn_app (goodIn_of _ (by decide +kernel)) ggX1_reach_J6_numberOfTrailingZeros_0f7a4
theorem dX1_reach_0 : decode cX1_reach 0 = .ok (.iload_n 2, 1) := by decide +kernel
theorem dX1_reach_1 : decode cX1_reach 1 = .ok (.iload_n 0, 1) := by decide +kernel
theorem dX1_reach_2 : decode cX1_reach 2 = .ok (.iconst (-1), 1) := by decide +kernel
theorem dX1_reach_3 : decode cX1_reach 3 = .ok (.ixor, 1) := by decide +kernel
theorem dX1_reach_4 : decode cX1_reach 4 = .ok (.iand, 1) := by decide +kernel
theorem dX1_reach_5 : decode cX1_reach 5 = .ok (.istore_n 3, 1) := by decide +kernel
theorem dX1_reach_6 : decode cX1_reach 6 = .ok (.iload_n 0, 1) := by decide +kernel
theorem dX1_reach_7 : decode cX1_reach 7 = .ok (.istore 4, 2) := by decide +kernel
theorem dX1_reach_9 : decode cX1_reach 9 = .ok (.iconst 0, 1) := by decide +kernel
theorem dX1_reach_10 : decode cX1_reach 10 = .ok (.istore 5, 2) := by decide +kernel
theorem dX1_reach_12 : decode cX1_reach 12 = .ok (.iload 5, 2) := by decide +kernel
theorem dX1_reach_14 : decode cX1_reach 14 = .ok (.bipush 24, 2) := by decide +kernel
theorem dX1_reach_16 : decode cX1_reach 16 = .ok (.if_icmp .ge 57, 3) := by decide +kernel
theorem dX1_reach_19 : decode cX1_reach 19 = .ok (.iload_n 3, 1) := by decide +kernel
theorem dX1_reach_20 : decode cX1_reach 20 = .ok (.ifCond .eq 53, 3) := by decide +kernel
theorem dX1_reach_23 : decode cX1_reach 23 = .ok (.iload 4, 2) := by decide +kernel
theorem dX1_reach_25 : decode cX1_reach 25 = .ok (.invokestatic 98, 3) := by decide +kernel
theorem dX1_reach_28 : decode cX1_reach 28 = .ok (.istore 6, 2) := by decide +kernel
theorem dX1_reach_30 : decode cX1_reach 30 = .ok (.iload 6, 2) := by decide +kernel
theorem dX1_reach_32 : decode cX1_reach 32 = .ok (.aload_n 1, 1) := by decide +kernel
theorem dX1_reach_33 : decode cX1_reach 33 = .ok (.arraylength, 1) := by decide +kernel
theorem dX1_reach_34 : decode cX1_reach 34 = .ok (.if_icmp .lt 6, 3) := by decide +kernel
theorem dX1_reach_37 : decode cX1_reach 37 = .ok (.goto 36, 3) := by decide +kernel
theorem dX1_reach_40 : decode cX1_reach 40 = .ok (.aload_n 1, 1) := by decide +kernel
theorem dX1_reach_41 : decode cX1_reach 41 = .ok (.iload 6, 2) := by decide +kernel
theorem dX1_reach_43 : decode cX1_reach 43 = .ok (.iaload, 1) := by decide +kernel
theorem dX1_reach_44 : decode cX1_reach 44 = .ok (.iload_n 3, 1) := by decide +kernel
theorem dX1_reach_45 : decode cX1_reach 45 = .ok (.iand, 1) := by decide +kernel
theorem dX1_reach_46 : decode cX1_reach 46 = .ok (.istore 7, 2) := by decide +kernel
theorem dX1_reach_48 : decode cX1_reach 48 = .ok (.iload_n 3, 1) := by decide +kernel
theorem dX1_reach_49 : decode cX1_reach 49 = .ok (.iload 7, 2) := by decide +kernel
theorem dX1_reach_51 : decode cX1_reach 51 = .ok (.iconst (-1), 1) := by decide +kernel
theorem dX1_reach_52 : decode cX1_reach 52 = .ok (.ixor, 1) := by decide +kernel
theorem dX1_reach_53 : decode cX1_reach 53 = .ok (.iand, 1) := by decide +kernel
theorem dX1_reach_54 : decode cX1_reach 54 = .ok (.istore_n 3, 1) := by decide +kernel
theorem dX1_reach_55 : decode cX1_reach 55 = .ok (.iload 4, 2) := by decide +kernel
theorem dX1_reach_57 : decode cX1_reach 57 = .ok (.iload 4, 2) := by decide +kernel
theorem dX1_reach_59 : decode cX1_reach 59 = .ok (.iconst 1, 1) := by decide +kernel
theorem dX1_reach_60 : decode cX1_reach 60 = .ok (.isub, 1) := by decide +kernel
theorem dX1_reach_61 : decode cX1_reach 61 = .ok (.iand, 1) := by decide +kernel
theorem dX1_reach_62 : decode cX1_reach 62 = .ok (.iload 7, 2) := by decide +kernel
theorem dX1_reach_64 : decode cX1_reach 64 = .ok (.ior, 1) := by decide +kernel
theorem dX1_reach_65 : decode cX1_reach 65 = .ok (.istore 4, 2) := by decide +kernel
theorem dX1_reach_67 : decode cX1_reach 67 = .ok (.iinc 5 1, 3) := by decide +kernel
theorem dX1_reach_70 : decode cX1_reach 70 = .ok (.goto (-58), 3) := by decide +kernel
theorem dX1_reach_73 : decode cX1_reach 73 = .ok (.iload_n 0, 1) := by decide +kernel
theorem dX1_reach_74 : decode cX1_reach 74 = .ok (.iload_n 2, 1) := by decide +kernel
theorem dX1_reach_75 : decode cX1_reach 75 = .ok (.iload_n 3, 1) := by decide +kernel
theorem dX1_reach_76 : decode cX1_reach 76 = .ok (.iconst (-1), 1) := by decide +kernel
theorem dX1_reach_77 : decode cX1_reach 77 = .ok (.ixor, 1) := by decide +kernel
theorem dX1_reach_78 : decode cX1_reach 78 = .ok (.iand, 1) := by decide +kernel
theorem dX1_reach_79 : decode cX1_reach 79 = .ok (.ior, 1) := by decide +kernel
theorem dX1_reach_80 : decode cX1_reach 80 = .ok (.ireturn, 1) := by decide +kernel
theorem dX1_levelIn_0 : decode cX1_levelIn 0 = .ok (.iconst 0, 1) := by decide +kernel
theorem dX1_levelIn_1 : decode cX1_levelIn 1 = .ok (.istore_n 2, 1) := by decide +kernel
theorem dX1_levelIn_2 : decode cX1_levelIn 2 = .ok (.iload_n 2, 1) := by decide +kernel
theorem dX1_levelIn_3 : decode cX1_levelIn 3 = .ok (.bipush 7, 2) := by decide +kernel
theorem dX1_levelIn_5 : decode cX1_levelIn 5 = .ok (.if_icmp .ge 21, 3) := by decide +kernel
theorem dX1_levelIn_8 : decode cX1_levelIn 8 = .ok (.aload_n 0, 1) := by decide +kernel
theorem dX1_levelIn_9 : decode cX1_levelIn 9 = .ok (.iload_n 2, 1) := by decide +kernel
theorem dX1_levelIn_10 : decode cX1_levelIn 10 = .ok (.iconst 1, 1) := by decide +kernel
theorem dX1_levelIn_11 : decode cX1_levelIn 11 = .ok (.iadd, 1) := by decide +kernel
theorem dX1_levelIn_12 : decode cX1_levelIn 12 = .ok (.iaload, 1) := by decide +kernel
theorem dX1_levelIn_13 : decode cX1_levelIn 13 = .ok (.iconst 1, 1) := by decide +kernel
theorem dX1_levelIn_14 : decode cX1_levelIn 14 = .ok (.iload_n 1, 1) := by decide +kernel
theorem dX1_levelIn_15 : decode cX1_levelIn 15 = .ok (.ishl, 1) := by decide +kernel
theorem dX1_levelIn_16 : decode cX1_levelIn 16 = .ok (.iand, 1) := by decide +kernel
theorem dX1_levelIn_17 : decode cX1_levelIn 17 = .ok (.ifCond .eq 9, 3) := by decide +kernel
theorem dX1_levelIn_20 : decode cX1_levelIn 20 = .ok (.iinc 2 1, 3) := by decide +kernel
theorem dX1_levelIn_23 : decode cX1_levelIn 23 = .ok (.goto (-21), 3) := by decide +kernel
theorem dX1_levelIn_26 : decode cX1_levelIn 26 = .ok (.iload_n 2, 1) := by decide +kernel
theorem dX1_levelIn_27 : decode cX1_levelIn 27 = .ok (.ireturn, 1) := by decide +kernel
