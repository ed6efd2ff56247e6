set_option maxRecDepth 20000 in
theorem ggX0_init_X1_init : GoodIn wsX0_init wsX1_init := goodIn_r _ [10, 11, 2, 3, 12, 13, 14, 15, 16, 17] (by decide +kernel) (by decide +kernel)
set_option maxRecDepth 20000 in
theorem gX0_init_X1_init_n11 : GoodIn wsX0_init (wsX1_init) := ggX0_init_X1_init
theorem dX0_init_0 : decode cX0_init 0 = .ok (.aload_n 0, 1) := by decide +kernel
theorem dX0_init_1 : decode cX0_init 1 = .ok (.invokespecial 3, 3) := by decide +kernel
theorem dX0_init_4 : decode cX0_init 4 = .ok (.aload_n 0, 1) := by decide +kernel
theorem dX0_init_5 : decode cX0_init 5 = .ok (.new 9, 3) := by decide +kernel
theorem dX0_init_8 : decode cX0_init 8 = .ok (.dup, 1) := by decide +kernel
theorem dX0_init_9 : decode cX0_init 9 = .ok (.invokespecial 11, 3) := by decide +kernel
theorem dX0_init_12 : decode cX0_init 12 = .ok (.putfield 12, 3) := by decide +kernel
theorem dX0_init_15 : decode cX0_init 15 = .ok (.aload_n 0, 1) := by decide +kernel
theorem dX0_init_16 : decode cX0_init 16 = .ok (.iconst (-1), 1) := by decide +kernel
theorem dX0_init_17 : decode cX0_init 17 = .ok (.putfield 18, 3) := by decide +kernel
theorem dX0_init_20 : decode cX0_init 20 = .ok (.return_, 1) := by decide +kernel
theorem dX0_isFree_0 : decode cX0_isFree 0 = .ok (.aload_n 0, 1) := by decide +kernel
theorem dX0_isFree_1 : decode cX0_isFree 1 = .ok (.getfield 18, 3) := by decide +kernel
theorem dX0_isFree_4 : decode cX0_isFree 4 = .ok (.iconst (-1), 1) := by decide +kernel
theorem dX0_isFree_5 : decode cX0_isFree 5 = .ok (.if_icmp .ne 7, 3) := by decide +kernel
theorem dX0_isFree_8 : decode cX0_isFree 8 = .ok (.iconst 1, 1) := by decide +kernel
theorem dX0_isFree_9 : decode cX0_isFree 9 = .ok (.goto 4, 3) := by decide +kernel
theorem dX0_isFree_12 : decode cX0_isFree 12 = .ok (.iconst 0, 1) := by decide +kernel
theorem dX0_isFree_13 : decode cX0_isFree 13 = .ok (.ireturn, 1) := by decide +kernel
set_option maxRecDepth 20000 in
theorem ggX0_lend_X0_runFrom : GoodIn wsX0_lend wsX0_runFrom := goodIn_r _ [7, 8, 9, 10, 11, 12, 13, 14, 15, 16, 17, 18] (by decide +kernel) (by decide +kernel)
set_option maxRecDepth 20000 in
theorem gX0_lend_X0_runFrom : GoodIn wsX0_lend (wsV RX0 25 RX0 yX0_runFrom wsX0_runFrom) := goodIn_app (goodIn_of _ (by decide +kernel)) ggX0_lend_X0_runFrom
theorem dX0_lend_0 : decode cX0_lend 0 = .ok (.aload_n 0, 1) := by decide +kernel
theorem dX0_lend_1 : decode cX0_lend 1 = .ok (.iload_n 1, 1) := by decide +kernel
theorem dX0_lend_2 : decode cX0_lend 2 = .ok (.putfield 18, 3) := by decide +kernel
theorem dX0_lend_5 : decode cX0_lend 5 = .ok (.aload_n 0, 1) := by decide +kernel
theorem dX0_lend_6 : decode cX0_lend 6 = .ok (.dup, 1) := by decide +kernel
theorem dX0_lend_7 : decode cX0_lend 7 = .ok (.getfield 22, 3) := by decide +kernel
theorem dX0_lend_10 : decode cX0_lend 10 = .ok (.iconst 1, 1) := by decide +kernel
theorem dX0_lend_11 : decode cX0_lend 11 = .ok (.iadd, 1) := by decide +kernel
theorem dX0_lend_12 : decode cX0_lend 12 = .ok (.putfield 22, 3) := by decide +kernel
theorem dX0_lend_15 : decode cX0_lend 15 = .ok (.aload_n 0, 1) := by decide +kernel
theorem dX0_lend_16 : decode cX0_lend 16 = .ok (.iload_n 3, 1) := by decide +kernel
theorem dX0_lend_17 : decode cX0_lend 17 = .ok (.iload_n 2, 1) := by decide +kernel
theorem dX0_lend_18 : decode cX0_lend 18 = .ok (.iload 4, 2) := by decide +kernel
theorem dX0_lend_20 : decode cX0_lend 20 = .ok (.invokevirtual 25, 3) := by decide +kernel
theorem dX0_lend_23 : decode cX0_lend 23 = .ok (.return_, 1) := by decide +kernel
set_option maxRecDepth 20000 in
theorem ggX0_renew_X0_runFrom : GoodIn wsX0_renew wsX0_runFrom := goodIn_r _ [6, 1, 7, 8, 9, 10, 11, 12, 13, 14, 15, 16] (by decide +kernel) (by decide +kernel)
set_option maxRecDepth 20000 in
theorem gX0_renew_X0_runFrom : GoodIn wsX0_renew (wsV RX0 25 RX0 yX0_runFrom wsX0_runFrom) := goodIn_app (goodIn_of _ (by decide +kernel)) ggX0_renew_X0_runFrom
theorem dX0_renew_0 : decode cX0_renew 0 = .ok (.iload_n 2, 1) := by decide +kernel
theorem dX0_renew_1 : decode cX0_renew 1 = .ok (.iload_n 1, 1) := by decide +kernel
theorem dX0_renew_2 : decode cX0_renew 2 = .ok (.iadd, 1) := by decide +kernel
theorem dX0_renew_3 : decode cX0_renew 3 = .ok (.aload_n 0, 1) := by decide +kernel
theorem dX0_renew_4 : decode cX0_renew 4 = .ok (.getfield 29, 3) := by decide +kernel
theorem dX0_renew_7 : decode cX0_renew 7 = .ok (.if_icmp .le 10, 3) := by decide +kernel
theorem dX0_renew_10 : decode cX0_renew 10 = .ok (.aload_n 0, 1) := by decide +kernel
theorem dX0_renew_11 : decode cX0_renew 11 = .ok (.iload_n 2, 1) := by decide +kernel
theorem dX0_renew_12 : decode cX0_renew 12 = .ok (.iload_n 1, 1) := by decide +kernel
theorem dX0_renew_13 : decode cX0_renew 13 = .ok (.iload_n 3, 1) := by decide +kernel
theorem dX0_renew_14 : decode cX0_renew 14 = .ok (.invokevirtual 25, 3) := by decide +kernel
theorem dX0_renew_17 : decode cX0_renew 17 = .ok (.return_, 1) := by decide +kernel
theorem dX0_runFrom_0 : decode cX0_runFrom 0 = .ok (.aload_n 0, 1) := by decide +kernel
theorem dX0_runFrom_1 : decode cX0_runFrom 1 = .ok (.iload_n 1, 1) := by decide +kernel
theorem dX0_runFrom_2 : decode cX0_runFrom 2 = .ok (.iload_n 2, 1) := by decide +kernel
theorem dX0_runFrom_3 : decode cX0_runFrom 3 = .ok (.iadd, 1) := by decide +kernel
theorem dX0_runFrom_4 : decode cX0_runFrom 4 = .ok (.putfield 29, 3) := by decide +kernel
theorem dX0_runFrom_7 : decode cX0_runFrom 7 = .ok (.aload_n 0, 1) := by decide +kernel
theorem dX0_runFrom_8 : decode cX0_runFrom 8 = .ok (.iload_n 2, 1) := by decide +kernel
theorem dX0_runFrom_9 : decode cX0_runFrom 9 = .ok (.putfield 32, 3) := by decide +kernel
theorem dX0_runFrom_12 : decode cX0_runFrom 12 = .ok (.aload_n 0, 1) := by decide +kernel
theorem dX0_runFrom_13 : decode cX0_runFrom 13 = .ok (.iload_n 3, 1) := by decide +kernel
theorem dX0_runFrom_14 : decode cX0_runFrom 14 = .ok (.putfield 35, 3) := by decide +kernel
theorem dX0_runFrom_17 : decode cX0_runFrom 17 = .ok (.return_, 1) := by decide +kernel
theorem dX1_init_0 : decode cX1_init 0 = .ok (.aload_n 0, 1) := by decide +kernel
theorem dX1_init_1 : decode cX1_init 1 = .ok (.invokespecial 3, 3) := by decide +kernel
theorem dX1_init_4 : decode cX1_init 4 = .ok (.aload_n 0, 1) := by decide +kernel
theorem dX1_init_5 : decode cX1_init 5 = .ok (.bipush 6, 2) := by decide +kernel
theorem dX1_init_7 : decode cX1_init 7 = .ok (.newarray .int, 2) := by decide +kernel
theorem dX1_init_9 : decode cX1_init 9 = .ok (.putfield 9, 3) := by decide +kernel
theorem dX1_init_12 : decode cX1_init 12 = .ok (.aload_n 0, 1) := by decide +kernel
theorem dX1_init_13 : decode cX1_init 13 = .ok (.bipush 6, 2) := by decide +kernel
theorem dX1_init_15 : decode cX1_init 15 = .ok (.newarray .int, 2) := by decide +kernel
theorem dX1_init_17 : decode cX1_init 17 = .ok (.putfield 15, 3) := by decide +kernel
theorem dX1_init_20 : decode cX1_init 20 = .ok (.return_, 1) := by decide +kernel
set_option maxRecDepth 20000 in
theorem ggX1_slotAt_X1_isTaken : GoodIn wsX1_slotAt wsX1_isTaken := goodIn_r _ [6, 7, 8, 9, 10] (by decide +kernel) (by decide +kernel)
set_option maxRecDepth 20000 in
theorem gX1_slotAt_X1_isTaken : GoodIn wsX1_slotAt (wsV RX1 18 RX1 yX1_isTaken wsX1_isTaken) := goodIn_app (goodIn_of _ (by decide +kernel)) ggX1_slotAt_X1_isTaken
theorem dX1_slotAt_0 : decode cX1_slotAt 0 = .ok (.aload_n 0, 1) := by decide +kernel
theorem dX1_slotAt_1 : decode cX1_slotAt 1 = .ok (.iload_n 1, 1) := by decide +kernel
theorem dX1_slotAt_2 : decode cX1_slotAt 2 = .ok (.invokevirtual 18, 3) := by decide +kernel
theorem dX1_slotAt_5 : decode cX1_slotAt 5 = .ok (.ifCond .eq 12, 3) := by decide +kernel
theorem dX1_slotAt_8 : decode cX1_slotAt 8 = .ok (.aload_n 0, 1) := by decide +kernel
theorem dX1_slotAt_9 : decode cX1_slotAt 9 = .ok (.getfield 9, 3) := by decide +kernel
theorem dX1_slotAt_12 : decode cX1_slotAt 12 = .ok (.iload_n 1, 1) := by decide +kernel
theorem dX1_slotAt_13 : decode cX1_slotAt 13 = .ok (.iaload, 1) := by decide +kernel
theorem dX1_slotAt_14 : decode cX1_slotAt 14 = .ok (.goto 4, 3) := by decide +kernel
theorem dX1_slotAt_17 : decode cX1_slotAt 17 = .ok (.iconst (-1), 1) := by decide +kernel
theorem dX1_slotAt_18 : decode cX1_slotAt 18 = .ok (.ireturn, 1) := by decide +kernel
set_option maxRecDepth 20000 in
theorem ggX1_termAt_X1_isTaken : GoodIn wsX1_termAt wsX1_isTaken := goodIn_r _ [6, 7, 8, 9, 10] (by decide +kernel) (by decide +kernel)
set_option maxRecDepth 20000 in
theorem gX1_termAt_X1_isTaken : GoodIn wsX1_termAt (wsV RX1 18 RX1 yX1_isTaken wsX1_isTaken) := goodIn_app (goodIn_of _ (by decide +kernel)) ggX1_termAt_X1_isTaken
theorem dX1_termAt_0 : decode cX1_termAt 0 = .ok (.aload_n 0, 1) := by decide +kernel
theorem dX1_termAt_1 : decode cX1_termAt 1 = .ok (.iload_n 1, 1) := by decide +kernel
theorem dX1_termAt_2 : decode cX1_termAt 2 = .ok (.invokevirtual 18, 3) := by decide +kernel
theorem dX1_termAt_5 : decode cX1_termAt 5 = .ok (.ifCond .eq 12, 3) := by decide +kernel
theorem dX1_termAt_8 : decode cX1_termAt 8 = .ok (.aload_n 0, 1) := by decide +kernel
theorem dX1_termAt_9 : decode cX1_termAt 9 = .ok (.getfield 15, 3) := by decide +kernel
theorem dX1_termAt_12 : decode cX1_termAt 12 = .ok (.iload_n 1, 1) := by decide +kernel
theorem dX1_termAt_13 : decode cX1_termAt 13 = .ok (.iaload, 1) := by decide +kernel
theorem dX1_termAt_14 : decode cX1_termAt 14 = .ok (.goto 4, 3) := by decide +kernel
theorem dX1_termAt_17 : decode cX1_termAt 17 = .ok (.iconst 0, 1) := by decide +kernel
theorem dX1_termAt_18 : decode cX1_termAt 18 = .ok (.ireturn, 1) := by decide +kernel
set_option maxRecDepth 20000 in
theorem ggX1_ask_X1_placeOf : GoodIn wsX1_ask wsX1_placeOf := goodIn_r _ [8, 2, 3, 9, 10, 11] (by decide +kernel) (by decide +kernel)
set_option maxRecDepth 20000 in
theorem gX1_ask_X1_placeOf : GoodIn wsX1_ask (wsV RX1 22 RX1 yX1_placeOf wsX1_placeOf) := goodIn_app (goodIn_of _ (by decide +kernel)) ggX1_ask_X1_placeOf
theorem dX1_ask_0 : decode cX1_ask 0 = .ok (.aload_n 0, 1) := by decide +kernel
theorem dX1_ask_1 : decode cX1_ask 1 = .ok (.iload_n 1, 1) := by decide +kernel
theorem dX1_ask_2 : decode cX1_ask 2 = .ok (.invokevirtual 22, 3) := by decide +kernel
theorem dX1_ask_5 : decode cX1_ask 5 = .ok (.istore_n 3, 1) := by decide +kernel
theorem dX1_ask_6 : decode cX1_ask 6 = .ok (.iload_n 3, 1) := by decide +kernel
theorem dX1_ask_7 : decode cX1_ask 7 = .ok (.iconst (-1), 1) := by decide +kernel
theorem dX1_ask_8 : decode cX1_ask 8 = .ok (.if_icmp .eq 13, 3) := by decide +kernel
theorem dX1_ask_11 : decode cX1_ask 11 = .ok (.aload_n 0, 1) := by decide +kernel
theorem dX1_ask_12 : decode cX1_ask 12 = .ok (.getfield 15, 3) := by decide +kernel
theorem dX1_ask_15 : decode cX1_ask 15 = .ok (.iload_n 3, 1) := by decide +kernel
theorem dX1_ask_16 : decode cX1_ask 16 = .ok (.iload_n 2, 1) := by decide +kernel
theorem dX1_ask_17 : decode cX1_ask 17 = .ok (.iastore, 1) := by decide +kernel
theorem dX1_ask_18 : decode cX1_ask 18 = .ok (.goto 42, 3) := by decide +kernel
theorem dX1_ask_21 : decode cX1_ask 21 = .ok (.aload_n 0, 1) := by decide +kernel
theorem dX1_ask_22 : decode cX1_ask 22 = .ok (.getfield 26, 3) := by decide +kernel
theorem dX1_ask_25 : decode cX1_ask 25 = .ok (.bipush 6, 2) := by decide +kernel
theorem dX1_ask_27 : decode cX1_ask 27 = .ok (.if_icmp .ge 33, 3) := by decide +kernel
theorem dX1_ask_30 : decode cX1_ask 30 = .ok (.aload_n 0, 1) := by decide +kernel
theorem dX1_ask_31 : decode cX1_ask 31 = .ok (.getfield 9, 3) := by decide +kernel
theorem dX1_ask_34 : decode cX1_ask 34 = .ok (.aload_n 0, 1) := by decide +kernel
theorem dX1_ask_35 : decode cX1_ask 35 = .ok (.getfield 26, 3) := by decide +kernel
theorem dX1_ask_38 : decode cX1_ask 38 = .ok (.iload_n 1, 1) := by decide +kernel
theorem dX1_ask_39 : decode cX1_ask 39 = .ok (.iastore, 1) := by decide +kernel
theorem dX1_ask_40 : decode cX1_ask 40 = .ok (.aload_n 0, 1) := by decide +kernel
theorem dX1_ask_41 : decode cX1_ask 41 = .ok (.getfield 15, 3) := by decide +kernel
theorem dX1_ask_44 : decode cX1_ask 44 = .ok (.aload_n 0, 1) := by decide +kernel
theorem dX1_ask_45 : decode cX1_ask 45 = .ok (.getfield 26, 3) := by decide +kernel
theorem dX1_ask_48 : decode cX1_ask 48 = .ok (.iload_n 2, 1) := by decide +kernel
theorem dX1_ask_49 : decode cX1_ask 49 = .ok (.iastore, 1) := by decide +kernel
theorem dX1_ask_50 : decode cX1_ask 50 = .ok (.aload_n 0, 1) := by decide +kernel
theorem dX1_ask_51 : decode cX1_ask 51 = .ok (.dup, 1) := by decide +kernel
theorem dX1_ask_52 : decode cX1_ask 52 = .ok (.getfield 26, 3) := by decide +kernel
theorem dX1_ask_55 : decode cX1_ask 55 = .ok (.iconst 1, 1) := by decide +kernel
theorem dX1_ask_56 : decode cX1_ask 56 = .ok (.iadd, 1) := by decide +kernel
theorem dX1_ask_57 : decode cX1_ask 57 = .ok (.putfield 26, 3) := by decide +kernel
theorem dX1_ask_60 : decode cX1_ask 60 = .ok (.return_, 1) := by decide +kernel
set_option maxRecDepth 20000 in
theorem ggX1_drop_X1_placeOf : GoodIn wsX1_drop wsX1_placeOf := goodIn_r _ [8, 1, 2, 9, 10, 11] (by decide +kernel) (by decide +kernel)
set_option maxRecDepth 20000 in
theorem gX1_drop_X1_placeOf : GoodIn wsX1_drop (wsV RX1 22 RX1 yX1_placeOf wsX1_placeOf) := goodIn_app (goodIn_of _ (by decide +kernel)) ggX1_drop_X1_placeOf
theorem dX1_drop_0 : decode cX1_drop 0 = .ok (.aload_n 0, 1) := by decide +kernel
theorem dX1_drop_1 : decode cX1_drop 1 = .ok (.iload_n 1, 1) := by decide +kernel
theorem dX1_drop_2 : decode cX1_drop 2 = .ok (.invokevirtual 22, 3) := by decide +kernel
theorem dX1_drop_5 : decode cX1_drop 5 = .ok (.istore_n 2, 1) := by decide +kernel
theorem dX1_drop_6 : decode cX1_drop 6 = .ok (.iload_n 2, 1) := by decide +kernel
theorem dX1_drop_7 : decode cX1_drop 7 = .ok (.iconst (-1), 1) := by decide +kernel
theorem dX1_drop_8 : decode cX1_drop 8 = .ok (.if_icmp .ne 5, 3) := by decide +kernel
theorem dX1_drop_11 : decode cX1_drop 11 = .ok (.iconst 0, 1) := by decide +kernel
theorem dX1_drop_12 : decode cX1_drop 12 = .ok (.ireturn, 1) := by decide +kernel
theorem dX1_drop_13 : decode cX1_drop 13 = .ok (.aload_n 0, 1) := by decide +kernel
theorem dX1_drop_14 : decode cX1_drop 14 = .ok (.dup, 1) := by decide +kernel
theorem dX1_drop_15 : decode cX1_drop 15 = .ok (.getfield 26, 3) := by decide +kernel
theorem dX1_drop_18 : decode cX1_drop 18 = .ok (.iconst 1, 1) := by decide +kernel
theorem dX1_drop_19 : decode cX1_drop 19 = .ok (.isub, 1) := by decide +kernel
theorem dX1_drop_20 : decode cX1_drop 20 = .ok (.putfield 26, 3) := by decide +kernel
theorem dX1_drop_23 : decode cX1_drop 23 = .ok (.iload_n 2, 1) := by decide +kernel
theorem dX1_drop_24 : decode cX1_drop 24 = .ok (.istore_n 3, 1) := by decide +kernel
theorem dX1_drop_25 : decode cX1_drop 25 = .ok (.iload_n 3, 1) := by decide +kernel
theorem dX1_drop_26 : decode cX1_drop 26 = .ok (.aload_n 0, 1) := by decide +kernel
theorem dX1_drop_27 : decode cX1_drop 27 = .ok (.getfield 26, 3) := by decide +kernel
theorem dX1_drop_30 : decode cX1_drop 30 = .ok (.if_icmp .ge 37, 3) := by decide +kernel
theorem dX1_drop_33 : decode cX1_drop 33 = .ok (.aload_n 0, 1) := by decide +kernel
theorem dX1_drop_34 : decode cX1_drop 34 = .ok (.getfield 9, 3) := by decide +kernel
theorem dX1_drop_37 : decode cX1_drop 37 = .ok (.iload_n 3, 1) := by decide +kernel
theorem dX1_drop_38 : decode cX1_drop 38 = .ok (.aload_n 0, 1) := by decide +kernel
theorem dX1_drop_39 : decode cX1_drop 39 = .ok (.getfield 9, 3) := by decide +kernel
theorem dX1_drop_42 : decode cX1_drop 42 = .ok (.iload_n 3, 1) := by decide +kernel
theorem dX1_drop_43 : decode cX1_drop 43 = .ok (.iconst 1, 1) := by decide +kernel
theorem dX1_drop_44 : decode cX1_drop 44 = .ok (.iadd, 1) := by decide +kernel
theorem dX1_drop_45 : decode cX1_drop 45 = .ok (.iaload, 1) := by decide +kernel
theorem dX1_drop_46 : decode cX1_drop 46 = .ok (.iastore, 1) := by decide +kernel
theorem dX1_drop_47 : decode cX1_drop 47 = .ok (.aload_n 0, 1) := by decide +kernel
theorem dX1_drop_48 : decode cX1_drop 48 = .ok (.getfield 15, 3) := by decide +kernel
theorem dX1_drop_51 : decode cX1_drop 51 = .ok (.iload_n 3, 1) := by decide +kernel
theorem dX1_drop_52 : decode cX1_drop 52 = .ok (.aload_n 0, 1) := by decide +kernel
theorem dX1_drop_53 : decode cX1_drop 53 = .ok (.getfield 15, 3) := by decide +kernel
theorem dX1_drop_56 : decode cX1_drop 56 = .ok (.iload_n 3, 1) := by decide +kernel
theorem dX1_drop_57 : decode cX1_drop 57 = .ok (.iconst 1, 1) := by decide +kernel
theorem dX1_drop_58 : decode cX1_drop 58 = .ok (.iadd, 1) := by decide +kernel
theorem dX1_drop_59 : decode cX1_drop 59 = .ok (.iaload, 1) := by decide +kernel
theorem dX1_drop_60 : decode cX1_drop 60 = .ok (.iastore, 1) := by decide +kernel
theorem dX1_drop_61 : decode cX1_drop 61 = .ok (.iinc 3 1, 3) := by decide +kernel
theorem dX1_drop_64 : decode cX1_drop 64 = .ok (.goto (-39), 3) := by decide +kernel
theorem dX1_drop_67 : decode cX1_drop 67 = .ok (.iconst 1, 1) := by decide +kernel
theorem dX1_drop_68 : decode cX1_drop 68 = .ok (.ireturn, 1) := by decide +kernel
theorem dX1_isTaken_0 : decode cX1_isTaken 0 = .ok (.iload_n 1, 1) := by decide +kernel
theorem dX1_isTaken_1 : decode cX1_isTaken 1 = .ok (.ifCond .lt 15, 3) := by decide +kernel
theorem dX1_isTaken_4 : decode cX1_isTaken 4 = .ok (.iload_n 1, 1) := by decide +kernel
theorem dX1_isTaken_5 : decode cX1_isTaken 5 = .ok (.aload_n 0, 1) := by decide +kernel
theorem dX1_isTaken_6 : decode cX1_isTaken 6 = .ok (.getfield 26, 3) := by decide +kernel
theorem dX1_isTaken_9 : decode cX1_isTaken 9 = .ok (.if_icmp .ge 7, 3) := by decide +kernel
theorem dX1_isTaken_12 : decode cX1_isTaken 12 = .ok (.iconst 1, 1) := by decide +kernel
theorem dX1_isTaken_13 : decode cX1_isTaken 13 = .ok (.goto 4, 3) := by decide +kernel
theorem dX1_isTaken_16 : decode cX1_isTaken 16 = .ok (.iconst 0, 1) := by decide +kernel
theorem dX1_isTaken_17 : decode cX1_isTaken 17 = .ok (.ireturn, 1) := by decide +kernel
theorem dX1_placeOf_0 : decode cX1_placeOf 0 = .ok (.iconst 0, 1) := by decide +kernel
theorem dX1_placeOf_1 : decode cX1_placeOf 1 = .ok (.istore_n 2, 1) := by decide +kernel
theorem dX1_placeOf_2 : decode cX1_placeOf 2 = .ok (.iload_n 2, 1) := by decide +kernel
theorem dX1_placeOf_3 : decode cX1_placeOf 3 = .ok (.aload_n 0, 1) := by decide +kernel
theorem dX1_placeOf_4 : decode cX1_placeOf 4 = .ok (.getfield 26, 3) := by decide +kernel
theorem dX1_placeOf_7 : decode cX1_placeOf 7 = .ok (.if_icmp .ge 21, 3) := by decide +kernel
theorem dX1_placeOf_10 : decode cX1_placeOf 10 = .ok (.aload_n 0, 1) := by decide +kernel
theorem dX1_placeOf_11 : decode cX1_placeOf 11 = .ok (.getfield 9, 3) := by decide +kernel
theorem dX1_placeOf_14 : decode cX1_placeOf 14 = .ok (.iload_n 2, 1) := by decide +kernel
theorem dX1_placeOf_15 : decode cX1_placeOf 15 = .ok (.iaload, 1) := by decide +kernel
theorem dX1_placeOf_16 : decode cX1_placeOf 16 = .ok (.iload_n 1, 1) := by decide +kernel
theorem dX1_placeOf_17 : decode cX1_placeOf 17 = .ok (.if_icmp .ne 5, 3) := by decide +kernel
theorem dX1_placeOf_20 : decode cX1_placeOf 20 = .ok (.iload_n 2, 1) := by decide +kernel
theorem dX1_placeOf_21 : decode cX1_placeOf 21 = .ok (.ireturn, 1) := by decide +kernel
theorem dX1_placeOf_22 : decode cX1_placeOf 22 = .ok (.iinc 2 1, 3) := by decide +kernel
theorem dX1_placeOf_25 : decode cX1_placeOf 25 = .ok (.goto (-23), 3) := by decide +kernel
theorem dX1_placeOf_28 : decode cX1_placeOf 28 = .ok (.iconst (-1), 1) := by decide +kernel
theorem dX1_placeOf_29 : decode cX1_placeOf 29 = .ok (.ireturn, 1) := by decide +kernel
theorem dX2_init_0 : decode cX2_init 0 = .ok (.aload_n 0, 1) := by decide +kernel
theorem dX2_init_1 : decode cX2_init 1 = .ok (.invokespecial 3, 3) := by decide +kernel
theorem dX2_init_4 : decode cX2_init 4 = .ok (.return_, 1) := by decide +kernel
theorem dX2_begin_0 : decode cX2_begin 0 = .ok (.aload_n 0, 1) := by decide +kernel
theorem dX2_begin_1 : decode cX2_begin 1 = .ok (.iconst 1, 1) := by decide +kernel
theorem dX2_begin_2 : decode cX2_begin 2 = .ok (.putfield 9, 3) := by decide +kernel
theorem dX2_begin_5 : decode cX2_begin 5 = .ok (.aload_n 0, 1) := by decide +kernel
theorem dX2_begin_6 : decode cX2_begin 6 = .ok (.iload_n 1, 1) := by decide +kernel
theorem dX2_begin_7 : decode cX2_begin 7 = .ok (.putfield 15, 3) := by decide +kernel
theorem dX2_begin_10 : decode cX2_begin 10 = .ok (.aload_n 0, 1) := by decide +kernel
theorem dX2_begin_11 : decode cX2_begin 11 = .ok (.bipush 10, 2) := by decide +kernel
theorem dX2_begin_13 : decode cX2_begin 13 = .ok (.putfield 19, 3) := by decide +kernel
theorem dX2_begin_16 : decode cX2_begin 16 = .ok (.aload_n 0, 1) := by decide +kernel
theorem dX2_begin_17 : decode cX2_begin 17 = .ok (.iconst 0, 1) := by decide +kernel
theorem dX2_begin_18 : decode cX2_begin 18 = .ok (.putfield 22, 3) := by decide +kernel
theorem dX2_begin_21 : decode cX2_begin 21 = .ok (.return_, 1) := by decide +kernel
set_option maxRecDepth 20000 in
theorem ggX3_init_X2_init : GoodIn wsX3_init wsX2_init := goodIn_r _ [14, 15, 2, 3] (by decide +kernel) (by decide +kernel)
set_option maxRecDepth 20000 in
theorem gX3_init_X2_init_n15 : GoodIn wsX3_init (wsX2_init) := ggX3_init_X2_init
set_option maxRecDepth 20000 in
theorem ggX3_init_X0_init : GoodIn wsX3_init wsX0_init := goodIn_r _ [17, 18, 2, 3, 19, 20, 21, 22, 23, 24, 25, 26, 27, 28, 29, 45, 46, 47, 37, 38, 39, 40, 41, 42, 43, 44] (by decide +kernel) (by decide +kernel)
set_option maxRecDepth 20000 in
theorem gX3_init_X0_init_n22 : GoodIn wsX3_init (wsX0_init) := ggX3_init_X0_init
theorem dX3_init_0 : decode cX3_init 0 = .ok (.aload_n 0, 1) := by decide +kernel
theorem dX3_init_1 : decode cX3_init 1 = .ok (.invokespecial 1, 3) := by decide +kernel
theorem dX3_init_4 : decode cX3_init 4 = .ok (.aload_n 0, 1) := by decide +kernel
theorem dX3_init_5 : decode cX3_init 5 = .ok (.bipush 6, 2) := by decide +kernel
theorem dX3_init_7 : decode cX3_init 7 = .ok (.anewarray 9, 3) := by decide +kernel
theorem dX3_init_10 : decode cX3_init 10 = .ok (.putfield 11, 3) := by decide +kernel
theorem dX3_init_13 : decode cX3_init 13 = .ok (.iconst 0, 1) := by decide +kernel
theorem dX3_init_14 : decode cX3_init 14 = .ok (.istore_n 1, 1) := by decide +kernel
theorem dX3_init_15 : decode cX3_init 15 = .ok (.iload_n 1, 1) := by decide +kernel
theorem dX3_init_16 : decode cX3_init 16 = .ok (.bipush 6, 2) := by decide +kernel
theorem dX3_init_18 : decode cX3_init 18 = .ok (.if_icmp .ge 22, 3) := by decide +kernel
theorem dX3_init_21 : decode cX3_init 21 = .ok (.aload_n 0, 1) := by decide +kernel
theorem dX3_init_22 : decode cX3_init 22 = .ok (.getfield 11, 3) := by decide +kernel
theorem dX3_init_25 : decode cX3_init 25 = .ok (.iload_n 1, 1) := by decide +kernel
theorem dX3_init_26 : decode cX3_init 26 = .ok (.new 9, 3) := by decide +kernel
theorem dX3_init_29 : decode cX3_init 29 = .ok (.dup, 1) := by decide +kernel
theorem dX3_init_30 : decode cX3_init 30 = .ok (.invokespecial 15, 3) := by decide +kernel
theorem dX3_init_33 : decode cX3_init 33 = .ok (.aastore, 1) := by decide +kernel
theorem dX3_init_34 : decode cX3_init 34 = .ok (.iinc 1 1, 3) := by decide +kernel
theorem dX3_init_37 : decode cX3_init 37 = .ok (.goto (-22), 3) := by decide +kernel
theorem dX3_init_40 : decode cX3_init 40 = .ok (.aload_n 0, 1) := by decide +kernel
theorem dX3_init_41 : decode cX3_init 41 = .ok (.iconst 4, 1) := by decide +kernel
theorem dX3_init_42 : decode cX3_init 42 = .ok (.anewarray 16, 3) := by decide +kernel
theorem dX3_init_45 : decode cX3_init 45 = .ok (.putfield 18, 3) := by decide +kernel
theorem dX3_init_48 : decode cX3_init 48 = .ok (.iconst 0, 1) := by decide +kernel
theorem dX3_init_49 : decode cX3_init 49 = .ok (.istore_n 1, 1) := by decide +kernel
theorem dX3_init_50 : decode cX3_init 50 = .ok (.iload_n 1, 1) := by decide +kernel
theorem dX3_init_51 : decode cX3_init 51 = .ok (.iconst 4, 1) := by decide +kernel
theorem dX3_init_52 : decode cX3_init 52 = .ok (.if_icmp .ge 22, 3) := by decide +kernel
theorem dX3_init_55 : decode cX3_init 55 = .ok (.aload_n 0, 1) := by decide +kernel
theorem dX3_init_56 : decode cX3_init 56 = .ok (.getfield 18, 3) := by decide +kernel
theorem dX3_init_59 : decode cX3_init 59 = .ok (.iload_n 1, 1) := by decide +kernel
theorem dX3_init_60 : decode cX3_init 60 = .ok (.new 16, 3) := by decide +kernel
theorem dX3_init_63 : decode cX3_init 63 = .ok (.dup, 1) := by decide +kernel
theorem dX3_init_64 : decode cX3_init 64 = .ok (.invokespecial 22, 3) := by decide +kernel
theorem dX3_init_67 : decode cX3_init 67 = .ok (.aastore, 1) := by decide +kernel
theorem dX3_init_68 : decode cX3_init 68 = .ok (.iinc 1 1, 3) := by decide +kernel
theorem dX3_init_71 : decode cX3_init 71 = .ok (.goto (-21), 3) := by decide +kernel
theorem dX3_init_74 : decode cX3_init 74 = .ok (.aload_n 0, 1) := by decide +kernel
theorem dX3_init_75 : decode cX3_init 75 = .ok (.iconst 0, 1) := by decide +kernel
theorem dX3_init_76 : decode cX3_init 76 = .ok (.putfield 23, 3) := by decide +kernel
theorem dX3_init_79 : decode cX3_init 79 = .ok (.return_, 1) := by decide +kernel
set_option maxRecDepth 20000 in
theorem ggX3_open_X2_begin : GoodIn wsX3_open wsX2_begin := goodIn_r _ [10, 11, 12, 13, 14, 18, 19, 20, 21] (by decide +kernel) (by decide +kernel)
set_option maxRecDepth 20000 in
theorem gX3_open_X2_begin : GoodIn wsX3_open (wsV RX3 31 RX2 yX2_begin wsX2_begin) := goodIn_app (goodIn_of _ (by decide +kernel)) ggX3_open_X2_begin
theorem dX3_open_0 : decode cX3_open 0 = .ok (.iconst 0, 1) := by decide +kernel
theorem dX3_open_1 : decode cX3_open 1 = .ok (.istore_n 1, 1) := by decide +kernel
theorem dX3_open_2 : decode cX3_open 2 = .ok (.iload_n 1, 1) := by decide +kernel
theorem dX3_open_3 : decode cX3_open 3 = .ok (.bipush 6, 2) := by decide +kernel
theorem dX3_open_5 : decode cX3_open 5 = .ok (.if_icmp .ge 36, 3) := by decide +kernel
theorem dX3_open_8 : decode cX3_open 8 = .ok (.aload_n 0, 1) := by decide +kernel
theorem dX3_open_9 : decode cX3_open 9 = .ok (.getfield 11, 3) := by decide +kernel
theorem dX3_open_12 : decode cX3_open 12 = .ok (.iload_n 1, 1) := by decide +kernel
theorem dX3_open_13 : decode cX3_open 13 = .ok (.aaload, 1) := by decide +kernel
theorem dX3_open_14 : decode cX3_open 14 = .ok (.getfield 27, 3) := by decide +kernel
theorem dX3_open_17 : decode cX3_open 17 = .ok (.ifCond .ne 18, 3) := by decide +kernel
theorem dX3_open_20 : decode cX3_open 20 = .ok (.aload_n 0, 1) := by decide +kernel
theorem dX3_open_21 : decode cX3_open 21 = .ok (.getfield 11, 3) := by decide +kernel
theorem dX3_open_24 : decode cX3_open 24 = .ok (.iload_n 1, 1) := by decide +kernel
theorem dX3_open_25 : decode cX3_open 25 = .ok (.aaload, 1) := by decide +kernel
theorem dX3_open_26 : decode cX3_open 26 = .ok (.aload_n 0, 1) := by decide +kernel
theorem dX3_open_27 : decode cX3_open 27 = .ok (.getfield 23, 3) := by decide +kernel
theorem dX3_open_30 : decode cX3_open 30 = .ok (.invokevirtual 31, 3) := by decide +kernel
theorem dX3_open_33 : decode cX3_open 33 = .ok (.iload_n 1, 1) := by decide +kernel
theorem dX3_open_34 : decode cX3_open 34 = .ok (.ireturn, 1) := by decide +kernel
theorem dX3_open_35 : decode cX3_open 35 = .ok (.iinc 1 1, 3) := by decide +kernel
theorem dX3_open_38 : decode cX3_open 38 = .ok (.goto (-36), 3) := by decide +kernel
theorem dX3_open_41 : decode cX3_open 41 = .ok (.new 35, 3) := by decide +kernel
theorem dX3_open_44 : decode cX3_open 44 = .ok (.dup, 1) := by decide +kernel
theorem dX3_open_45 : decode cX3_open 45 = .ok (.ldc 37, 2) := by decide +kernel
theorem dX3_open_47 : decode cX3_open 47 = .ok (.invokespecial 39, 3) := by decide +kernel
theorem dX3_open_50 : decode cX3_open 50 = .ok (.athrow, 1) := by decide +kernel
set_option maxRecDepth 20000 in
theorem ggX3_close_X3_requireSession : GoodIn wsX3_close wsX3_requireSession := goodIn_ca (goodIn_r _ [5, 6, 7, 8, 9, 10, 4, 11, 12, 13, 69, 70, 71, 72, 73, 74, 75] (by decide +kernel) (by decide +kernel)) (goodIn_sub (fun _ h => List.mem_cons_of_mem _ (List.mem_append_right _ h)) (by decide +kernel))
set_option maxRecDepth 20000 in
theorem gX3_close_X3_requireSession : GoodIn wsX3_close (wsV RX3 42 RX3 yX3_requireSession wsX3_requireSession) := goodIn_app (goodIn_of _ (by decide +kernel)) ggX3_close_X3_requireSession
set_option maxRecDepth 20000 in
theorem ggX3_close_X3_endSession : GoodIn wsX3_close wsX3_endSession := goodIn_r _ [17, 18, 19, 20, 13, 21, 22, 23, 24, 25, 26, 27, 28, 29, 30, 31, 32, 33, 34, 35, 4, 36, 37, 38, 39, 40, 41, 42, 43, 44, 45, 46, 47, 48, 49, 50, 51, 52, 53, 54, 8, 9, 10, 11, 12, 55, 56, 57, 58, 59, 60, 61, 62, 63, 64, 65, 66, 67, 68, 69, 70, 71, 76, 77, 78, 79, 80, 81, 82, 83, 72, 73, 74, 75, 84, 85, 86] (by decide +kernel) (by decide +kernel)
set_option maxRecDepth 20000 in
theorem gX3_close_X3_endSession : GoodIn wsX3_close (wsV RX3 46 RX3 yX3_endSession wsX3_endSession) := goodIn_app (goodIn_of _ (by decide +kernel)) ggX3_close_X3_endSession
theorem dX3_close_0 : decode cX3_close 0 = .ok (.aload_n 0, 1) := by decide +kernel
theorem dX3_close_1 : decode cX3_close 1 = .ok (.aload_n 0, 1) := by decide +kernel
theorem dX3_close_2 : decode cX3_close 2 = .ok (.iload_n 1, 1) := by decide +kernel
theorem dX3_close_3 : decode cX3_close 3 = .ok (.invokevirtual 42, 3) := by decide +kernel
theorem dX3_close_6 : decode cX3_close 6 = .ok (.iload_n 1, 1) := by decide +kernel
theorem dX3_close_7 : decode cX3_close 7 = .ok (.invokevirtual 46, 3) := by decide +kernel
theorem dX3_close_10 : decode cX3_close 10 = .ok (.ireturn, 1) := by decide +kernel
set_option maxRecDepth 20000 in
theorem ggX3_keep_X3_requireSession : GoodIn wsX3_keep wsX3_requireSession := goodIn_ca (goodIn_r _ [7, 8, 9, 10, 11, 12, 6, 13, 14, 15, 16, 17, 18, 19, 20, 21, 22] (by decide +kernel) (by decide +kernel)) (goodIn_sub (fun _ h => List.mem_cons_of_mem _ (List.mem_append_right _ h)) (by decide +kernel))
set_option maxRecDepth 20000 in
theorem gX3_keep_X3_requireSession : GoodIn wsX3_keep (wsV RX3 42 RX3 yX3_requireSession wsX3_requireSession) := goodIn_app (goodIn_of _ (by decide +kernel)) ggX3_keep_X3_requireSession
theorem dX3_keep_0 : decode cX3_keep 0 = .ok (.aload_n 0, 1) := by decide +kernel
theorem dX3_keep_1 : decode cX3_keep 1 = .ok (.iload_n 1, 1) := by decide +kernel
theorem dX3_keep_2 : decode cX3_keep 2 = .ok (.invokevirtual 42, 3) := by decide +kernel
theorem dX3_keep_5 : decode cX3_keep 5 = .ok (.aload_n 0, 1) := by decide +kernel
theorem dX3_keep_6 : decode cX3_keep 6 = .ok (.getfield 23, 3) := by decide +kernel
theorem dX3_keep_9 : decode cX3_keep 9 = .ok (.putfield 50, 3) := by decide +kernel
theorem dX3_keep_12 : decode cX3_keep 12 = .ok (.return_, 1) := by decide +kernel
set_option maxRecDepth 20000 in
theorem ggX3_rate_X3_openSession : GoodIn wsX3_rate wsX3_openSession := goodIn_r _ [6, 7, 8, 13, 14, 15, 9, 10, 11, 12] (by decide +kernel) (by decide +kernel)
set_option maxRecDepth 20000 in
theorem gX3_rate_X3_openSession : GoodIn wsX3_rate (wsV RX3 53 RX3 yX3_openSession wsX3_openSession) := goodIn_app (goodIn_of _ (by decide +kernel)) ggX3_rate_X3_openSession
theorem dX3_rate_0 : decode cX3_rate 0 = .ok (.aload_n 0, 1) := by decide +kernel
theorem dX3_rate_1 : decode cX3_rate 1 = .ok (.iload_n 1, 1) := by decide +kernel
theorem dX3_rate_2 : decode cX3_rate 2 = .ok (.invokevirtual 53, 3) := by decide +kernel
theorem dX3_rate_5 : decode cX3_rate 5 = .ok (.astore_n 3, 1) := by decide +kernel
theorem dX3_rate_6 : decode cX3_rate 6 = .ok (.aload_n 3, 1) := by decide +kernel
theorem dX3_rate_7 : decode cX3_rate 7 = .ok (.ifnull 15, 3) := by decide +kernel
theorem dX3_rate_10 : decode cX3_rate 10 = .ok (.iload_n 2, 1) := by decide +kernel
theorem dX3_rate_11 : decode cX3_rate 11 = .ok (.bipush 9, 2) := by decide +kernel
theorem dX3_rate_13 : decode cX3_rate 13 = .ok (.if_icmp .lt 9, 3) := by decide +kernel
theorem dX3_rate_16 : decode cX3_rate 16 = .ok (.iload_n 2, 1) := by decide +kernel
theorem dX3_rate_17 : decode cX3_rate 17 = .ok (.bipush 11, 2) := by decide +kernel
theorem dX3_rate_19 : decode cX3_rate 19 = .ok (.if_icmp .le 5, 3) := by decide +kernel
theorem dX3_rate_22 : decode cX3_rate 22 = .ok (.iconst 0, 1) := by decide +kernel
theorem dX3_rate_23 : decode cX3_rate 23 = .ok (.ireturn, 1) := by decide +kernel
theorem dX3_rate_24 : decode cX3_rate 24 = .ok (.aload_n 3, 1) := by decide +kernel
theorem dX3_rate_25 : decode cX3_rate 25 = .ok (.iload_n 2, 1) := by decide +kernel
theorem dX3_rate_26 : decode cX3_rate 26 = .ok (.putfield 56, 3) := by decide +kernel
theorem dX3_rate_29 : decode cX3_rate 29 = .ok (.iconst 1, 1) := by decide +kernel
theorem dX3_rate_30 : decode cX3_rate 30 = .ok (.ireturn, 1) := by decide +kernel
set_option maxRecDepth 20000 in
theorem ggX3_tick_X3_moveClocks : GoodIn wsX3_tick wsX3_moveClocks := goodIn_r _ [6, 7, 8, 9, 10, 82, 83, 84, 85, 86, 87, 88] (by decide +kernel) (by decide +kernel)
set_option maxRecDepth 20000 in
theorem gX3_tick_X3_moveClocks : GoodIn wsX3_tick (wsV RX3 59 RX3 yX3_moveClocks wsX3_moveClocks) := goodIn_app (goodIn_of _ (by decide +kernel)) ggX3_tick_X3_moveClocks
set_option maxRecDepth 20000 in
theorem ggX3_tick_X3_endSilentSessions : GoodIn wsX3_tick wsX3_endSilentSessions := goodIn_r _ [14, 7, 8, 1, 15, 16, 17, 18, 5, 19, 20, 21, 22, 23, 24, 25, 26, 27, 28, 29, 30, 31, 32, 33, 34, 35, 36, 37, 38, 39, 40, 41, 42, 43, 44, 45, 46, 47, 48, 49, 50, 51, 52, 53, 54, 9, 55, 56, 57, 58, 59, 60, 61, 62, 63, 64, 65, 66, 67, 68, 69, 70, 71, 72, 82, 83, 84, 85, 86, 87, 88, 89, 90, 91, 92, 93, 94, 95, 96, 97, 98, 99] (by decide +kernel) (by decide +kernel)
set_option maxRecDepth 20000 in
theorem gX3_tick_X3_endSilentSessions : GoodIn wsX3_tick (wsV RX3 62 RX3 yX3_endSilentSessions wsX3_endSilentSessions) := goodIn_app (goodIn_of _ (by decide +kernel)) ggX3_tick_X3_endSilentSessions
set_option maxRecDepth 20000 in
theorem ggX3_tick_X3_passOnLeasesDue : GoodIn wsX3_tick wsX3_passOnLeasesDue := goodIn_r _ [76, 20, 77, 1, 78, 79, 80, 62, 81, 64, 35, 36, 37, 5, 38, 22, 21, 39, 40, 41, 26, 42, 29, 43, 44, 45, 46, 28, 47, 48, 49, 50, 30, 23, 24, 25, 27, 31, 32, 33, 34, 51, 52, 53, 54, 9, 55, 56, 57, 58, 7, 8, 59, 60, 61, 63, 65, 66, 67, 68, 69, 70, 71, 72, 82, 83, 84, 89, 90, 91, 92, 93, 94, 95, 96, 97, 98, 99, 85, 86, 87, 88] (by decide +kernel) (by decide +kernel)
set_option maxRecDepth 20000 in
theorem gX3_tick_X3_passOnLeasesDue : GoodIn wsX3_tick (wsV RX3 66 RX3 yX3_passOnLeasesDue wsX3_passOnLeasesDue) := goodIn_app (goodIn_of _ (by decide +kernel)) ggX3_tick_X3_passOnLeasesDue
theorem dX3_tick_0 : decode cX3_tick 0 = .ok (.iload_n 1, 1) := by decide +kernel
theorem dX3_tick_1 : decode cX3_tick 1 = .ok (.ifCond .lt 9, 3) := by decide +kernel
theorem dX3_tick_4 : decode cX3_tick 4 = .ok (.iload_n 1, 1) := by decide +kernel
theorem dX3_tick_5 : decode cX3_tick 5 = .ok (.bipush 100, 2) := by decide +kernel
theorem dX3_tick_7 : decode cX3_tick 7 = .ok (.if_icmp .le 5, 3) := by decide +kernel
theorem dX3_tick_10 : decode cX3_tick 10 = .ok (.iconst (-1), 1) := by decide +kernel
theorem dX3_tick_11 : decode cX3_tick 11 = .ok (.ireturn, 1) := by decide +kernel
theorem dX3_tick_12 : decode cX3_tick 12 = .ok (.aload_n 0, 1) := by decide +kernel
theorem dX3_tick_13 : decode cX3_tick 13 = .ok (.dup, 1) := by decide +kernel
theorem dX3_tick_14 : decode cX3_tick 14 = .ok (.getfield 23, 3) := by decide +kernel
theorem dX3_tick_17 : decode cX3_tick 17 = .ok (.iload_n 1, 1) := by decide +kernel
theorem dX3_tick_18 : decode cX3_tick 18 = .ok (.iadd, 1) := by decide +kernel
theorem dX3_tick_19 : decode cX3_tick 19 = .ok (.putfield 23, 3) := by decide +kernel
theorem dX3_tick_22 : decode cX3_tick 22 = .ok (.aload_n 0, 1) := by decide +kernel
theorem dX3_tick_23 : decode cX3_tick 23 = .ok (.iload_n 1, 1) := by decide +kernel
theorem dX3_tick_24 : decode cX3_tick 24 = .ok (.invokevirtual 59, 3) := by decide +kernel
theorem dX3_tick_27 : decode cX3_tick 27 = .ok (.aload_n 0, 1) := by decide +kernel
theorem dX3_tick_28 : decode cX3_tick 28 = .ok (.invokevirtual 62, 3) := by decide +kernel
theorem dX3_tick_31 : decode cX3_tick 31 = .ok (.istore_n 2, 1) := by decide +kernel
theorem dX3_tick_32 : decode cX3_tick 32 = .ok (.iload_n 2, 1) := by decide +kernel
theorem dX3_tick_33 : decode cX3_tick 33 = .ok (.aload_n 0, 1) := by decide +kernel
theorem dX3_tick_34 : decode cX3_tick 34 = .ok (.invokevirtual 66, 3) := by decide +kernel
theorem dX3_tick_37 : decode cX3_tick 37 = .ok (.iadd, 1) := by decide +kernel
theorem dX3_tick_38 : decode cX3_tick 38 = .ok (.istore_n 2, 1) := by decide +kernel
theorem dX3_tick_39 : decode cX3_tick 39 = .ok (.iload_n 2, 1) := by decide +kernel
theorem dX3_tick_40 : decode cX3_tick 40 = .ok (.ireturn, 1) := by decide +kernel
set_option maxRecDepth 20000 in
theorem ggX3_acquire_X3_requireSession : GoodIn wsX3_acquire wsX3_requireSession := goodIn_ca (goodIn_r _ [13, 14, 15, 16, 17, 18, 12, 19, 20, 21, 65, 66, 67, 68, 69, 70, 71] (by decide +kernel) (by decide +kernel)) (goodIn_sub (fun _ h => List.mem_cons_of_mem _ (List.mem_append_right _ h)) (by decide +kernel))
set_option maxRecDepth 20000 in
theorem gX3_acquire_X3_requireSession : GoodIn wsX3_acquire (wsV RX3 42 RX3 yX3_requireSession wsX3_requireSession) := goodIn_app (goodIn_of _ (by decide +kernel)) ggX3_acquire_X3_requireSession
set_option maxRecDepth 20000 in
theorem ggX3_acquire_X3_requireLock : GoodIn wsX3_acquire wsX3_requireLock := goodIn_ca (goodIn_r _ [25, 1, 2, 26, 27, 28, 12, 29, 30, 65, 66, 67] (by decide +kernel) (by decide +kernel)) (goodIn_sub (fun _ h => List.mem_cons_of_mem _ (List.mem_append_left _ (List.mem_append_right _ h))) (by decide +kernel))
set_option maxRecDepth 20000 in
theorem gX3_acquire_X3_requireLock : GoodIn wsX3_acquire (wsV RX3 69 RX3 yX3_requireLock wsX3_requireLock) := goodIn_app (goodIn_of _ (by decide +kernel)) ggX3_acquire_X3_requireLock
set_option maxRecDepth 20000 in
theorem ggX3_acquire_X0_renew : GoodIn wsX3_acquire wsX0_renew := goodIn_r _ [35, 36, 37, 38, 39, 34, 40, 41, 42, 72, 73, 74, 75, 76, 77, 78, 79] (by decide +kernel) (by decide +kernel)
set_option maxRecDepth 20000 in
theorem gX3_acquire_X0_renew : GoodIn wsX3_acquire (wsV RX3 84 RX0 yX0_renew wsX0_renew) := goodIn_app (goodIn_of _ (by decide +kernel)) ggX3_acquire_X0_renew
set_option maxRecDepth 20000 in
theorem ggX3_acquire_X0_isFree : GoodIn wsX3_acquire wsX0_isFree := goodIn_r _ [46, 47, 72, 73, 74, 75, 76, 77, 78, 79] (by decide +kernel) (by decide +kernel)
set_option maxRecDepth 20000 in
theorem gX3_acquire_X0_isFree : GoodIn wsX3_acquire (wsV RX3 91 RX0 yX0_isFree wsX0_isFree) := goodIn_app (goodIn_of _ (by decide +kernel)) ggX3_acquire_X0_isFree
set_option maxRecDepth 20000 in
theorem ggX3_acquire_X0_lend : GoodIn wsX3_acquire wsX0_lend := goodIn_r _ [51, 47, 52, 37, 38, 39, 34, 40, 36, 41, 42, 72, 73, 74, 75, 76, 77, 78, 79] (by decide +kernel) (by decide +kernel)
set_option maxRecDepth 20000 in
theorem gX3_acquire_X0_lend : GoodIn wsX3_acquire (wsV RX3 95 RX0 yX0_lend wsX0_lend) := goodIn_app (goodIn_of _ (by decide +kernel)) ggX3_acquire_X0_lend
set_option maxRecDepth 20000 in
theorem ggX3_acquire_X1_ask : GoodIn wsX3_acquire wsX1_ask := goodIn_r _ [57, 58, 59, 60, 61, 62, 63, 56, 64, 80, 81, 82] (by decide +kernel) (by decide +kernel)
set_option maxRecDepth 20000 in
theorem gX3_acquire_X1_ask : GoodIn wsX3_acquire (wsV RX3 103 RX1 yX1_ask wsX1_ask) := goodIn_app (goodIn_of _ (by decide +kernel)) ggX3_acquire_X1_ask
theorem dX3_acquire_0 : decode cX3_acquire 0 = .ok (.aload_n 0, 1) := by decide +kernel
theorem dX3_acquire_1 : decode cX3_acquire 1 = .ok (.iload_n 1, 1) := by decide +kernel
theorem dX3_acquire_2 : decode cX3_acquire 2 = .ok (.invokevirtual 42, 3) := by decide +kernel
theorem dX3_acquire_5 : decode cX3_acquire 5 = .ok (.astore 4, 2) := by decide +kernel
theorem dX3_acquire_7 : decode cX3_acquire 7 = .ok (.aload_n 0, 1) := by decide +kernel
theorem dX3_acquire_8 : decode cX3_acquire 8 = .ok (.iload_n 2, 1) := by decide +kernel
theorem dX3_acquire_9 : decode cX3_acquire 9 = .ok (.invokevirtual 69, 3) := by decide +kernel
theorem dX3_acquire_12 : decode cX3_acquire 12 = .ok (.astore 5, 2) := by decide +kernel
theorem dX3_acquire_14 : decode cX3_acquire 14 = .ok (.iload_n 3, 1) := by decide +kernel
theorem dX3_acquire_15 : decode cX3_acquire 15 = .ok (.iconst 1, 1) := by decide +kernel
theorem dX3_acquire_16 : decode cX3_acquire 16 = .ok (.if_icmp .lt 9, 3) := by decide +kernel
theorem dX3_acquire_19 : decode cX3_acquire 19 = .ok (.iload_n 3, 1) := by decide +kernel
theorem dX3_acquire_20 : decode cX3_acquire 20 = .ok (.bipush 100, 2) := by decide +kernel
theorem dX3_acquire_22 : decode cX3_acquire 22 = .ok (.if_icmp .le 13, 3) := by decide +kernel
theorem dX3_acquire_25 : decode cX3_acquire 25 = .ok (.new 73, 3) := by decide +kernel
theorem dX3_acquire_28 : decode cX3_acquire 28 = .ok (.dup, 1) := by decide +kernel
theorem dX3_acquire_29 : decode cX3_acquire 29 = .ok (.ldc 75, 2) := by decide +kernel
theorem dX3_acquire_31 : decode cX3_acquire 31 = .ok (.invokespecial 77, 3) := by decide +kernel
theorem dX3_acquire_34 : decode cX3_acquire 34 = .ok (.athrow, 1) := by decide +kernel
theorem dX3_acquire_35 : decode cX3_acquire 35 = .ok (.aload 4, 2) := by decide +kernel
theorem dX3_acquire_37 : decode cX3_acquire 37 = .ok (.aload_n 0, 1) := by decide +kernel
theorem dX3_acquire_38 : decode cX3_acquire 38 = .ok (.getfield 23, 3) := by decide +kernel
theorem dX3_acquire_41 : decode cX3_acquire 41 = .ok (.putfield 50, 3) := by decide +kernel
theorem dX3_acquire_44 : decode cX3_acquire 44 = .ok (.aload 5, 2) := by decide +kernel
theorem dX3_acquire_46 : decode cX3_acquire 46 = .ok (.getfield 78, 3) := by decide +kernel
theorem dX3_acquire_49 : decode cX3_acquire 49 = .ok (.iload_n 1, 1) := by decide +kernel
theorem dX3_acquire_50 : decode cX3_acquire 50 = .ok (.if_icmp .ne 24, 3) := by decide +kernel
theorem dX3_acquire_53 : decode cX3_acquire 53 = .ok (.aload 5, 2) := by decide +kernel
theorem dX3_acquire_55 : decode cX3_acquire 55 = .ok (.iload_n 3, 1) := by decide +kernel
theorem dX3_acquire_56 : decode cX3_acquire 56 = .ok (.aload_n 0, 1) := by decide +kernel
theorem dX3_acquire_57 : decode cX3_acquire 57 = .ok (.getfield 23, 3) := by decide +kernel
theorem dX3_acquire_60 : decode cX3_acquire 60 = .ok (.aload 4, 2) := by decide +kernel
theorem dX3_acquire_62 : decode cX3_acquire 62 = .ok (.getfield 81, 3) := by decide +kernel
theorem dX3_acquire_65 : decode cX3_acquire 65 = .ok (.invokevirtual 84, 3) := by decide +kernel
theorem dX3_acquire_68 : decode cX3_acquire 68 = .ok (.aload 5, 2) := by decide +kernel
theorem dX3_acquire_70 : decode cX3_acquire 70 = .ok (.getfield 88, 3) := by decide +kernel
theorem dX3_acquire_73 : decode cX3_acquire 73 = .ok (.ireturn, 1) := by decide +kernel
theorem dX3_acquire_74 : decode cX3_acquire 74 = .ok (.aload 5, 2) := by decide +kernel
theorem dX3_acquire_76 : decode cX3_acquire 76 = .ok (.invokevirtual 91, 3) := by decide +kernel
theorem dX3_acquire_79 : decode cX3_acquire 79 = .ok (.ifCond .eq 25, 3) := by decide +kernel
theorem dX3_acquire_82 : decode cX3_acquire 82 = .ok (.aload 5, 2) := by decide +kernel
theorem dX3_acquire_84 : decode cX3_acquire 84 = .ok (.iload_n 1, 1) := by decide +kernel
theorem dX3_acquire_85 : decode cX3_acquire 85 = .ok (.iload_n 3, 1) := by decide +kernel
theorem dX3_acquire_86 : decode cX3_acquire 86 = .ok (.aload_n 0, 1) := by decide +kernel
theorem dX3_acquire_87 : decode cX3_acquire 87 = .ok (.getfield 23, 3) := by decide +kernel
theorem dX3_acquire_90 : decode cX3_acquire 90 = .ok (.aload 4, 2) := by decide +kernel
theorem dX3_acquire_92 : decode cX3_acquire 92 = .ok (.getfield 81, 3) := by decide +kernel
theorem dX3_acquire_95 : decode cX3_acquire 95 = .ok (.invokevirtual 95, 3) := by decide +kernel
theorem dX3_acquire_98 : decode cX3_acquire 98 = .ok (.aload 5, 2) := by decide +kernel
theorem dX3_acquire_100 : decode cX3_acquire 100 = .ok (.getfield 88, 3) := by decide +kernel
theorem dX3_acquire_103 : decode cX3_acquire 103 = .ok (.ireturn, 1) := by decide +kernel
theorem dX3_acquire_104 : decode cX3_acquire 104 = .ok (.aload 5, 2) := by decide +kernel
theorem dX3_acquire_106 : decode cX3_acquire 106 = .ok (.getfield 99, 3) := by decide +kernel
theorem dX3_acquire_109 : decode cX3_acquire 109 = .ok (.iload_n 1, 1) := by decide +kernel
theorem dX3_acquire_110 : decode cX3_acquire 110 = .ok (.iload_n 3, 1) := by decide +kernel
theorem dX3_acquire_111 : decode cX3_acquire 111 = .ok (.invokevirtual 103, 3) := by decide +kernel
theorem dX3_acquire_114 : decode cX3_acquire 114 = .ok (.iconst 0, 1) := by decide +kernel
theorem dX3_acquire_115 : decode cX3_acquire 115 = .ok (.ireturn, 1) := by decide +kernel
set_option maxRecDepth 20000 in
theorem ggX3_release_X3_requireSession : GoodIn wsX3_release wsX3_requireSession := goodIn_ca (goodIn_r _ [8, 9, 10, 11, 12, 13, 7, 14, 15, 16, 85, 86, 87, 88, 89, 90, 91] (by decide +kernel) (by decide +kernel)) (goodIn_sub (fun _ h => List.mem_cons_of_mem _ (List.mem_append_left _ (List.mem_append_right _ h))) (by decide +kernel))
set_option maxRecDepth 20000 in
theorem gX3_release_X3_requireSession : GoodIn wsX3_release (wsV RX3 42 RX3 yX3_requireSession wsX3_requireSession) := goodIn_app (goodIn_of _ (by decide +kernel)) ggX3_release_X3_requireSession
set_option maxRecDepth 20000 in
theorem ggX3_release_X3_requireLock : GoodIn wsX3_release wsX3_requireLock := goodIn_ca (goodIn_r _ [20, 21, 22, 23, 24, 25, 7, 26, 27, 85, 86, 87] (by decide +kernel) (by decide +kernel)) (goodIn_sub (fun _ h => List.mem_cons_of_mem _ (List.mem_append_right _ h)) (by decide +kernel))
set_option maxRecDepth 20000 in
theorem gX3_release_X3_requireLock : GoodIn wsX3_release (wsV RX3 69 RX3 yX3_requireLock wsX3_requireLock) := goodIn_app (goodIn_of _ (by decide +kernel)) ggX3_release_X3_requireLock
set_option maxRecDepth 20000 in
theorem ggX3_release_X3_passOn : GoodIn wsX3_release wsX3_passOn := goodIn_r _ [31, 3, 32, 33, 34, 35, 36, 37, 38, 39, 40, 41, 42, 43, 44, 45, 46, 47, 48, 49, 50, 51, 52, 53, 54, 55, 56, 57, 58, 59, 60, 7, 61, 62, 11, 12, 13, 14, 15, 16, 63, 64, 65, 66, 67, 68, 69, 70, 71, 72, 73, 74, 75, 76, 77, 78, 79, 80, 81, 82, 83, 84, 85, 86, 87, 92, 93, 94, 88, 89, 90, 91] (by decide +kernel) (by decide +kernel)
set_option maxRecDepth 20000 in
theorem gX3_release_X3_passOn : GoodIn wsX3_release (wsV RX3 111 RX3 yX3_passOn wsX3_passOn) := goodIn_app (goodIn_of _ (by decide +kernel)) ggX3_release_X3_passOn
theorem dX3_release_0 : decode cX3_release 0 = .ok (.aload_n 0, 1) := by decide +kernel
theorem dX3_release_1 : decode cX3_release 1 = .ok (.iload_n 1, 1) := by decide +kernel
theorem dX3_release_2 : decode cX3_release 2 = .ok (.invokevirtual 42, 3) := by decide +kernel
theorem dX3_release_5 : decode cX3_release 5 = .ok (.pop, 1) := by decide +kernel
theorem dX3_release_6 : decode cX3_release 6 = .ok (.aload_n 0, 1) := by decide +kernel
theorem dX3_release_7 : decode cX3_release 7 = .ok (.iload_n 2, 1) := by decide +kernel
theorem dX3_release_8 : decode cX3_release 8 = .ok (.invokevirtual 69, 3) := by decide +kernel
theorem dX3_release_11 : decode cX3_release 11 = .ok (.astore_n 3, 1) := by decide +kernel
theorem dX3_release_12 : decode cX3_release 12 = .ok (.aload_n 3, 1) := by decide +kernel
theorem dX3_release_13 : decode cX3_release 13 = .ok (.getfield 78, 3) := by decide +kernel
theorem dX3_release_16 : decode cX3_release 16 = .ok (.iload_n 1, 1) := by decide +kernel
theorem dX3_release_17 : decode cX3_release 17 = .ok (.if_icmp .eq 13, 3) := by decide +kernel
theorem dX3_release_20 : decode cX3_release 20 = .ok (.new 35, 3) := by decide +kernel
theorem dX3_release_23 : decode cX3_release 23 = .ok (.dup, 1) := by decide +kernel
theorem dX3_release_24 : decode cX3_release 24 = .ok (.ldc 109, 2) := by decide +kernel
theorem dX3_release_26 : decode cX3_release 26 = .ok (.invokespecial 39, 3) := by decide +kernel
theorem dX3_release_29 : decode cX3_release 29 = .ok (.athrow, 1) := by decide +kernel
theorem dX3_release_30 : decode cX3_release 30 = .ok (.aload_n 0, 1) := by decide +kernel
theorem dX3_release_31 : decode cX3_release 31 = .ok (.aload_n 3, 1) := by decide +kernel
theorem dX3_release_32 : decode cX3_release 32 = .ok (.invokevirtual 111, 3) := by decide +kernel
theorem dX3_release_35 : decode cX3_release 35 = .ok (.return_, 1) := by decide +kernel
set_option maxRecDepth 20000 in
theorem ggX3_cancel_X3_knownLock : GoodIn wsX3_cancel wsX3_knownLock := goodIn_r _ [6, 7, 28, 29, 30] (by decide +kernel) (by decide +kernel)
set_option maxRecDepth 20000 in
theorem gX3_cancel_X3_knownLock : GoodIn wsX3_cancel (wsV RX3 115 RX3 yX3_knownLock wsX3_knownLock) := goodIn_app (goodIn_of _ (by decide +kernel)) ggX3_cancel_X3_knownLock
set_option maxRecDepth 20000 in
theorem ggX3_cancel_X1_drop : GoodIn wsX3_cancel wsX1_drop := goodIn_r _ [12, 13, 14, 15, 16, 17, 18, 11, 19, 31, 32, 33] (by decide +kernel) (by decide +kernel)
set_option maxRecDepth 20000 in
theorem gX3_cancel_X1_drop : GoodIn wsX3_cancel (wsV RX3 118 RX1 yX1_drop wsX1_drop) := goodIn_app (goodIn_of _ (by decide +kernel)) ggX3_cancel_X1_drop
theorem dX3_cancel_0 : decode cX3_cancel 0 = .ok (.aload_n 0, 1) := by decide +kernel
theorem dX3_cancel_1 : decode cX3_cancel 1 = .ok (.iload_n 2, 1) := by decide +kernel
theorem dX3_cancel_2 : decode cX3_cancel 2 = .ok (.invokevirtual 115, 3) := by decide +kernel
theorem dX3_cancel_5 : decode cX3_cancel 5 = .ok (.astore_n 3, 1) := by decide +kernel
theorem dX3_cancel_6 : decode cX3_cancel 6 = .ok (.aload_n 3, 1) := by decide +kernel
theorem dX3_cancel_7 : decode cX3_cancel 7 = .ok (.ifnull 18, 3) := by decide +kernel
theorem dX3_cancel_10 : decode cX3_cancel 10 = .ok (.aload_n 3, 1) := by decide +kernel
theorem dX3_cancel_11 : decode cX3_cancel 11 = .ok (.getfield 99, 3) := by decide +kernel
theorem dX3_cancel_14 : decode cX3_cancel 14 = .ok (.iload_n 1, 1) := by decide +kernel
theorem dX3_cancel_15 : decode cX3_cancel 15 = .ok (.invokevirtual 118, 3) := by decide +kernel
theorem dX3_cancel_18 : decode cX3_cancel 18 = .ok (.ifCond .eq 7, 3) := by decide +kernel
theorem dX3_cancel_21 : decode cX3_cancel 21 = .ok (.iconst 1, 1) := by decide +kernel
theorem dX3_cancel_22 : decode cX3_cancel 22 = .ok (.goto 4, 3) := by decide +kernel
theorem dX3_cancel_25 : decode cX3_cancel 25 = .ok (.iconst 0, 1) := by decide +kernel
theorem dX3_cancel_26 : decode cX3_cancel 26 = .ok (.ireturn, 1) := by decide +kernel
set_option maxRecDepth 20000 in
theorem ggX3_holder_X3_knownLock : GoodIn wsX3_holder wsX3_knownLock := goodIn_r _ [6, 7, 16, 17, 18] (by decide +kernel) (by decide +kernel)
set_option maxRecDepth 20000 in
theorem gX3_holder_X3_knownLock : GoodIn wsX3_holder (wsV RX3 115 RX3 yX3_knownLock wsX3_knownLock) := goodIn_app (goodIn_of _ (by decide +kernel)) ggX3_holder_X3_knownLock
theorem dX3_holder_0 : decode cX3_holder 0 = .ok (.aload_n 0, 1) := by decide +kernel
theorem dX3_holder_1 : decode cX3_holder 1 = .ok (.iload_n 1, 1) := by decide +kernel
theorem dX3_holder_2 : decode cX3_holder 2 = .ok (.invokevirtual 115, 3) := by decide +kernel
theorem dX3_holder_5 : decode cX3_holder 5 = .ok (.astore_n 2, 1) := by decide +kernel
theorem dX3_holder_6 : decode cX3_holder 6 = .ok (.aload_n 2, 1) := by decide +kernel
theorem dX3_holder_7 : decode cX3_holder 7 = .ok (.ifnonnull 7, 3) := by decide +kernel
theorem dX3_holder_10 : decode cX3_holder 10 = .ok (.iconst (-1), 1) := by decide +kernel
theorem dX3_holder_11 : decode cX3_holder 11 = .ok (.goto 7, 3) := by decide +kernel
theorem dX3_holder_14 : decode cX3_holder 14 = .ok (.aload_n 2, 1) := by decide +kernel
theorem dX3_holder_15 : decode cX3_holder 15 = .ok (.getfield 78, 3) := by decide +kernel
theorem dX3_holder_18 : decode cX3_holder 18 = .ok (.ireturn, 1) := by decide +kernel
set_option maxRecDepth 20000 in
theorem ggX3_token_X3_knownLock : GoodIn wsX3_token wsX3_knownLock := goodIn_r _ [6, 7, 16, 17, 18] (by decide +kernel) (by decide +kernel)
set_option maxRecDepth 20000 in
theorem gX3_token_X3_knownLock : GoodIn wsX3_token (wsV RX3 115 RX3 yX3_knownLock wsX3_knownLock) := goodIn_app (goodIn_of _ (by decide +kernel)) ggX3_token_X3_knownLock
theorem dX3_token_0 : decode cX3_token 0 = .ok (.aload_n 0, 1) := by decide +kernel
theorem dX3_token_1 : decode cX3_token 1 = .ok (.iload_n 1, 1) := by decide +kernel
theorem dX3_token_2 : decode cX3_token 2 = .ok (.invokevirtual 115, 3) := by decide +kernel
theorem dX3_token_5 : decode cX3_token 5 = .ok (.astore_n 2, 1) := by decide +kernel
theorem dX3_token_6 : decode cX3_token 6 = .ok (.aload_n 2, 1) := by decide +kernel
theorem dX3_token_7 : decode cX3_token 7 = .ok (.ifnonnull 7, 3) := by decide +kernel
theorem dX3_token_10 : decode cX3_token 10 = .ok (.iconst (-1), 1) := by decide +kernel
theorem dX3_token_11 : decode cX3_token 11 = .ok (.goto 7, 3) := by decide +kernel
theorem dX3_token_14 : decode cX3_token 14 = .ok (.aload_n 2, 1) := by decide +kernel
theorem dX3_token_15 : decode cX3_token 15 = .ok (.getfield 88, 3) := by decide +kernel
theorem dX3_token_18 : decode cX3_token 18 = .ok (.ireturn, 1) := by decide +kernel
set_option maxRecDepth 20000 in
theorem ggX3_until_X3_knownLock : GoodIn wsX3_until wsX3_knownLock := goodIn_r _ [6, 7, 22, 23, 24] (by decide +kernel) (by decide +kernel)
set_option maxRecDepth 20000 in
theorem gX3_until_X3_knownLock : GoodIn wsX3_until (wsV RX3 115 RX3 yX3_knownLock wsX3_knownLock) := goodIn_app (goodIn_of _ (by decide +kernel)) ggX3_until_X3_knownLock
set_option maxRecDepth 20000 in
theorem ggX3_until_X0_isFree : GoodIn wsX3_until wsX0_isFree := goodIn_r _ [12, 13, 14, 15, 16, 17, 18, 19, 20, 21] (by decide +kernel) (by decide +kernel)
set_option maxRecDepth 20000 in
theorem gX3_until_X0_isFree : GoodIn wsX3_until (wsV RX3 91 RX0 yX0_isFree wsX0_isFree) := goodIn_app (goodIn_of _ (by decide +kernel)) ggX3_until_X0_isFree
theorem dX3_until_0 : decode cX3_until 0 = .ok (.aload_n 0, 1) := by decide +kernel
theorem dX3_until_1 : decode cX3_until 1 = .ok (.iload_n 1, 1) := by decide +kernel
theorem dX3_until_2 : decode cX3_until 2 = .ok (.invokevirtual 115, 3) := by decide +kernel
theorem dX3_until_5 : decode cX3_until 5 = .ok (.astore_n 2, 1) := by decide +kernel
theorem dX3_until_6 : decode cX3_until 6 = .ok (.aload_n 2, 1) := by decide +kernel
theorem dX3_until_7 : decode cX3_until 7 = .ok (.ifnull 10, 3) := by decide +kernel
theorem dX3_until_10 : decode cX3_until 10 = .ok (.aload_n 2, 1) := by decide +kernel
theorem dX3_until_11 : decode cX3_until 11 = .ok (.invokevirtual 91, 3) := by decide +kernel
theorem dX3_until_14 : decode cX3_until 14 = .ok (.ifCond .eq 7, 3) := by decide +kernel
theorem dX3_until_17 : decode cX3_until 17 = .ok (.iconst (-1), 1) := by decide +kernel
theorem dX3_until_18 : decode cX3_until 18 = .ok (.goto 7, 3) := by decide +kernel
theorem dX3_until_21 : decode cX3_until 21 = .ok (.aload_n 2, 1) := by decide +kernel
theorem dX3_until_22 : decode cX3_until 22 = .ok (.getfield 122, 3) := by decide +kernel
theorem dX3_until_25 : decode cX3_until 25 = .ok (.ireturn, 1) := by decide +kernel
set_option maxRecDepth 20000 in
theorem ggX3_waiter_X3_knownLock : GoodIn wsX3_waiter wsX3_knownLock := goodIn_r _ [6, 7, 27, 28, 29] (by decide +kernel) (by decide +kernel)
set_option maxRecDepth 20000 in
theorem gX3_waiter_X3_knownLock : GoodIn wsX3_waiter (wsV RX3 115 RX3 yX3_knownLock wsX3_knownLock) := goodIn_app (goodIn_of _ (by decide +kernel)) ggX3_waiter_X3_knownLock
set_option maxRecDepth 20000 in
theorem ggX3_waiter_X1_slotAt : GoodIn wsX3_waiter wsX1_slotAt := goodIn_r _ [12, 13, 14, 15, 16, 11, 17, 18, 30, 31, 32] (by decide +kernel) (by decide +kernel)
set_option maxRecDepth 20000 in
theorem gX3_waiter_X1_slotAt : GoodIn wsX3_waiter (wsV RX3 125 RX1 yX1_slotAt wsX1_slotAt) := goodIn_app (goodIn_of _ (by decide +kernel)) ggX3_waiter_X1_slotAt
theorem dX3_waiter_0 : decode cX3_waiter 0 = .ok (.aload_n 0, 1) := by decide +kernel
theorem dX3_waiter_1 : decode cX3_waiter 1 = .ok (.iload_n 1, 1) := by decide +kernel
theorem dX3_waiter_2 : decode cX3_waiter 2 = .ok (.invokevirtual 115, 3) := by decide +kernel
theorem dX3_waiter_5 : decode cX3_waiter 5 = .ok (.astore_n 3, 1) := by decide +kernel
theorem dX3_waiter_6 : decode cX3_waiter 6 = .ok (.aload_n 3, 1) := by decide +kernel
theorem dX3_waiter_7 : decode cX3_waiter 7 = .ok (.ifnonnull 7, 3) := by decide +kernel
theorem dX3_waiter_10 : decode cX3_waiter 10 = .ok (.iconst (-1), 1) := by decide +kernel
theorem dX3_waiter_11 : decode cX3_waiter 11 = .ok (.goto 11, 3) := by decide +kernel
theorem dX3_waiter_14 : decode cX3_waiter 14 = .ok (.aload_n 3, 1) := by decide +kernel
theorem dX3_waiter_15 : decode cX3_waiter 15 = .ok (.getfield 99, 3) := by decide +kernel
theorem dX3_waiter_18 : decode cX3_waiter 18 = .ok (.iload_n 2, 1) := by decide +kernel
theorem dX3_waiter_19 : decode cX3_waiter 19 = .ok (.invokevirtual 125, 3) := by decide +kernel
theorem dX3_waiter_22 : decode cX3_waiter 22 = .ok (.ireturn, 1) := by decide +kernel
theorem dX3_time_0 : decode cX3_time 0 = .ok (.aload_n 0, 1) := by decide +kernel
theorem dX3_time_1 : decode cX3_time 1 = .ok (.getfield 23, 3) := by decide +kernel
theorem dX3_time_4 : decode cX3_time 4 = .ok (.ireturn, 1) := by decide +kernel
set_option maxRecDepth 20000 in
theorem ggX3_clock_X3_openSession : GoodIn wsX3_clock wsX3_openSession := goodIn_r _ [6, 7, 8, 13, 14, 15, 9, 10, 11, 12] (by decide +kernel) (by decide +kernel)
set_option maxRecDepth 20000 in
theorem gX3_clock_X3_openSession : GoodIn wsX3_clock (wsV RX3 53 RX3 yX3_openSession wsX3_openSession) := goodIn_app (goodIn_of _ (by decide +kernel)) ggX3_clock_X3_openSession
theorem dX3_clock_0 : decode cX3_clock 0 = .ok (.aload_n 0, 1) := by decide +kernel
theorem dX3_clock_1 : decode cX3_clock 1 = .ok (.iload_n 1, 1) := by decide +kernel
theorem dX3_clock_2 : decode cX3_clock 2 = .ok (.invokevirtual 53, 3) := by decide +kernel
theorem dX3_clock_5 : decode cX3_clock 5 = .ok (.astore_n 2, 1) := by decide +kernel
theorem dX3_clock_6 : decode cX3_clock 6 = .ok (.aload_n 2, 1) := by decide +kernel
theorem dX3_clock_7 : decode cX3_clock 7 = .ok (.ifnonnull 7, 3) := by decide +kernel
theorem dX3_clock_10 : decode cX3_clock 10 = .ok (.iconst (-1), 1) := by decide +kernel
theorem dX3_clock_11 : decode cX3_clock 11 = .ok (.goto 7, 3) := by decide +kernel
theorem dX3_clock_14 : decode cX3_clock 14 = .ok (.aload_n 2, 1) := by decide +kernel
theorem dX3_clock_15 : decode cX3_clock 15 = .ok (.getfield 81, 3) := by decide +kernel
theorem dX3_clock_18 : decode cX3_clock 18 = .ok (.ireturn, 1) := by decide +kernel
set_option maxRecDepth 20000 in
theorem ggX3_believes_X3_openSession : GoodIn wsX3_believes wsX3_openSession := goodIn_r _ [9, 10, 11, 29, 30, 31, 25, 26, 27, 28] (by decide +kernel) (by decide +kernel)
set_option maxRecDepth 20000 in
theorem gX3_believes_X3_openSession : GoodIn wsX3_believes (wsV RX3 53 RX3 yX3_openSession wsX3_openSession) := goodIn_app (goodIn_of _ (by decide +kernel)) ggX3_believes_X3_openSession
set_option maxRecDepth 20000 in
theorem ggX3_believes_X3_knownLock : GoodIn wsX3_believes wsX3_knownLock := goodIn_r _ [15, 16, 29, 30, 31] (by decide +kernel) (by decide +kernel)
set_option maxRecDepth 20000 in
theorem gX3_believes_X3_knownLock : GoodIn wsX3_believes (wsV RX3 115 RX3 yX3_knownLock wsX3_knownLock) := goodIn_app (goodIn_of _ (by decide +kernel)) ggX3_believes_X3_knownLock
theorem dX3_believes_0 : decode cX3_believes 0 = .ok (.aload_n 0, 1) := by decide +kernel
theorem dX3_believes_1 : decode cX3_believes 1 = .ok (.iload_n 1, 1) := by decide +kernel
theorem dX3_believes_2 : decode cX3_believes 2 = .ok (.invokevirtual 53, 3) := by decide +kernel
theorem dX3_believes_5 : decode cX3_believes 5 = .ok (.astore_n 3, 1) := by decide +kernel
theorem dX3_believes_6 : decode cX3_believes 6 = .ok (.aload_n 0, 1) := by decide +kernel
theorem dX3_believes_7 : decode cX3_believes 7 = .ok (.iload_n 2, 1) := by decide +kernel
theorem dX3_believes_8 : decode cX3_believes 8 = .ok (.invokevirtual 115, 3) := by decide +kernel
theorem dX3_believes_11 : decode cX3_believes 11 = .ok (.astore 4, 2) := by decide +kernel
theorem dX3_believes_13 : decode cX3_believes 13 = .ok (.aload_n 3, 1) := by decide +kernel
theorem dX3_believes_14 : decode cX3_believes 14 = .ok (.ifnull 17, 3) := by decide +kernel
theorem dX3_believes_17 : decode cX3_believes 17 = .ok (.aload 4, 2) := by decide +kernel
theorem dX3_believes_19 : decode cX3_believes 19 = .ok (.ifnull 12, 3) := by decide +kernel
theorem dX3_believes_22 : decode cX3_believes 22 = .ok (.aload 4, 2) := by decide +kernel
theorem dX3_believes_24 : decode cX3_believes 24 = .ok (.getfield 78, 3) := by decide +kernel
theorem dX3_believes_27 : decode cX3_believes 27 = .ok (.iload_n 1, 1) := by decide +kernel
theorem dX3_believes_28 : decode cX3_believes 28 = .ok (.if_icmp .eq 5, 3) := by decide +kernel
theorem dX3_believes_31 : decode cX3_believes 31 = .ok (.iconst 0, 1) := by decide +kernel
theorem dX3_believes_32 : decode cX3_believes 32 = .ok (.ireturn, 1) := by decide +kernel
theorem dX3_believes_33 : decode cX3_believes 33 = .ok (.aload_n 3, 1) := by decide +kernel
theorem dX3_believes_34 : decode cX3_believes 34 = .ok (.getfield 81, 3) := by decide +kernel
theorem dX3_believes_37 : decode cX3_believes 37 = .ok (.aload 4, 2) := by decide +kernel
theorem dX3_believes_39 : decode cX3_believes 39 = .ok (.getfield 129, 3) := by decide +kernel
theorem dX3_believes_42 : decode cX3_believes 42 = .ok (.isub, 1) := by decide +kernel
theorem dX3_believes_43 : decode cX3_believes 43 = .ok (.bipush 9, 2) := by decide +kernel
theorem dX3_believes_45 : decode cX3_believes 45 = .ok (.aload 4, 2) := by decide +kernel
theorem dX3_believes_47 : decode cX3_believes 47 = .ok (.getfield 132, 3) := by decide +kernel
theorem dX3_believes_50 : decode cX3_believes 50 = .ok (.imul, 1) := by decide +kernel
theorem dX3_believes_51 : decode cX3_believes 51 = .ok (.if_icmp .ge 7, 3) := by decide +kernel
theorem dX3_believes_54 : decode cX3_believes 54 = .ok (.iconst 1, 1) := by decide +kernel
theorem dX3_believes_55 : decode cX3_believes 55 = .ok (.goto 4, 3) := by decide +kernel
theorem dX3_believes_58 : decode cX3_believes 58 = .ok (.iconst 0, 1) := by decide +kernel
theorem dX3_believes_59 : decode cX3_believes 59 = .ok (.ireturn, 1) := by decide +kernel
set_option maxRecDepth 20000 in
theorem ggX3_write_X3_knownLock : GoodIn wsX3_write wsX3_knownLock := goodIn_r _ [7, 8, 17, 18, 19] (by decide +kernel) (by decide +kernel)
set_option maxRecDepth 20000 in
theorem gX3_write_X3_knownLock : GoodIn wsX3_write (wsV RX3 115 RX3 yX3_knownLock wsX3_knownLock) := goodIn_app (goodIn_of _ (by decide +kernel)) ggX3_write_X3_knownLock
theorem dX3_write_0 : decode cX3_write 0 = .ok (.aload_n 0, 1) := by decide +kernel
theorem dX3_write_1 : decode cX3_write 1 = .ok (.iload_n 1, 1) := by decide +kernel
theorem dX3_write_2 : decode cX3_write 2 = .ok (.invokevirtual 115, 3) := by decide +kernel
theorem dX3_write_5 : decode cX3_write 5 = .ok (.astore 4, 2) := by decide +kernel
theorem dX3_write_7 : decode cX3_write 7 = .ok (.aload 4, 2) := by decide +kernel
theorem dX3_write_9 : decode cX3_write 9 = .ok (.ifnull 17, 3) := by decide +kernel
theorem dX3_write_12 : decode cX3_write 12 = .ok (.iload_n 2, 1) := by decide +kernel
theorem dX3_write_13 : decode cX3_write 13 = .ok (.iconst 1, 1) := by decide +kernel
theorem dX3_write_14 : decode cX3_write 14 = .ok (.if_icmp .lt 12, 3) := by decide +kernel
theorem dX3_write_17 : decode cX3_write 17 = .ok (.iload_n 2, 1) := by decide +kernel
theorem dX3_write_18 : decode cX3_write 18 = .ok (.aload 4, 2) := by decide +kernel
theorem dX3_write_20 : decode cX3_write 20 = .ok (.getfield 135, 3) := by decide +kernel
theorem dX3_write_23 : decode cX3_write 23 = .ok (.if_icmp .ge 5, 3) := by decide +kernel
theorem dX3_write_26 : decode cX3_write 26 = .ok (.iconst 0, 1) := by decide +kernel
theorem dX3_write_27 : decode cX3_write 27 = .ok (.ireturn, 1) := by decide +kernel
