theorem dX3_write_28 : decode cX3_write 28 = .ok (.aload 4, 2) := by decide +kernel
theorem dX3_write_30 : decode cX3_write 30 = .ok (.iload_n 2, 1) := by decide +kernel
theorem dX3_write_31 : decode cX3_write 31 = .ok (.putfield 135, 3) := by decide +kernel
theorem dX3_write_34 : decode cX3_write 34 = .ok (.aload 4, 2) := by decide +kernel
theorem dX3_write_36 : decode cX3_write 36 = .ok (.iload_n 3, 1) := by decide +kernel
theorem dX3_write_37 : decode cX3_write 37 = .ok (.putfield 138, 3) := by decide +kernel
theorem dX3_write_40 : decode cX3_write 40 = .ok (.iconst 1, 1) := by decide +kernel
theorem dX3_write_41 : decode cX3_write 41 = .ok (.ireturn, 1) := by decide +kernel
set_option maxRecDepth 20000 in
theorem ggX3_stored_X3_knownLock : GoodIn wsX3_stored wsX3_knownLock := goodIn_r _ [6, 7, 16, 17, 18] (by decide +kernel) (by decide +kernel)
set_option maxRecDepth 20000 in
theorem gX3_stored_X3_knownLock : GoodIn wsX3_stored (wsV RX3 115 RX3 yX3_knownLock wsX3_knownLock) := goodIn_app (goodIn_of _ (by decide +kernel)) ggX3_stored_X3_knownLock
theorem dX3_stored_0 : decode cX3_stored 0 = .ok (.aload_n 0, 1) := by decide +kernel
theorem dX3_stored_1 : decode cX3_stored 1 = .ok (.iload_n 1, 1) := by decide +kernel
theorem dX3_stored_2 : decode cX3_stored 2 = .ok (.invokevirtual 115, 3) := by decide +kernel
theorem dX3_stored_5 : decode cX3_stored 5 = .ok (.astore_n 2, 1) := by decide +kernel
theorem dX3_stored_6 : decode cX3_stored 6 = .ok (.aload_n 2, 1) := by decide +kernel
theorem dX3_stored_7 : decode cX3_stored 7 = .ok (.ifnonnull 7, 3) := by decide +kernel
theorem dX3_stored_10 : decode cX3_stored 10 = .ok (.iconst 0, 1) := by decide +kernel
theorem dX3_stored_11 : decode cX3_stored 11 = .ok (.goto 7, 3) := by decide +kernel
theorem dX3_stored_14 : decode cX3_stored 14 = .ok (.aload_n 2, 1) := by decide +kernel
theorem dX3_stored_15 : decode cX3_stored 15 = .ok (.getfield 138, 3) := by decide +kernel
theorem dX3_stored_18 : decode cX3_stored 18 = .ok (.ireturn, 1) := by decide +kernel
set_option maxRecDepth 20000 in
theorem ggX3_seen_X3_knownLock : GoodIn wsX3_seen wsX3_knownLock := goodIn_r _ [6, 7, 16, 17, 18] (by decide +kernel) (by decide +kernel)
set_option maxRecDepth 20000 in
theorem gX3_seen_X3_knownLock : GoodIn wsX3_seen (wsV RX3 115 RX3 yX3_knownLock wsX3_knownLock) := goodIn_app (goodIn_of _ (by decide +kernel)) ggX3_seen_X3_knownLock
theorem dX3_seen_0 : decode cX3_seen 0 = .ok (.aload_n 0, 1) := by decide +kernel
theorem dX3_seen_1 : decode cX3_seen 1 = .ok (.iload_n 1, 1) := by decide +kernel
theorem dX3_seen_2 : decode cX3_seen 2 = .ok (.invokevirtual 115, 3) := by decide +kernel
theorem dX3_seen_5 : decode cX3_seen 5 = .ok (.astore_n 2, 1) := by decide +kernel
theorem dX3_seen_6 : decode cX3_seen 6 = .ok (.aload_n 2, 1) := by decide +kernel
theorem dX3_seen_7 : decode cX3_seen 7 = .ok (.ifnonnull 7, 3) := by decide +kernel
theorem dX3_seen_10 : decode cX3_seen 10 = .ok (.iconst (-1), 1) := by decide +kernel
theorem dX3_seen_11 : decode cX3_seen 11 = .ok (.goto 7, 3) := by decide +kernel
theorem dX3_seen_14 : decode cX3_seen 14 = .ok (.aload_n 2, 1) := by decide +kernel
theorem dX3_seen_15 : decode cX3_seen 15 = .ok (.getfield 135, 3) := by decide +kernel
theorem dX3_seen_18 : decode cX3_seen 18 = .ok (.ireturn, 1) := by decide +kernel
theorem dX3_openSession_0 : decode cX3_openSession 0 = .ok (.iload_n 1, 1) := by decide +kernel
theorem dX3_openSession_1 : decode cX3_openSession 1 = .ok (.ifCond .lt 21, 3) := by decide +kernel
theorem dX3_openSession_4 : decode cX3_openSession 4 = .ok (.iload_n 1, 1) := by decide +kernel
theorem dX3_openSession_5 : decode cX3_openSession 5 = .ok (.bipush 6, 2) := by decide +kernel
theorem dX3_openSession_7 : decode cX3_openSession 7 = .ok (.if_icmp .ge 15, 3) := by decide +kernel
theorem dX3_openSession_10 : decode cX3_openSession 10 = .ok (.aload_n 0, 1) := by decide +kernel
theorem dX3_openSession_11 : decode cX3_openSession 11 = .ok (.getfield 11, 3) := by decide +kernel
theorem dX3_openSession_14 : decode cX3_openSession 14 = .ok (.iload_n 1, 1) := by decide +kernel
theorem dX3_openSession_15 : decode cX3_openSession 15 = .ok (.aaload, 1) := by decide +kernel
theorem dX3_openSession_16 : decode cX3_openSession 16 = .ok (.getfield 27, 3) := by decide +kernel
theorem dX3_openSession_19 : decode cX3_openSession 19 = .ok (.ifCond .ne 5, 3) := by decide +kernel
theorem dX3_openSession_22 : decode cX3_openSession 22 = .ok (.aconst_null, 1) := by decide +kernel
theorem dX3_openSession_23 : decode cX3_openSession 23 = .ok (.areturn, 1) := by decide +kernel
theorem dX3_openSession_24 : decode cX3_openSession 24 = .ok (.aload_n 0, 1) := by decide +kernel
theorem dX3_openSession_25 : decode cX3_openSession 25 = .ok (.getfield 11, 3) := by decide +kernel
theorem dX3_openSession_28 : decode cX3_openSession 28 = .ok (.iload_n 1, 1) := by decide +kernel
theorem dX3_openSession_29 : decode cX3_openSession 29 = .ok (.aaload, 1) := by decide +kernel
theorem dX3_openSession_30 : decode cX3_openSession 30 = .ok (.areturn, 1) := by decide +kernel
theorem dX3_knownLock_0 : decode cX3_knownLock 0 = .ok (.iload_n 1, 1) := by decide +kernel
theorem dX3_knownLock_1 : decode cX3_knownLock 1 = .ok (.ifCond .lt 8, 3) := by decide +kernel
theorem dX3_knownLock_4 : decode cX3_knownLock 4 = .ok (.iload_n 1, 1) := by decide +kernel
theorem dX3_knownLock_5 : decode cX3_knownLock 5 = .ok (.iconst 4, 1) := by decide +kernel
theorem dX3_knownLock_6 : decode cX3_knownLock 6 = .ok (.if_icmp .lt 7, 3) := by decide +kernel
theorem dX3_knownLock_9 : decode cX3_knownLock 9 = .ok (.aconst_null, 1) := by decide +kernel
theorem dX3_knownLock_10 : decode cX3_knownLock 10 = .ok (.goto 9, 3) := by decide +kernel
theorem dX3_knownLock_13 : decode cX3_knownLock 13 = .ok (.aload_n 0, 1) := by decide +kernel
theorem dX3_knownLock_14 : decode cX3_knownLock 14 = .ok (.getfield 18, 3) := by decide +kernel
theorem dX3_knownLock_17 : decode cX3_knownLock 17 = .ok (.iload_n 1, 1) := by decide +kernel
theorem dX3_knownLock_18 : decode cX3_knownLock 18 = .ok (.aaload, 1) := by decide +kernel
theorem dX3_knownLock_19 : decode cX3_knownLock 19 = .ok (.areturn, 1) := by decide +kernel
set_option maxRecDepth 20000 in
theorem ggX3_requireSession_X3_openSession : GoodIn wsX3_requireSession wsX3_openSession := goodIn_r _ [7, 8, 9, 10, 11, 12, 13, 14, 15, 16] (by decide +kernel) (by decide +kernel)
set_option maxRecDepth 20000 in
theorem gX3_requireSession_X3_openSession : GoodIn wsX3_requireSession (wsV RX3 53 RX3 yX3_openSession wsX3_openSession) := goodIn_app (goodIn_of _ (by decide +kernel)) ggX3_requireSession_X3_openSession
theorem dX3_requireSession_0 : decode cX3_requireSession 0 = .ok (.aload_n 0, 1) := by decide +kernel
theorem dX3_requireSession_1 : decode cX3_requireSession 1 = .ok (.iload_n 1, 1) := by decide +kernel
theorem dX3_requireSession_2 : decode cX3_requireSession 2 = .ok (.invokevirtual 53, 3) := by decide +kernel
theorem dX3_requireSession_5 : decode cX3_requireSession 5 = .ok (.astore_n 2, 1) := by decide +kernel
theorem dX3_requireSession_6 : decode cX3_requireSession 6 = .ok (.aload_n 2, 1) := by decide +kernel
theorem dX3_requireSession_7 : decode cX3_requireSession 7 = .ok (.ifnonnull 13, 3) := by decide +kernel
theorem dX3_requireSession_10 : decode cX3_requireSession 10 = .ok (.new 141, 3) := by decide +kernel
theorem dX3_requireSession_13 : decode cX3_requireSession 13 = .ok (.dup, 1) := by decide +kernel
theorem dX3_requireSession_14 : decode cX3_requireSession 14 = .ok (.ldc 143, 2) := by decide +kernel
theorem dX3_requireSession_16 : decode cX3_requireSession 16 = .ok (.invokespecial 145, 3) := by decide +kernel
theorem dX3_requireSession_19 : decode cX3_requireSession 19 = .ok (.athrow, 1) := by decide +kernel
theorem dX3_requireSession_20 : decode cX3_requireSession 20 = .ok (.aload_n 2, 1) := by decide +kernel
theorem dX3_requireSession_21 : decode cX3_requireSession 21 = .ok (.areturn, 1) := by decide +kernel
set_option maxRecDepth 20000 in
theorem ggX3_requireLock_X3_knownLock : GoodIn wsX3_requireLock wsX3_knownLock := goodIn_r _ [7, 8, 9, 10, 11] (by decide +kernel) (by decide +kernel)
set_option maxRecDepth 20000 in
theorem gX3_requireLock_X3_knownLock : GoodIn wsX3_requireLock (wsV RX3 115 RX3 yX3_knownLock wsX3_knownLock) := goodIn_app (goodIn_of _ (by decide +kernel)) ggX3_requireLock_X3_knownLock
theorem dX3_requireLock_0 : decode cX3_requireLock 0 = .ok (.aload_n 0, 1) := by decide +kernel
theorem dX3_requireLock_1 : decode cX3_requireLock 1 = .ok (.iload_n 1, 1) := by decide +kernel
theorem dX3_requireLock_2 : decode cX3_requireLock 2 = .ok (.invokevirtual 115, 3) := by decide +kernel
theorem dX3_requireLock_5 : decode cX3_requireLock 5 = .ok (.astore_n 2, 1) := by decide +kernel
theorem dX3_requireLock_6 : decode cX3_requireLock 6 = .ok (.aload_n 2, 1) := by decide +kernel
theorem dX3_requireLock_7 : decode cX3_requireLock 7 = .ok (.ifnonnull 13, 3) := by decide +kernel
theorem dX3_requireLock_10 : decode cX3_requireLock 10 = .ok (.new 73, 3) := by decide +kernel
theorem dX3_requireLock_13 : decode cX3_requireLock 13 = .ok (.dup, 1) := by decide +kernel
theorem dX3_requireLock_14 : decode cX3_requireLock 14 = .ok (.ldc 146, 2) := by decide +kernel
theorem dX3_requireLock_16 : decode cX3_requireLock 16 = .ok (.invokespecial 77, 3) := by decide +kernel
theorem dX3_requireLock_19 : decode cX3_requireLock 19 = .ok (.athrow, 1) := by decide +kernel
theorem dX3_requireLock_20 : decode cX3_requireLock 20 = .ok (.aload_n 2, 1) := by decide +kernel
theorem dX3_requireLock_21 : decode cX3_requireLock 21 = .ok (.areturn, 1) := by decide +kernel
theorem dX3_moveClocks_0 : decode cX3_moveClocks 0 = .ok (.aload_n 0, 1) := by decide +kernel
theorem dX3_moveClocks_1 : decode cX3_moveClocks 1 = .ok (.getfield 11, 3) := by decide +kernel
theorem dX3_moveClocks_4 : decode cX3_moveClocks 4 = .ok (.astore_n 2, 1) := by decide +kernel
theorem dX3_moveClocks_5 : decode cX3_moveClocks 5 = .ok (.aload_n 2, 1) := by decide +kernel
theorem dX3_moveClocks_6 : decode cX3_moveClocks 6 = .ok (.arraylength, 1) := by decide +kernel
theorem dX3_moveClocks_7 : decode cX3_moveClocks 7 = .ok (.istore_n 3, 1) := by decide +kernel
theorem dX3_moveClocks_8 : decode cX3_moveClocks 8 = .ok (.iconst 0, 1) := by decide +kernel
theorem dX3_moveClocks_9 : decode cX3_moveClocks 9 = .ok (.istore 4, 2) := by decide +kernel
theorem dX3_moveClocks_11 : decode cX3_moveClocks 11 = .ok (.iload 4, 2) := by decide +kernel
theorem dX3_moveClocks_13 : decode cX3_moveClocks 13 = .ok (.iload_n 3, 1) := by decide +kernel
theorem dX3_moveClocks_14 : decode cX3_moveClocks 14 = .ok (.if_icmp .ge 40, 3) := by decide +kernel
theorem dX3_moveClocks_17 : decode cX3_moveClocks 17 = .ok (.aload_n 2, 1) := by decide +kernel
theorem dX3_moveClocks_18 : decode cX3_moveClocks 18 = .ok (.iload 4, 2) := by decide +kernel
theorem dX3_moveClocks_20 : decode cX3_moveClocks 20 = .ok (.aaload, 1) := by decide +kernel
theorem dX3_moveClocks_21 : decode cX3_moveClocks 21 = .ok (.astore 5, 2) := by decide +kernel
theorem dX3_moveClocks_23 : decode cX3_moveClocks 23 = .ok (.aload 5, 2) := by decide +kernel
theorem dX3_moveClocks_25 : decode cX3_moveClocks 25 = .ok (.getfield 27, 3) := by decide +kernel
theorem dX3_moveClocks_28 : decode cX3_moveClocks 28 = .ok (.ifCond .eq 20, 3) := by decide +kernel
theorem dX3_moveClocks_31 : decode cX3_moveClocks 31 = .ok (.aload 5, 2) := by decide +kernel
theorem dX3_moveClocks_33 : decode cX3_moveClocks 33 = .ok (.dup, 1) := by decide +kernel
theorem dX3_moveClocks_34 : decode cX3_moveClocks 34 = .ok (.getfield 81, 3) := by decide +kernel
theorem dX3_moveClocks_37 : decode cX3_moveClocks 37 = .ok (.aload 5, 2) := by decide +kernel
theorem dX3_moveClocks_39 : decode cX3_moveClocks 39 = .ok (.getfield 56, 3) := by decide +kernel
theorem dX3_moveClocks_42 : decode cX3_moveClocks 42 = .ok (.iload_n 1, 1) := by decide +kernel
theorem dX3_moveClocks_43 : decode cX3_moveClocks 43 = .ok (.imul, 1) := by decide +kernel
theorem dX3_moveClocks_44 : decode cX3_moveClocks 44 = .ok (.iadd, 1) := by decide +kernel
theorem dX3_moveClocks_45 : decode cX3_moveClocks 45 = .ok (.putfield 81, 3) := by decide +kernel
theorem dX3_moveClocks_48 : decode cX3_moveClocks 48 = .ok (.iinc 4 1, 3) := by decide +kernel
theorem dX3_moveClocks_51 : decode cX3_moveClocks 51 = .ok (.goto (-40), 3) := by decide +kernel
theorem dX3_moveClocks_54 : decode cX3_moveClocks 54 = .ok (.return_, 1) := by decide +kernel
set_option maxRecDepth 20000 in
theorem ggX3_endSilentSessions_X3_endSession : GoodIn wsX3_endSilentSessions wsX3_endSession := goodIn_r _ [9, 10, 11, 12, 2, 13, 14, 15, 16, 17, 18, 19, 20, 21, 22, 23, 24, 25, 26, 27, 8, 28, 3, 29, 30, 31, 32, 33, 34, 35, 36, 37, 38, 39, 40, 41, 42, 43, 44, 45, 46, 47, 48, 49, 1, 50, 51, 52, 53, 54, 55, 56, 57, 58, 59, 60, 61, 62, 63, 64, 65, 66, 71, 72, 73, 74, 75, 76, 77, 78, 67, 68, 69, 70, 79, 80, 81] (by decide +kernel) (by decide +kernel)
set_option maxRecDepth 20000 in
theorem gX3_endSilentSessions_X3_endSession : GoodIn wsX3_endSilentSessions (wsV RX3 46 RX3 yX3_endSession wsX3_endSession) := goodIn_app (goodIn_of _ (by decide +kernel)) ggX3_endSilentSessions_X3_endSession
theorem dX3_endSilentSessions_0 : decode cX3_endSilentSessions 0 = .ok (.iconst 0, 1) := by decide +kernel
theorem dX3_endSilentSessions_1 : decode cX3_endSilentSessions 1 = .ok (.istore_n 1, 1) := by decide +kernel
theorem dX3_endSilentSessions_2 : decode cX3_endSilentSessions 2 = .ok (.iconst 0, 1) := by decide +kernel
theorem dX3_endSilentSessions_3 : decode cX3_endSilentSessions 3 = .ok (.istore_n 2, 1) := by decide +kernel
theorem dX3_endSilentSessions_4 : decode cX3_endSilentSessions 4 = .ok (.iload_n 2, 1) := by decide +kernel
theorem dX3_endSilentSessions_5 : decode cX3_endSilentSessions 5 = .ok (.bipush 6, 2) := by decide +kernel
theorem dX3_endSilentSessions_7 : decode cX3_endSilentSessions 7 = .ok (.if_icmp .ge 46, 3) := by decide +kernel
theorem dX3_endSilentSessions_10 : decode cX3_endSilentSessions 10 = .ok (.aload_n 0, 1) := by decide +kernel
theorem dX3_endSilentSessions_11 : decode cX3_endSilentSessions 11 = .ok (.getfield 11, 3) := by decide +kernel
theorem dX3_endSilentSessions_14 : decode cX3_endSilentSessions 14 = .ok (.iload_n 2, 1) := by decide +kernel
theorem dX3_endSilentSessions_15 : decode cX3_endSilentSessions 15 = .ok (.aaload, 1) := by decide +kernel
theorem dX3_endSilentSessions_16 : decode cX3_endSilentSessions 16 = .ok (.astore_n 3, 1) := by decide +kernel
theorem dX3_endSilentSessions_17 : decode cX3_endSilentSessions 17 = .ok (.aload_n 3, 1) := by decide +kernel
theorem dX3_endSilentSessions_18 : decode cX3_endSilentSessions 18 = .ok (.getfield 27, 3) := by decide +kernel
theorem dX3_endSilentSessions_21 : decode cX3_endSilentSessions 21 = .ok (.ifCond .eq 26, 3) := by decide +kernel
theorem dX3_endSilentSessions_24 : decode cX3_endSilentSessions 24 = .ok (.aload_n 0, 1) := by decide +kernel
theorem dX3_endSilentSessions_25 : decode cX3_endSilentSessions 25 = .ok (.getfield 23, 3) := by decide +kernel
theorem dX3_endSilentSessions_28 : decode cX3_endSilentSessions 28 = .ok (.aload_n 3, 1) := by decide +kernel
theorem dX3_endSilentSessions_29 : decode cX3_endSilentSessions 29 = .ok (.getfield 50, 3) := by decide +kernel
theorem dX3_endSilentSessions_32 : decode cX3_endSilentSessions 32 = .ok (.isub, 1) := by decide +kernel
theorem dX3_endSilentSessions_33 : decode cX3_endSilentSessions 33 = .ok (.bipush 50, 2) := by decide +kernel
theorem dX3_endSilentSessions_35 : decode cX3_endSilentSessions 35 = .ok (.if_icmp .le 12, 3) := by decide +kernel
theorem dX3_endSilentSessions_38 : decode cX3_endSilentSessions 38 = .ok (.iload_n 1, 1) := by decide +kernel
theorem dX3_endSilentSessions_39 : decode cX3_endSilentSessions 39 = .ok (.aload_n 0, 1) := by decide +kernel
theorem dX3_endSilentSessions_40 : decode cX3_endSilentSessions 40 = .ok (.aload_n 3, 1) := by decide +kernel
theorem dX3_endSilentSessions_41 : decode cX3_endSilentSessions 41 = .ok (.iload_n 2, 1) := by decide +kernel
theorem dX3_endSilentSessions_42 : decode cX3_endSilentSessions 42 = .ok (.invokevirtual 46, 3) := by decide +kernel
theorem dX3_endSilentSessions_45 : decode cX3_endSilentSessions 45 = .ok (.iadd, 1) := by decide +kernel
theorem dX3_endSilentSessions_46 : decode cX3_endSilentSessions 46 = .ok (.istore_n 1, 1) := by decide +kernel
theorem dX3_endSilentSessions_47 : decode cX3_endSilentSessions 47 = .ok (.iinc 2 1, 3) := by decide +kernel
theorem dX3_endSilentSessions_50 : decode cX3_endSilentSessions 50 = .ok (.goto (-46), 3) := by decide +kernel
theorem dX3_endSilentSessions_53 : decode cX3_endSilentSessions 53 = .ok (.iload_n 1, 1) := by decide +kernel
theorem dX3_endSilentSessions_54 : decode cX3_endSilentSessions 54 = .ok (.ireturn, 1) := by decide +kernel
set_option maxRecDepth 20000 in
theorem ggX3_passOnLeasesDue_X0_isFree : GoodIn wsX3_passOnLeasesDue wsX0_isFree := goodIn_r _ [8, 9, 67, 68, 69, 70, 71, 72, 73, 74] (by decide +kernel) (by decide +kernel)
set_option maxRecDepth 20000 in
theorem gX3_passOnLeasesDue_X0_isFree : GoodIn wsX3_passOnLeasesDue (wsV RX3 91 RX0 yX0_isFree wsX0_isFree) := goodIn_app (goodIn_of _ (by decide +kernel)) ggX3_passOnLeasesDue_X0_isFree
set_option maxRecDepth 20000 in
theorem ggX3_passOnLeasesDue_X3_passOn : GoodIn wsX3_passOnLeasesDue wsX3_passOn := goodIn_r _ [14, 15, 16, 3, 17, 18, 19, 20, 21, 22, 23, 24, 25, 26, 27, 28, 29, 30, 31, 32, 33, 34, 35, 36, 37, 38, 39, 40, 41, 42, 43, 13, 44, 45, 46, 47, 48, 49, 50, 51, 52, 53, 54, 7, 55, 9, 56, 57, 58, 59, 60, 61, 62, 63, 67, 68, 69, 70, 71, 72, 73, 74, 64, 65, 66, 75, 76, 77, 78, 79, 80, 81] (by decide +kernel) (by decide +kernel)
set_option maxRecDepth 20000 in
theorem gX3_passOnLeasesDue_X3_passOn : GoodIn wsX3_passOnLeasesDue (wsV RX3 111 RX3 yX3_passOn wsX3_passOn) := goodIn_app (goodIn_of _ (by decide +kernel)) ggX3_passOnLeasesDue_X3_passOn
theorem dX3_passOnLeasesDue_0 : decode cX3_passOnLeasesDue 0 = .ok (.iconst 0, 1) := by decide +kernel
theorem dX3_passOnLeasesDue_1 : decode cX3_passOnLeasesDue 1 = .ok (.istore_n 1, 1) := by decide +kernel
theorem dX3_passOnLeasesDue_2 : decode cX3_passOnLeasesDue 2 = .ok (.aload_n 0, 1) := by decide +kernel
theorem dX3_passOnLeasesDue_3 : decode cX3_passOnLeasesDue 3 = .ok (.getfield 18, 3) := by decide +kernel
theorem dX3_passOnLeasesDue_6 : decode cX3_passOnLeasesDue 6 = .ok (.astore_n 2, 1) := by decide +kernel
theorem dX3_passOnLeasesDue_7 : decode cX3_passOnLeasesDue 7 = .ok (.aload_n 2, 1) := by decide +kernel
theorem dX3_passOnLeasesDue_8 : decode cX3_passOnLeasesDue 8 = .ok (.arraylength, 1) := by decide +kernel
theorem dX3_passOnLeasesDue_9 : decode cX3_passOnLeasesDue 9 = .ok (.istore_n 3, 1) := by decide +kernel
theorem dX3_passOnLeasesDue_10 : decode cX3_passOnLeasesDue 10 = .ok (.iconst 0, 1) := by decide +kernel
theorem dX3_passOnLeasesDue_11 : decode cX3_passOnLeasesDue 11 = .ok (.istore 4, 2) := by decide +kernel
theorem dX3_passOnLeasesDue_13 : decode cX3_passOnLeasesDue 13 = .ok (.iload 4, 2) := by decide +kernel
theorem dX3_passOnLeasesDue_15 : decode cX3_passOnLeasesDue 15 = .ok (.iload_n 3, 1) := by decide +kernel
theorem dX3_passOnLeasesDue_16 : decode cX3_passOnLeasesDue 16 = .ok (.if_icmp .ge 44, 3) := by decide +kernel
theorem dX3_passOnLeasesDue_19 : decode cX3_passOnLeasesDue 19 = .ok (.aload_n 2, 1) := by decide +kernel
theorem dX3_passOnLeasesDue_20 : decode cX3_passOnLeasesDue 20 = .ok (.iload 4, 2) := by decide +kernel
theorem dX3_passOnLeasesDue_22 : decode cX3_passOnLeasesDue 22 = .ok (.aaload, 1) := by decide +kernel
theorem dX3_passOnLeasesDue_23 : decode cX3_passOnLeasesDue 23 = .ok (.astore 5, 2) := by decide +kernel
theorem dX3_passOnLeasesDue_25 : decode cX3_passOnLeasesDue 25 = .ok (.aload 5, 2) := by decide +kernel
theorem dX3_passOnLeasesDue_27 : decode cX3_passOnLeasesDue 27 = .ok (.invokevirtual 91, 3) := by decide +kernel
theorem dX3_passOnLeasesDue_30 : decode cX3_passOnLeasesDue 30 = .ok (.ifCond .ne 24, 3) := by decide +kernel
theorem dX3_passOnLeasesDue_33 : decode cX3_passOnLeasesDue 33 = .ok (.aload 5, 2) := by decide +kernel
theorem dX3_passOnLeasesDue_35 : decode cX3_passOnLeasesDue 35 = .ok (.getfield 122, 3) := by decide +kernel
theorem dX3_passOnLeasesDue_38 : decode cX3_passOnLeasesDue 38 = .ok (.aload_n 0, 1) := by decide +kernel
theorem dX3_passOnLeasesDue_39 : decode cX3_passOnLeasesDue 39 = .ok (.getfield 23, 3) := by decide +kernel
theorem dX3_passOnLeasesDue_42 : decode cX3_passOnLeasesDue 42 = .ok (.if_icmp .gt 12, 3) := by decide +kernel
theorem dX3_passOnLeasesDue_45 : decode cX3_passOnLeasesDue 45 = .ok (.aload_n 0, 1) := by decide +kernel
theorem dX3_passOnLeasesDue_46 : decode cX3_passOnLeasesDue 46 = .ok (.aload 5, 2) := by decide +kernel
theorem dX3_passOnLeasesDue_48 : decode cX3_passOnLeasesDue 48 = .ok (.invokevirtual 111, 3) := by decide +kernel
theorem dX3_passOnLeasesDue_51 : decode cX3_passOnLeasesDue 51 = .ok (.iinc 1 1, 3) := by decide +kernel
theorem dX3_passOnLeasesDue_54 : decode cX3_passOnLeasesDue 54 = .ok (.iinc 4 1, 3) := by decide +kernel
theorem dX3_passOnLeasesDue_57 : decode cX3_passOnLeasesDue 57 = .ok (.goto (-44), 3) := by decide +kernel
theorem dX3_passOnLeasesDue_60 : decode cX3_passOnLeasesDue 60 = .ok (.iload_n 1, 1) := by decide +kernel
theorem dX3_passOnLeasesDue_61 : decode cX3_passOnLeasesDue 61 = .ok (.ireturn, 1) := by decide +kernel
set_option maxRecDepth 20000 in
theorem ggX3_endSession_X1_drop : GoodIn wsX3_endSession wsX1_drop := goodIn_r _ [9, 10, 11, 12, 13, 14, 15, 8, 16, 74, 75, 76] (by decide +kernel) (by decide +kernel)
set_option maxRecDepth 20000 in
theorem gX3_endSession_X1_drop : GoodIn wsX3_endSession (wsV RX3 118 RX1 yX1_drop wsX1_drop) := goodIn_app (goodIn_of _ (by decide +kernel)) ggX3_endSession_X1_drop
set_option maxRecDepth 20000 in
theorem ggX3_endSession_X3_passOn : GoodIn wsX3_endSession wsX3_passOn := goodIn_r _ [21, 3, 2, 22, 23, 24, 25, 8, 26, 11, 27, 28, 29, 30, 10, 31, 32, 33, 34, 12, 5, 6, 7, 9, 13, 14, 15, 16, 35, 36, 37, 20, 38, 39, 40, 41, 42, 43, 44, 4, 45, 46, 47, 48, 49, 50, 51, 52, 53, 54, 55, 56, 57, 58, 62, 63, 64, 65, 66, 67, 68, 69, 59, 60, 61, 74, 75, 76, 70, 71, 72, 73] (by decide +kernel) (by decide +kernel)
set_option maxRecDepth 20000 in
theorem gX3_endSession_X3_passOn : GoodIn wsX3_endSession (wsV RX3 111 RX3 yX3_passOn wsX3_passOn) := goodIn_app (goodIn_of _ (by decide +kernel)) ggX3_endSession_X3_passOn
theorem dX3_endSession_0 : decode cX3_endSession 0 = .ok (.aload_n 0, 1) := by decide +kernel
theorem dX3_endSession_1 : decode cX3_endSession 1 = .ok (.getfield 18, 3) := by decide +kernel
theorem dX3_endSession_4 : decode cX3_endSession 4 = .ok (.astore_n 3, 1) := by decide +kernel
theorem dX3_endSession_5 : decode cX3_endSession 5 = .ok (.aload_n 3, 1) := by decide +kernel
theorem dX3_endSession_6 : decode cX3_endSession 6 = .ok (.arraylength, 1) := by decide +kernel
theorem dX3_endSession_7 : decode cX3_endSession 7 = .ok (.istore 4, 2) := by decide +kernel
theorem dX3_endSession_9 : decode cX3_endSession 9 = .ok (.iconst 0, 1) := by decide +kernel
theorem dX3_endSession_10 : decode cX3_endSession 10 = .ok (.istore 5, 2) := by decide +kernel
theorem dX3_endSession_12 : decode cX3_endSession 12 = .ok (.iload 5, 2) := by decide +kernel
theorem dX3_endSession_14 : decode cX3_endSession 14 = .ok (.iload 4, 2) := by decide +kernel
theorem dX3_endSession_16 : decode cX3_endSession 16 = .ok (.if_icmp .ge 25, 3) := by decide +kernel
theorem dX3_endSession_19 : decode cX3_endSession 19 = .ok (.aload_n 3, 1) := by decide +kernel
theorem dX3_endSession_20 : decode cX3_endSession 20 = .ok (.iload 5, 2) := by decide +kernel
theorem dX3_endSession_22 : decode cX3_endSession 22 = .ok (.aaload, 1) := by decide +kernel
theorem dX3_endSession_23 : decode cX3_endSession 23 = .ok (.astore 6, 2) := by decide +kernel
theorem dX3_endSession_25 : decode cX3_endSession 25 = .ok (.aload 6, 2) := by decide +kernel
theorem dX3_endSession_27 : decode cX3_endSession 27 = .ok (.getfield 99, 3) := by decide +kernel
theorem dX3_endSession_30 : decode cX3_endSession 30 = .ok (.iload_n 2, 1) := by decide +kernel
theorem dX3_endSession_31 : decode cX3_endSession 31 = .ok (.invokevirtual 118, 3) := by decide +kernel
theorem dX3_endSession_34 : decode cX3_endSession 34 = .ok (.pop, 1) := by decide +kernel
theorem dX3_endSession_35 : decode cX3_endSession 35 = .ok (.iinc 5 1, 3) := by decide +kernel
theorem dX3_endSession_38 : decode cX3_endSession 38 = .ok (.goto (-26), 3) := by decide +kernel
theorem dX3_endSession_41 : decode cX3_endSession 41 = .ok (.iconst 0, 1) := by decide +kernel
theorem dX3_endSession_42 : decode cX3_endSession 42 = .ok (.istore_n 3, 1) := by decide +kernel
theorem dX3_endSession_43 : decode cX3_endSession 43 = .ok (.aload_n 0, 1) := by decide +kernel
theorem dX3_endSession_44 : decode cX3_endSession 44 = .ok (.getfield 18, 3) := by decide +kernel
theorem dX3_endSession_47 : decode cX3_endSession 47 = .ok (.astore 4, 2) := by decide +kernel
theorem dX3_endSession_49 : decode cX3_endSession 49 = .ok (.aload 4, 2) := by decide +kernel
theorem dX3_endSession_51 : decode cX3_endSession 51 = .ok (.arraylength, 1) := by decide +kernel
theorem dX3_endSession_52 : decode cX3_endSession 52 = .ok (.istore 5, 2) := by decide +kernel
theorem dX3_endSession_54 : decode cX3_endSession 54 = .ok (.iconst 0, 1) := by decide +kernel
theorem dX3_endSession_55 : decode cX3_endSession 55 = .ok (.istore 6, 2) := by decide +kernel
theorem dX3_endSession_57 : decode cX3_endSession 57 = .ok (.iload 6, 2) := by decide +kernel
theorem dX3_endSession_59 : decode cX3_endSession 59 = .ok (.iload 5, 2) := by decide +kernel
theorem dX3_endSession_61 : decode cX3_endSession 61 = .ok (.if_icmp .ge 34, 3) := by decide +kernel
theorem dX3_endSession_64 : decode cX3_endSession 64 = .ok (.aload 4, 2) := by decide +kernel
theorem dX3_endSession_66 : decode cX3_endSession 66 = .ok (.iload 6, 2) := by decide +kernel
theorem dX3_endSession_68 : decode cX3_endSession 68 = .ok (.aaload, 1) := by decide +kernel
theorem dX3_endSession_69 : decode cX3_endSession 69 = .ok (.astore 7, 2) := by decide +kernel
theorem dX3_endSession_71 : decode cX3_endSession 71 = .ok (.aload 7, 2) := by decide +kernel
theorem dX3_endSession_73 : decode cX3_endSession 73 = .ok (.getfield 78, 3) := by decide +kernel
theorem dX3_endSession_76 : decode cX3_endSession 76 = .ok (.iload_n 2, 1) := by decide +kernel
theorem dX3_endSession_77 : decode cX3_endSession 77 = .ok (.if_icmp .ne 12, 3) := by decide +kernel
theorem dX3_endSession_80 : decode cX3_endSession 80 = .ok (.aload_n 0, 1) := by decide +kernel
theorem dX3_endSession_81 : decode cX3_endSession 81 = .ok (.aload 7, 2) := by decide +kernel
theorem dX3_endSession_83 : decode cX3_endSession 83 = .ok (.invokevirtual 111, 3) := by decide +kernel
theorem dX3_endSession_86 : decode cX3_endSession 86 = .ok (.iinc 3 1, 3) := by decide +kernel
theorem dX3_endSession_89 : decode cX3_endSession 89 = .ok (.iinc 6 1, 3) := by decide +kernel
theorem dX3_endSession_92 : decode cX3_endSession 92 = .ok (.goto (-35), 3) := by decide +kernel
theorem dX3_endSession_95 : decode cX3_endSession 95 = .ok (.aload_n 1, 1) := by decide +kernel
theorem dX3_endSession_96 : decode cX3_endSession 96 = .ok (.iconst 0, 1) := by decide +kernel
theorem dX3_endSession_97 : decode cX3_endSession 97 = .ok (.putfield 27, 3) := by decide +kernel
theorem dX3_endSession_100 : decode cX3_endSession 100 = .ok (.iload_n 3, 1) := by decide +kernel
theorem dX3_endSession_101 : decode cX3_endSession 101 = .ok (.ireturn, 1) := by decide +kernel
set_option maxRecDepth 20000 in
theorem ggX3_passOn_X1_slotAt : GoodIn wsX3_passOn wsX1_slotAt := goodIn_r _ [8, 9, 10, 11, 12, 7, 13, 14, 65, 66, 67] (by decide +kernel) (by decide +kernel)
set_option maxRecDepth 20000 in
theorem gX3_passOn_X1_slotAt : GoodIn wsX3_passOn (wsV RX3 125 RX1 yX1_slotAt wsX1_slotAt) := goodIn_app (goodIn_of _ (by decide +kernel)) ggX3_passOn_X1_slotAt
set_option maxRecDepth 20000 in
theorem ggX3_passOn_X1_termAt : GoodIn wsX3_passOn wsX1_termAt := goodIn_r _ [18, 19, 10, 11, 12, 7, 13, 14, 65, 66, 67] (by decide +kernel) (by decide +kernel)
set_option maxRecDepth 20000 in
theorem gX3_passOn_X1_termAt : GoodIn wsX3_passOn (wsV RX3 148 RX1 yX1_termAt wsX1_termAt) := goodIn_app (goodIn_of _ (by decide +kernel)) ggX3_passOn_X1_termAt
set_option maxRecDepth 20000 in
theorem ggX3_passOn_X1_drop : GoodIn wsX3_passOn wsX1_drop := goodIn_r _ [23, 14, 9, 19, 24, 25, 26, 7, 27, 65, 66, 67] (by decide +kernel) (by decide +kernel)
set_option maxRecDepth 20000 in
theorem gX3_passOn_X1_drop : GoodIn wsX3_passOn (wsV RX3 118 RX1 yX1_drop wsX1_drop) := goodIn_app (goodIn_of _ (by decide +kernel)) ggX3_passOn_X1_drop
set_option maxRecDepth 20000 in
theorem ggX3_passOn_X3_clock : GoodIn wsX3_passOn wsX3_clock := goodIn_r _ [32, 33, 34, 35, 36, 31, 37, 38, 39, 68, 69, 70, 71, 62, 63, 64] (by decide +kernel) (by decide +kernel)
set_option maxRecDepth 20000 in
theorem gX3_passOn_X3_clock : GoodIn wsX3_passOn (wsV RX3 151 RX3 yX3_clock wsX3_clock) := goodIn_app (goodIn_of _ (by decide +kernel)) ggX3_passOn_X3_clock
set_option maxRecDepth 20000 in
theorem ggX3_passOn_X0_lend : GoodIn wsX3_passOn wsX0_lend := goodIn_r _ [44, 45, 46, 47, 48, 49, 43, 50, 51, 52, 53, 54, 55, 56, 57, 58, 59, 60, 61] (by decide +kernel) (by decide +kernel)
set_option maxRecDepth 20000 in
theorem gX3_passOn_X0_lend : GoodIn wsX3_passOn (wsV RX3 95 RX0 yX0_lend wsX0_lend) := goodIn_app (goodIn_of _ (by decide +kernel)) ggX3_passOn_X0_lend
theorem dX3_passOn_0 : decode cX3_passOn 0 = .ok (.aload_n 1, 1) := by decide +kernel
theorem dX3_passOn_1 : decode cX3_passOn 1 = .ok (.iconst (-1), 1) := by decide +kernel
theorem dX3_passOn_2 : decode cX3_passOn 2 = .ok (.putfield 78, 3) := by decide +kernel
theorem dX3_passOn_5 : decode cX3_passOn 5 = .ok (.aload_n 1, 1) := by decide +kernel
theorem dX3_passOn_6 : decode cX3_passOn 6 = .ok (.getfield 99, 3) := by decide +kernel
theorem dX3_passOn_9 : decode cX3_passOn 9 = .ok (.iconst 0, 1) := by decide +kernel
theorem dX3_passOn_10 : decode cX3_passOn 10 = .ok (.invokevirtual 125, 3) := by decide +kernel
theorem dX3_passOn_13 : decode cX3_passOn 13 = .ok (.istore_n 2, 1) := by decide +kernel
theorem dX3_passOn_14 : decode cX3_passOn 14 = .ok (.iload_n 2, 1) := by decide +kernel
theorem dX3_passOn_15 : decode cX3_passOn 15 = .ok (.iconst (-1), 1) := by decide +kernel
theorem dX3_passOn_16 : decode cX3_passOn 16 = .ok (.if_icmp .eq 36, 3) := by decide +kernel
theorem dX3_passOn_19 : decode cX3_passOn 19 = .ok (.aload_n 1, 1) := by decide +kernel
theorem dX3_passOn_20 : decode cX3_passOn 20 = .ok (.getfield 99, 3) := by decide +kernel
theorem dX3_passOn_23 : decode cX3_passOn 23 = .ok (.iconst 0, 1) := by decide +kernel
theorem dX3_passOn_24 : decode cX3_passOn 24 = .ok (.invokevirtual 148, 3) := by decide +kernel
theorem dX3_passOn_27 : decode cX3_passOn 27 = .ok (.istore_n 3, 1) := by decide +kernel
theorem dX3_passOn_28 : decode cX3_passOn 28 = .ok (.aload_n 1, 1) := by decide +kernel
theorem dX3_passOn_29 : decode cX3_passOn 29 = .ok (.getfield 99, 3) := by decide +kernel
theorem dX3_passOn_32 : decode cX3_passOn 32 = .ok (.iload_n 2, 1) := by decide +kernel
theorem dX3_passOn_33 : decode cX3_passOn 33 = .ok (.invokevirtual 118, 3) := by decide +kernel
theorem dX3_passOn_36 : decode cX3_passOn 36 = .ok (.pop, 1) := by decide +kernel
theorem dX3_passOn_37 : decode cX3_passOn 37 = .ok (.aload_n 1, 1) := by decide +kernel
theorem dX3_passOn_38 : decode cX3_passOn 38 = .ok (.iload_n 2, 1) := by decide +kernel
theorem dX3_passOn_39 : decode cX3_passOn 39 = .ok (.iload_n 3, 1) := by decide +kernel
theorem dX3_passOn_40 : decode cX3_passOn 40 = .ok (.aload_n 0, 1) := by decide +kernel
theorem dX3_passOn_41 : decode cX3_passOn 41 = .ok (.getfield 23, 3) := by decide +kernel
theorem dX3_passOn_44 : decode cX3_passOn 44 = .ok (.aload_n 0, 1) := by decide +kernel
theorem dX3_passOn_45 : decode cX3_passOn 45 = .ok (.iload_n 2, 1) := by decide +kernel
theorem dX3_passOn_46 : decode cX3_passOn 46 = .ok (.invokevirtual 151, 3) := by decide +kernel
theorem dX3_passOn_49 : decode cX3_passOn 49 = .ok (.invokevirtual 95, 3) := by decide +kernel
theorem dX3_passOn_52 : decode cX3_passOn 52 = .ok (.return_, 1) := by decide +kernel
theorem dX4_init_0 : decode cX4_init 0 = .ok (.aload_n 0, 1) := by decide +kernel
theorem dX4_init_1 : decode cX4_init 1 = .ok (.invokespecial 1, 3) := by decide +kernel
theorem dX4_init_4 : decode cX4_init 4 = .ok (.aload_n 0, 1) := by decide +kernel
theorem dX4_init_5 : decode cX4_init 5 = .ok (.bipush 6, 2) := by decide +kernel
theorem dX4_init_7 : decode cX4_init 7 = .ok (.newarray .boolean, 2) := by decide +kernel
theorem dX4_init_9 : decode cX4_init 9 = .ok (.putfield 9, 3) := by decide +kernel
theorem dX4_init_12 : decode cX4_init 12 = .ok (.aload_n 0, 1) := by decide +kernel
theorem dX4_init_13 : decode cX4_init 13 = .ok (.bipush 6, 2) := by decide +kernel
theorem dX4_init_15 : decode cX4_init 15 = .ok (.newarray .int, 2) := by decide +kernel
theorem dX4_init_17 : decode cX4_init 17 = .ok (.putfield 13, 3) := by decide +kernel
theorem dX4_init_20 : decode cX4_init 20 = .ok (.aload_n 0, 1) := by decide +kernel
theorem dX4_init_21 : decode cX4_init 21 = .ok (.bipush 6, 2) := by decide +kernel
theorem dX4_init_23 : decode cX4_init 23 = .ok (.newarray .int, 2) := by decide +kernel
theorem dX4_init_25 : decode cX4_init 25 = .ok (.putfield 17, 3) := by decide +kernel
theorem dX4_init_28 : decode cX4_init 28 = .ok (.aload_n 0, 1) := by decide +kernel
theorem dX4_init_29 : decode cX4_init 29 = .ok (.bipush 6, 2) := by decide +kernel
theorem dX4_init_31 : decode cX4_init 31 = .ok (.newarray .int, 2) := by decide +kernel
theorem dX4_init_33 : decode cX4_init 33 = .ok (.putfield 20, 3) := by decide +kernel
theorem dX4_init_36 : decode cX4_init 36 = .ok (.aload_n 0, 1) := by decide +kernel
theorem dX4_init_37 : decode cX4_init 37 = .ok (.iconst 4, 1) := by decide +kernel
theorem dX4_init_38 : decode cX4_init 38 = .ok (.newarray .int, 2) := by decide +kernel
theorem dX4_init_40 : decode cX4_init 40 = .ok (.putfield 23, 3) := by decide +kernel
theorem dX4_init_43 : decode cX4_init 43 = .ok (.aload_n 0, 1) := by decide +kernel
theorem dX4_init_44 : decode cX4_init 44 = .ok (.iconst 4, 1) := by decide +kernel
theorem dX4_init_45 : decode cX4_init 45 = .ok (.newarray .int, 2) := by decide +kernel
theorem dX4_init_47 : decode cX4_init 47 = .ok (.putfield 26, 3) := by decide +kernel
theorem dX4_init_50 : decode cX4_init 50 = .ok (.aload_n 0, 1) := by decide +kernel
theorem dX4_init_51 : decode cX4_init 51 = .ok (.iconst 4, 1) := by decide +kernel
theorem dX4_init_52 : decode cX4_init 52 = .ok (.newarray .int, 2) := by decide +kernel
theorem dX4_init_54 : decode cX4_init 54 = .ok (.putfield 29, 3) := by decide +kernel
theorem dX4_init_57 : decode cX4_init 57 = .ok (.aload_n 0, 1) := by decide +kernel
theorem dX4_init_58 : decode cX4_init 58 = .ok (.iconst 4, 1) := by decide +kernel
theorem dX4_init_59 : decode cX4_init 59 = .ok (.newarray .int, 2) := by decide +kernel
theorem dX4_init_61 : decode cX4_init 61 = .ok (.putfield 32, 3) := by decide +kernel
theorem dX4_init_64 : decode cX4_init 64 = .ok (.aload_n 0, 1) := by decide +kernel
theorem dX4_init_65 : decode cX4_init 65 = .ok (.iconst 4, 1) := by decide +kernel
theorem dX4_init_66 : decode cX4_init 66 = .ok (.newarray .int, 2) := by decide +kernel
theorem dX4_init_68 : decode cX4_init 68 = .ok (.putfield 35, 3) := by decide +kernel
theorem dX4_init_71 : decode cX4_init 71 = .ok (.aload_n 0, 1) := by decide +kernel
theorem dX4_init_72 : decode cX4_init 72 = .ok (.bipush 24, 2) := by decide +kernel
theorem dX4_init_74 : decode cX4_init 74 = .ok (.newarray .int, 2) := by decide +kernel
theorem dX4_init_76 : decode cX4_init 76 = .ok (.putfield 38, 3) := by decide +kernel
theorem dX4_init_79 : decode cX4_init 79 = .ok (.aload_n 0, 1) := by decide +kernel
theorem dX4_init_80 : decode cX4_init 80 = .ok (.bipush 24, 2) := by decide +kernel
theorem dX4_init_82 : decode cX4_init 82 = .ok (.newarray .int, 2) := by decide +kernel
theorem dX4_init_84 : decode cX4_init 84 = .ok (.putfield 41, 3) := by decide +kernel
theorem dX4_init_87 : decode cX4_init 87 = .ok (.aload_n 0, 1) := by decide +kernel
theorem dX4_init_88 : decode cX4_init 88 = .ok (.iconst 4, 1) := by decide +kernel
theorem dX4_init_89 : decode cX4_init 89 = .ok (.newarray .int, 2) := by decide +kernel
theorem dX4_init_91 : decode cX4_init 91 = .ok (.putfield 44, 3) := by decide +kernel
theorem dX4_init_94 : decode cX4_init 94 = .ok (.aload_n 0, 1) := by decide +kernel
theorem dX4_init_95 : decode cX4_init 95 = .ok (.iconst 4, 1) := by decide +kernel
theorem dX4_init_96 : decode cX4_init 96 = .ok (.newarray .int, 2) := by decide +kernel
theorem dX4_init_98 : decode cX4_init 98 = .ok (.putfield 47, 3) := by decide +kernel
theorem dX4_init_101 : decode cX4_init 101 = .ok (.return_, 1) := by decide +kernel
theorem dX4_thrown_0 : decode cX4_thrown 0 = .ok (.aload_n 0, 1) := by decide +kernel
theorem dX4_thrown_1 : decode cX4_thrown 1 = .ok (.getfield 50, 3) := by decide +kernel
theorem dX4_thrown_4 : decode cX4_thrown 4 = .ok (.ireturn, 1) := by decide +kernel
theorem dX4_isOpen_0 : decode cX4_isOpen 0 = .ok (.iload_n 1, 1) := by decide +kernel
theorem dX4_isOpen_1 : decode cX4_isOpen 1 = .ok (.ifCond .lt 22, 3) := by decide +kernel
theorem dX4_isOpen_4 : decode cX4_isOpen 4 = .ok (.iload_n 1, 1) := by decide +kernel
theorem dX4_isOpen_5 : decode cX4_isOpen 5 = .ok (.bipush 6, 2) := by decide +kernel
theorem dX4_isOpen_7 : decode cX4_isOpen 7 = .ok (.if_icmp .ge 16, 3) := by decide +kernel
theorem dX4_isOpen_10 : decode cX4_isOpen 10 = .ok (.aload_n 0, 1) := by decide +kernel
theorem dX4_isOpen_11 : decode cX4_isOpen 11 = .ok (.getfield 9, 3) := by decide +kernel
theorem dX4_isOpen_14 : decode cX4_isOpen 14 = .ok (.iload_n 1, 1) := by decide +kernel
theorem dX4_isOpen_15 : decode cX4_isOpen 15 = .ok (.baload, 1) := by decide +kernel
theorem dX4_isOpen_16 : decode cX4_isOpen 16 = .ok (.ifCond .eq 7, 3) := by decide +kernel
theorem dX4_isOpen_19 : decode cX4_isOpen 19 = .ok (.iconst 1, 1) := by decide +kernel
theorem dX4_isOpen_20 : decode cX4_isOpen 20 = .ok (.goto 4, 3) := by decide +kernel
theorem dX4_isOpen_23 : decode cX4_isOpen 23 = .ok (.iconst 0, 1) := by decide +kernel
theorem dX4_isOpen_24 : decode cX4_isOpen 24 = .ok (.ireturn, 1) := by decide +kernel
theorem dX4_isLock_0 : decode cX4_isLock 0 = .ok (.iload_n 0, 1) := by decide +kernel
theorem dX4_isLock_1 : decode cX4_isLock 1 = .ok (.ifCond .lt 12, 3) := by decide +kernel
theorem dX4_isLock_4 : decode cX4_isLock 4 = .ok (.iload_n 0, 1) := by decide +kernel
theorem dX4_isLock_5 : decode cX4_isLock 5 = .ok (.iconst 4, 1) := by decide +kernel
theorem dX4_isLock_6 : decode cX4_isLock 6 = .ok (.if_icmp .ge 7, 3) := by decide +kernel
theorem dX4_isLock_9 : decode cX4_isLock 9 = .ok (.iconst 1, 1) := by decide +kernel
theorem dX4_isLock_10 : decode cX4_isLock 10 = .ok (.goto 4, 3) := by decide +kernel
theorem dX4_isLock_13 : decode cX4_isLock 13 = .ok (.iconst 0, 1) := by decide +kernel
theorem dX4_isLock_14 : decode cX4_isLock 14 = .ok (.ireturn, 1) := by decide +kernel
theorem dX4_lend_0 : decode cX4_lend 0 = .ok (.aload_n 0, 1) := by decide +kernel
theorem dX4_lend_1 : decode cX4_lend 1 = .ok (.getfield 23, 3) := by decide +kernel
theorem dX4_lend_4 : decode cX4_lend 4 = .ok (.iload_n 1, 1) := by decide +kernel
theorem dX4_lend_5 : decode cX4_lend 5 = .ok (.iload_n 2, 1) := by decide +kernel
theorem dX4_lend_6 : decode cX4_lend 6 = .ok (.iconst 1, 1) := by decide +kernel
theorem dX4_lend_7 : decode cX4_lend 7 = .ok (.iadd, 1) := by decide +kernel
theorem dX4_lend_8 : decode cX4_lend 8 = .ok (.iastore, 1) := by decide +kernel
theorem dX4_lend_9 : decode cX4_lend 9 = .ok (.aload_n 0, 1) := by decide +kernel
theorem dX4_lend_10 : decode cX4_lend 10 = .ok (.getfield 26, 3) := by decide +kernel
theorem dX4_lend_13 : decode cX4_lend 13 = .ok (.iload_n 1, 1) := by decide +kernel
theorem dX4_lend_14 : decode cX4_lend 14 = .ok (.aload_n 0, 1) := by decide +kernel
theorem dX4_lend_15 : decode cX4_lend 15 = .ok (.getfield 26, 3) := by decide +kernel
theorem dX4_lend_18 : decode cX4_lend 18 = .ok (.iload_n 1, 1) := by decide +kernel
theorem dX4_lend_19 : decode cX4_lend 19 = .ok (.iaload, 1) := by decide +kernel
theorem dX4_lend_20 : decode cX4_lend 20 = .ok (.iconst 1, 1) := by decide +kernel
theorem dX4_lend_21 : decode cX4_lend 21 = .ok (.iadd, 1) := by decide +kernel
theorem dX4_lend_22 : decode cX4_lend 22 = .ok (.iastore, 1) := by decide +kernel
theorem dX4_lend_23 : decode cX4_lend 23 = .ok (.aload_n 0, 1) := by decide +kernel
theorem dX4_lend_24 : decode cX4_lend 24 = .ok (.getfield 29, 3) := by decide +kernel
theorem dX4_lend_27 : decode cX4_lend 27 = .ok (.iload_n 1, 1) := by decide +kernel
theorem dX4_lend_28 : decode cX4_lend 28 = .ok (.aload_n 0, 1) := by decide +kernel
theorem dX4_lend_29 : decode cX4_lend 29 = .ok (.getfield 54, 3) := by decide +kernel
theorem dX4_lend_32 : decode cX4_lend 32 = .ok (.iload_n 3, 1) := by decide +kernel
theorem dX4_lend_33 : decode cX4_lend 33 = .ok (.iadd, 1) := by decide +kernel
theorem dX4_lend_34 : decode cX4_lend 34 = .ok (.iastore, 1) := by decide +kernel
theorem dX4_lend_35 : decode cX4_lend 35 = .ok (.aload_n 0, 1) := by decide +kernel
theorem dX4_lend_36 : decode cX4_lend 36 = .ok (.getfield 32, 3) := by decide +kernel
theorem dX4_lend_39 : decode cX4_lend 39 = .ok (.iload_n 1, 1) := by decide +kernel
theorem dX4_lend_40 : decode cX4_lend 40 = .ok (.iload_n 3, 1) := by decide +kernel
theorem dX4_lend_41 : decode cX4_lend 41 = .ok (.iastore, 1) := by decide +kernel
theorem dX4_lend_42 : decode cX4_lend 42 = .ok (.aload_n 0, 1) := by decide +kernel
theorem dX4_lend_43 : decode cX4_lend 43 = .ok (.getfield 35, 3) := by decide +kernel
theorem dX4_lend_46 : decode cX4_lend 46 = .ok (.iload_n 1, 1) := by decide +kernel
theorem dX4_lend_47 : decode cX4_lend 47 = .ok (.aload_n 0, 1) := by decide +kernel
theorem dX4_lend_48 : decode cX4_lend 48 = .ok (.getfield 20, 3) := by decide +kernel
theorem dX4_lend_51 : decode cX4_lend 51 = .ok (.iload_n 2, 1) := by decide +kernel
theorem dX4_lend_52 : decode cX4_lend 52 = .ok (.iaload, 1) := by decide +kernel
theorem dX4_lend_53 : decode cX4_lend 53 = .ok (.iastore, 1) := by decide +kernel
theorem dX4_lend_54 : decode cX4_lend 54 = .ok (.aload_n 0, 1) := by decide +kernel
theorem dX4_lend_55 : decode cX4_lend 55 = .ok (.getfield 38, 3) := by decide +kernel
theorem dX4_lend_58 : decode cX4_lend 58 = .ok (.iload_n 1, 1) := by decide +kernel
theorem dX4_lend_59 : decode cX4_lend 59 = .ok (.bipush 6, 2) := by decide +kernel
theorem dX4_lend_61 : decode cX4_lend 61 = .ok (.imul, 1) := by decide +kernel
theorem dX4_lend_62 : decode cX4_lend 62 = .ok (.iload_n 2, 1) := by decide +kernel
theorem dX4_lend_63 : decode cX4_lend 63 = .ok (.iadd, 1) := by decide +kernel
theorem dX4_lend_64 : decode cX4_lend 64 = .ok (.iconst 0, 1) := by decide +kernel
theorem dX4_lend_65 : decode cX4_lend 65 = .ok (.iastore, 1) := by decide +kernel
theorem dX4_lend_66 : decode cX4_lend 66 = .ok (.return_, 1) := by decide +kernel
theorem dX4_inRow_0 : decode cX4_inRow 0 = .ok (.iconst 0, 1) := by decide +kernel
theorem dX4_inRow_1 : decode cX4_inRow 1 = .ok (.istore_n 3, 1) := by decide +kernel
theorem dX4_inRow_2 : decode cX4_inRow 2 = .ok (.iload_n 3, 1) := by decide +kernel
theorem dX4_inRow_3 : decode cX4_inRow 3 = .ok (.bipush 6, 2) := by decide +kernel
theorem dX4_inRow_5 : decode cX4_inRow 5 = .ok (.if_icmp .ge 92, 3) := by decide +kernel
theorem dX4_inRow_8 : decode cX4_inRow 8 = .ok (.aload_n 0, 1) := by decide +kernel
theorem dX4_inRow_9 : decode cX4_inRow 9 = .ok (.getfield 38, 3) := by decide +kernel
theorem dX4_inRow_12 : decode cX4_inRow 12 = .ok (.iload_n 1, 1) := by decide +kernel
theorem dX4_inRow_13 : decode cX4_inRow 13 = .ok (.bipush 6, 2) := by decide +kernel
theorem dX4_inRow_15 : decode cX4_inRow 15 = .ok (.imul, 1) := by decide +kernel
theorem dX4_inRow_16 : decode cX4_inRow 16 = .ok (.iload_n 3, 1) := by decide +kernel
theorem dX4_inRow_17 : decode cX4_inRow 17 = .ok (.iadd, 1) := by decide +kernel
theorem dX4_inRow_18 : decode cX4_inRow 18 = .ok (.iaload, 1) := by decide +kernel
theorem dX4_inRow_19 : decode cX4_inRow 19 = .ok (.istore 4, 2) := by decide +kernel
theorem dX4_inRow_21 : decode cX4_inRow 21 = .ok (.iconst 0, 1) := by decide +kernel
theorem dX4_inRow_22 : decode cX4_inRow 22 = .ok (.istore 5, 2) := by decide +kernel
theorem dX4_inRow_24 : decode cX4_inRow 24 = .ok (.iconst 0, 1) := by decide +kernel
theorem dX4_inRow_25 : decode cX4_inRow 25 = .ok (.istore 6, 2) := by decide +kernel
theorem dX4_inRow_27 : decode cX4_inRow 27 = .ok (.iload 6, 2) := by decide +kernel
theorem dX4_inRow_29 : decode cX4_inRow 29 = .ok (.bipush 6, 2) := by decide +kernel
theorem dX4_inRow_31 : decode cX4_inRow 31 = .ok (.if_icmp .ge 47, 3) := by decide +kernel
theorem dX4_inRow_34 : decode cX4_inRow 34 = .ok (.aload_n 0, 1) := by decide +kernel
theorem dX4_inRow_35 : decode cX4_inRow 35 = .ok (.getfield 38, 3) := by decide +kernel
theorem dX4_inRow_38 : decode cX4_inRow 38 = .ok (.iload_n 1, 1) := by decide +kernel
theorem dX4_inRow_39 : decode cX4_inRow 39 = .ok (.bipush 6, 2) := by decide +kernel
theorem dX4_inRow_41 : decode cX4_inRow 41 = .ok (.imul, 1) := by decide +kernel
theorem dX4_inRow_42 : decode cX4_inRow 42 = .ok (.iload 6, 2) := by decide +kernel
theorem dX4_inRow_44 : decode cX4_inRow 44 = .ok (.iadd, 1) := by decide +kernel
theorem dX4_inRow_45 : decode cX4_inRow 45 = .ok (.iaload, 1) := by decide +kernel
theorem dX4_inRow_46 : decode cX4_inRow 46 = .ok (.ifCond .le 26, 3) := by decide +kernel
theorem dX4_inRow_49 : decode cX4_inRow 49 = .ok (.aload_n 0, 1) := by decide +kernel
theorem dX4_inRow_50 : decode cX4_inRow 50 = .ok (.getfield 38, 3) := by decide +kernel
theorem dX4_inRow_53 : decode cX4_inRow 53 = .ok (.iload_n 1, 1) := by decide +kernel
theorem dX4_inRow_54 : decode cX4_inRow 54 = .ok (.bipush 6, 2) := by decide +kernel
theorem dX4_inRow_56 : decode cX4_inRow 56 = .ok (.imul, 1) := by decide +kernel
theorem dX4_inRow_57 : decode cX4_inRow 57 = .ok (.iload 6, 2) := by decide +kernel
theorem dX4_inRow_59 : decode cX4_inRow 59 = .ok (.iadd, 1) := by decide +kernel
theorem dX4_inRow_60 : decode cX4_inRow 60 = .ok (.iaload, 1) := by decide +kernel
theorem dX4_inRow_61 : decode cX4_inRow 61 = .ok (.iload 4, 2) := by decide +kernel
theorem dX4_inRow_63 : decode cX4_inRow 63 = .ok (.if_icmp .ge 9, 3) := by decide +kernel
theorem dX4_inRow_66 : decode cX4_inRow 66 = .ok (.iload 5, 2) := by decide +kernel
theorem dX4_inRow_68 : decode cX4_inRow 68 = .ok (.iconst 1, 1) := by decide +kernel
theorem dX4_inRow_69 : decode cX4_inRow 69 = .ok (.iadd, 1) := by decide +kernel
theorem dX4_inRow_70 : decode cX4_inRow 70 = .ok (.istore 5, 2) := by decide +kernel
theorem dX4_inRow_72 : decode cX4_inRow 72 = .ok (.iinc 6 1, 3) := by decide +kernel
theorem dX4_inRow_75 : decode cX4_inRow 75 = .ok (.goto (-48), 3) := by decide +kernel
theorem dX4_inRow_78 : decode cX4_inRow 78 = .ok (.iload 4, 2) := by decide +kernel
theorem dX4_inRow_80 : decode cX4_inRow 80 = .ok (.ifCond .le 11, 3) := by decide +kernel
theorem dX4_inRow_83 : decode cX4_inRow 83 = .ok (.iload 5, 2) := by decide +kernel
theorem dX4_inRow_85 : decode cX4_inRow 85 = .ok (.iload_n 2, 1) := by decide +kernel
theorem dX4_inRow_86 : decode cX4_inRow 86 = .ok (.if_icmp .ne 5, 3) := by decide +kernel
theorem dX4_inRow_89 : decode cX4_inRow 89 = .ok (.iload_n 3, 1) := by decide +kernel
theorem dX4_inRow_90 : decode cX4_inRow 90 = .ok (.ireturn, 1) := by decide +kernel
theorem dX4_inRow_91 : decode cX4_inRow 91 = .ok (.iinc 3 1, 3) := by decide +kernel
theorem dX4_inRow_94 : decode cX4_inRow 94 = .ok (.goto (-92), 3) := by decide +kernel
theorem dX4_inRow_97 : decode cX4_inRow 97 = .ok (.iconst (-1), 1) := by decide +kernel
theorem dX4_inRow_98 : decode cX4_inRow 98 = .ok (.ireturn, 1) := by decide +kernel
set_option maxRecDepth 20000 in
theorem ggX4_over_X4_inRow : GoodIn wsX4_over wsX4_inRow := goodIn_r _ [7, 8, 19, 20, 21, 22, 23, 24, 25, 26, 27, 28, 29, 30, 31, 32, 33, 34] (by decide +kernel) (by decide +kernel)
set_option maxRecDepth 20000 in
theorem gX4_over_X4_inRow : GoodIn wsX4_over (wsV RX4 57 RX4 yX4_inRow wsX4_inRow) := goodIn_app (goodIn_of _ (by decide +kernel)) ggX4_over_X4_inRow
set_option maxRecDepth 20000 in
theorem ggX4_over_X4_lend : GoodIn wsX4_over wsX4_lend := goodIn_r _ [12, 1, 13, 14, 15, 16, 17, 18, 8, 19, 20, 21, 22, 23, 24, 25, 26, 27, 28, 29, 30, 31, 32, 33, 34] (by decide +kernel) (by decide +kernel)
set_option maxRecDepth 20000 in
theorem gX4_over_X4_lend : GoodIn wsX4_over (wsV RX4 61 RX4 yX4_lend wsX4_lend) := goodIn_app (goodIn_of _ (by decide +kernel)) ggX4_over_X4_lend
theorem dX4_over_0 : decode cX4_over 0 = .ok (.aload_n 0, 1) := by decide +kernel
theorem dX4_over_1 : decode cX4_over 1 = .ok (.getfield 23, 3) := by decide +kernel
theorem dX4_over_4 : decode cX4_over 4 = .ok (.iload_n 1, 1) := by decide +kernel
theorem dX4_over_5 : decode cX4_over 5 = .ok (.iconst 0, 1) := by decide +kernel
theorem dX4_over_6 : decode cX4_over 6 = .ok (.iastore, 1) := by decide +kernel
theorem dX4_over_7 : decode cX4_over 7 = .ok (.aload_n 0, 1) := by decide +kernel
theorem dX4_over_8 : decode cX4_over 8 = .ok (.iload_n 1, 1) := by decide +kernel
theorem dX4_over_9 : decode cX4_over 9 = .ok (.iconst 0, 1) := by decide +kernel
theorem dX4_over_10 : decode cX4_over 10 = .ok (.invokevirtual 57, 3) := by decide +kernel
theorem dX4_over_13 : decode cX4_over 13 = .ok (.istore_n 2, 1) := by decide +kernel
theorem dX4_over_14 : decode cX4_over 14 = .ok (.iload_n 2, 1) := by decide +kernel
theorem dX4_over_15 : decode cX4_over 15 = .ok (.ifCond .lt 20, 3) := by decide +kernel
theorem dX4_over_18 : decode cX4_over 18 = .ok (.aload_n 0, 1) := by decide +kernel
theorem dX4_over_19 : decode cX4_over 19 = .ok (.iload_n 1, 1) := by decide +kernel
theorem dX4_over_20 : decode cX4_over 20 = .ok (.iload_n 2, 1) := by decide +kernel
theorem dX4_over_21 : decode cX4_over 21 = .ok (.aload_n 0, 1) := by decide +kernel
theorem dX4_over_22 : decode cX4_over 22 = .ok (.getfield 41, 3) := by decide +kernel
theorem dX4_over_25 : decode cX4_over 25 = .ok (.iload_n 1, 1) := by decide +kernel
theorem dX4_over_26 : decode cX4_over 26 = .ok (.bipush 6, 2) := by decide +kernel
theorem dX4_over_28 : decode cX4_over 28 = .ok (.imul, 1) := by decide +kernel
theorem dX4_over_29 : decode cX4_over 29 = .ok (.iload_n 2, 1) := by decide +kernel
theorem dX4_over_30 : decode cX4_over 30 = .ok (.iadd, 1) := by decide +kernel
theorem dX4_over_31 : decode cX4_over 31 = .ok (.iaload, 1) := by decide +kernel
theorem dX4_over_32 : decode cX4_over 32 = .ok (.invokevirtual 61, 3) := by decide +kernel
theorem dX4_over_35 : decode cX4_over 35 = .ok (.return_, 1) := by decide +kernel
set_option maxRecDepth 20000 in
theorem ggX4_gone_X4_over : GoodIn wsX4_gone wsX4_over := goodIn_r _ [8, 2, 9, 10, 11, 12, 7, 13, 1, 14, 15, 16, 17, 18, 19, 20, 21, 22, 23, 24, 25, 26, 27, 28, 29, 30, 31, 32, 33, 34, 35, 36, 37, 38, 39] (by decide +kernel) (by decide +kernel)
set_option maxRecDepth 20000 in
theorem gX4_gone_X4_over : GoodIn wsX4_gone (wsV RX4 65 RX4 yX4_over wsX4_over) := goodIn_app (goodIn_of _ (by decide +kernel)) ggX4_gone_X4_over
theorem dX4_gone_0 : decode cX4_gone 0 = .ok (.iconst 0, 1) := by decide +kernel
theorem dX4_gone_1 : decode cX4_gone 1 = .ok (.istore_n 2, 1) := by decide +kernel
theorem dX4_gone_2 : decode cX4_gone 2 = .ok (.iload_n 2, 1) := by decide +kernel
theorem dX4_gone_3 : decode cX4_gone 3 = .ok (.iconst 4, 1) := by decide +kernel
theorem dX4_gone_4 : decode cX4_gone 4 = .ok (.if_icmp .ge 21, 3) := by decide +kernel
theorem dX4_gone_7 : decode cX4_gone 7 = .ok (.aload_n 0, 1) := by decide +kernel
theorem dX4_gone_8 : decode cX4_gone 8 = .ok (.getfield 38, 3) := by decide +kernel
theorem dX4_gone_11 : decode cX4_gone 11 = .ok (.iload_n 2, 1) := by decide +kernel
theorem dX4_gone_12 : decode cX4_gone 12 = .ok (.bipush 6, 2) := by decide +kernel
theorem dX4_gone_14 : decode cX4_gone 14 = .ok (.imul, 1) := by decide +kernel
theorem dX4_gone_15 : decode cX4_gone 15 = .ok (.iload_n 1, 1) := by decide +kernel
theorem dX4_gone_16 : decode cX4_gone 16 = .ok (.iadd, 1) := by decide +kernel
theorem dX4_gone_17 : decode cX4_gone 17 = .ok (.iconst 0, 1) := by decide +kernel
theorem dX4_gone_18 : decode cX4_gone 18 = .ok (.iastore, 1) := by decide +kernel
theorem dX4_gone_19 : decode cX4_gone 19 = .ok (.iinc 2 1, 3) := by decide +kernel
theorem dX4_gone_22 : decode cX4_gone 22 = .ok (.goto (-20), 3) := by decide +kernel
theorem dX4_gone_25 : decode cX4_gone 25 = .ok (.iconst 0, 1) := by decide +kernel
theorem dX4_gone_26 : decode cX4_gone 26 = .ok (.istore_n 2, 1) := by decide +kernel
theorem dX4_gone_27 : decode cX4_gone 27 = .ok (.iconst 0, 1) := by decide +kernel
theorem dX4_gone_28 : decode cX4_gone 28 = .ok (.istore_n 3, 1) := by decide +kernel
theorem dX4_gone_29 : decode cX4_gone 29 = .ok (.iload_n 3, 1) := by decide +kernel
theorem dX4_gone_30 : decode cX4_gone 30 = .ok (.iconst 4, 1) := by decide +kernel
theorem dX4_gone_31 : decode cX4_gone 31 = .ok (.if_icmp .ge 33, 3) := by decide +kernel
theorem dX4_gone_34 : decode cX4_gone 34 = .ok (.aload_n 0, 1) := by decide +kernel
theorem dX4_gone_35 : decode cX4_gone 35 = .ok (.getfield 23, 3) := by decide +kernel
theorem dX4_gone_38 : decode cX4_gone 38 = .ok (.iload_n 3, 1) := by decide +kernel
theorem dX4_gone_39 : decode cX4_gone 39 = .ok (.iaload, 1) := by decide +kernel
theorem dX4_gone_40 : decode cX4_gone 40 = .ok (.iload_n 1, 1) := by decide +kernel
theorem dX4_gone_41 : decode cX4_gone 41 = .ok (.iconst 1, 1) := by decide +kernel
theorem dX4_gone_42 : decode cX4_gone 42 = .ok (.iadd, 1) := by decide +kernel
theorem dX4_gone_43 : decode cX4_gone 43 = .ok (.if_icmp .eq 6, 3) := by decide +kernel
theorem dX4_gone_46 : decode cX4_gone 46 = .ok (.goto 12, 3) := by decide +kernel
theorem dX4_gone_49 : decode cX4_gone 49 = .ok (.iload_n 2, 1) := by decide +kernel
theorem dX4_gone_50 : decode cX4_gone 50 = .ok (.iconst 1, 1) := by decide +kernel
theorem dX4_gone_51 : decode cX4_gone 51 = .ok (.iadd, 1) := by decide +kernel
theorem dX4_gone_52 : decode cX4_gone 52 = .ok (.istore_n 2, 1) := by decide +kernel
theorem dX4_gone_53 : decode cX4_gone 53 = .ok (.aload_n 0, 1) := by decide +kernel
theorem dX4_gone_54 : decode cX4_gone 54 = .ok (.iload_n 3, 1) := by decide +kernel
theorem dX4_gone_55 : decode cX4_gone 55 = .ok (.invokevirtual 65, 3) := by decide +kernel
theorem dX4_gone_58 : decode cX4_gone 58 = .ok (.iinc 3 1, 3) := by decide +kernel
theorem dX4_gone_61 : decode cX4_gone 61 = .ok (.goto (-32), 3) := by decide +kernel
theorem dX4_gone_64 : decode cX4_gone 64 = .ok (.aload_n 0, 1) := by decide +kernel
theorem dX4_gone_65 : decode cX4_gone 65 = .ok (.getfield 9, 3) := by decide +kernel
theorem dX4_gone_68 : decode cX4_gone 68 = .ok (.iload_n 1, 1) := by decide +kernel
theorem dX4_gone_69 : decode cX4_gone 69 = .ok (.iconst 0, 1) := by decide +kernel
theorem dX4_gone_70 : decode cX4_gone 70 = .ok (.bastore, 1) := by decide +kernel
theorem dX4_gone_71 : decode cX4_gone 71 = .ok (.iload_n 2, 1) := by decide +kernel
theorem dX4_gone_72 : decode cX4_gone 72 = .ok (.ireturn, 1) := by decide +kernel
theorem dX4_open_0 : decode cX4_open 0 = .ok (.iconst 0, 1) := by decide +kernel
theorem dX4_open_1 : decode cX4_open 1 = .ok (.istore_n 1, 1) := by decide +kernel
theorem dX4_open_2 : decode cX4_open 2 = .ok (.iload_n 1, 1) := by decide +kernel
theorem dX4_open_3 : decode cX4_open 3 = .ok (.bipush 6, 2) := by decide +kernel
theorem dX4_open_5 : decode cX4_open 5 = .ok (.if_icmp .ge 60, 3) := by decide +kernel
theorem dX4_open_8 : decode cX4_open 8 = .ok (.aload_n 0, 1) := by decide +kernel
theorem dX4_open_9 : decode cX4_open 9 = .ok (.getfield 9, 3) := by decide +kernel
theorem dX4_open_12 : decode cX4_open 12 = .ok (.iload_n 1, 1) := by decide +kernel
theorem dX4_open_13 : decode cX4_open 13 = .ok (.baload, 1) := by decide +kernel
theorem dX4_open_14 : decode cX4_open 14 = .ok (.ifCond .eq 6, 3) := by decide +kernel
theorem dX4_open_17 : decode cX4_open 17 = .ok (.goto 42, 3) := by decide +kernel
theorem dX4_open_20 : decode cX4_open 20 = .ok (.aload_n 0, 1) := by decide +kernel
theorem dX4_open_21 : decode cX4_open 21 = .ok (.getfield 9, 3) := by decide +kernel
theorem dX4_open_24 : decode cX4_open 24 = .ok (.iload_n 1, 1) := by decide +kernel
theorem dX4_open_25 : decode cX4_open 25 = .ok (.iconst 1, 1) := by decide +kernel
theorem dX4_open_26 : decode cX4_open 26 = .ok (.bastore, 1) := by decide +kernel
theorem dX4_open_27 : decode cX4_open 27 = .ok (.aload_n 0, 1) := by decide +kernel
theorem dX4_open_28 : decode cX4_open 28 = .ok (.getfield 13, 3) := by decide +kernel
theorem dX4_open_31 : decode cX4_open 31 = .ok (.iload_n 1, 1) := by decide +kernel
theorem dX4_open_32 : decode cX4_open 32 = .ok (.aload_n 0, 1) := by decide +kernel
theorem dX4_open_33 : decode cX4_open 33 = .ok (.getfield 54, 3) := by decide +kernel
theorem dX4_open_36 : decode cX4_open 36 = .ok (.iastore, 1) := by decide +kernel
theorem dX4_open_37 : decode cX4_open 37 = .ok (.aload_n 0, 1) := by decide +kernel
theorem dX4_open_38 : decode cX4_open 38 = .ok (.getfield 17, 3) := by decide +kernel
theorem dX4_open_41 : decode cX4_open 41 = .ok (.iload_n 1, 1) := by decide +kernel
theorem dX4_open_42 : decode cX4_open 42 = .ok (.bipush 10, 2) := by decide +kernel
theorem dX4_open_44 : decode cX4_open 44 = .ok (.iastore, 1) := by decide +kernel
theorem dX4_open_45 : decode cX4_open 45 = .ok (.aload_n 0, 1) := by decide +kernel
theorem dX4_open_46 : decode cX4_open 46 = .ok (.getfield 20, 3) := by decide +kernel
theorem dX4_open_49 : decode cX4_open 49 = .ok (.iload_n 1, 1) := by decide +kernel
theorem dX4_open_50 : decode cX4_open 50 = .ok (.iconst 0, 1) := by decide +kernel
theorem dX4_open_51 : decode cX4_open 51 = .ok (.iastore, 1) := by decide +kernel
theorem dX4_open_52 : decode cX4_open 52 = .ok (.aload_n 0, 1) := by decide +kernel
theorem dX4_open_53 : decode cX4_open 53 = .ok (.iconst 0, 1) := by decide +kernel
theorem dX4_open_54 : decode cX4_open 54 = .ok (.putfield 50, 3) := by decide +kernel
theorem dX4_open_57 : decode cX4_open 57 = .ok (.iload_n 1, 1) := by decide +kernel
theorem dX4_open_58 : decode cX4_open 58 = .ok (.ireturn, 1) := by decide +kernel
theorem dX4_open_59 : decode cX4_open 59 = .ok (.iinc 1 1, 3) := by decide +kernel
theorem dX4_open_62 : decode cX4_open 62 = .ok (.goto (-60), 3) := by decide +kernel
theorem dX4_open_65 : decode cX4_open 65 = .ok (.aload_n 0, 1) := by decide +kernel
theorem dX4_open_66 : decode cX4_open 66 = .ok (.iconst 1, 1) := by decide +kernel
theorem dX4_open_67 : decode cX4_open 67 = .ok (.putfield 50, 3) := by decide +kernel
theorem dX4_open_70 : decode cX4_open 70 = .ok (.iconst 0, 1) := by decide +kernel
theorem dX4_open_71 : decode cX4_open 71 = .ok (.ireturn, 1) := by decide +kernel
set_option maxRecDepth 20000 in
theorem ggX4_close_X4_isOpen : GoodIn wsX4_close wsX4_isOpen := goodIn_r _ [6, 7, 33, 34, 35, 36, 37, 38, 39, 40, 41, 42, 43, 44, 45, 46, 47, 48] (by decide +kernel) (by decide +kernel)
set_option maxRecDepth 20000 in
theorem gX4_close_X4_isOpen : GoodIn wsX4_close (wsV RX4 69 RX4 yX4_isOpen wsX4_isOpen) := goodIn_app (goodIn_of _ (by decide +kernel)) ggX4_close_X4_isOpen
set_option maxRecDepth 20000 in
theorem ggX4_close_X4_gone : GoodIn wsX4_close wsX4_gone := goodIn_r _ [11, 12, 13, 7, 14, 15, 16, 5, 17, 18, 19, 20, 21, 22, 23, 24, 25, 26, 27, 28, 29, 30, 31, 32, 33, 34, 35, 36, 37, 38, 39, 40, 41, 42, 43, 44, 45, 46, 47, 48] (by decide +kernel) (by decide +kernel)
set_option maxRecDepth 20000 in
theorem gX4_close_X4_gone : GoodIn wsX4_close (wsV RX4 73 RX4 yX4_gone wsX4_gone) := goodIn_app (goodIn_of _ (by decide +kernel)) ggX4_close_X4_gone
theorem dX4_close_0 : decode cX4_close 0 = .ok (.aload_n 0, 1) := by decide +kernel
theorem dX4_close_1 : decode cX4_close 1 = .ok (.aload_n 0, 1) := by decide +kernel
theorem dX4_close_2 : decode cX4_close 2 = .ok (.iload_n 1, 1) := by decide +kernel
theorem dX4_close_3 : decode cX4_close 3 = .ok (.invokevirtual 69, 3) := by decide +kernel
theorem dX4_close_6 : decode cX4_close 6 = .ok (.ifCond .eq 7, 3) := by decide +kernel
theorem dX4_close_9 : decode cX4_close 9 = .ok (.iconst 0, 1) := by decide +kernel
theorem dX4_close_10 : decode cX4_close 10 = .ok (.goto 4, 3) := by decide +kernel
theorem dX4_close_13 : decode cX4_close 13 = .ok (.iconst 1, 1) := by decide +kernel
theorem dX4_close_14 : decode cX4_close 14 = .ok (.putfield 50, 3) := by decide +kernel
theorem dX4_close_17 : decode cX4_close 17 = .ok (.aload_n 0, 1) := by decide +kernel
theorem dX4_close_18 : decode cX4_close 18 = .ok (.getfield 50, 3) := by decide +kernel
theorem dX4_close_21 : decode cX4_close 21 = .ok (.ifCond .le 7, 3) := by decide +kernel
theorem dX4_close_24 : decode cX4_close 24 = .ok (.iconst 0, 1) := by decide +kernel
theorem dX4_close_25 : decode cX4_close 25 = .ok (.goto 8, 3) := by decide +kernel
theorem dX4_close_28 : decode cX4_close 28 = .ok (.aload_n 0, 1) := by decide +kernel
theorem dX4_close_29 : decode cX4_close 29 = .ok (.iload_n 1, 1) := by decide +kernel
theorem dX4_close_30 : decode cX4_close 30 = .ok (.invokevirtual 73, 3) := by decide +kernel
theorem dX4_close_33 : decode cX4_close 33 = .ok (.ireturn, 1) := by decide +kernel
set_option maxRecDepth 20000 in
theorem ggX4_keep_X4_isOpen : GoodIn wsX4_keep wsX4_isOpen := goodIn_r _ [8, 9, 10, 11, 12, 13, 14, 15, 16, 17, 18, 19, 20, 21, 22, 23, 24, 25] (by decide +kernel) (by decide +kernel)
set_option maxRecDepth 20000 in
theorem gX4_keep_X4_isOpen : GoodIn wsX4_keep (wsV RX4 69 RX4 yX4_isOpen wsX4_isOpen) := goodIn_app (goodIn_of _ (by decide +kernel)) ggX4_keep_X4_isOpen
theorem dX4_keep_0 : decode cX4_keep 0 = .ok (.aload_n 0, 1) := by decide +kernel
theorem dX4_keep_1 : decode cX4_keep 1 = .ok (.aload_n 0, 1) := by decide +kernel
theorem dX4_keep_2 : decode cX4_keep 2 = .ok (.iload_n 1, 1) := by decide +kernel
theorem dX4_keep_3 : decode cX4_keep 3 = .ok (.invokevirtual 69, 3) := by decide +kernel
theorem dX4_keep_6 : decode cX4_keep 6 = .ok (.ifCond .eq 7, 3) := by decide +kernel
theorem dX4_keep_9 : decode cX4_keep 9 = .ok (.iconst 0, 1) := by decide +kernel
theorem dX4_keep_10 : decode cX4_keep 10 = .ok (.goto 4, 3) := by decide +kernel
theorem dX4_keep_13 : decode cX4_keep 13 = .ok (.iconst 1, 1) := by decide +kernel
theorem dX4_keep_14 : decode cX4_keep 14 = .ok (.putfield 50, 3) := by decide +kernel
theorem dX4_keep_17 : decode cX4_keep 17 = .ok (.aload_n 0, 1) := by decide +kernel
theorem dX4_keep_18 : decode cX4_keep 18 = .ok (.getfield 50, 3) := by decide +kernel
theorem dX4_keep_21 : decode cX4_keep 21 = .ok (.ifCond .ne 13, 3) := by decide +kernel
theorem dX4_keep_24 : decode cX4_keep 24 = .ok (.aload_n 0, 1) := by decide +kernel
theorem dX4_keep_25 : decode cX4_keep 25 = .ok (.getfield 13, 3) := by decide +kernel
theorem dX4_keep_28 : decode cX4_keep 28 = .ok (.iload_n 1, 1) := by decide +kernel
theorem dX4_keep_29 : decode cX4_keep 29 = .ok (.aload_n 0, 1) := by decide +kernel
theorem dX4_keep_30 : decode cX4_keep 30 = .ok (.getfield 54, 3) := by decide +kernel
theorem dX4_keep_33 : decode cX4_keep 33 = .ok (.iastore, 1) := by decide +kernel
theorem dX4_keep_34 : decode cX4_keep 34 = .ok (.return_, 1) := by decide +kernel
set_option maxRecDepth 20000 in
theorem ggX4_rate_X4_isOpen : GoodIn wsX4_rate wsX4_isOpen := goodIn_r _ [6, 7, 8, 9, 10, 11, 12, 13, 14, 15, 16, 17, 18, 19, 20, 21, 22, 23] (by decide +kernel) (by decide +kernel)
set_option maxRecDepth 20000 in
theorem gX4_rate_X4_isOpen : GoodIn wsX4_rate (wsV RX4 69 RX4 yX4_isOpen wsX4_isOpen) := goodIn_app (goodIn_of _ (by decide +kernel)) ggX4_rate_X4_isOpen
theorem dX4_rate_0 : decode cX4_rate 0 = .ok (.aload_n 0, 1) := by decide +kernel
theorem dX4_rate_1 : decode cX4_rate 1 = .ok (.iload_n 1, 1) := by decide +kernel
theorem dX4_rate_2 : decode cX4_rate 2 = .ok (.invokevirtual 69, 3) := by decide +kernel
theorem dX4_rate_5 : decode cX4_rate 5 = .ok (.ifCond .eq 15, 3) := by decide +kernel
theorem dX4_rate_8 : decode cX4_rate 8 = .ok (.iload_n 2, 1) := by decide +kernel
theorem dX4_rate_9 : decode cX4_rate 9 = .ok (.bipush 9, 2) := by decide +kernel
theorem dX4_rate_11 : decode cX4_rate 11 = .ok (.if_icmp .lt 9, 3) := by decide +kernel
theorem dX4_rate_14 : decode cX4_rate 14 = .ok (.iload_n 2, 1) := by decide +kernel
theorem dX4_rate_15 : decode cX4_rate 15 = .ok (.bipush 11, 2) := by decide +kernel
