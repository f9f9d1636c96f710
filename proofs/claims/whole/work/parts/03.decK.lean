theorem dX0_init_0 : decode cX0_init 0 = .ok (.aload_n 0, 1) := by decide +kernel
theorem dX0_init_1 : decode cX0_init 1 = .ok (.invokespecial 3, 3) := by decide +kernel
theorem dX0_init_4 : decode cX0_init 4 = .ok (.aload_n 0, 1) := by decide +kernel
theorem dX0_init_5 : decode cX0_init 5 = .ok (.bipush 6, 2) := by decide +kernel
theorem dX0_init_7 : decode cX0_init 7 = .ok (.newarray .int, 2) := by decide +kernel
theorem dX0_init_9 : decode cX0_init 9 = .ok (.putfield 9, 3) := by decide +kernel
theorem dX0_init_12 : decode cX0_init 12 = .ok (.aload_n 0, 1) := by decide +kernel
theorem dX0_init_13 : decode cX0_init 13 = .ok (.bipush 6, 2) := by decide +kernel
theorem dX0_init_15 : decode cX0_init 15 = .ok (.newarray .int, 2) := by decide +kernel
theorem dX0_init_17 : decode cX0_init 17 = .ok (.putfield 15, 3) := by decide +kernel
theorem dX0_init_20 : decode cX0_init 20 = .ok (.aload_n 0, 1) := by decide +kernel
theorem dX0_init_21 : decode cX0_init 21 = .ok (.bipush 12, 2) := by decide +kernel
theorem dX0_init_23 : decode cX0_init 23 = .ok (.newarray .int, 2) := by decide +kernel
theorem dX0_init_25 : decode cX0_init 25 = .ok (.putfield 18, 3) := by decide +kernel
theorem dX0_init_28 : decode cX0_init 28 = .ok (.aload_n 0, 1) := by decide +kernel
theorem dX0_init_29 : decode cX0_init 29 = .ok (.bipush 12, 2) := by decide +kernel
theorem dX0_init_31 : decode cX0_init 31 = .ok (.newarray .int, 2) := by decide +kernel
theorem dX0_init_33 : decode cX0_init 33 = .ok (.putfield 21, 3) := by decide +kernel
theorem dX0_init_36 : decode cX0_init 36 = .ok (.aload_n 0, 1) := by decide +kernel
theorem dX0_init_37 : decode cX0_init 37 = .ok (.bipush 12, 2) := by decide +kernel
theorem dX0_init_39 : decode cX0_init 39 = .ok (.newarray .int, 2) := by decide +kernel
theorem dX0_init_41 : decode cX0_init 41 = .ok (.putfield 24, 3) := by decide +kernel
theorem dX0_init_44 : decode cX0_init 44 = .ok (.aload_n 0, 1) := by decide +kernel
theorem dX0_init_45 : decode cX0_init 45 = .ok (.bipush 12, 2) := by decide +kernel
theorem dX0_init_47 : decode cX0_init 47 = .ok (.newarray .int, 2) := by decide +kernel
theorem dX0_init_49 : decode cX0_init 49 = .ok (.putfield 27, 3) := by decide +kernel
theorem dX0_init_52 : decode cX0_init 52 = .ok (.aload_n 0, 1) := by decide +kernel
theorem dX0_init_53 : decode cX0_init 53 = .ok (.bipush 12, 2) := by decide +kernel
theorem dX0_init_55 : decode cX0_init 55 = .ok (.newarray .int, 2) := by decide +kernel
theorem dX0_init_57 : decode cX0_init 57 = .ok (.putfield 30, 3) := by decide +kernel
theorem dX0_init_60 : decode cX0_init 60 = .ok (.aload_n 0, 1) := by decide +kernel
theorem dX0_init_61 : decode cX0_init 61 = .ok (.bipush 6, 2) := by decide +kernel
theorem dX0_init_63 : decode cX0_init 63 = .ok (.bipush 6, 2) := by decide +kernel
theorem dX0_init_65 : decode cX0_init 65 = .ok (.multianewarray 33 2, 4) := by decide +kernel
theorem dX0_init_69 : decode cX0_init 69 = .ok (.putfield 35, 3) := by decide +kernel
theorem dX0_init_72 : decode cX0_init 72 = .ok (.return_, 1) := by decide +kernel
theorem dX0_events_0 : decode cX0_events 0 = .ok (.aload_n 0, 1) := by decide +kernel
theorem dX0_events_1 : decode cX0_events 1 = .ok (.getfield 38, 3) := by decide +kernel
theorem dX0_events_4 : decode cX0_events 4 = .ok (.ireturn, 1) := by decide +kernel
theorem dX0_facts_0 : decode cX0_facts 0 = .ok (.aload_n 0, 1) := by decide +kernel
theorem dX0_facts_1 : decode cX0_facts 1 = .ok (.getfield 42, 3) := by decide +kernel
theorem dX0_facts_4 : decode cX0_facts 4 = .ok (.ireturn, 1) := by decide +kernel
theorem dX0_hasEvent_0 : decode cX0_hasEvent 0 = .ok (.iload_n 1, 1) := by decide +kernel
theorem dX0_hasEvent_1 : decode cX0_hasEvent 1 = .ok (.ifCond .lt 15, 3) := by decide +kernel
theorem dX0_hasEvent_4 : decode cX0_hasEvent 4 = .ok (.iload_n 1, 1) := by decide +kernel
theorem dX0_hasEvent_5 : decode cX0_hasEvent 5 = .ok (.aload_n 0, 1) := by decide +kernel
theorem dX0_hasEvent_6 : decode cX0_hasEvent 6 = .ok (.getfield 38, 3) := by decide +kernel
theorem dX0_hasEvent_9 : decode cX0_hasEvent 9 = .ok (.if_icmp .ge 7, 3) := by decide +kernel
theorem dX0_hasEvent_12 : decode cX0_hasEvent 12 = .ok (.iconst 1, 1) := by decide +kernel
theorem dX0_hasEvent_13 : decode cX0_hasEvent 13 = .ok (.goto 4, 3) := by decide +kernel
theorem dX0_hasEvent_16 : decode cX0_hasEvent 16 = .ok (.iconst 0, 1) := by decide +kernel
theorem dX0_hasEvent_17 : decode cX0_hasEvent 17 = .ok (.ireturn, 1) := by decide +kernel
theorem dX0_setClock_0 : decode cX0_setClock 0 = .ok (.iload_n 1, 1) := by decide +kernel
theorem dX0_setClock_1 : decode cX0_setClock 1 = .ok (.invokestatic 45, 3) := by decide +kernel
theorem dX0_setClock_4 : decode cX0_setClock 4 = .ok (.ifCond .eq 17, 3) := by decide +kernel
theorem dX0_setClock_7 : decode cX0_setClock 7 = .ok (.aload_n 0, 1) := by decide +kernel
theorem dX0_setClock_8 : decode cX0_setClock 8 = .ok (.getfield 9, 3) := by decide +kernel
theorem dX0_setClock_11 : decode cX0_setClock 11 = .ok (.iload_n 1, 1) := by decide +kernel
theorem dX0_setClock_12 : decode cX0_setClock 12 = .ok (.iload_n 2, 1) := by decide +kernel
theorem dX0_setClock_13 : decode cX0_setClock 13 = .ok (.iastore, 1) := by decide +kernel
theorem dX0_setClock_14 : decode cX0_setClock 14 = .ok (.aload_n 0, 1) := by decide +kernel
theorem dX0_setClock_15 : decode cX0_setClock 15 = .ok (.getfield 15, 3) := by decide +kernel
theorem dX0_setClock_18 : decode cX0_setClock 18 = .ok (.iload_n 1, 1) := by decide +kernel
theorem dX0_setClock_19 : decode cX0_setClock 19 = .ok (.iload_n 3, 1) := by decide +kernel
theorem dX0_setClock_20 : decode cX0_setClock 20 = .ok (.iastore, 1) := by decide +kernel
theorem dX0_setClock_21 : decode cX0_setClock 21 = .ok (.return_, 1) := by decide +kernel
theorem dX0_addEvent_0 : decode cX0_addEvent 0 = .ok (.aload_n 0, 1) := by decide +kernel
theorem dX0_addEvent_1 : decode cX0_addEvent 1 = .ok (.getfield 38, 3) := by decide +kernel
theorem dX0_addEvent_4 : decode cX0_addEvent 4 = .ok (.bipush 12, 2) := by decide +kernel
theorem dX0_addEvent_6 : decode cX0_addEvent 6 = .ok (.if_icmp .lt 5, 3) := by decide +kernel
theorem dX0_addEvent_9 : decode cX0_addEvent 9 = .ok (.iconst (-1), 1) := by decide +kernel
theorem dX0_addEvent_10 : decode cX0_addEvent 10 = .ok (.ireturn, 1) := by decide +kernel
theorem dX0_addEvent_11 : decode cX0_addEvent 11 = .ok (.aload_n 0, 1) := by decide +kernel
theorem dX0_addEvent_12 : decode cX0_addEvent 12 = .ok (.getfield 18, 3) := by decide +kernel
theorem dX0_addEvent_15 : decode cX0_addEvent 15 = .ok (.aload_n 0, 1) := by decide +kernel
theorem dX0_addEvent_16 : decode cX0_addEvent 16 = .ok (.getfield 38, 3) := by decide +kernel
theorem dX0_addEvent_19 : decode cX0_addEvent 19 = .ok (.iload_n 1, 1) := by decide +kernel
theorem dX0_addEvent_20 : decode cX0_addEvent 20 = .ok (.iastore, 1) := by decide +kernel
theorem dX0_addEvent_21 : decode cX0_addEvent 21 = .ok (.aload_n 0, 1) := by decide +kernel
theorem dX0_addEvent_22 : decode cX0_addEvent 22 = .ok (.getfield 21, 3) := by decide +kernel
theorem dX0_addEvent_25 : decode cX0_addEvent 25 = .ok (.aload_n 0, 1) := by decide +kernel
theorem dX0_addEvent_26 : decode cX0_addEvent 26 = .ok (.getfield 38, 3) := by decide +kernel
theorem dX0_addEvent_29 : decode cX0_addEvent 29 = .ok (.iload_n 2, 1) := by decide +kernel
theorem dX0_addEvent_30 : decode cX0_addEvent 30 = .ok (.iastore, 1) := by decide +kernel
theorem dX0_addEvent_31 : decode cX0_addEvent 31 = .ok (.aload_n 0, 1) := by decide +kernel
theorem dX0_addEvent_32 : decode cX0_addEvent 32 = .ok (.dup, 1) := by decide +kernel
theorem dX0_addEvent_33 : decode cX0_addEvent 33 = .ok (.getfield 38, 3) := by decide +kernel
theorem dX0_addEvent_36 : decode cX0_addEvent 36 = .ok (.iconst 1, 1) := by decide +kernel
theorem dX0_addEvent_37 : decode cX0_addEvent 37 = .ok (.iadd, 1) := by decide +kernel
theorem dX0_addEvent_38 : decode cX0_addEvent 38 = .ok (.putfield 38, 3) := by decide +kernel
theorem dX0_addEvent_41 : decode cX0_addEvent 41 = .ok (.aload_n 0, 1) := by decide +kernel
theorem dX0_addEvent_42 : decode cX0_addEvent 42 = .ok (.getfield 38, 3) := by decide +kernel
theorem dX0_addEvent_45 : decode cX0_addEvent 45 = .ok (.iconst 1, 1) := by decide +kernel
theorem dX0_addEvent_46 : decode cX0_addEvent 46 = .ok (.isub, 1) := by decide +kernel
theorem dX0_addEvent_47 : decode cX0_addEvent 47 = .ok (.ireturn, 1) := by decide +kernel
theorem dX0_addFact_0 : decode cX0_addFact 0 = .ok (.aload_n 0, 1) := by decide +kernel
theorem dX0_addFact_1 : decode cX0_addFact 1 = .ok (.getfield 42, 3) := by decide +kernel
theorem dX0_addFact_4 : decode cX0_addFact 4 = .ok (.bipush 12, 2) := by decide +kernel
theorem dX0_addFact_6 : decode cX0_addFact 6 = .ok (.if_icmp .lt 5, 3) := by decide +kernel
theorem dX0_addFact_9 : decode cX0_addFact 9 = .ok (.iconst (-1), 1) := by decide +kernel
theorem dX0_addFact_10 : decode cX0_addFact 10 = .ok (.ireturn, 1) := by decide +kernel
theorem dX0_addFact_11 : decode cX0_addFact 11 = .ok (.aload_n 0, 1) := by decide +kernel
theorem dX0_addFact_12 : decode cX0_addFact 12 = .ok (.getfield 24, 3) := by decide +kernel
theorem dX0_addFact_15 : decode cX0_addFact 15 = .ok (.aload_n 0, 1) := by decide +kernel
theorem dX0_addFact_16 : decode cX0_addFact 16 = .ok (.getfield 42, 3) := by decide +kernel
theorem dX0_addFact_19 : decode cX0_addFact 19 = .ok (.iload_n 1, 1) := by decide +kernel
theorem dX0_addFact_20 : decode cX0_addFact 20 = .ok (.iastore, 1) := by decide +kernel
theorem dX0_addFact_21 : decode cX0_addFact 21 = .ok (.aload_n 0, 1) := by decide +kernel
theorem dX0_addFact_22 : decode cX0_addFact 22 = .ok (.getfield 27, 3) := by decide +kernel
theorem dX0_addFact_25 : decode cX0_addFact 25 = .ok (.aload_n 0, 1) := by decide +kernel
theorem dX0_addFact_26 : decode cX0_addFact 26 = .ok (.getfield 42, 3) := by decide +kernel
theorem dX0_addFact_29 : decode cX0_addFact 29 = .ok (.iload_n 2, 1) := by decide +kernel
theorem dX0_addFact_30 : decode cX0_addFact 30 = .ok (.iastore, 1) := by decide +kernel
theorem dX0_addFact_31 : decode cX0_addFact 31 = .ok (.aload_n 0, 1) := by decide +kernel
theorem dX0_addFact_32 : decode cX0_addFact 32 = .ok (.getfield 30, 3) := by decide +kernel
theorem dX0_addFact_35 : decode cX0_addFact 35 = .ok (.aload_n 0, 1) := by decide +kernel
theorem dX0_addFact_36 : decode cX0_addFact 36 = .ok (.getfield 42, 3) := by decide +kernel
theorem dX0_addFact_39 : decode cX0_addFact 39 = .ok (.iload_n 3, 1) := by decide +kernel
theorem dX0_addFact_40 : decode cX0_addFact 40 = .ok (.iastore, 1) := by decide +kernel
theorem dX0_addFact_41 : decode cX0_addFact 41 = .ok (.aload_n 0, 1) := by decide +kernel
theorem dX0_addFact_42 : decode cX0_addFact 42 = .ok (.dup, 1) := by decide +kernel
theorem dX0_addFact_43 : decode cX0_addFact 43 = .ok (.getfield 42, 3) := by decide +kernel
theorem dX0_addFact_46 : decode cX0_addFact 46 = .ok (.iconst 1, 1) := by decide +kernel
theorem dX0_addFact_47 : decode cX0_addFact 47 = .ok (.iadd, 1) := by decide +kernel
theorem dX0_addFact_48 : decode cX0_addFact 48 = .ok (.putfield 42, 3) := by decide +kernel
theorem dX0_addFact_51 : decode cX0_addFact 51 = .ok (.aload_n 0, 1) := by decide +kernel
theorem dX0_addFact_52 : decode cX0_addFact 52 = .ok (.getfield 42, 3) := by decide +kernel
theorem dX0_addFact_55 : decode cX0_addFact 55 = .ok (.ireturn, 1) := by decide +kernel
theorem dX0_dropFact_0 : decode cX0_dropFact 0 = .ok (.aload_n 0, 1) := by decide +kernel
theorem dX0_dropFact_1 : decode cX0_dropFact 1 = .ok (.getfield 42, 3) := by decide +kernel
theorem dX0_dropFact_4 : decode cX0_dropFact 4 = .ok (.ifCond .ne 5, 3) := by decide +kernel
theorem dX0_dropFact_7 : decode cX0_dropFact 7 = .ok (.iconst (-1), 1) := by decide +kernel
theorem dX0_dropFact_8 : decode cX0_dropFact 8 = .ok (.ireturn, 1) := by decide +kernel
theorem dX0_dropFact_9 : decode cX0_dropFact 9 = .ok (.aload_n 0, 1) := by decide +kernel
theorem dX0_dropFact_10 : decode cX0_dropFact 10 = .ok (.dup, 1) := by decide +kernel
theorem dX0_dropFact_11 : decode cX0_dropFact 11 = .ok (.getfield 42, 3) := by decide +kernel
theorem dX0_dropFact_14 : decode cX0_dropFact 14 = .ok (.iconst 1, 1) := by decide +kernel
theorem dX0_dropFact_15 : decode cX0_dropFact 15 = .ok (.isub, 1) := by decide +kernel
theorem dX0_dropFact_16 : decode cX0_dropFact 16 = .ok (.putfield 42, 3) := by decide +kernel
theorem dX0_dropFact_19 : decode cX0_dropFact 19 = .ok (.aload_n 0, 1) := by decide +kernel
theorem dX0_dropFact_20 : decode cX0_dropFact 20 = .ok (.getfield 42, 3) := by decide +kernel
theorem dX0_dropFact_23 : decode cX0_dropFact 23 = .ok (.ireturn, 1) := by decide +kernel
theorem dX0_canBe_0 : decode cX0_canBe 0 = .ok (.aload_n 0, 1) := by decide +kernel
theorem dX0_canBe_1 : decode cX0_canBe 1 = .ok (.invokevirtual 49, 3) := by decide +kernel
theorem dX0_canBe_4 : decode cX0_canBe 4 = .ok (.aload_n 0, 1) := by decide +kernel
theorem dX0_canBe_5 : decode cX0_canBe 5 = .ok (.invokevirtual 52, 3) := by decide +kernel
theorem dX0_canBe_8 : decode cX0_canBe 8 = .ok (.iconst 0, 1) := by decide +kernel
theorem dX0_canBe_9 : decode cX0_canBe 9 = .ok (.istore_n 1, 1) := by decide +kernel
theorem dX0_canBe_10 : decode cX0_canBe 10 = .ok (.iload_n 1, 1) := by decide +kernel
theorem dX0_canBe_11 : decode cX0_canBe 11 = .ok (.bipush 6, 2) := by decide +kernel
theorem dX0_canBe_13 : decode cX0_canBe 13 = .ok (.if_icmp .ge 23, 3) := by decide +kernel
theorem dX0_canBe_16 : decode cX0_canBe 16 = .ok (.aload_n 0, 1) := by decide +kernel
theorem dX0_canBe_17 : decode cX0_canBe 17 = .ok (.iload_n 1, 1) := by decide +kernel
theorem dX0_canBe_18 : decode cX0_canBe 18 = .ok (.invokevirtual 55, 3) := by decide +kernel
theorem dX0_canBe_21 : decode cX0_canBe 21 = .ok (.aload_n 0, 1) := by decide +kernel
theorem dX0_canBe_22 : decode cX0_canBe 22 = .ok (.invokevirtual 59, 3) := by decide +kernel
theorem dX0_canBe_25 : decode cX0_canBe 25 = .ok (.ifCond .eq 5, 3) := by decide +kernel
theorem dX0_canBe_28 : decode cX0_canBe 28 = .ok (.iconst 0, 1) := by decide +kernel
theorem dX0_canBe_29 : decode cX0_canBe 29 = .ok (.ireturn, 1) := by decide +kernel
theorem dX0_canBe_30 : decode cX0_canBe 30 = .ok (.iinc 1 1, 3) := by decide +kernel
theorem dX0_canBe_33 : decode cX0_canBe 33 = .ok (.goto (-23), 3) := by decide +kernel
theorem dX0_canBe_36 : decode cX0_canBe 36 = .ok (.iconst 1, 1) := by decide +kernel
theorem dX0_canBe_37 : decode cX0_canBe 37 = .ok (.ireturn, 1) := by decide +kernel
theorem dX0_boundByClocks_0 : decode cX0_boundByClocks 0 = .ok (.iconst 0, 1) := by decide +kernel
theorem dX0_boundByClocks_1 : decode cX0_boundByClocks 1 = .ok (.istore_n 1, 1) := by decide +kernel
theorem dX0_boundByClocks_2 : decode cX0_boundByClocks 2 = .ok (.iload_n 1, 1) := by decide +kernel
theorem dX0_boundByClocks_3 : decode cX0_boundByClocks 3 = .ok (.bipush 6, 2) := by decide +kernel
theorem dX0_boundByClocks_5 : decode cX0_boundByClocks 5 = .ok (.if_icmp .ge 53, 3) := by decide +kernel
theorem dX0_boundByClocks_8 : decode cX0_boundByClocks 8 = .ok (.iconst 0, 1) := by decide +kernel
theorem dX0_boundByClocks_9 : decode cX0_boundByClocks 9 = .ok (.istore_n 2, 1) := by decide +kernel
theorem dX0_boundByClocks_10 : decode cX0_boundByClocks 10 = .ok (.iload_n 2, 1) := by decide +kernel
theorem dX0_boundByClocks_11 : decode cX0_boundByClocks 11 = .ok (.bipush 6, 2) := by decide +kernel
theorem dX0_boundByClocks_13 : decode cX0_boundByClocks 13 = .ok (.if_icmp .ge 39, 3) := by decide +kernel
theorem dX0_boundByClocks_16 : decode cX0_boundByClocks 16 = .ok (.aload_n 0, 1) := by decide +kernel
theorem dX0_boundByClocks_17 : decode cX0_boundByClocks 17 = .ok (.getfield 35, 3) := by decide +kernel
theorem dX0_boundByClocks_20 : decode cX0_boundByClocks 20 = .ok (.iload_n 1, 1) := by decide +kernel
theorem dX0_boundByClocks_21 : decode cX0_boundByClocks 21 = .ok (.aaload, 1) := by decide +kernel
theorem dX0_boundByClocks_22 : decode cX0_boundByClocks 22 = .ok (.iload_n 2, 1) := by decide +kernel
theorem dX0_boundByClocks_23 : decode cX0_boundByClocks 23 = .ok (.iload_n 1, 1) := by decide +kernel
theorem dX0_boundByClocks_24 : decode cX0_boundByClocks 24 = .ok (.iload_n 2, 1) := by decide +kernel
theorem dX0_boundByClocks_25 : decode cX0_boundByClocks 25 = .ok (.if_icmp .ne 7, 3) := by decide +kernel
theorem dX0_boundByClocks_28 : decode cX0_boundByClocks 28 = .ok (.iconst 0, 1) := by decide +kernel
theorem dX0_boundByClocks_29 : decode cX0_boundByClocks 29 = .ok (.goto 16, 3) := by decide +kernel
theorem dX0_boundByClocks_32 : decode cX0_boundByClocks 32 = .ok (.aload_n 0, 1) := by decide +kernel
theorem dX0_boundByClocks_33 : decode cX0_boundByClocks 33 = .ok (.getfield 15, 3) := by decide +kernel
theorem dX0_boundByClocks_36 : decode cX0_boundByClocks 36 = .ok (.iload_n 2, 1) := by decide +kernel
theorem dX0_boundByClocks_37 : decode cX0_boundByClocks 37 = .ok (.iaload, 1) := by decide +kernel
theorem dX0_boundByClocks_38 : decode cX0_boundByClocks 38 = .ok (.aload_n 0, 1) := by decide +kernel
theorem dX0_boundByClocks_39 : decode cX0_boundByClocks 39 = .ok (.getfield 9, 3) := by decide +kernel
theorem dX0_boundByClocks_42 : decode cX0_boundByClocks 42 = .ok (.iload_n 1, 1) := by decide +kernel
theorem dX0_boundByClocks_43 : decode cX0_boundByClocks 43 = .ok (.iaload, 1) := by decide +kernel
theorem dX0_boundByClocks_44 : decode cX0_boundByClocks 44 = .ok (.isub, 1) := by decide +kernel
theorem dX0_boundByClocks_45 : decode cX0_boundByClocks 45 = .ok (.iastore, 1) := by decide +kernel
theorem dX0_boundByClocks_46 : decode cX0_boundByClocks 46 = .ok (.iinc 2 1, 3) := by decide +kernel
theorem dX0_boundByClocks_49 : decode cX0_boundByClocks 49 = .ok (.goto (-39), 3) := by decide +kernel
theorem dX0_boundByClocks_52 : decode cX0_boundByClocks 52 = .ok (.iinc 1 1, 3) := by decide +kernel
theorem dX0_boundByClocks_55 : decode cX0_boundByClocks 55 = .ok (.goto (-53), 3) := by decide +kernel
theorem dX0_boundByClocks_58 : decode cX0_boundByClocks 58 = .ok (.return_, 1) := by decide +kernel
theorem dX0_boundByFacts_0 : decode cX0_boundByFacts 0 = .ok (.iconst 0, 1) := by decide +kernel
theorem dX0_boundByFacts_1 : decode cX0_boundByFacts 1 = .ok (.istore_n 1, 1) := by decide +kernel
theorem dX0_boundByFacts_2 : decode cX0_boundByFacts 2 = .ok (.iload_n 1, 1) := by decide +kernel
theorem dX0_boundByFacts_3 : decode cX0_boundByFacts 3 = .ok (.aload_n 0, 1) := by decide +kernel
theorem dX0_boundByFacts_4 : decode cX0_boundByFacts 4 = .ok (.getfield 42, 3) := by decide +kernel
theorem dX0_boundByFacts_7 : decode cX0_boundByFacts 7 = .ok (.if_icmp .ge 86, 3) := by decide +kernel
theorem dX0_boundByFacts_10 : decode cX0_boundByFacts 10 = .ok (.aload_n 0, 1) := by decide +kernel
theorem dX0_boundByFacts_11 : decode cX0_boundByFacts 11 = .ok (.getfield 24, 3) := by decide +kernel
theorem dX0_boundByFacts_14 : decode cX0_boundByFacts 14 = .ok (.iload_n 1, 1) := by decide +kernel
theorem dX0_boundByFacts_15 : decode cX0_boundByFacts 15 = .ok (.iaload, 1) := by decide +kernel
theorem dX0_boundByFacts_16 : decode cX0_boundByFacts 16 = .ok (.istore_n 2, 1) := by decide +kernel
theorem dX0_boundByFacts_17 : decode cX0_boundByFacts 17 = .ok (.aload_n 0, 1) := by decide +kernel
theorem dX0_boundByFacts_18 : decode cX0_boundByFacts 18 = .ok (.getfield 27, 3) := by decide +kernel
theorem dX0_boundByFacts_21 : decode cX0_boundByFacts 21 = .ok (.iload_n 1, 1) := by decide +kernel
theorem dX0_boundByFacts_22 : decode cX0_boundByFacts 22 = .ok (.iaload, 1) := by decide +kernel
theorem dX0_boundByFacts_23 : decode cX0_boundByFacts 23 = .ok (.istore_n 3, 1) := by decide +kernel
theorem dX0_boundByFacts_24 : decode cX0_boundByFacts 24 = .ok (.aload_n 0, 1) := by decide +kernel
theorem dX0_boundByFacts_25 : decode cX0_boundByFacts 25 = .ok (.getfield 21, 3) := by decide +kernel
theorem dX0_boundByFacts_28 : decode cX0_boundByFacts 28 = .ok (.iload_n 2, 1) := by decide +kernel
theorem dX0_boundByFacts_29 : decode cX0_boundByFacts 29 = .ok (.iaload, 1) := by decide +kernel
theorem dX0_boundByFacts_30 : decode cX0_boundByFacts 30 = .ok (.aload_n 0, 1) := by decide +kernel
theorem dX0_boundByFacts_31 : decode cX0_boundByFacts 31 = .ok (.getfield 21, 3) := by decide +kernel
theorem dX0_boundByFacts_34 : decode cX0_boundByFacts 34 = .ok (.iload_n 3, 1) := by decide +kernel
theorem dX0_boundByFacts_35 : decode cX0_boundByFacts 35 = .ok (.iaload, 1) := by decide +kernel
theorem dX0_boundByFacts_36 : decode cX0_boundByFacts 36 = .ok (.isub, 1) := by decide +kernel
theorem dX0_boundByFacts_37 : decode cX0_boundByFacts 37 = .ok (.aload_n 0, 1) := by decide +kernel
theorem dX0_boundByFacts_38 : decode cX0_boundByFacts 38 = .ok (.getfield 30, 3) := by decide +kernel
theorem dX0_boundByFacts_41 : decode cX0_boundByFacts 41 = .ok (.iload_n 1, 1) := by decide +kernel
theorem dX0_boundByFacts_42 : decode cX0_boundByFacts 42 = .ok (.iaload, 1) := by decide +kernel
theorem dX0_boundByFacts_43 : decode cX0_boundByFacts 43 = .ok (.isub, 1) := by decide +kernel
theorem dX0_boundByFacts_44 : decode cX0_boundByFacts 44 = .ok (.istore 4, 2) := by decide +kernel
theorem dX0_boundByFacts_46 : decode cX0_boundByFacts 46 = .ok (.aload_n 0, 1) := by decide +kernel
theorem dX0_boundByFacts_47 : decode cX0_boundByFacts 47 = .ok (.getfield 18, 3) := by decide +kernel
theorem dX0_boundByFacts_50 : decode cX0_boundByFacts 50 = .ok (.iload_n 3, 1) := by decide +kernel
theorem dX0_boundByFacts_51 : decode cX0_boundByFacts 51 = .ok (.iaload, 1) := by decide +kernel
theorem dX0_boundByFacts_52 : decode cX0_boundByFacts 52 = .ok (.istore 5, 2) := by decide +kernel
theorem dX0_boundByFacts_54 : decode cX0_boundByFacts 54 = .ok (.aload_n 0, 1) := by decide +kernel
theorem dX0_boundByFacts_55 : decode cX0_boundByFacts 55 = .ok (.getfield 18, 3) := by decide +kernel
theorem dX0_boundByFacts_58 : decode cX0_boundByFacts 58 = .ok (.iload_n 2, 1) := by decide +kernel
theorem dX0_boundByFacts_59 : decode cX0_boundByFacts 59 = .ok (.iaload, 1) := by decide +kernel
theorem dX0_boundByFacts_60 : decode cX0_boundByFacts 60 = .ok (.istore 6, 2) := by decide +kernel
theorem dX0_boundByFacts_62 : decode cX0_boundByFacts 62 = .ok (.aload_n 0, 1) := by decide +kernel
theorem dX0_boundByFacts_63 : decode cX0_boundByFacts 63 = .ok (.getfield 35, 3) := by decide +kernel
theorem dX0_boundByFacts_66 : decode cX0_boundByFacts 66 = .ok (.iload 5, 2) := by decide +kernel
theorem dX0_boundByFacts_68 : decode cX0_boundByFacts 68 = .ok (.aaload, 1) := by decide +kernel
theorem dX0_boundByFacts_69 : decode cX0_boundByFacts 69 = .ok (.iload 6, 2) := by decide +kernel
theorem dX0_boundByFacts_71 : decode cX0_boundByFacts 71 = .ok (.aload_n 0, 1) := by decide +kernel
theorem dX0_boundByFacts_72 : decode cX0_boundByFacts 72 = .ok (.getfield 35, 3) := by decide +kernel
theorem dX0_boundByFacts_75 : decode cX0_boundByFacts 75 = .ok (.iload 5, 2) := by decide +kernel
theorem dX0_boundByFacts_77 : decode cX0_boundByFacts 77 = .ok (.aaload, 1) := by decide +kernel
theorem dX0_boundByFacts_78 : decode cX0_boundByFacts 78 = .ok (.iload 6, 2) := by decide +kernel
theorem dX0_boundByFacts_80 : decode cX0_boundByFacts 80 = .ok (.iaload, 1) := by decide +kernel
theorem dX0_boundByFacts_81 : decode cX0_boundByFacts 81 = .ok (.iload 4, 2) := by decide +kernel
theorem dX0_boundByFacts_83 : decode cX0_boundByFacts 83 = .ok (.invokestatic 63, 3) := by decide +kernel
theorem dX0_boundByFacts_86 : decode cX0_boundByFacts 86 = .ok (.iastore, 1) := by decide +kernel
theorem dX0_boundByFacts_87 : decode cX0_boundByFacts 87 = .ok (.iinc 1 1, 3) := by decide +kernel
theorem dX0_boundByFacts_90 : decode cX0_boundByFacts 90 = .ok (.goto (-88), 3) := by decide +kernel
theorem dX0_boundByFacts_93 : decode cX0_boundByFacts 93 = .ok (.return_, 1) := by decide +kernel
theorem dX0_tightenThrough_0 : decode cX0_tightenThrough 0 = .ok (.iconst 0, 1) := by decide +kernel
theorem dX0_tightenThrough_1 : decode cX0_tightenThrough 1 = .ok (.istore_n 2, 1) := by decide +kernel
theorem dX0_tightenThrough_2 : decode cX0_tightenThrough 2 = .ok (.iload_n 2, 1) := by decide +kernel
theorem dX0_tightenThrough_3 : decode cX0_tightenThrough 3 = .ok (.bipush 6, 2) := by decide +kernel
theorem dX0_tightenThrough_5 : decode cX0_tightenThrough 5 = .ok (.if_icmp .ge 63, 3) := by decide +kernel
theorem dX0_tightenThrough_8 : decode cX0_tightenThrough 8 = .ok (.iconst 0, 1) := by decide +kernel
theorem dX0_tightenThrough_9 : decode cX0_tightenThrough 9 = .ok (.istore_n 3, 1) := by decide +kernel
theorem dX0_tightenThrough_10 : decode cX0_tightenThrough 10 = .ok (.iload_n 3, 1) := by decide +kernel
theorem dX0_tightenThrough_11 : decode cX0_tightenThrough 11 = .ok (.bipush 6, 2) := by decide +kernel
theorem dX0_tightenThrough_13 : decode cX0_tightenThrough 13 = .ok (.if_icmp .ge 49, 3) := by decide +kernel
theorem dX0_tightenThrough_16 : decode cX0_tightenThrough 16 = .ok (.aload_n 0, 1) := by decide +kernel
theorem dX0_tightenThrough_17 : decode cX0_tightenThrough 17 = .ok (.getfield 35, 3) := by decide +kernel
theorem dX0_tightenThrough_20 : decode cX0_tightenThrough 20 = .ok (.iload_n 2, 1) := by decide +kernel
theorem dX0_tightenThrough_21 : decode cX0_tightenThrough 21 = .ok (.aaload, 1) := by decide +kernel
theorem dX0_tightenThrough_22 : decode cX0_tightenThrough 22 = .ok (.iload_n 1, 1) := by decide +kernel
theorem dX0_tightenThrough_23 : decode cX0_tightenThrough 23 = .ok (.iaload, 1) := by decide +kernel
theorem dX0_tightenThrough_24 : decode cX0_tightenThrough 24 = .ok (.aload_n 0, 1) := by decide +kernel
theorem dX0_tightenThrough_25 : decode cX0_tightenThrough 25 = .ok (.getfield 35, 3) := by decide +kernel
theorem dX0_tightenThrough_28 : decode cX0_tightenThrough 28 = .ok (.iload_n 1, 1) := by decide +kernel
theorem dX0_tightenThrough_29 : decode cX0_tightenThrough 29 = .ok (.aaload, 1) := by decide +kernel
theorem dX0_tightenThrough_30 : decode cX0_tightenThrough 30 = .ok (.iload_n 3, 1) := by decide +kernel
theorem dX0_tightenThrough_31 : decode cX0_tightenThrough 31 = .ok (.iaload, 1) := by decide +kernel
theorem dX0_tightenThrough_32 : decode cX0_tightenThrough 32 = .ok (.iadd, 1) := by decide +kernel
theorem dX0_tightenThrough_33 : decode cX0_tightenThrough 33 = .ok (.istore 4, 2) := by decide +kernel
theorem dX0_tightenThrough_35 : decode cX0_tightenThrough 35 = .ok (.aload_n 0, 1) := by decide +kernel
theorem dX0_tightenThrough_36 : decode cX0_tightenThrough 36 = .ok (.getfield 35, 3) := by decide +kernel
theorem dX0_tightenThrough_39 : decode cX0_tightenThrough 39 = .ok (.iload_n 2, 1) := by decide +kernel
theorem dX0_tightenThrough_40 : decode cX0_tightenThrough 40 = .ok (.aaload, 1) := by decide +kernel
theorem dX0_tightenThrough_41 : decode cX0_tightenThrough 41 = .ok (.iload_n 3, 1) := by decide +kernel
theorem dX0_tightenThrough_42 : decode cX0_tightenThrough 42 = .ok (.aload_n 0, 1) := by decide +kernel
theorem dX0_tightenThrough_43 : decode cX0_tightenThrough 43 = .ok (.getfield 35, 3) := by decide +kernel
theorem dX0_tightenThrough_46 : decode cX0_tightenThrough 46 = .ok (.iload_n 2, 1) := by decide +kernel
theorem dX0_tightenThrough_47 : decode cX0_tightenThrough 47 = .ok (.aaload, 1) := by decide +kernel
theorem dX0_tightenThrough_48 : decode cX0_tightenThrough 48 = .ok (.iload_n 3, 1) := by decide +kernel
theorem dX0_tightenThrough_49 : decode cX0_tightenThrough 49 = .ok (.iaload, 1) := by decide +kernel
theorem dX0_tightenThrough_50 : decode cX0_tightenThrough 50 = .ok (.iload 4, 2) := by decide +kernel
theorem dX0_tightenThrough_52 : decode cX0_tightenThrough 52 = .ok (.invokestatic 63, 3) := by decide +kernel
theorem dX0_tightenThrough_55 : decode cX0_tightenThrough 55 = .ok (.iastore, 1) := by decide +kernel
theorem dX0_tightenThrough_56 : decode cX0_tightenThrough 56 = .ok (.iinc 3 1, 3) := by decide +kernel
theorem dX0_tightenThrough_59 : decode cX0_tightenThrough 59 = .ok (.goto (-49), 3) := by decide +kernel
theorem dX0_tightenThrough_62 : decode cX0_tightenThrough 62 = .ok (.iinc 2 1, 3) := by decide +kernel
theorem dX0_tightenThrough_65 : decode cX0_tightenThrough 65 = .ok (.goto (-63), 3) := by decide +kernel
theorem dX0_tightenThrough_68 : decode cX0_tightenThrough 68 = .ok (.return_, 1) := by decide +kernel
theorem dX0_contradicts_0 : decode cX0_contradicts 0 = .ok (.iconst 0, 1) := by decide +kernel
theorem dX0_contradicts_1 : decode cX0_contradicts 1 = .ok (.istore_n 1, 1) := by decide +kernel
theorem dX0_contradicts_2 : decode cX0_contradicts 2 = .ok (.iload_n 1, 1) := by decide +kernel
theorem dX0_contradicts_3 : decode cX0_contradicts 3 = .ok (.bipush 6, 2) := by decide +kernel
theorem dX0_contradicts_5 : decode cX0_contradicts 5 = .ok (.if_icmp .ge 22, 3) := by decide +kernel
theorem dX0_contradicts_8 : decode cX0_contradicts 8 = .ok (.aload_n 0, 1) := by decide +kernel
theorem dX0_contradicts_9 : decode cX0_contradicts 9 = .ok (.getfield 35, 3) := by decide +kernel
theorem dX0_contradicts_12 : decode cX0_contradicts 12 = .ok (.iload_n 1, 1) := by decide +kernel
theorem dX0_contradicts_13 : decode cX0_contradicts 13 = .ok (.aaload, 1) := by decide +kernel
theorem dX0_contradicts_14 : decode cX0_contradicts 14 = .ok (.iload_n 1, 1) := by decide +kernel
theorem dX0_contradicts_15 : decode cX0_contradicts 15 = .ok (.iaload, 1) := by decide +kernel
theorem dX0_contradicts_16 : decode cX0_contradicts 16 = .ok (.ifCond .ge 5, 3) := by decide +kernel
theorem dX0_contradicts_19 : decode cX0_contradicts 19 = .ok (.iconst 1, 1) := by decide +kernel
theorem dX0_contradicts_20 : decode cX0_contradicts 20 = .ok (.ireturn, 1) := by decide +kernel
theorem dX0_contradicts_21 : decode cX0_contradicts 21 = .ok (.iinc 1 1, 3) := by decide +kernel
theorem dX0_contradicts_24 : decode cX0_contradicts 24 = .ok (.goto (-22), 3) := by decide +kernel
theorem dX0_contradicts_27 : decode cX0_contradicts 27 = .ok (.iconst 0, 1) := by decide +kernel
theorem dX0_contradicts_28 : decode cX0_contradicts 28 = .ok (.ireturn, 1) := by decide +kernel
theorem dX0_leastBehind_0 : decode cX0_leastBehind 0 = .ok (.aload_n 0, 1) := by decide +kernel
theorem dX0_leastBehind_1 : decode cX0_leastBehind 1 = .ok (.iload_n 1, 1) := by decide +kernel
theorem dX0_leastBehind_2 : decode cX0_leastBehind 2 = .ok (.invokevirtual 69, 3) := by decide +kernel
theorem dX0_leastBehind_5 : decode cX0_leastBehind 5 = .ok (.ifCond .eq 11, 3) := by decide +kernel
theorem dX0_leastBehind_8 : decode cX0_leastBehind 8 = .ok (.aload_n 0, 1) := by decide +kernel
theorem dX0_leastBehind_9 : decode cX0_leastBehind 9 = .ok (.iload_n 2, 1) := by decide +kernel
theorem dX0_leastBehind_10 : decode cX0_leastBehind 10 = .ok (.invokevirtual 69, 3) := by decide +kernel
theorem dX0_leastBehind_13 : decode cX0_leastBehind 13 = .ok (.ifCond .ne 6, 3) := by decide +kernel
theorem dX0_leastBehind_16 : decode cX0_leastBehind 16 = .ok (.ldc 72, 2) := by decide +kernel
theorem dX0_leastBehind_18 : decode cX0_leastBehind 18 = .ok (.ireturn, 1) := by decide +kernel
theorem dX0_leastBehind_19 : decode cX0_leastBehind 19 = .ok (.aload_n 0, 1) := by decide +kernel
theorem dX0_leastBehind_20 : decode cX0_leastBehind 20 = .ok (.getfield 21, 3) := by decide +kernel
theorem dX0_leastBehind_23 : decode cX0_leastBehind 23 = .ok (.iload_n 2, 1) := by decide +kernel
theorem dX0_leastBehind_24 : decode cX0_leastBehind 24 = .ok (.iaload, 1) := by decide +kernel
theorem dX0_leastBehind_25 : decode cX0_leastBehind 25 = .ok (.aload_n 0, 1) := by decide +kernel
theorem dX0_leastBehind_26 : decode cX0_leastBehind 26 = .ok (.getfield 21, 3) := by decide +kernel
theorem dX0_leastBehind_29 : decode cX0_leastBehind 29 = .ok (.iload_n 1, 1) := by decide +kernel
theorem dX0_leastBehind_30 : decode cX0_leastBehind 30 = .ok (.iaload, 1) := by decide +kernel
theorem dX0_leastBehind_31 : decode cX0_leastBehind 31 = .ok (.isub, 1) := by decide +kernel
theorem dX0_leastBehind_32 : decode cX0_leastBehind 32 = .ok (.aload_n 0, 1) := by decide +kernel
theorem dX0_leastBehind_33 : decode cX0_leastBehind 33 = .ok (.getfield 35, 3) := by decide +kernel
theorem dX0_leastBehind_36 : decode cX0_leastBehind 36 = .ok (.aload_n 0, 1) := by decide +kernel
theorem dX0_leastBehind_37 : decode cX0_leastBehind 37 = .ok (.getfield 18, 3) := by decide +kernel
theorem dX0_leastBehind_40 : decode cX0_leastBehind 40 = .ok (.iload_n 1, 1) := by decide +kernel
theorem dX0_leastBehind_41 : decode cX0_leastBehind 41 = .ok (.iaload, 1) := by decide +kernel
theorem dX0_leastBehind_42 : decode cX0_leastBehind 42 = .ok (.aaload, 1) := by decide +kernel
theorem dX0_leastBehind_43 : decode cX0_leastBehind 43 = .ok (.aload_n 0, 1) := by decide +kernel
theorem dX0_leastBehind_44 : decode cX0_leastBehind 44 = .ok (.getfield 18, 3) := by decide +kernel
theorem dX0_leastBehind_47 : decode cX0_leastBehind 47 = .ok (.iload_n 2, 1) := by decide +kernel
theorem dX0_leastBehind_48 : decode cX0_leastBehind 48 = .ok (.iaload, 1) := by decide +kernel
theorem dX0_leastBehind_49 : decode cX0_leastBehind 49 = .ok (.iaload, 1) := by decide +kernel
theorem dX0_leastBehind_50 : decode cX0_leastBehind 50 = .ok (.isub, 1) := by decide +kernel
theorem dX0_leastBehind_51 : decode cX0_leastBehind 51 = .ok (.ireturn, 1) := by decide +kernel
theorem dX0_greatestBehind_0 : decode cX0_greatestBehind 0 = .ok (.aload_n 0, 1) := by decide +kernel
theorem dX0_greatestBehind_1 : decode cX0_greatestBehind 1 = .ok (.iload_n 1, 1) := by decide +kernel
theorem dX0_greatestBehind_2 : decode cX0_greatestBehind 2 = .ok (.invokevirtual 69, 3) := by decide +kernel
theorem dX0_greatestBehind_5 : decode cX0_greatestBehind 5 = .ok (.ifCond .eq 11, 3) := by decide +kernel
theorem dX0_greatestBehind_8 : decode cX0_greatestBehind 8 = .ok (.aload_n 0, 1) := by decide +kernel
theorem dX0_greatestBehind_9 : decode cX0_greatestBehind 9 = .ok (.iload_n 2, 1) := by decide +kernel
theorem dX0_greatestBehind_10 : decode cX0_greatestBehind 10 = .ok (.invokevirtual 69, 3) := by decide +kernel
theorem dX0_greatestBehind_13 : decode cX0_greatestBehind 13 = .ok (.ifCond .ne 6, 3) := by decide +kernel
theorem dX0_greatestBehind_16 : decode cX0_greatestBehind 16 = .ok (.ldc 72, 2) := by decide +kernel
theorem dX0_greatestBehind_18 : decode cX0_greatestBehind 18 = .ok (.ireturn, 1) := by decide +kernel
theorem dX0_greatestBehind_19 : decode cX0_greatestBehind 19 = .ok (.aload_n 0, 1) := by decide +kernel
theorem dX0_greatestBehind_20 : decode cX0_greatestBehind 20 = .ok (.getfield 21, 3) := by decide +kernel
theorem dX0_greatestBehind_23 : decode cX0_greatestBehind 23 = .ok (.iload_n 2, 1) := by decide +kernel
theorem dX0_greatestBehind_24 : decode cX0_greatestBehind 24 = .ok (.iaload, 1) := by decide +kernel
theorem dX0_greatestBehind_25 : decode cX0_greatestBehind 25 = .ok (.aload_n 0, 1) := by decide +kernel
theorem dX0_greatestBehind_26 : decode cX0_greatestBehind 26 = .ok (.getfield 21, 3) := by decide +kernel
theorem dX0_greatestBehind_29 : decode cX0_greatestBehind 29 = .ok (.iload_n 1, 1) := by decide +kernel
theorem dX0_greatestBehind_30 : decode cX0_greatestBehind 30 = .ok (.iaload, 1) := by decide +kernel
theorem dX0_greatestBehind_31 : decode cX0_greatestBehind 31 = .ok (.isub, 1) := by decide +kernel
theorem dX0_greatestBehind_32 : decode cX0_greatestBehind 32 = .ok (.aload_n 0, 1) := by decide +kernel
theorem dX0_greatestBehind_33 : decode cX0_greatestBehind 33 = .ok (.getfield 35, 3) := by decide +kernel
theorem dX0_greatestBehind_36 : decode cX0_greatestBehind 36 = .ok (.aload_n 0, 1) := by decide +kernel
theorem dX0_greatestBehind_37 : decode cX0_greatestBehind 37 = .ok (.getfield 18, 3) := by decide +kernel
theorem dX0_greatestBehind_40 : decode cX0_greatestBehind 40 = .ok (.iload_n 2, 1) := by decide +kernel
theorem dX0_greatestBehind_41 : decode cX0_greatestBehind 41 = .ok (.iaload, 1) := by decide +kernel
theorem dX0_greatestBehind_42 : decode cX0_greatestBehind 42 = .ok (.aaload, 1) := by decide +kernel
theorem dX0_greatestBehind_43 : decode cX0_greatestBehind 43 = .ok (.aload_n 0, 1) := by decide +kernel
theorem dX0_greatestBehind_44 : decode cX0_greatestBehind 44 = .ok (.getfield 18, 3) := by decide +kernel
theorem dX0_greatestBehind_47 : decode cX0_greatestBehind 47 = .ok (.iload_n 1, 1) := by decide +kernel
theorem dX0_greatestBehind_48 : decode cX0_greatestBehind 48 = .ok (.iaload, 1) := by decide +kernel
theorem dX0_greatestBehind_49 : decode cX0_greatestBehind 49 = .ok (.iaload, 1) := by decide +kernel
theorem dX0_greatestBehind_50 : decode cX0_greatestBehind 50 = .ok (.iadd, 1) := by decide +kernel
theorem dX0_greatestBehind_51 : decode cX0_greatestBehind 51 = .ok (.ireturn, 1) := by decide +kernel
theorem dX1_init_0 : decode cX1_init 0 = .ok (.aload_n 0, 1) := by decide +kernel
theorem dX1_init_1 : decode cX1_init 1 = .ok (.invokespecial 3, 3) := by decide +kernel
theorem dX1_init_4 : decode cX1_init 4 = .ok (.aload_n 0, 1) := by decide +kernel
theorem dX1_init_5 : decode cX1_init 5 = .ok (.bipush 26, 2) := by decide +kernel
theorem dX1_init_7 : decode cX1_init 7 = .ok (.newarray .int, 2) := by decide +kernel
theorem dX1_init_9 : decode cX1_init 9 = .ok (.putfield 9, 3) := by decide +kernel
theorem dX1_init_12 : decode cX1_init 12 = .ok (.aload_n 0, 1) := by decide +kernel
theorem dX1_init_13 : decode cX1_init 13 = .ok (.bipush 26, 2) := by decide +kernel
theorem dX1_init_15 : decode cX1_init 15 = .ok (.newarray .int, 2) := by decide +kernel
theorem dX1_init_17 : decode cX1_init 17 = .ok (.putfield 15, 3) := by decide +kernel
theorem dX1_init_20 : decode cX1_init 20 = .ok (.aload_n 0, 1) := by decide +kernel
theorem dX1_init_21 : decode cX1_init 21 = .ok (.sipush 130, 3) := by decide +kernel
theorem dX1_init_24 : decode cX1_init 24 = .ok (.newarray .int, 2) := by decide +kernel
theorem dX1_init_26 : decode cX1_init 26 = .ok (.putfield 18, 3) := by decide +kernel
theorem dX1_init_29 : decode cX1_init 29 = .ok (.aload_n 0, 1) := by decide +kernel
theorem dX1_init_30 : decode cX1_init 30 = .ok (.bipush 20, 2) := by decide +kernel
theorem dX1_init_32 : decode cX1_init 32 = .ok (.newarray .int, 2) := by decide +kernel
theorem dX1_init_34 : decode cX1_init 34 = .ok (.putfield 21, 3) := by decide +kernel
theorem dX1_init_37 : decode cX1_init 37 = .ok (.return_, 1) := by decide +kernel
theorem dX1_empty_0 : decode cX1_empty 0 = .ok (.iconst 0, 1) := by decide +kernel
theorem dX1_empty_1 : decode cX1_empty 1 = .ok (.istore_n 1, 1) := by decide +kernel
theorem dX1_empty_2 : decode cX1_empty 2 = .ok (.iload_n 1, 1) := by decide +kernel
theorem dX1_empty_3 : decode cX1_empty 3 = .ok (.bipush 26, 2) := by decide +kernel
theorem dX1_empty_5 : decode cX1_empty 5 = .ok (.if_icmp .ge 23, 3) := by decide +kernel
theorem dX1_empty_8 : decode cX1_empty 8 = .ok (.aload_n 0, 1) := by decide +kernel
theorem dX1_empty_9 : decode cX1_empty 9 = .ok (.getfield 9, 3) := by decide +kernel
theorem dX1_empty_12 : decode cX1_empty 12 = .ok (.iload_n 1, 1) := by decide +kernel
theorem dX1_empty_13 : decode cX1_empty 13 = .ok (.iconst 0, 1) := by decide +kernel
theorem dX1_empty_14 : decode cX1_empty 14 = .ok (.iastore, 1) := by decide +kernel
theorem dX1_empty_15 : decode cX1_empty 15 = .ok (.aload_n 0, 1) := by decide +kernel
theorem dX1_empty_16 : decode cX1_empty 16 = .ok (.getfield 15, 3) := by decide +kernel
theorem dX1_empty_19 : decode cX1_empty 19 = .ok (.iload_n 1, 1) := by decide +kernel
theorem dX1_empty_20 : decode cX1_empty 20 = .ok (.iconst 0, 1) := by decide +kernel
theorem dX1_empty_21 : decode cX1_empty 21 = .ok (.iastore, 1) := by decide +kernel
theorem dX1_empty_22 : decode cX1_empty 22 = .ok (.iinc 1 1, 3) := by decide +kernel
theorem dX1_empty_25 : decode cX1_empty 25 = .ok (.goto (-23), 3) := by decide +kernel
theorem dX1_empty_28 : decode cX1_empty 28 = .ok (.aload_n 0, 1) := by decide +kernel
theorem dX1_empty_29 : decode cX1_empty 29 = .ok (.iconst 0, 1) := by decide +kernel
theorem dX1_empty_30 : decode cX1_empty 30 = .ok (.putfield 24, 3) := by decide +kernel
theorem dX1_empty_33 : decode cX1_empty 33 = .ok (.aload_n 0, 1) := by decide +kernel
theorem dX1_empty_34 : decode cX1_empty 34 = .ok (.iconst 0, 1) := by decide +kernel
theorem dX1_empty_35 : decode cX1_empty 35 = .ok (.putfield 28, 3) := by decide +kernel
theorem dX1_empty_38 : decode cX1_empty 38 = .ok (.return_, 1) := by decide +kernel
theorem dX1_become_0 : decode cX1_become 0 = .ok (.iconst 0, 1) := by decide +kernel
theorem dX1_become_1 : decode cX1_become 1 = .ok (.istore_n 2, 1) := by decide +kernel
theorem dX1_become_2 : decode cX1_become 2 = .ok (.iload_n 2, 1) := by decide +kernel
theorem dX1_become_3 : decode cX1_become 3 = .ok (.bipush 26, 2) := by decide +kernel
theorem dX1_become_5 : decode cX1_become 5 = .ok (.if_icmp .ge 33, 3) := by decide +kernel
theorem dX1_become_8 : decode cX1_become 8 = .ok (.aload_n 0, 1) := by decide +kernel
theorem dX1_become_9 : decode cX1_become 9 = .ok (.getfield 9, 3) := by decide +kernel
theorem dX1_become_12 : decode cX1_become 12 = .ok (.iload_n 2, 1) := by decide +kernel
theorem dX1_become_13 : decode cX1_become 13 = .ok (.aload_n 1, 1) := by decide +kernel
theorem dX1_become_14 : decode cX1_become 14 = .ok (.getfield 9, 3) := by decide +kernel
theorem dX1_become_17 : decode cX1_become 17 = .ok (.iload_n 2, 1) := by decide +kernel
theorem dX1_become_18 : decode cX1_become 18 = .ok (.iaload, 1) := by decide +kernel
theorem dX1_become_19 : decode cX1_become 19 = .ok (.iastore, 1) := by decide +kernel
theorem dX1_become_20 : decode cX1_become 20 = .ok (.aload_n 0, 1) := by decide +kernel
theorem dX1_become_21 : decode cX1_become 21 = .ok (.getfield 15, 3) := by decide +kernel
theorem dX1_become_24 : decode cX1_become 24 = .ok (.iload_n 2, 1) := by decide +kernel
theorem dX1_become_25 : decode cX1_become 25 = .ok (.aload_n 1, 1) := by decide +kernel
theorem dX1_become_26 : decode cX1_become 26 = .ok (.getfield 15, 3) := by decide +kernel
theorem dX1_become_29 : decode cX1_become 29 = .ok (.iload_n 2, 1) := by decide +kernel
theorem dX1_become_30 : decode cX1_become 30 = .ok (.iaload, 1) := by decide +kernel
theorem dX1_become_31 : decode cX1_become 31 = .ok (.iastore, 1) := by decide +kernel
theorem dX1_become_32 : decode cX1_become 32 = .ok (.iinc 2 1, 3) := by decide +kernel
theorem dX1_become_35 : decode cX1_become 35 = .ok (.goto (-33), 3) := by decide +kernel
theorem dX1_become_38 : decode cX1_become 38 = .ok (.iconst 0, 1) := by decide +kernel
theorem dX1_become_39 : decode cX1_become 39 = .ok (.istore_n 2, 1) := by decide +kernel
theorem dX1_become_40 : decode cX1_become 40 = .ok (.iload_n 2, 1) := by decide +kernel
theorem dX1_become_41 : decode cX1_become 41 = .ok (.sipush 130, 3) := by decide +kernel
theorem dX1_become_44 : decode cX1_become 44 = .ok (.if_icmp .ge 21, 3) := by decide +kernel
theorem dX1_become_47 : decode cX1_become 47 = .ok (.aload_n 0, 1) := by decide +kernel
theorem dX1_become_48 : decode cX1_become 48 = .ok (.getfield 18, 3) := by decide +kernel
theorem dX1_become_51 : decode cX1_become 51 = .ok (.iload_n 2, 1) := by decide +kernel
theorem dX1_become_52 : decode cX1_become 52 = .ok (.aload_n 1, 1) := by decide +kernel
theorem dX1_become_53 : decode cX1_become 53 = .ok (.getfield 18, 3) := by decide +kernel
theorem dX1_become_56 : decode cX1_become 56 = .ok (.iload_n 2, 1) := by decide +kernel
theorem dX1_become_57 : decode cX1_become 57 = .ok (.iaload, 1) := by decide +kernel
theorem dX1_become_58 : decode cX1_become 58 = .ok (.iastore, 1) := by decide +kernel
theorem dX1_become_59 : decode cX1_become 59 = .ok (.iinc 2 1, 3) := by decide +kernel
theorem dX1_become_62 : decode cX1_become 62 = .ok (.goto (-22), 3) := by decide +kernel
theorem dX1_become_65 : decode cX1_become 65 = .ok (.iconst 0, 1) := by decide +kernel
theorem dX1_become_66 : decode cX1_become 66 = .ok (.istore_n 2, 1) := by decide +kernel
theorem dX1_become_67 : decode cX1_become 67 = .ok (.iload_n 2, 1) := by decide +kernel
theorem dX1_become_68 : decode cX1_become 68 = .ok (.bipush 20, 2) := by decide +kernel
theorem dX1_become_70 : decode cX1_become 70 = .ok (.if_icmp .ge 21, 3) := by decide +kernel
theorem dX1_become_73 : decode cX1_become 73 = .ok (.aload_n 0, 1) := by decide +kernel
theorem dX1_become_74 : decode cX1_become 74 = .ok (.getfield 21, 3) := by decide +kernel
theorem dX1_become_77 : decode cX1_become 77 = .ok (.iload_n 2, 1) := by decide +kernel
theorem dX1_become_78 : decode cX1_become 78 = .ok (.aload_n 1, 1) := by decide +kernel
theorem dX1_become_79 : decode cX1_become 79 = .ok (.getfield 21, 3) := by decide +kernel
theorem dX1_become_82 : decode cX1_become 82 = .ok (.iload_n 2, 1) := by decide +kernel
theorem dX1_become_83 : decode cX1_become 83 = .ok (.iaload, 1) := by decide +kernel
theorem dX1_become_84 : decode cX1_become 84 = .ok (.iastore, 1) := by decide +kernel
theorem dX1_become_85 : decode cX1_become 85 = .ok (.iinc 2 1, 3) := by decide +kernel
theorem dX1_become_88 : decode cX1_become 88 = .ok (.goto (-21), 3) := by decide +kernel
theorem dX1_become_91 : decode cX1_become 91 = .ok (.aload_n 0, 1) := by decide +kernel
theorem dX1_become_92 : decode cX1_become 92 = .ok (.aload_n 1, 1) := by decide +kernel
theorem dX1_become_93 : decode cX1_become 93 = .ok (.getfield 24, 3) := by decide +kernel
theorem dX1_become_96 : decode cX1_become 96 = .ok (.putfield 24, 3) := by decide +kernel
theorem dX1_become_99 : decode cX1_become 99 = .ok (.aload_n 0, 1) := by decide +kernel
theorem dX1_become_100 : decode cX1_become 100 = .ok (.aload_n 1, 1) := by decide +kernel
theorem dX1_become_101 : decode cX1_become 101 = .ok (.getfield 28, 3) := by decide +kernel
theorem dX1_become_104 : decode cX1_become 104 = .ok (.putfield 28, 3) := by decide +kernel
theorem dX1_become_107 : decode cX1_become 107 = .ok (.return_, 1) := by decide +kernel
theorem dX1_letters_0 : decode cX1_letters 0 = .ok (.aload_n 0, 1) := by decide +kernel
theorem dX1_letters_1 : decode cX1_letters 1 = .ok (.getfield 24, 3) := by decide +kernel
theorem dX1_letters_4 : decode cX1_letters 4 = .ok (.ireturn, 1) := by decide +kernel
theorem dX1_words_0 : decode cX1_words 0 = .ok (.aload_n 0, 1) := by decide +kernel
theorem dX1_words_1 : decode cX1_words 1 = .ok (.getfield 28, 3) := by decide +kernel
theorem dX1_words_4 : decode cX1_words 4 = .ok (.ireturn, 1) := by decide +kernel
theorem dX1_hasRoomForWord_0 : decode cX1_hasRoomForWord 0 = .ok (.aload_n 0, 1) := by decide +kernel
theorem dX1_hasRoomForWord_1 : decode cX1_hasRoomForWord 1 = .ok (.getfield 28, 3) := by decide +kernel
theorem dX1_hasRoomForWord_4 : decode cX1_hasRoomForWord 4 = .ok (.bipush 20, 2) := by decide +kernel
theorem dX1_hasRoomForWord_6 : decode cX1_hasRoomForWord 6 = .ok (.if_icmp .ge 7, 3) := by decide +kernel
theorem dX1_hasRoomForWord_9 : decode cX1_hasRoomForWord 9 = .ok (.iconst 1, 1) := by decide +kernel
theorem dX1_hasRoomForWord_10 : decode cX1_hasRoomForWord 10 = .ok (.goto 4, 3) := by decide +kernel
theorem dX1_hasRoomForWord_13 : decode cX1_hasRoomForWord 13 = .ok (.iconst 0, 1) := by decide +kernel
theorem dX1_hasRoomForWord_14 : decode cX1_hasRoomForWord 14 = .ok (.ireturn, 1) := by decide +kernel
theorem dX1_hasLetter_0 : decode cX1_hasLetter 0 = .ok (.iload_n 1, 1) := by decide +kernel
theorem dX1_hasLetter_1 : decode cX1_hasLetter 1 = .ok (.ifCond .lt 22, 3) := by decide +kernel
theorem dX1_hasLetter_4 : decode cX1_hasLetter 4 = .ok (.iload_n 1, 1) := by decide +kernel
theorem dX1_hasLetter_5 : decode cX1_hasLetter 5 = .ok (.bipush 26, 2) := by decide +kernel
theorem dX1_hasLetter_7 : decode cX1_hasLetter 7 = .ok (.if_icmp .ge 16, 3) := by decide +kernel
theorem dX1_hasLetter_10 : decode cX1_hasLetter 10 = .ok (.aload_n 0, 1) := by decide +kernel
theorem dX1_hasLetter_11 : decode cX1_hasLetter 11 = .ok (.getfield 15, 3) := by decide +kernel
theorem dX1_hasLetter_14 : decode cX1_hasLetter 14 = .ok (.iload_n 1, 1) := by decide +kernel
theorem dX1_hasLetter_15 : decode cX1_hasLetter 15 = .ok (.iaload, 1) := by decide +kernel
theorem dX1_hasLetter_16 : decode cX1_hasLetter 16 = .ok (.ifCond .le 7, 3) := by decide +kernel
theorem dX1_hasLetter_19 : decode cX1_hasLetter 19 = .ok (.iconst 1, 1) := by decide +kernel
theorem dX1_hasLetter_20 : decode cX1_hasLetter 20 = .ok (.goto 4, 3) := by decide +kernel
theorem dX1_hasLetter_23 : decode cX1_hasLetter 23 = .ok (.iconst 0, 1) := by decide +kernel
theorem dX1_hasLetter_24 : decode cX1_hasLetter 24 = .ok (.ireturn, 1) := by decide +kernel
theorem dX1_hasMarks_0 : decode cX1_hasMarks 0 = .ok (.iconst 0, 1) := by decide +kernel
theorem dX1_hasMarks_1 : decode cX1_hasMarks 1 = .ok (.istore_n 2, 1) := by decide +kernel
theorem dX1_hasMarks_2 : decode cX1_hasMarks 2 = .ok (.iload_n 2, 1) := by decide +kernel
theorem dX1_hasMarks_3 : decode cX1_hasMarks 3 = .ok (.bipush 26, 2) := by decide +kernel
theorem dX1_hasMarks_5 : decode cX1_hasMarks 5 = .ok (.if_icmp .ge 30, 3) := by decide +kernel
theorem dX1_hasMarks_8 : decode cX1_hasMarks 8 = .ok (.aload_n 0, 1) := by decide +kernel
theorem dX1_hasMarks_9 : decode cX1_hasMarks 9 = .ok (.getfield 15, 3) := by decide +kernel
theorem dX1_hasMarks_12 : decode cX1_hasMarks 12 = .ok (.iload_n 2, 1) := by decide +kernel
theorem dX1_hasMarks_13 : decode cX1_hasMarks 13 = .ok (.iaload, 1) := by decide +kernel
theorem dX1_hasMarks_14 : decode cX1_hasMarks 14 = .ok (.ifCond .le 15, 3) := by decide +kernel
theorem dX1_hasMarks_17 : decode cX1_hasMarks 17 = .ok (.aload_n 0, 1) := by decide +kernel
theorem dX1_hasMarks_18 : decode cX1_hasMarks 18 = .ok (.getfield 9, 3) := by decide +kernel
theorem dX1_hasMarks_21 : decode cX1_hasMarks 21 = .ok (.iload_n 2, 1) := by decide +kernel
theorem dX1_hasMarks_22 : decode cX1_hasMarks 22 = .ok (.iaload, 1) := by decide +kernel
theorem dX1_hasMarks_23 : decode cX1_hasMarks 23 = .ok (.iload_n 1, 1) := by decide +kernel
theorem dX1_hasMarks_24 : decode cX1_hasMarks 24 = .ok (.if_icmp .ne 5, 3) := by decide +kernel
theorem dX1_hasMarks_27 : decode cX1_hasMarks 27 = .ok (.iconst 1, 1) := by decide +kernel
theorem dX1_hasMarks_28 : decode cX1_hasMarks 28 = .ok (.ireturn, 1) := by decide +kernel
theorem dX1_hasMarks_29 : decode cX1_hasMarks 29 = .ok (.iinc 2 1, 3) := by decide +kernel
theorem dX1_hasMarks_32 : decode cX1_hasMarks 32 = .ok (.goto (-30), 3) := by decide +kernel
theorem dX1_hasMarks_35 : decode cX1_hasMarks 35 = .ok (.iconst 0, 1) := by decide +kernel
theorem dX1_hasMarks_36 : decode cX1_hasMarks 36 = .ok (.ireturn, 1) := by decide +kernel
theorem dX1_hasGroup_0 : decode cX1_hasGroup 0 = .ok (.iconst 0, 1) := by decide +kernel
theorem dX1_hasGroup_1 : decode cX1_hasGroup 1 = .ok (.istore_n 2, 1) := by decide +kernel
theorem dX1_hasGroup_2 : decode cX1_hasGroup 2 = .ok (.iload_n 2, 1) := by decide +kernel
theorem dX1_hasGroup_3 : decode cX1_hasGroup 3 = .ok (.aload_n 0, 1) := by decide +kernel
theorem dX1_hasGroup_4 : decode cX1_hasGroup 4 = .ok (.getfield 28, 3) := by decide +kernel
theorem dX1_hasGroup_7 : decode cX1_hasGroup 7 = .ok (.if_icmp .ge 21, 3) := by decide +kernel
theorem dX1_hasGroup_10 : decode cX1_hasGroup 10 = .ok (.aload_n 0, 1) := by decide +kernel
theorem dX1_hasGroup_11 : decode cX1_hasGroup 11 = .ok (.getfield 21, 3) := by decide +kernel
theorem dX1_hasGroup_14 : decode cX1_hasGroup 14 = .ok (.iload_n 2, 1) := by decide +kernel
theorem dX1_hasGroup_15 : decode cX1_hasGroup 15 = .ok (.iaload, 1) := by decide +kernel
theorem dX1_hasGroup_16 : decode cX1_hasGroup 16 = .ok (.iload_n 1, 1) := by decide +kernel
theorem dX1_hasGroup_17 : decode cX1_hasGroup 17 = .ok (.if_icmp .ne 5, 3) := by decide +kernel
theorem dX1_hasGroup_20 : decode cX1_hasGroup 20 = .ok (.iconst 1, 1) := by decide +kernel
theorem dX1_hasGroup_21 : decode cX1_hasGroup 21 = .ok (.ireturn, 1) := by decide +kernel
theorem dX1_hasGroup_22 : decode cX1_hasGroup 22 = .ok (.iinc 2 1, 3) := by decide +kernel
theorem dX1_hasGroup_25 : decode cX1_hasGroup 25 = .ok (.goto (-23), 3) := by decide +kernel
theorem dX1_hasGroup_28 : decode cX1_hasGroup 28 = .ok (.iconst 0, 1) := by decide +kernel
theorem dX1_hasGroup_29 : decode cX1_hasGroup 29 = .ok (.ireturn, 1) := by decide +kernel
theorem dX1_addLetter_0 : decode cX1_addLetter 0 = .ok (.iload_n 1, 1) := by decide +kernel
theorem dX1_addLetter_1 : decode cX1_addLetter 1 = .ok (.ifCond .lt 17, 3) := by decide +kernel
theorem dX1_addLetter_4 : decode cX1_addLetter 4 = .ok (.iload_n 1, 1) := by decide +kernel
theorem dX1_addLetter_5 : decode cX1_addLetter 5 = .ok (.bipush 26, 2) := by decide +kernel
theorem dX1_addLetter_7 : decode cX1_addLetter 7 = .ok (.if_icmp .ge 11, 3) := by decide +kernel
theorem dX1_addLetter_10 : decode cX1_addLetter 10 = .ok (.aload_n 0, 1) := by decide +kernel
theorem dX1_addLetter_11 : decode cX1_addLetter 11 = .ok (.iload_n 1, 1) := by decide +kernel
theorem dX1_addLetter_12 : decode cX1_addLetter 12 = .ok (.invokevirtual 31, 3) := by decide +kernel
theorem dX1_addLetter_15 : decode cX1_addLetter 15 = .ok (.ifCond .eq 4, 3) := by decide +kernel
theorem dX1_addLetter_18 : decode cX1_addLetter 18 = .ok (.return_, 1) := by decide +kernel
theorem dX1_addLetter_19 : decode cX1_addLetter 19 = .ok (.aload_n 0, 1) := by decide +kernel
theorem dX1_addLetter_20 : decode cX1_addLetter 20 = .ok (.getfield 9, 3) := by decide +kernel
theorem dX1_addLetter_23 : decode cX1_addLetter 23 = .ok (.iload_n 1, 1) := by decide +kernel
theorem dX1_addLetter_24 : decode cX1_addLetter 24 = .ok (.iload_n 2, 1) := by decide +kernel
theorem dX1_addLetter_25 : decode cX1_addLetter 25 = .ok (.iastore, 1) := by decide +kernel
theorem dX1_addLetter_26 : decode cX1_addLetter 26 = .ok (.iconst 0, 1) := by decide +kernel
theorem dX1_addLetter_27 : decode cX1_addLetter 27 = .ok (.istore_n 3, 1) := by decide +kernel
theorem dX1_addLetter_28 : decode cX1_addLetter 28 = .ok (.iload_n 2, 1) := by decide +kernel
theorem dX1_addLetter_29 : decode cX1_addLetter 29 = .ok (.istore 4, 2) := by decide +kernel
theorem dX1_addLetter_31 : decode cX1_addLetter 31 = .ok (.iload_n 3, 1) := by decide +kernel
theorem dX1_addLetter_32 : decode cX1_addLetter 32 = .ok (.iconst 5, 1) := by decide +kernel
theorem dX1_addLetter_33 : decode cX1_addLetter 33 = .ok (.if_icmp .ge 38, 3) := by decide +kernel
theorem dX1_addLetter_36 : decode cX1_addLetter 36 = .ok (.iload 4, 2) := by decide +kernel
theorem dX1_addLetter_38 : decode cX1_addLetter 38 = .ok (.ifCond .le 33, 3) := by decide +kernel
theorem dX1_addLetter_41 : decode cX1_addLetter 41 = .ok (.aload_n 0, 1) := by decide +kernel
theorem dX1_addLetter_42 : decode cX1_addLetter 42 = .ok (.getfield 18, 3) := by decide +kernel
theorem dX1_addLetter_45 : decode cX1_addLetter 45 = .ok (.iload_n 1, 1) := by decide +kernel
theorem dX1_addLetter_46 : decode cX1_addLetter 46 = .ok (.iconst 5, 1) := by decide +kernel
theorem dX1_addLetter_47 : decode cX1_addLetter 47 = .ok (.imul, 1) := by decide +kernel
theorem dX1_addLetter_48 : decode cX1_addLetter 48 = .ok (.iload_n 3, 1) := by decide +kernel
theorem dX1_addLetter_49 : decode cX1_addLetter 49 = .ok (.iadd, 1) := by decide +kernel
theorem dX1_addLetter_50 : decode cX1_addLetter 50 = .ok (.iload 4, 2) := by decide +kernel
theorem dX1_addLetter_52 : decode cX1_addLetter 52 = .ok (.bipush 10, 2) := by decide +kernel
theorem dX1_addLetter_54 : decode cX1_addLetter 54 = .ok (.irem, 1) := by decide +kernel
theorem dX1_addLetter_55 : decode cX1_addLetter 55 = .ok (.iconst 1, 1) := by decide +kernel
theorem dX1_addLetter_56 : decode cX1_addLetter 56 = .ok (.isub, 1) := by decide +kernel
theorem dX1_addLetter_57 : decode cX1_addLetter 57 = .ok (.iastore, 1) := by decide +kernel
theorem dX1_addLetter_58 : decode cX1_addLetter 58 = .ok (.iload 4, 2) := by decide +kernel
theorem dX1_addLetter_60 : decode cX1_addLetter 60 = .ok (.bipush 10, 2) := by decide +kernel
theorem dX1_addLetter_62 : decode cX1_addLetter 62 = .ok (.idiv, 1) := by decide +kernel
theorem dX1_addLetter_63 : decode cX1_addLetter 63 = .ok (.istore 4, 2) := by decide +kernel
theorem dX1_addLetter_65 : decode cX1_addLetter 65 = .ok (.iinc 3 1, 3) := by decide +kernel
theorem dX1_addLetter_68 : decode cX1_addLetter 68 = .ok (.goto (-37), 3) := by decide +kernel
theorem dX1_addLetter_71 : decode cX1_addLetter 71 = .ok (.aload_n 0, 1) := by decide +kernel
theorem dX1_addLetter_72 : decode cX1_addLetter 72 = .ok (.getfield 15, 3) := by decide +kernel
theorem dX1_addLetter_75 : decode cX1_addLetter 75 = .ok (.iload_n 1, 1) := by decide +kernel
theorem dX1_addLetter_76 : decode cX1_addLetter 76 = .ok (.iload_n 3, 1) := by decide +kernel
theorem dX1_addLetter_77 : decode cX1_addLetter 77 = .ok (.iastore, 1) := by decide +kernel
theorem dX1_addLetter_78 : decode cX1_addLetter 78 = .ok (.aload_n 0, 1) := by decide +kernel
theorem dX1_addLetter_79 : decode cX1_addLetter 79 = .ok (.dup, 1) := by decide +kernel
theorem dX1_addLetter_80 : decode cX1_addLetter 80 = .ok (.getfield 24, 3) := by decide +kernel
theorem dX1_addLetter_83 : decode cX1_addLetter 83 = .ok (.iconst 1, 1) := by decide +kernel
theorem dX1_addLetter_84 : decode cX1_addLetter 84 = .ok (.iadd, 1) := by decide +kernel
theorem dX1_addLetter_85 : decode cX1_addLetter 85 = .ok (.putfield 24, 3) := by decide +kernel
theorem dX1_addLetter_88 : decode cX1_addLetter 88 = .ok (.return_, 1) := by decide +kernel
theorem dX1_addGroup_0 : decode cX1_addGroup 0 = .ok (.aload_n 0, 1) := by decide +kernel
theorem dX1_addGroup_1 : decode cX1_addGroup 1 = .ok (.getfield 28, 3) := by decide +kernel
theorem dX1_addGroup_4 : decode cX1_addGroup 4 = .ok (.bipush 20, 2) := by decide +kernel
theorem dX1_addGroup_6 : decode cX1_addGroup 6 = .ok (.if_icmp .ge 23, 3) := by decide +kernel
theorem dX1_addGroup_9 : decode cX1_addGroup 9 = .ok (.aload_n 0, 1) := by decide +kernel
theorem dX1_addGroup_10 : decode cX1_addGroup 10 = .ok (.getfield 21, 3) := by decide +kernel
theorem dX1_addGroup_13 : decode cX1_addGroup 13 = .ok (.aload_n 0, 1) := by decide +kernel
theorem dX1_addGroup_14 : decode cX1_addGroup 14 = .ok (.getfield 28, 3) := by decide +kernel
theorem dX1_addGroup_17 : decode cX1_addGroup 17 = .ok (.iload_n 1, 1) := by decide +kernel
theorem dX1_addGroup_18 : decode cX1_addGroup 18 = .ok (.iastore, 1) := by decide +kernel
theorem dX1_addGroup_19 : decode cX1_addGroup 19 = .ok (.aload_n 0, 1) := by decide +kernel
theorem dX1_addGroup_20 : decode cX1_addGroup 20 = .ok (.dup, 1) := by decide +kernel
theorem dX1_addGroup_21 : decode cX1_addGroup 21 = .ok (.getfield 28, 3) := by decide +kernel
theorem dX1_addGroup_24 : decode cX1_addGroup 24 = .ok (.iconst 1, 1) := by decide +kernel
theorem dX1_addGroup_25 : decode cX1_addGroup 25 = .ok (.iadd, 1) := by decide +kernel
theorem dX1_addGroup_26 : decode cX1_addGroup 26 = .ok (.putfield 28, 3) := by decide +kernel
theorem dX1_addGroup_29 : decode cX1_addGroup 29 = .ok (.return_, 1) := by decide +kernel
theorem dX1_marksOf_0 : decode cX1_marksOf 0 = .ok (.aload_n 0, 1) := by decide +kernel
theorem dX1_marksOf_1 : decode cX1_marksOf 1 = .ok (.iload_n 1, 1) := by decide +kernel
theorem dX1_marksOf_2 : decode cX1_marksOf 2 = .ok (.invokevirtual 31, 3) := by decide +kernel
theorem dX1_marksOf_5 : decode cX1_marksOf 5 = .ok (.ifCond .eq 12, 3) := by decide +kernel
theorem dX1_marksOf_8 : decode cX1_marksOf 8 = .ok (.aload_n 0, 1) := by decide +kernel
theorem dX1_marksOf_9 : decode cX1_marksOf 9 = .ok (.getfield 9, 3) := by decide +kernel
theorem dX1_marksOf_12 : decode cX1_marksOf 12 = .ok (.iload_n 1, 1) := by decide +kernel
theorem dX1_marksOf_13 : decode cX1_marksOf 13 = .ok (.iaload, 1) := by decide +kernel
theorem dX1_marksOf_14 : decode cX1_marksOf 14 = .ok (.goto 4, 3) := by decide +kernel
theorem dX1_marksOf_17 : decode cX1_marksOf 17 = .ok (.iconst (-1), 1) := by decide +kernel
theorem dX1_marksOf_18 : decode cX1_marksOf 18 = .ok (.ireturn, 1) := by decide +kernel
theorem dX1_sizeOf_0 : decode cX1_sizeOf 0 = .ok (.iload_n 1, 1) := by decide +kernel
theorem dX1_sizeOf_1 : decode cX1_sizeOf 1 = .ok (.ifCond .lt 18, 3) := by decide +kernel
theorem dX1_sizeOf_4 : decode cX1_sizeOf 4 = .ok (.iload_n 1, 1) := by decide +kernel
theorem dX1_sizeOf_5 : decode cX1_sizeOf 5 = .ok (.bipush 26, 2) := by decide +kernel
theorem dX1_sizeOf_7 : decode cX1_sizeOf 7 = .ok (.if_icmp .ge 12, 3) := by decide +kernel
theorem dX1_sizeOf_10 : decode cX1_sizeOf 10 = .ok (.aload_n 0, 1) := by decide +kernel
theorem dX1_sizeOf_11 : decode cX1_sizeOf 11 = .ok (.getfield 15, 3) := by decide +kernel
theorem dX1_sizeOf_14 : decode cX1_sizeOf 14 = .ok (.iload_n 1, 1) := by decide +kernel
theorem dX1_sizeOf_15 : decode cX1_sizeOf 15 = .ok (.iaload, 1) := by decide +kernel
theorem dX1_sizeOf_16 : decode cX1_sizeOf 16 = .ok (.goto 4, 3) := by decide +kernel
theorem dX1_sizeOf_19 : decode cX1_sizeOf 19 = .ok (.iconst 0, 1) := by decide +kernel
theorem dX1_sizeOf_20 : decode cX1_sizeOf 20 = .ok (.ireturn, 1) := by decide +kernel
theorem dX1_kindOf_0 : decode cX1_kindOf 0 = .ok (.aload_n 0, 1) := by decide +kernel
theorem dX1_kindOf_1 : decode cX1_kindOf 1 = .ok (.iload_n 1, 1) := by decide +kernel
theorem dX1_kindOf_2 : decode cX1_kindOf 2 = .ok (.invokevirtual 35, 3) := by decide +kernel
theorem dX1_kindOf_5 : decode cX1_kindOf 5 = .ok (.istore_n 3, 1) := by decide +kernel
theorem dX1_kindOf_6 : decode cX1_kindOf 6 = .ok (.iload_n 2, 1) := by decide +kernel
theorem dX1_kindOf_7 : decode cX1_kindOf 7 = .ok (.ifCond .lt 25, 3) := by decide +kernel
theorem dX1_kindOf_10 : decode cX1_kindOf 10 = .ok (.iload_n 2, 1) := by decide +kernel
theorem dX1_kindOf_11 : decode cX1_kindOf 11 = .ok (.iload_n 3, 1) := by decide +kernel
theorem dX1_kindOf_12 : decode cX1_kindOf 12 = .ok (.if_icmp .ge 20, 3) := by decide +kernel
theorem dX1_kindOf_15 : decode cX1_kindOf 15 = .ok (.aload_n 0, 1) := by decide +kernel
theorem dX1_kindOf_16 : decode cX1_kindOf 16 = .ok (.getfield 18, 3) := by decide +kernel
theorem dX1_kindOf_19 : decode cX1_kindOf 19 = .ok (.iload_n 1, 1) := by decide +kernel
theorem dX1_kindOf_20 : decode cX1_kindOf 20 = .ok (.iconst 5, 1) := by decide +kernel
theorem dX1_kindOf_21 : decode cX1_kindOf 21 = .ok (.imul, 1) := by decide +kernel
theorem dX1_kindOf_22 : decode cX1_kindOf 22 = .ok (.iload_n 3, 1) := by decide +kernel
theorem dX1_kindOf_23 : decode cX1_kindOf 23 = .ok (.iadd, 1) := by decide +kernel
theorem dX1_kindOf_24 : decode cX1_kindOf 24 = .ok (.iconst 1, 1) := by decide +kernel
theorem dX1_kindOf_25 : decode cX1_kindOf 25 = .ok (.isub, 1) := by decide +kernel
theorem dX1_kindOf_26 : decode cX1_kindOf 26 = .ok (.iload_n 2, 1) := by decide +kernel
theorem dX1_kindOf_27 : decode cX1_kindOf 27 = .ok (.isub, 1) := by decide +kernel
theorem dX1_kindOf_28 : decode cX1_kindOf 28 = .ok (.iaload, 1) := by decide +kernel
theorem dX1_kindOf_29 : decode cX1_kindOf 29 = .ok (.goto 4, 3) := by decide +kernel
theorem dX1_kindOf_32 : decode cX1_kindOf 32 = .ok (.iconst (-1), 1) := by decide +kernel
theorem dX1_kindOf_33 : decode cX1_kindOf 33 = .ok (.ireturn, 1) := by decide +kernel
theorem dX1_groupOf_0 : decode cX1_groupOf 0 = .ok (.iload_n 1, 1) := by decide +kernel
theorem dX1_groupOf_1 : decode cX1_groupOf 1 = .ok (.ifCond .lt 20, 3) := by decide +kernel
theorem dX1_groupOf_4 : decode cX1_groupOf 4 = .ok (.iload_n 1, 1) := by decide +kernel
theorem dX1_groupOf_5 : decode cX1_groupOf 5 = .ok (.aload_n 0, 1) := by decide +kernel
theorem dX1_groupOf_6 : decode cX1_groupOf 6 = .ok (.getfield 28, 3) := by decide +kernel
theorem dX1_groupOf_9 : decode cX1_groupOf 9 = .ok (.if_icmp .ge 12, 3) := by decide +kernel
theorem dX1_groupOf_12 : decode cX1_groupOf 12 = .ok (.aload_n 0, 1) := by decide +kernel
theorem dX1_groupOf_13 : decode cX1_groupOf 13 = .ok (.getfield 21, 3) := by decide +kernel
theorem dX1_groupOf_16 : decode cX1_groupOf 16 = .ok (.iload_n 1, 1) := by decide +kernel
theorem dX1_groupOf_17 : decode cX1_groupOf 17 = .ok (.iaload, 1) := by decide +kernel
theorem dX1_groupOf_18 : decode cX1_groupOf 18 = .ok (.goto 4, 3) := by decide +kernel
theorem dX1_groupOf_21 : decode cX1_groupOf 21 = .ok (.iconst (-1), 1) := by decide +kernel
theorem dX1_groupOf_22 : decode cX1_groupOf 22 = .ok (.ireturn, 1) := by decide +kernel
theorem dX1_kthNear_0 : decode cX1_kthNear 0 = .ok (.iconst 0, 1) := by decide +kernel
theorem dX1_kthNear_1 : decode cX1_kthNear 1 = .ok (.istore 4, 2) := by decide +kernel
theorem dX1_kthNear_3 : decode cX1_kthNear 3 = .ok (.iconst 0, 1) := by decide +kernel
theorem dX1_kthNear_4 : decode cX1_kthNear 4 = .ok (.istore 5, 2) := by decide +kernel
theorem dX1_kthNear_6 : decode cX1_kthNear 6 = .ok (.iload 5, 2) := by decide +kernel
theorem dX1_kthNear_8 : decode cX1_kthNear 8 = .ok (.aload_n 0, 1) := by decide +kernel
theorem dX1_kthNear_9 : decode cX1_kthNear 9 = .ok (.getfield 28, 3) := by decide +kernel
theorem dX1_kthNear_12 : decode cX1_kthNear 12 = .ok (.if_icmp .ge 36, 3) := by decide +kernel
theorem dX1_kthNear_15 : decode cX1_kthNear 15 = .ok (.aload_n 0, 1) := by decide +kernel
theorem dX1_kthNear_16 : decode cX1_kthNear 16 = .ok (.getfield 21, 3) := by decide +kernel
theorem dX1_kthNear_19 : decode cX1_kthNear 19 = .ok (.iload 5, 2) := by decide +kernel
theorem dX1_kthNear_21 : decode cX1_kthNear 21 = .ok (.iaload, 1) := by decide +kernel
theorem dX1_kthNear_22 : decode cX1_kthNear 22 = .ok (.iload_n 1, 1) := by decide +kernel
theorem dX1_kthNear_23 : decode cX1_kthNear 23 = .ok (.invokestatic 39, 3) := by decide +kernel
theorem dX1_kthNear_26 : decode cX1_kthNear 26 = .ok (.iload_n 2, 1) := by decide +kernel
theorem dX1_kthNear_27 : decode cX1_kthNear 27 = .ok (.if_icmp .gt 15, 3) := by decide +kernel
theorem dX1_kthNear_30 : decode cX1_kthNear 30 = .ok (.iload 4, 2) := by decide +kernel
theorem dX1_kthNear_32 : decode cX1_kthNear 32 = .ok (.iload_n 3, 1) := by decide +kernel
theorem dX1_kthNear_33 : decode cX1_kthNear 33 = .ok (.if_icmp .ne 6, 3) := by decide +kernel
theorem dX1_kthNear_36 : decode cX1_kthNear 36 = .ok (.iload 5, 2) := by decide +kernel
theorem dX1_kthNear_38 : decode cX1_kthNear 38 = .ok (.ireturn, 1) := by decide +kernel
theorem dX1_kthNear_39 : decode cX1_kthNear 39 = .ok (.iinc 4 1, 3) := by decide +kernel
theorem dX1_kthNear_42 : decode cX1_kthNear 42 = .ok (.iinc 5 1, 3) := by decide +kernel
theorem dX1_kthNear_45 : decode cX1_kthNear 45 = .ok (.goto (-39), 3) := by decide +kernel
theorem dX1_kthNear_48 : decode cX1_kthNear 48 = .ok (.iload_n 3, 1) := by decide +kernel
theorem dX1_kthNear_49 : decode cX1_kthNear 49 = .ok (.iconst (-1), 1) := by decide +kernel
theorem dX1_kthNear_50 : decode cX1_kthNear 50 = .ok (.if_icmp .ne 8, 3) := by decide +kernel
theorem dX1_kthNear_53 : decode cX1_kthNear 53 = .ok (.iload 4, 2) := by decide +kernel
theorem dX1_kthNear_55 : decode cX1_kthNear 55 = .ok (.goto 4, 3) := by decide +kernel
theorem dX1_kthNear_58 : decode cX1_kthNear 58 = .ok (.iconst (-1), 1) := by decide +kernel
theorem dX1_kthNear_59 : decode cX1_kthNear 59 = .ok (.ireturn, 1) := by decide +kernel
theorem dX1_unlikeLetters_0 : decode cX1_unlikeLetters 0 = .ok (.iconst 0, 1) := by decide +kernel
theorem dX1_unlikeLetters_1 : decode cX1_unlikeLetters 1 = .ok (.istore_n 2, 1) := by decide +kernel
theorem dX1_unlikeLetters_2 : decode cX1_unlikeLetters 2 = .ok (.iload_n 0, 1) := by decide +kernel
theorem dX1_unlikeLetters_3 : decode cX1_unlikeLetters 3 = .ok (.istore_n 3, 1) := by decide +kernel
theorem dX1_unlikeLetters_4 : decode cX1_unlikeLetters 4 = .ok (.iload_n 1, 1) := by decide +kernel
theorem dX1_unlikeLetters_5 : decode cX1_unlikeLetters 5 = .ok (.istore 4, 2) := by decide +kernel
theorem dX1_unlikeLetters_7 : decode cX1_unlikeLetters 7 = .ok (.iconst 0, 1) := by decide +kernel
theorem dX1_unlikeLetters_8 : decode cX1_unlikeLetters 8 = .ok (.istore 5, 2) := by decide +kernel
theorem dX1_unlikeLetters_10 : decode cX1_unlikeLetters 10 = .ok (.iload 5, 2) := by decide +kernel
theorem dX1_unlikeLetters_12 : decode cX1_unlikeLetters 12 = .ok (.iconst 3, 1) := by decide +kernel
theorem dX1_unlikeLetters_13 : decode cX1_unlikeLetters 13 = .ok (.if_icmp .ge 36, 3) := by decide +kernel
theorem dX1_unlikeLetters_16 : decode cX1_unlikeLetters 16 = .ok (.iload_n 3, 1) := by decide +kernel
theorem dX1_unlikeLetters_17 : decode cX1_unlikeLetters 17 = .ok (.bipush 26, 2) := by decide +kernel
theorem dX1_unlikeLetters_19 : decode cX1_unlikeLetters 19 = .ok (.irem, 1) := by decide +kernel
theorem dX1_unlikeLetters_20 : decode cX1_unlikeLetters 20 = .ok (.iload 4, 2) := by decide +kernel
theorem dX1_unlikeLetters_22 : decode cX1_unlikeLetters 22 = .ok (.bipush 26, 2) := by decide +kernel
theorem dX1_unlikeLetters_24 : decode cX1_unlikeLetters 24 = .ok (.irem, 1) := by decide +kernel
theorem dX1_unlikeLetters_25 : decode cX1_unlikeLetters 25 = .ok (.if_icmp .eq 6, 3) := by decide +kernel
theorem dX1_unlikeLetters_28 : decode cX1_unlikeLetters 28 = .ok (.iinc 2 1, 3) := by decide +kernel
theorem dX1_unlikeLetters_31 : decode cX1_unlikeLetters 31 = .ok (.iload_n 3, 1) := by decide +kernel
theorem dX1_unlikeLetters_32 : decode cX1_unlikeLetters 32 = .ok (.bipush 26, 2) := by decide +kernel
theorem dX1_unlikeLetters_34 : decode cX1_unlikeLetters 34 = .ok (.idiv, 1) := by decide +kernel
theorem dX1_unlikeLetters_35 : decode cX1_unlikeLetters 35 = .ok (.istore_n 3, 1) := by decide +kernel
theorem dX1_unlikeLetters_36 : decode cX1_unlikeLetters 36 = .ok (.iload 4, 2) := by decide +kernel
theorem dX1_unlikeLetters_38 : decode cX1_unlikeLetters 38 = .ok (.bipush 26, 2) := by decide +kernel
theorem dX1_unlikeLetters_40 : decode cX1_unlikeLetters 40 = .ok (.idiv, 1) := by decide +kernel
theorem dX1_unlikeLetters_41 : decode cX1_unlikeLetters 41 = .ok (.istore 4, 2) := by decide +kernel
theorem dX1_unlikeLetters_43 : decode cX1_unlikeLetters 43 = .ok (.iinc 5 1, 3) := by decide +kernel
theorem dX1_unlikeLetters_46 : decode cX1_unlikeLetters 46 = .ok (.goto (-36), 3) := by decide +kernel
theorem dX1_unlikeLetters_49 : decode cX1_unlikeLetters 49 = .ok (.iload_n 2, 1) := by decide +kernel
theorem dX1_unlikeLetters_50 : decode cX1_unlikeLetters 50 = .ok (.ireturn, 1) := by decide +kernel
theorem dX2_init_0 : decode cX2_init 0 = .ok (.aload_n 0, 1) := by decide +kernel
theorem dX2_init_1 : decode cX2_init 1 = .ok (.invokespecial 3, 3) := by decide +kernel
theorem dX2_init_4 : decode cX2_init 4 = .ok (.aload_n 0, 1) := by decide +kernel
theorem dX2_init_5 : decode cX2_init 5 = .ok (.bipush 20, 2) := by decide +kernel
theorem dX2_init_7 : decode cX2_init 7 = .ok (.newarray .int, 2) := by decide +kernel
theorem dX2_init_9 : decode cX2_init 9 = .ok (.putfield 11, 3) := by decide +kernel
theorem dX2_init_12 : decode cX2_init 12 = .ok (.aload_n 0, 1) := by decide +kernel
theorem dX2_init_13 : decode cX2_init 13 = .ok (.bipush 20, 2) := by decide +kernel
theorem dX2_init_15 : decode cX2_init 15 = .ok (.newarray .int, 2) := by decide +kernel
theorem dX2_init_17 : decode cX2_init 17 = .ok (.putfield 17, 3) := by decide +kernel
theorem dX2_init_20 : decode cX2_init 20 = .ok (.aload_n 0, 1) := by decide +kernel
theorem dX2_init_21 : decode cX2_init 21 = .ok (.aload_n 1, 1) := by decide +kernel
theorem dX2_init_22 : decode cX2_init 22 = .ok (.putfield 20, 3) := by decide +kernel
theorem dX2_init_25 : decode cX2_init 25 = .ok (.aload_n 0, 1) := by decide +kernel
theorem dX2_init_26 : decode cX2_init 26 = .ok (.aload_n 2, 1) := by decide +kernel
theorem dX2_init_27 : decode cX2_init 27 = .ok (.putfield 24, 3) := by decide +kernel
theorem dX2_init_30 : decode cX2_init 30 = .ok (.return_, 1) := by decide +kernel
theorem dX2_parse_0 : decode cX2_parse 0 = .ok (.aload_n 0, 1) := by decide +kernel
theorem dX2_parse_1 : decode cX2_parse 1 = .ok (.getfield 24, 3) := by decide +kernel
theorem dX2_parse_4 : decode cX2_parse 4 = .ok (.invokevirtual 28, 3) := by decide +kernel
theorem dX2_parse_7 : decode cX2_parse 7 = .ok (.aload_n 0, 1) := by decide +kernel
theorem dX2_parse_8 : decode cX2_parse 8 = .ok (.iconst 0, 1) := by decide +kernel
theorem dX2_parse_9 : decode cX2_parse 9 = .ok (.putfield 31, 3) := by decide +kernel
theorem dX2_parse_12 : decode cX2_parse 12 = .ok (.aload_n 0, 1) := by decide +kernel
theorem dX2_parse_13 : decode cX2_parse 13 = .ok (.invokevirtual 35, 3) := by decide +kernel
theorem dX2_parse_16 : decode cX2_parse 16 = .ok (.aload_n 0, 1) := by decide +kernel
theorem dX2_parse_17 : decode cX2_parse 17 = .ok (.getfield 38, 3) := by decide +kernel
theorem dX2_parse_20 : decode cX2_parse 20 = .ok (.ifCond .ne 8, 3) := by decide +kernel
theorem dX2_parse_23 : decode cX2_parse 23 = .ok (.aload_n 0, 1) := by decide +kernel
theorem dX2_parse_24 : decode cX2_parse 24 = .ok (.getfield 41, 3) := by decide +kernel
theorem dX2_parse_27 : decode cX2_parse 27 = .ok (.ireturn, 1) := by decide +kernel
theorem dX2_parse_28 : decode cX2_parse 28 = .ok (.iconst 0, 1) := by decide +kernel
theorem dX2_parse_29 : decode cX2_parse 29 = .ok (.istore_n 1, 1) := by decide +kernel
theorem dX2_parse_30 : decode cX2_parse 30 = .ok (.iload_n 1, 1) := by decide +kernel
theorem dX2_parse_31 : decode cX2_parse 31 = .ok (.sipush 500, 3) := by decide +kernel
theorem dX2_parse_34 : decode cX2_parse 34 = .ok (.if_icmp .ge 28, 3) := by decide +kernel
theorem dX2_parse_37 : decode cX2_parse 37 = .ok (.aload_n 0, 1) := by decide +kernel
theorem dX2_parse_38 : decode cX2_parse 38 = .ok (.getfield 38, 3) := by decide +kernel
theorem dX2_parse_41 : decode cX2_parse 41 = .ok (.ifCond .eq 21, 3) := by decide +kernel
theorem dX2_parse_44 : decode cX2_parse 44 = .ok (.aload_n 0, 1) := by decide +kernel
theorem dX2_parse_45 : decode cX2_parse 45 = .ok (.invokevirtual 46, 3) := by decide +kernel
theorem dX2_parse_48 : decode cX2_parse 48 = .ok (.ifCond .ne 8, 3) := by decide +kernel
theorem dX2_parse_51 : decode cX2_parse 51 = .ok (.aload_n 0, 1) := by decide +kernel
theorem dX2_parse_52 : decode cX2_parse 52 = .ok (.getfield 41, 3) := by decide +kernel
theorem dX2_parse_55 : decode cX2_parse 55 = .ok (.ireturn, 1) := by decide +kernel
theorem dX2_parse_56 : decode cX2_parse 56 = .ok (.iinc 1 1, 3) := by decide +kernel
theorem dX2_parse_59 : decode cX2_parse 59 = .ok (.goto (-29), 3) := by decide +kernel
theorem dX2_parse_62 : decode cX2_parse 62 = .ok (.iconst (-1), 1) := by decide +kernel
theorem dX2_parse_63 : decode cX2_parse 63 = .ok (.ireturn, 1) := by decide +kernel
theorem dX2_parseLine_0 : decode cX2_parseLine 0 = .ok (.aload_n 0, 1) := by decide +kernel
theorem dX2_parseLine_1 : decode cX2_parseLine 1 = .ok (.ldc 50, 2) := by decide +kernel
theorem dX2_parseLine_3 : decode cX2_parseLine 3 = .ok (.invokevirtual 52, 3) := by decide +kernel
theorem dX2_parseLine_6 : decode cX2_parseLine 6 = .ok (.ifCond .eq 8, 3) := by decide +kernel
theorem dX2_parseLine_9 : decode cX2_parseLine 9 = .ok (.aload_n 0, 1) := by decide +kernel
theorem dX2_parseLine_10 : decode cX2_parseLine 10 = .ok (.invokevirtual 56, 3) := by decide +kernel
theorem dX2_parseLine_13 : decode cX2_parseLine 13 = .ok (.ireturn, 1) := by decide +kernel
theorem dX2_parseLine_14 : decode cX2_parseLine 14 = .ok (.aload_n 0, 1) := by decide +kernel
theorem dX2_parseLine_15 : decode cX2_parseLine 15 = .ok (.ldc 59, 2) := by decide +kernel
theorem dX2_parseLine_17 : decode cX2_parseLine 17 = .ok (.invokevirtual 52, 3) := by decide +kernel
theorem dX2_parseLine_20 : decode cX2_parseLine 20 = .ok (.ifCond .eq 24, 3) := by decide +kernel
theorem dX2_parseLine_23 : decode cX2_parseLine 23 = .ok (.aload_n 0, 1) := by decide +kernel
theorem dX2_parseLine_24 : decode cX2_parseLine 24 = .ok (.getfield 24, 3) := by decide +kernel
theorem dX2_parseLine_27 : decode cX2_parseLine 27 = .ok (.invokevirtual 61, 3) := by decide +kernel
theorem dX2_parseLine_30 : decode cX2_parseLine 30 = .ok (.ifCond .eq 14, 3) := by decide +kernel
theorem dX2_parseLine_33 : decode cX2_parseLine 33 = .ok (.aload_n 0, 1) := by decide +kernel
theorem dX2_parseLine_34 : decode cX2_parseLine 34 = .ok (.invokevirtual 64, 3) := by decide +kernel
theorem dX2_parseLine_37 : decode cX2_parseLine 37 = .ok (.ifCond .eq 7, 3) := by decide +kernel
theorem dX2_parseLine_40 : decode cX2_parseLine 40 = .ok (.iconst 1, 1) := by decide +kernel
theorem dX2_parseLine_41 : decode cX2_parseLine 41 = .ok (.goto 4, 3) := by decide +kernel
theorem dX2_parseLine_44 : decode cX2_parseLine 44 = .ok (.iconst 0, 1) := by decide +kernel
theorem dX2_parseLine_45 : decode cX2_parseLine 45 = .ok (.ireturn, 1) := by decide +kernel
theorem dX2_parseLetter_0 : decode cX2_parseLetter 0 = .ok (.aload_n 0, 1) := by decide +kernel
theorem dX2_parseLetter_1 : decode cX2_parseLetter 1 = .ok (.invokevirtual 35, 3) := by decide +kernel
theorem dX2_parseLetter_4 : decode cX2_parseLetter 4 = .ok (.aload_n 0, 1) := by decide +kernel
theorem dX2_parseLetter_5 : decode cX2_parseLetter 5 = .ok (.getfield 20, 3) := by decide +kernel
theorem dX2_parseLetter_8 : decode cX2_parseLetter 8 = .ok (.aload_n 0, 1) := by decide +kernel
theorem dX2_parseLetter_9 : decode cX2_parseLetter 9 = .ok (.getfield 41, 3) := by decide +kernel
theorem dX2_parseLetter_12 : decode cX2_parseLetter 12 = .ok (.invokevirtual 67, 3) := by decide +kernel
theorem dX2_parseLetter_15 : decode cX2_parseLetter 15 = .ok (.bipush 97, 2) := by decide +kernel
theorem dX2_parseLetter_17 : decode cX2_parseLetter 17 = .ok (.isub, 1) := by decide +kernel
theorem dX2_parseLetter_18 : decode cX2_parseLetter 18 = .ok (.istore_n 1, 1) := by decide +kernel
theorem dX2_parseLetter_19 : decode cX2_parseLetter 19 = .ok (.aload_n 0, 1) := by decide +kernel
theorem dX2_parseLetter_20 : decode cX2_parseLetter 20 = .ok (.getfield 38, 3) := by decide +kernel
theorem dX2_parseLetter_23 : decode cX2_parseLetter 23 = .ok (.iconst 1, 1) := by decide +kernel
theorem dX2_parseLetter_24 : decode cX2_parseLetter 24 = .ok (.if_icmp .ne 22, 3) := by decide +kernel
theorem dX2_parseLetter_27 : decode cX2_parseLetter 27 = .ok (.aload_n 0, 1) := by decide +kernel
theorem dX2_parseLetter_28 : decode cX2_parseLetter 28 = .ok (.invokevirtual 71, 3) := by decide +kernel
theorem dX2_parseLetter_31 : decode cX2_parseLetter 31 = .ok (.iconst 1, 1) := by decide +kernel
theorem dX2_parseLetter_32 : decode cX2_parseLetter 32 = .ok (.if_icmp .ne 14, 3) := by decide +kernel
theorem dX2_parseLetter_35 : decode cX2_parseLetter 35 = .ok (.aload_n 0, 1) := by decide +kernel
theorem dX2_parseLetter_36 : decode cX2_parseLetter 36 = .ok (.getfield 24, 3) := by decide +kernel
theorem dX2_parseLetter_39 : decode cX2_parseLetter 39 = .ok (.iload_n 1, 1) := by decide +kernel
theorem dX2_parseLetter_40 : decode cX2_parseLetter 40 = .ok (.invokevirtual 75, 3) := by decide +kernel
theorem dX2_parseLetter_43 : decode cX2_parseLetter 43 = .ok (.ifCond .eq 5, 3) := by decide +kernel
theorem dX2_parseLetter_46 : decode cX2_parseLetter 46 = .ok (.iconst 0, 1) := by decide +kernel
theorem dX2_parseLetter_47 : decode cX2_parseLetter 47 = .ok (.ireturn, 1) := by decide +kernel
theorem dX2_parseLetter_48 : decode cX2_parseLetter 48 = .ok (.aload_n 0, 1) := by decide +kernel
theorem dX2_parseLetter_49 : decode cX2_parseLetter 49 = .ok (.invokevirtual 35, 3) := by decide +kernel
theorem dX2_parseLetter_52 : decode cX2_parseLetter 52 = .ok (.aload_n 0, 1) := by decide +kernel
theorem dX2_parseLetter_53 : decode cX2_parseLetter 53 = .ok (.invokevirtual 79, 3) := by decide +kernel
theorem dX2_parseLetter_56 : decode cX2_parseLetter 56 = .ok (.istore_n 2, 1) := by decide +kernel
theorem dX2_parseLetter_57 : decode cX2_parseLetter 57 = .ok (.iload_n 2, 1) := by decide +kernel
theorem dX2_parseLetter_58 : decode cX2_parseLetter 58 = .ok (.iconst (-1), 1) := by decide +kernel
theorem dX2_parseLetter_59 : decode cX2_parseLetter 59 = .ok (.if_icmp .eq 14, 3) := by decide +kernel
theorem dX2_parseLetter_62 : decode cX2_parseLetter 62 = .ok (.aload_n 0, 1) := by decide +kernel
theorem dX2_parseLetter_63 : decode cX2_parseLetter 63 = .ok (.getfield 24, 3) := by decide +kernel
theorem dX2_parseLetter_66 : decode cX2_parseLetter 66 = .ok (.iload_n 2, 1) := by decide +kernel
theorem dX2_parseLetter_67 : decode cX2_parseLetter 67 = .ok (.invokevirtual 82, 3) := by decide +kernel
theorem dX2_parseLetter_70 : decode cX2_parseLetter 70 = .ok (.ifCond .eq 5, 3) := by decide +kernel
theorem dX2_parseLetter_73 : decode cX2_parseLetter 73 = .ok (.iconst 0, 1) := by decide +kernel
theorem dX2_parseLetter_74 : decode cX2_parseLetter 74 = .ok (.ireturn, 1) := by decide +kernel
theorem dX2_parseLetter_75 : decode cX2_parseLetter 75 = .ok (.aload_n 0, 1) := by decide +kernel
theorem dX2_parseLetter_76 : decode cX2_parseLetter 76 = .ok (.invokevirtual 35, 3) := by decide +kernel
theorem dX2_parseLetter_79 : decode cX2_parseLetter 79 = .ok (.aload_n 0, 1) := by decide +kernel
theorem dX2_parseLetter_80 : decode cX2_parseLetter 80 = .ok (.getfield 38, 3) := by decide +kernel
theorem dX2_parseLetter_83 : decode cX2_parseLetter 83 = .ok (.iconst 3, 1) := by decide +kernel
theorem dX2_parseLetter_84 : decode cX2_parseLetter 84 = .ok (.if_icmp .eq 5, 3) := by decide +kernel
theorem dX2_parseLetter_87 : decode cX2_parseLetter 87 = .ok (.iconst 0, 1) := by decide +kernel
theorem dX2_parseLetter_88 : decode cX2_parseLetter 88 = .ok (.ireturn, 1) := by decide +kernel
theorem dX2_parseLetter_89 : decode cX2_parseLetter 89 = .ok (.aload_n 0, 1) := by decide +kernel
theorem dX2_parseLetter_90 : decode cX2_parseLetter 90 = .ok (.getfield 24, 3) := by decide +kernel
theorem dX2_parseLetter_93 : decode cX2_parseLetter 93 = .ok (.iload_n 1, 1) := by decide +kernel
theorem dX2_parseLetter_94 : decode cX2_parseLetter 94 = .ok (.iload_n 2, 1) := by decide +kernel
theorem dX2_parseLetter_95 : decode cX2_parseLetter 95 = .ok (.invokevirtual 85, 3) := by decide +kernel
theorem dX2_parseLetter_98 : decode cX2_parseLetter 98 = .ok (.aload_n 0, 1) := by decide +kernel
theorem dX2_parseLetter_99 : decode cX2_parseLetter 99 = .ok (.invokevirtual 35, 3) := by decide +kernel
theorem dX2_parseLetter_102 : decode cX2_parseLetter 102 = .ok (.iconst 1, 1) := by decide +kernel
theorem dX2_parseLetter_103 : decode cX2_parseLetter 103 = .ok (.ireturn, 1) := by decide +kernel
theorem dX2_parseWord_0 : decode cX2_parseWord 0 = .ok (.aload_n 0, 1) := by decide +kernel
theorem dX2_parseWord_1 : decode cX2_parseWord 1 = .ok (.invokevirtual 35, 3) := by decide +kernel
theorem dX2_parseWord_4 : decode cX2_parseWord 4 = .ok (.aload_n 0, 1) := by decide +kernel
theorem dX2_parseWord_5 : decode cX2_parseWord 5 = .ok (.aload_n 0, 1) := by decide +kernel
theorem dX2_parseWord_6 : decode cX2_parseWord 6 = .ok (.getfield 24, 3) := by decide +kernel
theorem dX2_parseWord_9 : decode cX2_parseWord 9 = .ok (.invokevirtual 89, 3) := by decide +kernel
theorem dX2_parseWord_12 : decode cX2_parseWord 12 = .ok (.invokevirtual 92, 3) := by decide +kernel
theorem dX2_parseWord_15 : decode cX2_parseWord 15 = .ok (.ifCond .ne 5, 3) := by decide +kernel
theorem dX2_parseWord_18 : decode cX2_parseWord 18 = .ok (.iconst 0, 1) := by decide +kernel
theorem dX2_parseWord_19 : decode cX2_parseWord 19 = .ok (.ireturn, 1) := by decide +kernel
theorem dX2_parseWord_20 : decode cX2_parseWord 20 = .ok (.aload_n 0, 1) := by decide +kernel
theorem dX2_parseWord_21 : decode cX2_parseWord 21 = .ok (.aload_n 0, 1) := by decide +kernel
theorem dX2_parseWord_22 : decode cX2_parseWord 22 = .ok (.getfield 24, 3) := by decide +kernel
theorem dX2_parseWord_25 : decode cX2_parseWord 25 = .ok (.invokevirtual 89, 3) := by decide +kernel
theorem dX2_parseWord_28 : decode cX2_parseWord 28 = .ok (.invokevirtual 95, 3) := by decide +kernel
theorem dX2_parseWord_31 : decode cX2_parseWord 31 = .ok (.aload_n 0, 1) := by decide +kernel
theorem dX2_parseWord_32 : decode cX2_parseWord 32 = .ok (.invokevirtual 35, 3) := by decide +kernel
theorem dX2_parseWord_35 : decode cX2_parseWord 35 = .ok (.aload_n 0, 1) := by decide +kernel
theorem dX2_parseWord_36 : decode cX2_parseWord 36 = .ok (.ldc 99, 2) := by decide +kernel
theorem dX2_parseWord_38 : decode cX2_parseWord 38 = .ok (.invokevirtual 52, 3) := by decide +kernel
theorem dX2_parseWord_41 : decode cX2_parseWord 41 = .ok (.ifCond .ne 5, 3) := by decide +kernel
theorem dX2_parseWord_44 : decode cX2_parseWord 44 = .ok (.iconst 0, 1) := by decide +kernel
theorem dX2_parseWord_45 : decode cX2_parseWord 45 = .ok (.ireturn, 1) := by decide +kernel
theorem dX2_parseWord_46 : decode cX2_parseWord 46 = .ok (.aload_n 0, 1) := by decide +kernel
theorem dX2_parseWord_47 : decode cX2_parseWord 47 = .ok (.invokevirtual 35, 3) := by decide +kernel
theorem dX2_parseWord_50 : decode cX2_parseWord 50 = .ok (.aload_n 0, 1) := by decide +kernel
theorem dX2_parseWord_51 : decode cX2_parseWord 51 = .ok (.invokevirtual 101, 3) := by decide +kernel
theorem dX2_parseWord_54 : decode cX2_parseWord 54 = .ok (.istore_n 1, 1) := by decide +kernel
theorem dX2_parseWord_55 : decode cX2_parseWord 55 = .ok (.iload_n 1, 1) := by decide +kernel
theorem dX2_parseWord_56 : decode cX2_parseWord 56 = .ok (.iconst (-1), 1) := by decide +kernel
theorem dX2_parseWord_57 : decode cX2_parseWord 57 = .ok (.if_icmp .eq 14, 3) := by decide +kernel
theorem dX2_parseWord_60 : decode cX2_parseWord 60 = .ok (.aload_n 0, 1) := by decide +kernel
theorem dX2_parseWord_61 : decode cX2_parseWord 61 = .ok (.getfield 24, 3) := by decide +kernel
theorem dX2_parseWord_64 : decode cX2_parseWord 64 = .ok (.iload_n 1, 1) := by decide +kernel
theorem dX2_parseWord_65 : decode cX2_parseWord 65 = .ok (.invokevirtual 104, 3) := by decide +kernel
theorem dX2_parseWord_68 : decode cX2_parseWord 68 = .ok (.ifCond .eq 5, 3) := by decide +kernel
theorem dX2_parseWord_71 : decode cX2_parseWord 71 = .ok (.iconst 0, 1) := by decide +kernel
theorem dX2_parseWord_72 : decode cX2_parseWord 72 = .ok (.ireturn, 1) := by decide +kernel
theorem dX2_parseWord_73 : decode cX2_parseWord 73 = .ok (.aload_n 0, 1) := by decide +kernel
theorem dX2_parseWord_74 : decode cX2_parseWord 74 = .ok (.invokevirtual 35, 3) := by decide +kernel
theorem dX2_parseWord_77 : decode cX2_parseWord 77 = .ok (.aload_n 0, 1) := by decide +kernel
theorem dX2_parseWord_78 : decode cX2_parseWord 78 = .ok (.getfield 38, 3) := by decide +kernel
theorem dX2_parseWord_81 : decode cX2_parseWord 81 = .ok (.iconst 3, 1) := by decide +kernel
theorem dX2_parseWord_82 : decode cX2_parseWord 82 = .ok (.if_icmp .eq 5, 3) := by decide +kernel
theorem dX2_parseWord_85 : decode cX2_parseWord 85 = .ok (.iconst 0, 1) := by decide +kernel
theorem dX2_parseWord_86 : decode cX2_parseWord 86 = .ok (.ireturn, 1) := by decide +kernel
theorem dX2_parseWord_87 : decode cX2_parseWord 87 = .ok (.aload_n 0, 1) := by decide +kernel
theorem dX2_parseWord_88 : decode cX2_parseWord 88 = .ok (.getfield 24, 3) := by decide +kernel
theorem dX2_parseWord_91 : decode cX2_parseWord 91 = .ok (.iload_n 1, 1) := by decide +kernel
theorem dX2_parseWord_92 : decode cX2_parseWord 92 = .ok (.invokevirtual 107, 3) := by decide +kernel
theorem dX2_parseWord_95 : decode cX2_parseWord 95 = .ok (.aload_n 0, 1) := by decide +kernel
theorem dX2_parseWord_96 : decode cX2_parseWord 96 = .ok (.invokevirtual 35, 3) := by decide +kernel
theorem dX2_parseWord_99 : decode cX2_parseWord 99 = .ok (.iconst 1, 1) := by decide +kernel
theorem dX2_parseWord_100 : decode cX2_parseWord 100 = .ok (.ireturn, 1) := by decide +kernel
theorem dX2_step_0 : decode cX2_step 0 = .ok (.aload_n 0, 1) := by decide +kernel
theorem dX2_step_1 : decode cX2_step 1 = .ok (.getfield 31, 3) := by decide +kernel
theorem dX2_step_4 : decode cX2_step 4 = .ok (.istore_n 1, 1) := by decide +kernel
theorem dX2_step_5 : decode cX2_step 5 = .ok (.iload_n 1, 1) := by decide +kernel
theorem dX2_step_6 : decode cX2_step 6 = .ok (.aload_n 0, 1) := by decide +kernel
theorem dX2_step_7 : decode cX2_step 7 = .ok (.getfield 20, 3) := by decide +kernel
theorem dX2_step_10 : decode cX2_step 10 = .ok (.invokevirtual 110, 3) := by decide +kernel
theorem dX2_step_13 : decode cX2_step 13 = .ok (.if_icmp .ge 35, 3) := by decide +kernel
theorem dX2_step_16 : decode cX2_step 16 = .ok (.aload_n 0, 1) := by decide +kernel
theorem dX2_step_17 : decode cX2_step 17 = .ok (.getfield 20, 3) := by decide +kernel
theorem dX2_step_20 : decode cX2_step 20 = .ok (.iload_n 1, 1) := by decide +kernel
theorem dX2_step_21 : decode cX2_step 21 = .ok (.invokevirtual 67, 3) := by decide +kernel
theorem dX2_step_24 : decode cX2_step 24 = .ok (.bipush 32, 2) := by decide +kernel
theorem dX2_step_26 : decode cX2_step 26 = .ok (.if_icmp .eq 16, 3) := by decide +kernel
theorem dX2_step_29 : decode cX2_step 29 = .ok (.aload_n 0, 1) := by decide +kernel
theorem dX2_step_30 : decode cX2_step 30 = .ok (.getfield 20, 3) := by decide +kernel
theorem dX2_step_33 : decode cX2_step 33 = .ok (.iload_n 1, 1) := by decide +kernel
theorem dX2_step_34 : decode cX2_step 34 = .ok (.invokevirtual 67, 3) := by decide +kernel
theorem dX2_step_37 : decode cX2_step 37 = .ok (.bipush 10, 2) := by decide +kernel
theorem dX2_step_39 : decode cX2_step 39 = .ok (.if_icmp .ne 9, 3) := by decide +kernel
theorem dX2_step_42 : decode cX2_step 42 = .ok (.iinc 1 1, 3) := by decide +kernel
theorem dX2_step_45 : decode cX2_step 45 = .ok (.goto (-40), 3) := by decide +kernel
theorem dX2_step_48 : decode cX2_step 48 = .ok (.aload_n 0, 1) := by decide +kernel
theorem dX2_step_49 : decode cX2_step 49 = .ok (.iload_n 1, 1) := by decide +kernel
theorem dX2_step_50 : decode cX2_step 50 = .ok (.putfield 41, 3) := by decide +kernel
theorem dX2_step_53 : decode cX2_step 53 = .ok (.aload_n 0, 1) := by decide +kernel
theorem dX2_step_54 : decode cX2_step 54 = .ok (.aload_n 0, 1) := by decide +kernel
theorem dX2_step_55 : decode cX2_step 55 = .ok (.iload_n 1, 1) := by decide +kernel
theorem dX2_step_56 : decode cX2_step 56 = .ok (.invokevirtual 113, 3) := by decide +kernel
theorem dX2_step_59 : decode cX2_step 59 = .ok (.putfield 38, 3) := by decide +kernel
theorem dX2_step_62 : decode cX2_step 62 = .ok (.aload_n 0, 1) := by decide +kernel
theorem dX2_step_63 : decode cX2_step 63 = .ok (.getfield 38, 3) := by decide +kernel
theorem dX2_step_66 : decode cX2_step 66 = .ok (.ifCond .ne 9, 3) := by decide +kernel
theorem dX2_step_69 : decode cX2_step 69 = .ok (.aload_n 0, 1) := by decide +kernel
theorem dX2_step_70 : decode cX2_step 70 = .ok (.iload_n 1, 1) := by decide +kernel
theorem dX2_step_71 : decode cX2_step 71 = .ok (.putfield 31, 3) := by decide +kernel
theorem dX2_step_74 : decode cX2_step 74 = .ok (.return_, 1) := by decide +kernel
theorem dX2_step_75 : decode cX2_step 75 = .ok (.iinc 1 1, 3) := by decide +kernel
theorem dX2_step_78 : decode cX2_step 78 = .ok (.aload_n 0, 1) := by decide +kernel
theorem dX2_step_79 : decode cX2_step 79 = .ok (.getfield 38, 3) := by decide +kernel
theorem dX2_step_82 : decode cX2_step 82 = .ok (.iconst 1, 1) := by decide +kernel
theorem dX2_step_83 : decode cX2_step 83 = .ok (.if_icmp .eq 11, 3) := by decide +kernel
theorem dX2_step_86 : decode cX2_step 86 = .ok (.aload_n 0, 1) := by decide +kernel
theorem dX2_step_87 : decode cX2_step 87 = .ok (.getfield 38, 3) := by decide +kernel
theorem dX2_step_90 : decode cX2_step 90 = .ok (.iconst 2, 1) := by decide +kernel
theorem dX2_step_91 : decode cX2_step 91 = .ok (.if_icmp .ne 32, 3) := by decide +kernel
theorem dX2_step_94 : decode cX2_step 94 = .ok (.iload_n 1, 1) := by decide +kernel
theorem dX2_step_95 : decode cX2_step 95 = .ok (.aload_n 0, 1) := by decide +kernel
theorem dX2_step_96 : decode cX2_step 96 = .ok (.getfield 20, 3) := by decide +kernel
theorem dX2_step_99 : decode cX2_step 99 = .ok (.invokevirtual 110, 3) := by decide +kernel
theorem dX2_step_102 : decode cX2_step 102 = .ok (.if_icmp .ge 21, 3) := by decide +kernel
theorem dX2_step_105 : decode cX2_step 105 = .ok (.aload_n 0, 1) := by decide +kernel
theorem dX2_step_106 : decode cX2_step 106 = .ok (.iload_n 1, 1) := by decide +kernel
theorem dX2_step_107 : decode cX2_step 107 = .ok (.invokevirtual 113, 3) := by decide +kernel
theorem dX2_step_110 : decode cX2_step 110 = .ok (.aload_n 0, 1) := by decide +kernel
theorem dX2_step_111 : decode cX2_step 111 = .ok (.getfield 38, 3) := by decide +kernel
theorem dX2_step_114 : decode cX2_step 114 = .ok (.if_icmp .ne 9, 3) := by decide +kernel
theorem dX2_step_117 : decode cX2_step 117 = .ok (.iinc 1 1, 3) := by decide +kernel
theorem dX2_step_120 : decode cX2_step 120 = .ok (.goto (-26), 3) := by decide +kernel
theorem dX2_step_123 : decode cX2_step 123 = .ok (.aload_n 0, 1) := by decide +kernel
theorem dX2_step_124 : decode cX2_step 124 = .ok (.iload_n 1, 1) := by decide +kernel
theorem dX2_step_125 : decode cX2_step 125 = .ok (.putfield 31, 3) := by decide +kernel
theorem dX2_step_128 : decode cX2_step 128 = .ok (.return_, 1) := by decide +kernel
theorem dX2_kindAt_0 : decode cX2_kindAt 0 = .ok (.aload_n 0, 1) := by decide +kernel
theorem dX2_kindAt_1 : decode cX2_kindAt 1 = .ok (.getfield 20, 3) := by decide +kernel
theorem dX2_kindAt_4 : decode cX2_kindAt 4 = .ok (.iload_n 1, 1) := by decide +kernel
theorem dX2_kindAt_5 : decode cX2_kindAt 5 = .ok (.invokevirtual 67, 3) := by decide +kernel
theorem dX2_kindAt_8 : decode cX2_kindAt 8 = .ok (.istore_n 2, 1) := by decide +kernel
theorem dX2_kindAt_9 : decode cX2_kindAt 9 = .ok (.iload_n 2, 1) := by decide +kernel
theorem dX2_kindAt_10 : decode cX2_kindAt 10 = .ok (.iconst (-1), 1) := by decide +kernel
theorem dX2_kindAt_11 : decode cX2_kindAt 11 = .ok (.if_icmp .ne 5, 3) := by decide +kernel
theorem dX2_kindAt_14 : decode cX2_kindAt 14 = .ok (.iconst 0, 1) := by decide +kernel
theorem dX2_kindAt_15 : decode cX2_kindAt 15 = .ok (.ireturn, 1) := by decide +kernel
theorem dX2_kindAt_16 : decode cX2_kindAt 16 = .ok (.iload_n 2, 1) := by decide +kernel
theorem dX2_kindAt_17 : decode cX2_kindAt 17 = .ok (.bipush 97, 2) := by decide +kernel
theorem dX2_kindAt_19 : decode cX2_kindAt 19 = .ok (.if_icmp .lt 11, 3) := by decide +kernel
theorem dX2_kindAt_22 : decode cX2_kindAt 22 = .ok (.iload_n 2, 1) := by decide +kernel
theorem dX2_kindAt_23 : decode cX2_kindAt 23 = .ok (.bipush 122, 2) := by decide +kernel
theorem dX2_kindAt_25 : decode cX2_kindAt 25 = .ok (.if_icmp .gt 5, 3) := by decide +kernel
theorem dX2_kindAt_28 : decode cX2_kindAt 28 = .ok (.iconst 1, 1) := by decide +kernel
theorem dX2_kindAt_29 : decode cX2_kindAt 29 = .ok (.ireturn, 1) := by decide +kernel
theorem dX2_kindAt_30 : decode cX2_kindAt 30 = .ok (.iload_n 2, 1) := by decide +kernel
theorem dX2_kindAt_31 : decode cX2_kindAt 31 = .ok (.bipush 48, 2) := by decide +kernel
theorem dX2_kindAt_33 : decode cX2_kindAt 33 = .ok (.if_icmp .lt 11, 3) := by decide +kernel
theorem dX2_kindAt_36 : decode cX2_kindAt 36 = .ok (.iload_n 2, 1) := by decide +kernel
theorem dX2_kindAt_37 : decode cX2_kindAt 37 = .ok (.bipush 57, 2) := by decide +kernel
theorem dX2_kindAt_39 : decode cX2_kindAt 39 = .ok (.if_icmp .gt 5, 3) := by decide +kernel
theorem dX2_kindAt_42 : decode cX2_kindAt 42 = .ok (.iconst 2, 1) := by decide +kernel
theorem dX2_kindAt_43 : decode cX2_kindAt 43 = .ok (.ireturn, 1) := by decide +kernel
theorem dX2_kindAt_44 : decode cX2_kindAt 44 = .ok (.iload_n 2, 1) := by decide +kernel
theorem dX2_kindAt_45 : decode cX2_kindAt 45 = .ok (.bipush 59, 2) := by decide +kernel
theorem dX2_kindAt_47 : decode cX2_kindAt 47 = .ok (.if_icmp .ne 7, 3) := by decide +kernel
theorem dX2_kindAt_50 : decode cX2_kindAt 50 = .ok (.iconst 3, 1) := by decide +kernel
theorem dX2_kindAt_51 : decode cX2_kindAt 51 = .ok (.goto 4, 3) := by decide +kernel
theorem dX2_kindAt_54 : decode cX2_kindAt 54 = .ok (.iconst 4, 1) := by decide +kernel
theorem dX2_kindAt_55 : decode cX2_kindAt 55 = .ok (.ireturn, 1) := by decide +kernel
theorem dX2_tokenSize_0 : decode cX2_tokenSize 0 = .ok (.aload_n 0, 1) := by decide +kernel
theorem dX2_tokenSize_1 : decode cX2_tokenSize 1 = .ok (.getfield 31, 3) := by decide +kernel
theorem dX2_tokenSize_4 : decode cX2_tokenSize 4 = .ok (.aload_n 0, 1) := by decide +kernel
theorem dX2_tokenSize_5 : decode cX2_tokenSize 5 = .ok (.getfield 41, 3) := by decide +kernel
theorem dX2_tokenSize_8 : decode cX2_tokenSize 8 = .ok (.isub, 1) := by decide +kernel
theorem dX2_tokenSize_9 : decode cX2_tokenSize 9 = .ok (.ireturn, 1) := by decide +kernel
theorem dX2_isWord_0 : decode cX2_isWord 0 = .ok (.aload_n 0, 1) := by decide +kernel
theorem dX2_isWord_1 : decode cX2_isWord 1 = .ok (.getfield 38, 3) := by decide +kernel
theorem dX2_isWord_4 : decode cX2_isWord 4 = .ok (.iconst 1, 1) := by decide +kernel
theorem dX2_isWord_5 : decode cX2_isWord 5 = .ok (.if_icmp .ne 14, 3) := by decide +kernel
theorem dX2_isWord_8 : decode cX2_isWord 8 = .ok (.aload_n 0, 1) := by decide +kernel
theorem dX2_isWord_9 : decode cX2_isWord 9 = .ok (.invokevirtual 71, 3) := by decide +kernel
theorem dX2_isWord_12 : decode cX2_isWord 12 = .ok (.aload_n 1, 1) := by decide +kernel
theorem dX2_isWord_13 : decode cX2_isWord 13 = .ok (.invokevirtual 116, 3) := by decide +kernel
theorem dX2_isWord_16 : decode cX2_isWord 16 = .ok (.if_icmp .eq 5, 3) := by decide +kernel
theorem dX2_isWord_19 : decode cX2_isWord 19 = .ok (.iconst 0, 1) := by decide +kernel
theorem dX2_isWord_20 : decode cX2_isWord 20 = .ok (.ireturn, 1) := by decide +kernel
theorem dX2_isWord_21 : decode cX2_isWord 21 = .ok (.iconst 0, 1) := by decide +kernel
theorem dX2_isWord_22 : decode cX2_isWord 22 = .ok (.istore_n 2, 1) := by decide +kernel
theorem dX2_isWord_23 : decode cX2_isWord 23 = .ok (.iload_n 2, 1) := by decide +kernel
theorem dX2_isWord_24 : decode cX2_isWord 24 = .ok (.aload_n 1, 1) := by decide +kernel
theorem dX2_isWord_25 : decode cX2_isWord 25 = .ok (.invokevirtual 116, 3) := by decide +kernel
theorem dX2_isWord_28 : decode cX2_isWord 28 = .ok (.if_icmp .ge 32, 3) := by decide +kernel
theorem dX2_isWord_31 : decode cX2_isWord 31 = .ok (.aload_n 0, 1) := by decide +kernel
theorem dX2_isWord_32 : decode cX2_isWord 32 = .ok (.getfield 20, 3) := by decide +kernel
theorem dX2_isWord_35 : decode cX2_isWord 35 = .ok (.aload_n 0, 1) := by decide +kernel
theorem dX2_isWord_36 : decode cX2_isWord 36 = .ok (.getfield 41, 3) := by decide +kernel
theorem dX2_isWord_39 : decode cX2_isWord 39 = .ok (.iload_n 2, 1) := by decide +kernel
theorem dX2_isWord_40 : decode cX2_isWord 40 = .ok (.iadd, 1) := by decide +kernel
theorem dX2_isWord_41 : decode cX2_isWord 41 = .ok (.invokevirtual 67, 3) := by decide +kernel
theorem dX2_isWord_44 : decode cX2_isWord 44 = .ok (.aload_n 1, 1) := by decide +kernel
theorem dX2_isWord_45 : decode cX2_isWord 45 = .ok (.iload_n 2, 1) := by decide +kernel
theorem dX2_isWord_46 : decode cX2_isWord 46 = .ok (.invokevirtual 121, 3) := by decide +kernel
theorem dX2_isWord_49 : decode cX2_isWord 49 = .ok (.if_icmp .eq 5, 3) := by decide +kernel
theorem dX2_isWord_52 : decode cX2_isWord 52 = .ok (.iconst 0, 1) := by decide +kernel
theorem dX2_isWord_53 : decode cX2_isWord 53 = .ok (.ireturn, 1) := by decide +kernel
theorem dX2_isWord_54 : decode cX2_isWord 54 = .ok (.iinc 2 1, 3) := by decide +kernel
theorem dX2_isWord_57 : decode cX2_isWord 57 = .ok (.goto (-34), 3) := by decide +kernel
theorem dX2_isWord_60 : decode cX2_isWord 60 = .ok (.iconst 1, 1) := by decide +kernel
theorem dX2_isWord_61 : decode cX2_isWord 61 = .ok (.ireturn, 1) := by decide +kernel
theorem dX2_marksHere_0 : decode cX2_marksHere 0 = .ok (.aload_n 0, 1) := by decide +kernel
theorem dX2_marksHere_1 : decode cX2_marksHere 1 = .ok (.getfield 38, 3) := by decide +kernel
theorem dX2_marksHere_4 : decode cX2_marksHere 4 = .ok (.iconst 2, 1) := by decide +kernel
theorem dX2_marksHere_5 : decode cX2_marksHere 5 = .ok (.if_icmp .ne 11, 3) := by decide +kernel
theorem dX2_marksHere_8 : decode cX2_marksHere 8 = .ok (.aload_n 0, 1) := by decide +kernel
theorem dX2_marksHere_9 : decode cX2_marksHere 9 = .ok (.invokevirtual 71, 3) := by decide +kernel
theorem dX2_marksHere_12 : decode cX2_marksHere 12 = .ok (.iconst 5, 1) := by decide +kernel
theorem dX2_marksHere_13 : decode cX2_marksHere 13 = .ok (.if_icmp .le 5, 3) := by decide +kernel
theorem dX2_marksHere_16 : decode cX2_marksHere 16 = .ok (.iconst (-1), 1) := by decide +kernel
theorem dX2_marksHere_17 : decode cX2_marksHere 17 = .ok (.ireturn, 1) := by decide +kernel
theorem dX2_marksHere_18 : decode cX2_marksHere 18 = .ok (.iconst 0, 1) := by decide +kernel
theorem dX2_marksHere_19 : decode cX2_marksHere 19 = .ok (.istore_n 1, 1) := by decide +kernel
theorem dX2_marksHere_20 : decode cX2_marksHere 20 = .ok (.aload_n 0, 1) := by decide +kernel
theorem dX2_marksHere_21 : decode cX2_marksHere 21 = .ok (.getfield 41, 3) := by decide +kernel
theorem dX2_marksHere_24 : decode cX2_marksHere 24 = .ok (.istore_n 2, 1) := by decide +kernel
theorem dX2_marksHere_25 : decode cX2_marksHere 25 = .ok (.iload_n 2, 1) := by decide +kernel
theorem dX2_marksHere_26 : decode cX2_marksHere 26 = .ok (.aload_n 0, 1) := by decide +kernel
theorem dX2_marksHere_27 : decode cX2_marksHere 27 = .ok (.getfield 31, 3) := by decide +kernel
theorem dX2_marksHere_30 : decode cX2_marksHere 30 = .ok (.if_icmp .ge 40, 3) := by decide +kernel
theorem dX2_marksHere_33 : decode cX2_marksHere 33 = .ok (.aload_n 0, 1) := by decide +kernel
theorem dX2_marksHere_34 : decode cX2_marksHere 34 = .ok (.getfield 20, 3) := by decide +kernel
theorem dX2_marksHere_37 : decode cX2_marksHere 37 = .ok (.iload_n 2, 1) := by decide +kernel
theorem dX2_marksHere_38 : decode cX2_marksHere 38 = .ok (.invokevirtual 67, 3) := by decide +kernel
theorem dX2_marksHere_41 : decode cX2_marksHere 41 = .ok (.bipush 48, 2) := by decide +kernel
theorem dX2_marksHere_43 : decode cX2_marksHere 43 = .ok (.isub, 1) := by decide +kernel
theorem dX2_marksHere_44 : decode cX2_marksHere 44 = .ok (.istore_n 3, 1) := by decide +kernel
theorem dX2_marksHere_45 : decode cX2_marksHere 45 = .ok (.iload_n 3, 1) := by decide +kernel
theorem dX2_marksHere_46 : decode cX2_marksHere 46 = .ok (.iconst 1, 1) := by decide +kernel
theorem dX2_marksHere_47 : decode cX2_marksHere 47 = .ok (.if_icmp .eq 10, 3) := by decide +kernel
theorem dX2_marksHere_50 : decode cX2_marksHere 50 = .ok (.iload_n 3, 1) := by decide +kernel
theorem dX2_marksHere_51 : decode cX2_marksHere 51 = .ok (.iconst 2, 1) := by decide +kernel
theorem dX2_marksHere_52 : decode cX2_marksHere 52 = .ok (.if_icmp .eq 5, 3) := by decide +kernel
theorem dX2_marksHere_55 : decode cX2_marksHere 55 = .ok (.iconst (-1), 1) := by decide +kernel
theorem dX2_marksHere_56 : decode cX2_marksHere 56 = .ok (.ireturn, 1) := by decide +kernel
theorem dX2_marksHere_57 : decode cX2_marksHere 57 = .ok (.iload_n 1, 1) := by decide +kernel
theorem dX2_marksHere_58 : decode cX2_marksHere 58 = .ok (.bipush 10, 2) := by decide +kernel
theorem dX2_marksHere_60 : decode cX2_marksHere 60 = .ok (.imul, 1) := by decide +kernel
theorem dX2_marksHere_61 : decode cX2_marksHere 61 = .ok (.iload_n 3, 1) := by decide +kernel
theorem dX2_marksHere_62 : decode cX2_marksHere 62 = .ok (.iadd, 1) := by decide +kernel
theorem dX2_marksHere_63 : decode cX2_marksHere 63 = .ok (.istore_n 1, 1) := by decide +kernel
theorem dX2_marksHere_64 : decode cX2_marksHere 64 = .ok (.iinc 2 1, 3) := by decide +kernel
theorem dX2_marksHere_67 : decode cX2_marksHere 67 = .ok (.goto (-42), 3) := by decide +kernel
theorem dX2_marksHere_70 : decode cX2_marksHere 70 = .ok (.iload_n 1, 1) := by decide +kernel
theorem dX2_marksHere_71 : decode cX2_marksHere 71 = .ok (.ireturn, 1) := by decide +kernel
theorem dX2_groupHere_0 : decode cX2_groupHere 0 = .ok (.aload_n 0, 1) := by decide +kernel
theorem dX2_groupHere_1 : decode cX2_groupHere 1 = .ok (.getfield 38, 3) := by decide +kernel
theorem dX2_groupHere_4 : decode cX2_groupHere 4 = .ok (.iconst 1, 1) := by decide +kernel
theorem dX2_groupHere_5 : decode cX2_groupHere 5 = .ok (.if_icmp .ne 11, 3) := by decide +kernel
theorem dX2_groupHere_8 : decode cX2_groupHere 8 = .ok (.aload_n 0, 1) := by decide +kernel
theorem dX2_groupHere_9 : decode cX2_groupHere 9 = .ok (.invokevirtual 71, 3) := by decide +kernel
theorem dX2_groupHere_12 : decode cX2_groupHere 12 = .ok (.iconst 3, 1) := by decide +kernel
theorem dX2_groupHere_13 : decode cX2_groupHere 13 = .ok (.if_icmp .eq 5, 3) := by decide +kernel
theorem dX2_groupHere_16 : decode cX2_groupHere 16 = .ok (.iconst (-1), 1) := by decide +kernel
theorem dX2_groupHere_17 : decode cX2_groupHere 17 = .ok (.ireturn, 1) := by decide +kernel
theorem dX2_groupHere_18 : decode cX2_groupHere 18 = .ok (.iconst 0, 1) := by decide +kernel
theorem dX2_groupHere_19 : decode cX2_groupHere 19 = .ok (.istore_n 1, 1) := by decide +kernel
theorem dX2_groupHere_20 : decode cX2_groupHere 20 = .ok (.aload_n 0, 1) := by decide +kernel
theorem dX2_groupHere_21 : decode cX2_groupHere 21 = .ok (.getfield 41, 3) := by decide +kernel
theorem dX2_groupHere_24 : decode cX2_groupHere 24 = .ok (.istore_n 2, 1) := by decide +kernel
theorem dX2_groupHere_25 : decode cX2_groupHere 25 = .ok (.iload_n 2, 1) := by decide +kernel
theorem dX2_groupHere_26 : decode cX2_groupHere 26 = .ok (.aload_n 0, 1) := by decide +kernel
theorem dX2_groupHere_27 : decode cX2_groupHere 27 = .ok (.getfield 31, 3) := by decide +kernel
theorem dX2_groupHere_30 : decode cX2_groupHere 30 = .ok (.if_icmp .ge 41, 3) := by decide +kernel
theorem dX2_groupHere_33 : decode cX2_groupHere 33 = .ok (.aload_n 0, 1) := by decide +kernel
theorem dX2_groupHere_34 : decode cX2_groupHere 34 = .ok (.getfield 20, 3) := by decide +kernel
theorem dX2_groupHere_37 : decode cX2_groupHere 37 = .ok (.iload_n 2, 1) := by decide +kernel
theorem dX2_groupHere_38 : decode cX2_groupHere 38 = .ok (.invokevirtual 67, 3) := by decide +kernel
theorem dX2_groupHere_41 : decode cX2_groupHere 41 = .ok (.bipush 97, 2) := by decide +kernel
theorem dX2_groupHere_43 : decode cX2_groupHere 43 = .ok (.isub, 1) := by decide +kernel
theorem dX2_groupHere_44 : decode cX2_groupHere 44 = .ok (.istore_n 3, 1) := by decide +kernel
theorem dX2_groupHere_45 : decode cX2_groupHere 45 = .ok (.aload_n 0, 1) := by decide +kernel
theorem dX2_groupHere_46 : decode cX2_groupHere 46 = .ok (.getfield 24, 3) := by decide +kernel
theorem dX2_groupHere_49 : decode cX2_groupHere 49 = .ok (.iload_n 3, 1) := by decide +kernel
theorem dX2_groupHere_50 : decode cX2_groupHere 50 = .ok (.invokevirtual 75, 3) := by decide +kernel
theorem dX2_groupHere_53 : decode cX2_groupHere 53 = .ok (.ifCond .ne 5, 3) := by decide +kernel
theorem dX2_groupHere_56 : decode cX2_groupHere 56 = .ok (.iconst (-1), 1) := by decide +kernel
theorem dX2_groupHere_57 : decode cX2_groupHere 57 = .ok (.ireturn, 1) := by decide +kernel
theorem dX2_groupHere_58 : decode cX2_groupHere 58 = .ok (.iload_n 1, 1) := by decide +kernel
theorem dX2_groupHere_59 : decode cX2_groupHere 59 = .ok (.bipush 26, 2) := by decide +kernel
theorem dX2_groupHere_61 : decode cX2_groupHere 61 = .ok (.imul, 1) := by decide +kernel
theorem dX2_groupHere_62 : decode cX2_groupHere 62 = .ok (.iload_n 3, 1) := by decide +kernel
theorem dX2_groupHere_63 : decode cX2_groupHere 63 = .ok (.iadd, 1) := by decide +kernel
theorem dX2_groupHere_64 : decode cX2_groupHere 64 = .ok (.istore_n 1, 1) := by decide +kernel
theorem dX2_groupHere_65 : decode cX2_groupHere 65 = .ok (.iinc 2 1, 3) := by decide +kernel
theorem dX2_groupHere_68 : decode cX2_groupHere 68 = .ok (.goto (-43), 3) := by decide +kernel
theorem dX2_groupHere_71 : decode cX2_groupHere 71 = .ok (.iload_n 1, 1) := by decide +kernel
theorem dX2_groupHere_72 : decode cX2_groupHere 72 = .ok (.ireturn, 1) := by decide +kernel
theorem dX2_isNewName_0 : decode cX2_isNewName 0 = .ok (.aload_n 0, 1) := by decide +kernel
theorem dX2_isNewName_1 : decode cX2_isNewName 1 = .ok (.getfield 38, 3) := by decide +kernel
theorem dX2_isNewName_4 : decode cX2_isNewName 4 = .ok (.iconst 1, 1) := by decide +kernel
theorem dX2_isNewName_5 : decode cX2_isNewName 5 = .ok (.if_icmp .ne 39, 3) := by decide +kernel
theorem dX2_isNewName_8 : decode cX2_isNewName 8 = .ok (.aload_n 0, 1) := by decide +kernel
theorem dX2_isNewName_9 : decode cX2_isNewName 9 = .ok (.invokevirtual 71, 3) := by decide +kernel
theorem dX2_isNewName_12 : decode cX2_isNewName 12 = .ok (.bipush 8, 2) := by decide +kernel
theorem dX2_isNewName_14 : decode cX2_isNewName 14 = .ok (.if_icmp .gt 30, 3) := by decide +kernel
theorem dX2_isNewName_17 : decode cX2_isNewName 17 = .ok (.aload_n 0, 1) := by decide +kernel
theorem dX2_isNewName_18 : decode cX2_isNewName 18 = .ok (.ldc 50, 2) := by decide +kernel
theorem dX2_isNewName_20 : decode cX2_isNewName 20 = .ok (.invokevirtual 52, 3) := by decide +kernel
theorem dX2_isNewName_23 : decode cX2_isNewName 23 = .ok (.ifCond .ne 21, 3) := by decide +kernel
theorem dX2_isNewName_26 : decode cX2_isNewName 26 = .ok (.aload_n 0, 1) := by decide +kernel
theorem dX2_isNewName_27 : decode cX2_isNewName 27 = .ok (.ldc 59, 2) := by decide +kernel
theorem dX2_isNewName_29 : decode cX2_isNewName 29 = .ok (.invokevirtual 52, 3) := by decide +kernel
theorem dX2_isNewName_32 : decode cX2_isNewName 32 = .ok (.ifCond .ne 12, 3) := by decide +kernel
theorem dX2_isNewName_35 : decode cX2_isNewName 35 = .ok (.aload_n 0, 1) := by decide +kernel
theorem dX2_isNewName_36 : decode cX2_isNewName 36 = .ok (.ldc 99, 2) := by decide +kernel
theorem dX2_isNewName_38 : decode cX2_isNewName 38 = .ok (.invokevirtual 52, 3) := by decide +kernel
theorem dX2_isNewName_41 : decode cX2_isNewName 41 = .ok (.ifCond .eq 5, 3) := by decide +kernel
theorem dX2_isNewName_44 : decode cX2_isNewName 44 = .ok (.iconst 0, 1) := by decide +kernel
theorem dX2_isNewName_45 : decode cX2_isNewName 45 = .ok (.ireturn, 1) := by decide +kernel
theorem dX2_isNewName_46 : decode cX2_isNewName 46 = .ok (.iconst 0, 1) := by decide +kernel
theorem dX2_isNewName_47 : decode cX2_isNewName 47 = .ok (.istore_n 2, 1) := by decide +kernel
theorem dX2_isNewName_48 : decode cX2_isNewName 48 = .ok (.iload_n 2, 1) := by decide +kernel
theorem dX2_isNewName_49 : decode cX2_isNewName 49 = .ok (.iload_n 1, 1) := by decide +kernel
theorem dX2_isNewName_50 : decode cX2_isNewName 50 = .ok (.if_icmp .ge 25, 3) := by decide +kernel
theorem dX2_isNewName_53 : decode cX2_isNewName 53 = .ok (.iload_n 2, 1) := by decide +kernel
theorem dX2_isNewName_54 : decode cX2_isNewName 54 = .ok (.bipush 20, 2) := by decide +kernel
theorem dX2_isNewName_56 : decode cX2_isNewName 56 = .ok (.if_icmp .ge 19, 3) := by decide +kernel
theorem dX2_isNewName_59 : decode cX2_isNewName 59 = .ok (.aload_n 0, 1) := by decide +kernel
theorem dX2_isNewName_60 : decode cX2_isNewName 60 = .ok (.iload_n 2, 1) := by decide +kernel
theorem dX2_isNewName_61 : decode cX2_isNewName 61 = .ok (.invokevirtual 125, 3) := by decide +kernel
theorem dX2_isNewName_64 : decode cX2_isNewName 64 = .ok (.ifCond .eq 5, 3) := by decide +kernel
theorem dX2_isNewName_67 : decode cX2_isNewName 67 = .ok (.iconst 0, 1) := by decide +kernel
theorem dX2_isNewName_68 : decode cX2_isNewName 68 = .ok (.ireturn, 1) := by decide +kernel
theorem dX2_isNewName_69 : decode cX2_isNewName 69 = .ok (.iinc 2 1, 3) := by decide +kernel
theorem dX2_isNewName_72 : decode cX2_isNewName 72 = .ok (.goto (-24), 3) := by decide +kernel
theorem dX2_isNewName_75 : decode cX2_isNewName 75 = .ok (.iconst 1, 1) := by decide +kernel
theorem dX2_isNewName_76 : decode cX2_isNewName 76 = .ok (.ireturn, 1) := by decide +kernel
theorem dX2_isName_0 : decode cX2_isName 0 = .ok (.iload_n 1, 1) := by decide +kernel
theorem dX2_isName_1 : decode cX2_isName 1 = .ok (.ifCond .lt 22, 3) := by decide +kernel
theorem dX2_isName_4 : decode cX2_isName 4 = .ok (.iload_n 1, 1) := by decide +kernel
theorem dX2_isName_5 : decode cX2_isName 5 = .ok (.bipush 20, 2) := by decide +kernel
theorem dX2_isName_7 : decode cX2_isName 7 = .ok (.if_icmp .ge 16, 3) := by decide +kernel
theorem dX2_isName_10 : decode cX2_isName 10 = .ok (.aload_n 0, 1) := by decide +kernel
theorem dX2_isName_11 : decode cX2_isName 11 = .ok (.getfield 17, 3) := by decide +kernel
theorem dX2_isName_14 : decode cX2_isName 14 = .ok (.iload_n 1, 1) := by decide +kernel
theorem dX2_isName_15 : decode cX2_isName 15 = .ok (.iaload, 1) := by decide +kernel
theorem dX2_isName_16 : decode cX2_isName 16 = .ok (.aload_n 0, 1) := by decide +kernel
theorem dX2_isName_17 : decode cX2_isName 17 = .ok (.invokevirtual 71, 3) := by decide +kernel
theorem dX2_isName_20 : decode cX2_isName 20 = .ok (.if_icmp .eq 5, 3) := by decide +kernel
theorem dX2_isName_23 : decode cX2_isName 23 = .ok (.iconst 0, 1) := by decide +kernel
theorem dX2_isName_24 : decode cX2_isName 24 = .ok (.ireturn, 1) := by decide +kernel
theorem dX2_isName_25 : decode cX2_isName 25 = .ok (.iconst 0, 1) := by decide +kernel
theorem dX2_isName_26 : decode cX2_isName 26 = .ok (.istore_n 2, 1) := by decide +kernel
theorem dX2_isName_27 : decode cX2_isName 27 = .ok (.iload_n 2, 1) := by decide +kernel
theorem dX2_isName_28 : decode cX2_isName 28 = .ok (.aload_n 0, 1) := by decide +kernel
theorem dX2_isName_29 : decode cX2_isName 29 = .ok (.invokevirtual 71, 3) := by decide +kernel
theorem dX2_isName_32 : decode cX2_isName 32 = .ok (.if_icmp .ge 42, 3) := by decide +kernel
theorem dX2_isName_35 : decode cX2_isName 35 = .ok (.aload_n 0, 1) := by decide +kernel
theorem dX2_isName_36 : decode cX2_isName 36 = .ok (.getfield 20, 3) := by decide +kernel
theorem dX2_isName_39 : decode cX2_isName 39 = .ok (.aload_n 0, 1) := by decide +kernel
theorem dX2_isName_40 : decode cX2_isName 40 = .ok (.getfield 11, 3) := by decide +kernel
theorem dX2_isName_43 : decode cX2_isName 43 = .ok (.iload_n 1, 1) := by decide +kernel
theorem dX2_isName_44 : decode cX2_isName 44 = .ok (.iaload, 1) := by decide +kernel
theorem dX2_isName_45 : decode cX2_isName 45 = .ok (.iload_n 2, 1) := by decide +kernel
theorem dX2_isName_46 : decode cX2_isName 46 = .ok (.iadd, 1) := by decide +kernel
theorem dX2_isName_47 : decode cX2_isName 47 = .ok (.invokevirtual 67, 3) := by decide +kernel
theorem dX2_isName_50 : decode cX2_isName 50 = .ok (.aload_n 0, 1) := by decide +kernel
theorem dX2_isName_51 : decode cX2_isName 51 = .ok (.getfield 20, 3) := by decide +kernel
theorem dX2_isName_54 : decode cX2_isName 54 = .ok (.aload_n 0, 1) := by decide +kernel
theorem dX2_isName_55 : decode cX2_isName 55 = .ok (.getfield 41, 3) := by decide +kernel
theorem dX2_isName_58 : decode cX2_isName 58 = .ok (.iload_n 2, 1) := by decide +kernel
theorem dX2_isName_59 : decode cX2_isName 59 = .ok (.iadd, 1) := by decide +kernel
theorem dX2_isName_60 : decode cX2_isName 60 = .ok (.invokevirtual 67, 3) := by decide +kernel
theorem dX2_isName_63 : decode cX2_isName 63 = .ok (.if_icmp .eq 5, 3) := by decide +kernel
theorem dX2_isName_66 : decode cX2_isName 66 = .ok (.iconst 0, 1) := by decide +kernel
theorem dX2_isName_67 : decode cX2_isName 67 = .ok (.ireturn, 1) := by decide +kernel
theorem dX2_isName_68 : decode cX2_isName 68 = .ok (.iinc 2 1, 3) := by decide +kernel
theorem dX2_isName_71 : decode cX2_isName 71 = .ok (.goto (-44), 3) := by decide +kernel
theorem dX2_isName_74 : decode cX2_isName 74 = .ok (.iconst 1, 1) := by decide +kernel
theorem dX2_isName_75 : decode cX2_isName 75 = .ok (.ireturn, 1) := by decide +kernel
theorem dX2_noteName_0 : decode cX2_noteName 0 = .ok (.iload_n 1, 1) := by decide +kernel
theorem dX2_noteName_1 : decode cX2_noteName 1 = .ok (.ifCond .lt 29, 3) := by decide +kernel
theorem dX2_noteName_4 : decode cX2_noteName 4 = .ok (.iload_n 1, 1) := by decide +kernel
theorem dX2_noteName_5 : decode cX2_noteName 5 = .ok (.bipush 20, 2) := by decide +kernel
theorem dX2_noteName_7 : decode cX2_noteName 7 = .ok (.if_icmp .ge 23, 3) := by decide +kernel
theorem dX2_noteName_10 : decode cX2_noteName 10 = .ok (.aload_n 0, 1) := by decide +kernel
theorem dX2_noteName_11 : decode cX2_noteName 11 = .ok (.getfield 11, 3) := by decide +kernel
theorem dX2_noteName_14 : decode cX2_noteName 14 = .ok (.iload_n 1, 1) := by decide +kernel
theorem dX2_noteName_15 : decode cX2_noteName 15 = .ok (.aload_n 0, 1) := by decide +kernel
theorem dX2_noteName_16 : decode cX2_noteName 16 = .ok (.getfield 41, 3) := by decide +kernel
theorem dX2_noteName_19 : decode cX2_noteName 19 = .ok (.iastore, 1) := by decide +kernel
theorem dX2_noteName_20 : decode cX2_noteName 20 = .ok (.aload_n 0, 1) := by decide +kernel
theorem dX2_noteName_21 : decode cX2_noteName 21 = .ok (.getfield 17, 3) := by decide +kernel
theorem dX2_noteName_24 : decode cX2_noteName 24 = .ok (.iload_n 1, 1) := by decide +kernel
theorem dX2_noteName_25 : decode cX2_noteName 25 = .ok (.aload_n 0, 1) := by decide +kernel
theorem dX2_noteName_26 : decode cX2_noteName 26 = .ok (.invokevirtual 71, 3) := by decide +kernel
theorem dX2_noteName_29 : decode cX2_noteName 29 = .ok (.iastore, 1) := by decide +kernel
theorem dX2_noteName_30 : decode cX2_noteName 30 = .ok (.return_, 1) := by decide +kernel
theorem dX3_init_0 : decode cX3_init 0 = .ok (.aload_n 0, 1) := by decide +kernel
theorem dX3_init_1 : decode cX3_init 1 = .ok (.invokespecial 3, 3) := by decide +kernel
theorem dX3_init_4 : decode cX3_init 4 = .ok (.aload_n 0, 1) := by decide +kernel
theorem dX3_init_5 : decode cX3_init 5 = .ok (.bipush 40, 2) := by decide +kernel
theorem dX3_init_7 : decode cX3_init 7 = .ok (.newarray .int, 2) := by decide +kernel
theorem dX3_init_9 : decode cX3_init 9 = .ok (.putfield 11, 3) := by decide +kernel
theorem dX3_init_12 : decode cX3_init 12 = .ok (.return_, 1) := by decide +kernel
theorem dX3_size_0 : decode cX3_size 0 = .ok (.aload_n 0, 1) := by decide +kernel
theorem dX3_size_1 : decode cX3_size 1 = .ok (.getfield 15, 3) := by decide +kernel
theorem dX3_size_4 : decode cX3_size 4 = .ok (.ireturn, 1) := by decide +kernel
theorem dX3_has_0 : decode cX3_has 0 = .ok (.iload_n 1, 1) := by decide +kernel
theorem dX3_has_1 : decode cX3_has 1 = .ok (.ifCond .lt 15, 3) := by decide +kernel
theorem dX3_has_4 : decode cX3_has 4 = .ok (.iload_n 1, 1) := by decide +kernel
theorem dX3_has_5 : decode cX3_has 5 = .ok (.aload_n 0, 1) := by decide +kernel
theorem dX3_has_6 : decode cX3_has 6 = .ok (.getfield 15, 3) := by decide +kernel
theorem dX3_has_9 : decode cX3_has 9 = .ok (.if_icmp .ge 7, 3) := by decide +kernel
theorem dX3_has_12 : decode cX3_has 12 = .ok (.iconst 1, 1) := by decide +kernel
theorem dX3_has_13 : decode cX3_has 13 = .ok (.goto 4, 3) := by decide +kernel
theorem dX3_has_16 : decode cX3_has 16 = .ok (.iconst 0, 1) := by decide +kernel
theorem dX3_has_17 : decode cX3_has 17 = .ok (.ireturn, 1) := by decide +kernel
theorem dX3_isSpan_0 : decode cX3_isSpan 0 = .ok (.iload_n 0, 1) := by decide +kernel
theorem dX3_isSpan_1 : decode cX3_isSpan 1 = .ok (.sipush 1000, 3) := by decide +kernel
theorem dX3_isSpan_4 : decode cX3_isSpan 4 = .ok (.idiv, 1) := by decide +kernel
theorem dX3_isSpan_5 : decode cX3_isSpan 5 = .ok (.istore_n 1, 1) := by decide +kernel
theorem dX3_isSpan_6 : decode cX3_isSpan 6 = .ok (.iload_n 0, 1) := by decide +kernel
theorem dX3_isSpan_7 : decode cX3_isSpan 7 = .ok (.sipush 1000, 3) := by decide +kernel
theorem dX3_isSpan_10 : decode cX3_isSpan 10 = .ok (.irem, 1) := by decide +kernel
theorem dX3_isSpan_11 : decode cX3_isSpan 11 = .ok (.istore_n 2, 1) := by decide +kernel
theorem dX3_isSpan_12 : decode cX3_isSpan 12 = .ok (.iload_n 1, 1) := by decide +kernel
theorem dX3_isSpan_13 : decode cX3_isSpan 13 = .ok (.iconst 1, 1) := by decide +kernel
theorem dX3_isSpan_14 : decode cX3_isSpan 14 = .ok (.if_icmp .lt 19, 3) := by decide +kernel
theorem dX3_isSpan_17 : decode cX3_isSpan 17 = .ok (.iload_n 1, 1) := by decide +kernel
theorem dX3_isSpan_18 : decode cX3_isSpan 18 = .ok (.iload_n 2, 1) := by decide +kernel
theorem dX3_isSpan_19 : decode cX3_isSpan 19 = .ok (.if_icmp .gt 14, 3) := by decide +kernel
theorem dX3_isSpan_22 : decode cX3_isSpan 22 = .ok (.iload_n 2, 1) := by decide +kernel
theorem dX3_isSpan_23 : decode cX3_isSpan 23 = .ok (.sipush 255, 3) := by decide +kernel
theorem dX3_isSpan_26 : decode cX3_isSpan 26 = .ok (.if_icmp .gt 7, 3) := by decide +kernel
theorem dX3_isSpan_29 : decode cX3_isSpan 29 = .ok (.iconst 1, 1) := by decide +kernel
theorem dX3_isSpan_30 : decode cX3_isSpan 30 = .ok (.goto 4, 3) := by decide +kernel
theorem dX3_isSpan_33 : decode cX3_isSpan 33 = .ok (.iconst 0, 1) := by decide +kernel
theorem dX3_isSpan_34 : decode cX3_isSpan 34 = .ok (.ireturn, 1) := by decide +kernel
theorem dX3_add_0 : decode cX3_add 0 = .ok (.aload_n 0, 1) := by decide +kernel
theorem dX3_add_1 : decode cX3_add 1 = .ok (.getfield 15, 3) := by decide +kernel
theorem dX3_add_4 : decode cX3_add 4 = .ok (.bipush 8, 2) := by decide +kernel
theorem dX3_add_6 : decode cX3_add 6 = .ok (.if_icmp .lt 5, 3) := by decide +kernel
theorem dX3_add_9 : decode cX3_add 9 = .ok (.iconst (-1), 1) := by decide +kernel
theorem dX3_add_10 : decode cX3_add 10 = .ok (.ireturn, 1) := by decide +kernel
theorem dX3_add_11 : decode cX3_add 11 = .ok (.aload_n 0, 1) := by decide +kernel
theorem dX3_add_12 : decode cX3_add 12 = .ok (.getfield 15, 3) := by decide +kernel
theorem dX3_add_15 : decode cX3_add 15 = .ok (.iconst 5, 1) := by decide +kernel
theorem dX3_add_16 : decode cX3_add 16 = .ok (.imul, 1) := by decide +kernel
theorem dX3_add_17 : decode cX3_add 17 = .ok (.istore 6, 2) := by decide +kernel
theorem dX3_add_19 : decode cX3_add 19 = .ok (.aload_n 0, 1) := by decide +kernel
theorem dX3_add_20 : decode cX3_add 20 = .ok (.getfield 11, 3) := by decide +kernel
theorem dX3_add_23 : decode cX3_add 23 = .ok (.iload 6, 2) := by decide +kernel
theorem dX3_add_25 : decode cX3_add 25 = .ok (.iload_n 1, 1) := by decide +kernel
theorem dX3_add_26 : decode cX3_add 26 = .ok (.iastore, 1) := by decide +kernel
theorem dX3_add_27 : decode cX3_add 27 = .ok (.aload_n 0, 1) := by decide +kernel
theorem dX3_add_28 : decode cX3_add 28 = .ok (.getfield 11, 3) := by decide +kernel
theorem dX3_add_31 : decode cX3_add 31 = .ok (.iload 6, 2) := by decide +kernel
theorem dX3_add_33 : decode cX3_add 33 = .ok (.iconst 1, 1) := by decide +kernel
theorem dX3_add_34 : decode cX3_add 34 = .ok (.iadd, 1) := by decide +kernel
theorem dX3_add_35 : decode cX3_add 35 = .ok (.iload_n 2, 1) := by decide +kernel
theorem dX3_add_36 : decode cX3_add 36 = .ok (.iastore, 1) := by decide +kernel
theorem dX3_add_37 : decode cX3_add 37 = .ok (.aload_n 0, 1) := by decide +kernel
theorem dX3_add_38 : decode cX3_add 38 = .ok (.getfield 11, 3) := by decide +kernel
theorem dX3_add_41 : decode cX3_add 41 = .ok (.iload 6, 2) := by decide +kernel
theorem dX3_add_43 : decode cX3_add 43 = .ok (.iconst 2, 1) := by decide +kernel
theorem dX3_add_44 : decode cX3_add 44 = .ok (.iadd, 1) := by decide +kernel
theorem dX3_add_45 : decode cX3_add 45 = .ok (.iload_n 3, 1) := by decide +kernel
theorem dX3_add_46 : decode cX3_add 46 = .ok (.iastore, 1) := by decide +kernel
theorem dX3_add_47 : decode cX3_add 47 = .ok (.aload_n 0, 1) := by decide +kernel
theorem dX3_add_48 : decode cX3_add 48 = .ok (.getfield 11, 3) := by decide +kernel
theorem dX3_add_51 : decode cX3_add 51 = .ok (.iload 6, 2) := by decide +kernel
theorem dX3_add_53 : decode cX3_add 53 = .ok (.iconst 3, 1) := by decide +kernel
theorem dX3_add_54 : decode cX3_add 54 = .ok (.iadd, 1) := by decide +kernel
theorem dX3_add_55 : decode cX3_add 55 = .ok (.iload 4, 2) := by decide +kernel
theorem dX3_add_57 : decode cX3_add 57 = .ok (.iastore, 1) := by decide +kernel
theorem dX3_add_58 : decode cX3_add 58 = .ok (.aload_n 0, 1) := by decide +kernel
theorem dX3_add_59 : decode cX3_add 59 = .ok (.getfield 11, 3) := by decide +kernel
theorem dX3_add_62 : decode cX3_add 62 = .ok (.iload 6, 2) := by decide +kernel
theorem dX3_add_64 : decode cX3_add 64 = .ok (.iconst 4, 1) := by decide +kernel
theorem dX3_add_65 : decode cX3_add 65 = .ok (.iadd, 1) := by decide +kernel
theorem dX3_add_66 : decode cX3_add 66 = .ok (.iload 5, 2) := by decide +kernel
theorem dX3_add_68 : decode cX3_add 68 = .ok (.iastore, 1) := by decide +kernel
theorem dX3_add_69 : decode cX3_add 69 = .ok (.aload_n 0, 1) := by decide +kernel
theorem dX3_add_70 : decode cX3_add 70 = .ok (.dup, 1) := by decide +kernel
theorem dX3_add_71 : decode cX3_add 71 = .ok (.getfield 15, 3) := by decide +kernel
theorem dX3_add_74 : decode cX3_add 74 = .ok (.iconst 1, 1) := by decide +kernel
theorem dX3_add_75 : decode cX3_add 75 = .ok (.iadd, 1) := by decide +kernel
theorem dX3_add_76 : decode cX3_add 76 = .ok (.putfield 15, 3) := by decide +kernel
theorem dX3_add_79 : decode cX3_add 79 = .ok (.aload_n 0, 1) := by decide +kernel
theorem dX3_add_80 : decode cX3_add 80 = .ok (.getfield 15, 3) := by decide +kernel
theorem dX3_add_83 : decode cX3_add 83 = .ok (.iconst 1, 1) := by decide +kernel
theorem dX3_add_84 : decode cX3_add 84 = .ok (.isub, 1) := by decide +kernel
theorem dX3_add_85 : decode cX3_add 85 = .ok (.ireturn, 1) := by decide +kernel
theorem dX3_leastOf_0 : decode cX3_leastOf 0 = .ok (.aload_n 0, 1) := by decide +kernel
theorem dX3_leastOf_1 : decode cX3_leastOf 1 = .ok (.iload_n 1, 1) := by decide +kernel
theorem dX3_leastOf_2 : decode cX3_leastOf 2 = .ok (.iload_n 2, 1) := by decide +kernel
theorem dX3_leastOf_3 : decode cX3_leastOf 3 = .ok (.invokevirtual 19, 3) := by decide +kernel
theorem dX3_leastOf_6 : decode cX3_leastOf 6 = .ok (.sipush 1000, 3) := by decide +kernel
theorem dX3_leastOf_9 : decode cX3_leastOf 9 = .ok (.idiv, 1) := by decide +kernel
theorem dX3_leastOf_10 : decode cX3_leastOf 10 = .ok (.ireturn, 1) := by decide +kernel
theorem dX3_greatestOf_0 : decode cX3_greatestOf 0 = .ok (.aload_n 0, 1) := by decide +kernel
theorem dX3_greatestOf_1 : decode cX3_greatestOf 1 = .ok (.iload_n 1, 1) := by decide +kernel
theorem dX3_greatestOf_2 : decode cX3_greatestOf 2 = .ok (.iload_n 2, 1) := by decide +kernel
theorem dX3_greatestOf_3 : decode cX3_greatestOf 3 = .ok (.invokevirtual 19, 3) := by decide +kernel
theorem dX3_greatestOf_6 : decode cX3_greatestOf 6 = .ok (.sipush 1000, 3) := by decide +kernel
theorem dX3_greatestOf_9 : decode cX3_greatestOf 9 = .ok (.irem, 1) := by decide +kernel
theorem dX3_greatestOf_10 : decode cX3_greatestOf 10 = .ok (.ireturn, 1) := by decide +kernel
theorem dX3_choicesOf_0 : decode cX3_choicesOf 0 = .ok (.aload_n 0, 1) := by decide +kernel
theorem dX3_choicesOf_1 : decode cX3_choicesOf 1 = .ok (.iload_n 1, 1) := by decide +kernel
theorem dX3_choicesOf_2 : decode cX3_choicesOf 2 = .ok (.iload_n 2, 1) := by decide +kernel
theorem dX3_choicesOf_3 : decode cX3_choicesOf 3 = .ok (.invokevirtual 23, 3) := by decide +kernel
theorem dX3_choicesOf_6 : decode cX3_choicesOf 6 = .ok (.aload_n 0, 1) := by decide +kernel
theorem dX3_choicesOf_7 : decode cX3_choicesOf 7 = .ok (.iload_n 1, 1) := by decide +kernel
theorem dX3_choicesOf_8 : decode cX3_choicesOf 8 = .ok (.iload_n 2, 1) := by decide +kernel
theorem dX3_choicesOf_9 : decode cX3_choicesOf 9 = .ok (.invokevirtual 26, 3) := by decide +kernel
theorem dX3_choicesOf_12 : decode cX3_choicesOf 12 = .ok (.isub, 1) := by decide +kernel
theorem dX3_choicesOf_13 : decode cX3_choicesOf 13 = .ok (.iconst 1, 1) := by decide +kernel
theorem dX3_choicesOf_14 : decode cX3_choicesOf 14 = .ok (.iadd, 1) := by decide +kernel
theorem dX3_choicesOf_15 : decode cX3_choicesOf 15 = .ok (.ireturn, 1) := by decide +kernel
theorem dX3_spanOf_0 : decode cX3_spanOf 0 = .ok (.aload_n 0, 1) := by decide +kernel
theorem dX3_spanOf_1 : decode cX3_spanOf 1 = .ok (.iload_n 1, 1) := by decide +kernel
theorem dX3_spanOf_2 : decode cX3_spanOf 2 = .ok (.invokevirtual 29, 3) := by decide +kernel
theorem dX3_spanOf_5 : decode cX3_spanOf 5 = .ok (.ifCond .eq 25, 3) := by decide +kernel
theorem dX3_spanOf_8 : decode cX3_spanOf 8 = .ok (.iload_n 2, 1) := by decide +kernel
theorem dX3_spanOf_9 : decode cX3_spanOf 9 = .ok (.ifCond .lt 21, 3) := by decide +kernel
theorem dX3_spanOf_12 : decode cX3_spanOf 12 = .ok (.iload_n 2, 1) := by decide +kernel
theorem dX3_spanOf_13 : decode cX3_spanOf 13 = .ok (.iconst 5, 1) := by decide +kernel
theorem dX3_spanOf_14 : decode cX3_spanOf 14 = .ok (.if_icmp .ge 16, 3) := by decide +kernel
theorem dX3_spanOf_17 : decode cX3_spanOf 17 = .ok (.aload_n 0, 1) := by decide +kernel
theorem dX3_spanOf_18 : decode cX3_spanOf 18 = .ok (.getfield 11, 3) := by decide +kernel
theorem dX3_spanOf_21 : decode cX3_spanOf 21 = .ok (.iload_n 1, 1) := by decide +kernel
theorem dX3_spanOf_22 : decode cX3_spanOf 22 = .ok (.iconst 5, 1) := by decide +kernel
theorem dX3_spanOf_23 : decode cX3_spanOf 23 = .ok (.imul, 1) := by decide +kernel
theorem dX3_spanOf_24 : decode cX3_spanOf 24 = .ok (.iload_n 2, 1) := by decide +kernel
theorem dX3_spanOf_25 : decode cX3_spanOf 25 = .ok (.iadd, 1) := by decide +kernel
theorem dX3_spanOf_26 : decode cX3_spanOf 26 = .ok (.iaload, 1) := by decide +kernel
theorem dX3_spanOf_27 : decode cX3_spanOf 27 = .ok (.goto 4, 3) := by decide +kernel
theorem dX3_spanOf_30 : decode cX3_spanOf 30 = .ok (.iconst 0, 1) := by decide +kernel
theorem dX3_spanOf_31 : decode cX3_spanOf 31 = .ok (.ireturn, 1) := by decide +kernel
theorem dX4_init_0 : decode cX4_init 0 = .ok (.aload_n 0, 1) := by decide +kernel
theorem dX4_init_1 : decode cX4_init 1 = .ok (.invokespecial 3, 3) := by decide +kernel
theorem dX4_init_4 : decode cX4_init 4 = .ok (.aload_n 0, 1) := by decide +kernel
theorem dX4_init_5 : decode cX4_init 5 = .ok (.bipush 8, 2) := by decide +kernel
theorem dX4_init_7 : decode cX4_init 7 = .ok (.newarray .int, 2) := by decide +kernel
theorem dX4_init_9 : decode cX4_init 9 = .ok (.putfield 11, 3) := by decide +kernel
theorem dX4_init_12 : decode cX4_init 12 = .ok (.aload_n 0, 1) := by decide +kernel
theorem dX4_init_13 : decode cX4_init 13 = .ok (.bipush 8, 2) := by decide +kernel
theorem dX4_init_15 : decode cX4_init 15 = .ok (.newarray .int, 2) := by decide +kernel
theorem dX4_init_17 : decode cX4_init 17 = .ok (.putfield 15, 3) := by decide +kernel
theorem dX4_init_20 : decode cX4_init 20 = .ok (.aload_n 0, 1) := by decide +kernel
theorem dX4_init_21 : decode cX4_init 21 = .ok (.bipush 8, 2) := by decide +kernel
theorem dX4_init_23 : decode cX4_init 23 = .ok (.newarray .int, 2) := by decide +kernel
theorem dX4_init_25 : decode cX4_init 25 = .ok (.putfield 18, 3) := by decide +kernel
theorem dX4_init_28 : decode cX4_init 28 = .ok (.aload_n 0, 1) := by decide +kernel
theorem dX4_init_29 : decode cX4_init 29 = .ok (.bipush 8, 2) := by decide +kernel
theorem dX4_init_31 : decode cX4_init 31 = .ok (.newarray .int, 2) := by decide +kernel
theorem dX4_init_33 : decode cX4_init 33 = .ok (.putfield 21, 3) := by decide +kernel
theorem dX4_init_36 : decode cX4_init 36 = .ok (.aload_n 0, 1) := by decide +kernel
theorem dX4_init_37 : decode cX4_init 37 = .ok (.bipush 6, 2) := by decide +kernel
theorem dX4_init_39 : decode cX4_init 39 = .ok (.newarray .int, 2) := by decide +kernel
theorem dX4_init_41 : decode cX4_init 41 = .ok (.putfield 24, 3) := by decide +kernel
theorem dX4_init_44 : decode cX4_init 44 = .ok (.aload_n 0, 1) := by decide +kernel
theorem dX4_init_45 : decode cX4_init 45 = .ok (.iconst 5, 1) := by decide +kernel
theorem dX4_init_46 : decode cX4_init 46 = .ok (.newarray .int, 2) := by decide +kernel
theorem dX4_init_48 : decode cX4_init 48 = .ok (.putfield 27, 3) := by decide +kernel
theorem dX4_init_51 : decode cX4_init 51 = .ok (.return_, 1) := by decide +kernel
theorem dX4_size_0 : decode cX4_size 0 = .ok (.aload_n 0, 1) := by decide +kernel
theorem dX4_size_1 : decode cX4_size 1 = .ok (.getfield 30, 3) := by decide +kernel
theorem dX4_size_4 : decode cX4_size 4 = .ok (.ireturn, 1) := by decide +kernel
theorem dX4_rainNow_0 : decode cX4_rainNow 0 = .ok (.aload_n 0, 1) := by decide +kernel
theorem dX4_rainNow_1 : decode cX4_rainNow 1 = .ok (.getfield 34, 3) := by decide +kernel
theorem dX4_rainNow_4 : decode cX4_rainNow 4 = .ok (.ireturn, 1) := by decide +kernel
theorem dX4_setRain_0 : decode cX4_setRain 0 = .ok (.aload_n 0, 1) := by decide +kernel
theorem dX4_setRain_1 : decode cX4_setRain 1 = .ok (.iload_n 1, 1) := by decide +kernel
theorem dX4_setRain_2 : decode cX4_setRain 2 = .ok (.putfield 34, 3) := by decide +kernel
theorem dX4_setRain_5 : decode cX4_setRain 5 = .ok (.return_, 1) := by decide +kernel
theorem dX4_has_0 : decode cX4_has 0 = .ok (.iload_n 1, 1) := by decide +kernel
theorem dX4_has_1 : decode cX4_has 1 = .ok (.ifCond .lt 15, 3) := by decide +kernel
theorem dX4_has_4 : decode cX4_has 4 = .ok (.iload_n 1, 1) := by decide +kernel
theorem dX4_has_5 : decode cX4_has 5 = .ok (.aload_n 0, 1) := by decide +kernel
theorem dX4_has_6 : decode cX4_has 6 = .ok (.getfield 30, 3) := by decide +kernel
theorem dX4_has_9 : decode cX4_has 9 = .ok (.if_icmp .ge 7, 3) := by decide +kernel
theorem dX4_has_12 : decode cX4_has 12 = .ok (.iconst 1, 1) := by decide +kernel
theorem dX4_has_13 : decode cX4_has 13 = .ok (.goto 4, 3) := by decide +kernel
theorem dX4_has_16 : decode cX4_has 16 = .ok (.iconst 0, 1) := by decide +kernel
theorem dX4_has_17 : decode cX4_has 17 = .ok (.ireturn, 1) := by decide +kernel
theorem dX4_add_0 : decode cX4_add 0 = .ok (.aload_n 0, 1) := by decide +kernel
theorem dX4_add_1 : decode cX4_add 1 = .ok (.getfield 30, 3) := by decide +kernel
theorem dX4_add_4 : decode cX4_add 4 = .ok (.bipush 8, 2) := by decide +kernel
theorem dX4_add_6 : decode cX4_add 6 = .ok (.if_icmp .lt 5, 3) := by decide +kernel
theorem dX4_add_9 : decode cX4_add 9 = .ok (.iconst (-1), 1) := by decide +kernel
theorem dX4_add_10 : decode cX4_add 10 = .ok (.ireturn, 1) := by decide +kernel
theorem dX4_add_11 : decode cX4_add 11 = .ok (.aload_n 0, 1) := by decide +kernel
theorem dX4_add_12 : decode cX4_add 12 = .ok (.getfield 11, 3) := by decide +kernel
theorem dX4_add_15 : decode cX4_add 15 = .ok (.aload_n 0, 1) := by decide +kernel
theorem dX4_add_16 : decode cX4_add 16 = .ok (.getfield 30, 3) := by decide +kernel
theorem dX4_add_19 : decode cX4_add 19 = .ok (.iload_n 1, 1) := by decide +kernel
theorem dX4_add_20 : decode cX4_add 20 = .ok (.iastore, 1) := by decide +kernel
theorem dX4_add_21 : decode cX4_add 21 = .ok (.aload_n 0, 1) := by decide +kernel
theorem dX4_add_22 : decode cX4_add 22 = .ok (.getfield 15, 3) := by decide +kernel
theorem dX4_add_25 : decode cX4_add 25 = .ok (.aload_n 0, 1) := by decide +kernel
theorem dX4_add_26 : decode cX4_add 26 = .ok (.getfield 30, 3) := by decide +kernel
theorem dX4_add_29 : decode cX4_add 29 = .ok (.iload_n 2, 1) := by decide +kernel
theorem dX4_add_30 : decode cX4_add 30 = .ok (.iastore, 1) := by decide +kernel
theorem dX4_add_31 : decode cX4_add 31 = .ok (.aload_n 0, 1) := by decide +kernel
theorem dX4_add_32 : decode cX4_add 32 = .ok (.getfield 18, 3) := by decide +kernel
theorem dX4_add_35 : decode cX4_add 35 = .ok (.aload_n 0, 1) := by decide +kernel
theorem dX4_add_36 : decode cX4_add 36 = .ok (.getfield 30, 3) := by decide +kernel
theorem dX4_add_39 : decode cX4_add 39 = .ok (.iload_n 3, 1) := by decide +kernel
theorem dX4_add_40 : decode cX4_add 40 = .ok (.iastore, 1) := by decide +kernel
theorem dX4_add_41 : decode cX4_add 41 = .ok (.aload_n 0, 1) := by decide +kernel
theorem dX4_add_42 : decode cX4_add 42 = .ok (.getfield 21, 3) := by decide +kernel
theorem dX4_add_45 : decode cX4_add 45 = .ok (.aload_n 0, 1) := by decide +kernel
theorem dX4_add_46 : decode cX4_add 46 = .ok (.getfield 30, 3) := by decide +kernel
theorem dX4_add_49 : decode cX4_add 49 = .ok (.iload 4, 2) := by decide +kernel
theorem dX4_add_51 : decode cX4_add 51 = .ok (.iastore, 1) := by decide +kernel
theorem dX4_add_52 : decode cX4_add 52 = .ok (.aload_n 0, 1) := by decide +kernel
theorem dX4_add_53 : decode cX4_add 53 = .ok (.dup, 1) := by decide +kernel
theorem dX4_add_54 : decode cX4_add 54 = .ok (.getfield 30, 3) := by decide +kernel
theorem dX4_add_57 : decode cX4_add 57 = .ok (.iconst 1, 1) := by decide +kernel
theorem dX4_add_58 : decode cX4_add 58 = .ok (.iadd, 1) := by decide +kernel
theorem dX4_add_59 : decode cX4_add 59 = .ok (.putfield 30, 3) := by decide +kernel
theorem dX4_add_62 : decode cX4_add 62 = .ok (.aload_n 0, 1) := by decide +kernel
theorem dX4_add_63 : decode cX4_add 63 = .ok (.getfield 30, 3) := by decide +kernel
theorem dX4_add_66 : decode cX4_add 66 = .ok (.iconst 1, 1) := by decide +kernel
theorem dX4_add_67 : decode cX4_add 67 = .ok (.isub, 1) := by decide +kernel
theorem dX4_add_68 : decode cX4_add 68 = .ok (.ireturn, 1) := by decide +kernel
theorem dX4_biteOf_0 : decode cX4_biteOf 0 = .ok (.aload_n 0, 1) := by decide +kernel
theorem dX4_biteOf_1 : decode cX4_biteOf 1 = .ok (.iload_n 1, 1) := by decide +kernel
theorem dX4_biteOf_2 : decode cX4_biteOf 2 = .ok (.invokevirtual 37, 3) := by decide +kernel
theorem dX4_biteOf_5 : decode cX4_biteOf 5 = .ok (.ifCond .eq 24, 3) := by decide +kernel
theorem dX4_biteOf_8 : decode cX4_biteOf 8 = .ok (.aload_n 0, 1) := by decide +kernel
theorem dX4_biteOf_9 : decode cX4_biteOf 9 = .ok (.getfield 18, 3) := by decide +kernel
theorem dX4_biteOf_12 : decode cX4_biteOf 12 = .ok (.iload_n 1, 1) := by decide +kernel
theorem dX4_biteOf_13 : decode cX4_biteOf 13 = .ok (.iaload, 1) := by decide +kernel
theorem dX4_biteOf_14 : decode cX4_biteOf 14 = .ok (.aload_n 0, 1) := by decide +kernel
theorem dX4_biteOf_15 : decode cX4_biteOf 15 = .ok (.getfield 21, 3) := by decide +kernel
theorem dX4_biteOf_18 : decode cX4_biteOf 18 = .ok (.iload_n 1, 1) := by decide +kernel
theorem dX4_biteOf_19 : decode cX4_biteOf 19 = .ok (.iaload, 1) := by decide +kernel
theorem dX4_biteOf_20 : decode cX4_biteOf 20 = .ok (.aload_n 0, 1) := by decide +kernel
theorem dX4_biteOf_21 : decode cX4_biteOf 21 = .ok (.getfield 34, 3) := by decide +kernel
theorem dX4_biteOf_24 : decode cX4_biteOf 24 = .ok (.imul, 1) := by decide +kernel
theorem dX4_biteOf_25 : decode cX4_biteOf 25 = .ok (.iadd, 1) := by decide +kernel
theorem dX4_biteOf_26 : decode cX4_biteOf 26 = .ok (.goto 4, 3) := by decide +kernel
theorem dX4_biteOf_29 : decode cX4_biteOf 29 = .ok (.iconst 0, 1) := by decide +kernel
theorem dX4_biteOf_30 : decode cX4_biteOf 30 = .ok (.ireturn, 1) := by decide +kernel
theorem dX4_endOf_0 : decode cX4_endOf 0 = .ok (.aload_n 0, 1) := by decide +kernel
theorem dX4_endOf_1 : decode cX4_endOf 1 = .ok (.iload_n 1, 1) := by decide +kernel
theorem dX4_endOf_2 : decode cX4_endOf 2 = .ok (.invokevirtual 37, 3) := by decide +kernel
theorem dX4_endOf_5 : decode cX4_endOf 5 = .ok (.ifCond .eq 12, 3) := by decide +kernel
theorem dX4_endOf_8 : decode cX4_endOf 8 = .ok (.aload_n 0, 1) := by decide +kernel
theorem dX4_endOf_9 : decode cX4_endOf 9 = .ok (.getfield 15, 3) := by decide +kernel
theorem dX4_endOf_12 : decode cX4_endOf 12 = .ok (.iload_n 1, 1) := by decide +kernel
theorem dX4_endOf_13 : decode cX4_endOf 13 = .ok (.iaload, 1) := by decide +kernel
theorem dX4_endOf_14 : decode cX4_endOf 14 = .ok (.goto 4, 3) := by decide +kernel
theorem dX4_endOf_17 : decode cX4_endOf 17 = .ok (.iconst (-1), 1) := by decide +kernel
theorem dX4_endOf_18 : decode cX4_endOf 18 = .ok (.ireturn, 1) := by decide +kernel
theorem dX4_routeAt_0 : decode cX4_routeAt 0 = .ok (.iload_n 1, 1) := by decide +kernel
theorem dX4_routeAt_1 : decode cX4_routeAt 1 = .ok (.ifCond .lt 20, 3) := by decide +kernel
theorem dX4_routeAt_4 : decode cX4_routeAt 4 = .ok (.iload_n 1, 1) := by decide +kernel
theorem dX4_routeAt_5 : decode cX4_routeAt 5 = .ok (.aload_n 0, 1) := by decide +kernel
theorem dX4_routeAt_6 : decode cX4_routeAt 6 = .ok (.getfield 41, 3) := by decide +kernel
theorem dX4_routeAt_9 : decode cX4_routeAt 9 = .ok (.if_icmp .ge 12, 3) := by decide +kernel
theorem dX4_routeAt_12 : decode cX4_routeAt 12 = .ok (.aload_n 0, 1) := by decide +kernel
theorem dX4_routeAt_13 : decode cX4_routeAt 13 = .ok (.getfield 27, 3) := by decide +kernel
theorem dX4_routeAt_16 : decode cX4_routeAt 16 = .ok (.iload_n 1, 1) := by decide +kernel
theorem dX4_routeAt_17 : decode cX4_routeAt 17 = .ok (.iaload, 1) := by decide +kernel
theorem dX4_routeAt_18 : decode cX4_routeAt 18 = .ok (.goto 4, 3) := by decide +kernel
theorem dX4_routeAt_21 : decode cX4_routeAt 21 = .ok (.iconst (-1), 1) := by decide +kernel
theorem dX4_routeAt_22 : decode cX4_routeAt 22 = .ok (.ireturn, 1) := by decide +kernel
theorem dX4_findRoute_0 : decode cX4_findRoute 0 = .ok (.aload_n 0, 1) := by decide +kernel
theorem dX4_findRoute_1 : decode cX4_findRoute 1 = .ok (.iconst 0, 1) := by decide +kernel
theorem dX4_findRoute_2 : decode cX4_findRoute 2 = .ok (.putfield 41, 3) := by decide +kernel
theorem dX4_findRoute_5 : decode cX4_findRoute 5 = .ok (.iload_n 1, 1) := by decide +kernel
theorem dX4_findRoute_6 : decode cX4_findRoute 6 = .ok (.iload_n 2, 1) := by decide +kernel
theorem dX4_findRoute_7 : decode cX4_findRoute 7 = .ok (.invokestatic 44, 3) := by decide +kernel
theorem dX4_findRoute_10 : decode cX4_findRoute 10 = .ok (.ifCond .ne 5, 3) := by decide +kernel
theorem dX4_findRoute_13 : decode cX4_findRoute 13 = .ok (.iconst (-1), 1) := by decide +kernel
theorem dX4_findRoute_14 : decode cX4_findRoute 14 = .ok (.ireturn, 1) := by decide +kernel
theorem dX4_findRoute_15 : decode cX4_findRoute 15 = .ok (.aload_n 0, 1) := by decide +kernel
theorem dX4_findRoute_16 : decode cX4_findRoute 16 = .ok (.iload_n 2, 1) := by decide +kernel
theorem dX4_findRoute_17 : decode cX4_findRoute 17 = .ok (.invokevirtual 48, 3) := by decide +kernel
theorem dX4_findRoute_20 : decode cX4_findRoute 20 = .ok (.aload_n 0, 1) := by decide +kernel
theorem dX4_findRoute_21 : decode cX4_findRoute 21 = .ok (.getfield 24, 3) := by decide +kernel
theorem dX4_findRoute_24 : decode cX4_findRoute 24 = .ok (.iload_n 1, 1) := by decide +kernel
theorem dX4_findRoute_25 : decode cX4_findRoute 25 = .ok (.iaload, 1) := by decide +kernel
theorem dX4_findRoute_26 : decode cX4_findRoute 26 = .ok (.istore_n 3, 1) := by decide +kernel
theorem dX4_findRoute_27 : decode cX4_findRoute 27 = .ok (.iload_n 3, 1) := by decide +kernel
theorem dX4_findRoute_28 : decode cX4_findRoute 28 = .ok (.iconst 5, 1) := by decide +kernel
theorem dX4_findRoute_29 : decode cX4_findRoute 29 = .ok (.if_icmp .le 5, 3) := by decide +kernel
theorem dX4_findRoute_32 : decode cX4_findRoute 32 = .ok (.iconst (-1), 1) := by decide +kernel
theorem dX4_findRoute_33 : decode cX4_findRoute 33 = .ok (.ireturn, 1) := by decide +kernel
theorem dX4_findRoute_34 : decode cX4_findRoute 34 = .ok (.iload_n 1, 1) := by decide +kernel
theorem dX4_findRoute_35 : decode cX4_findRoute 35 = .ok (.istore 4, 2) := by decide +kernel
theorem dX4_findRoute_37 : decode cX4_findRoute 37 = .ok (.iconst 0, 1) := by decide +kernel
theorem dX4_findRoute_38 : decode cX4_findRoute 38 = .ok (.istore 5, 2) := by decide +kernel
theorem dX4_findRoute_40 : decode cX4_findRoute 40 = .ok (.iload 5, 2) := by decide +kernel
theorem dX4_findRoute_42 : decode cX4_findRoute 42 = .ok (.iload_n 3, 1) := by decide +kernel
theorem dX4_findRoute_43 : decode cX4_findRoute 43 = .ok (.if_icmp .ge 43, 3) := by decide +kernel
theorem dX4_findRoute_46 : decode cX4_findRoute 46 = .ok (.aload_n 0, 1) := by decide +kernel
theorem dX4_findRoute_47 : decode cX4_findRoute 47 = .ok (.iload 4, 2) := by decide +kernel
theorem dX4_findRoute_49 : decode cX4_findRoute 49 = .ok (.invokevirtual 52, 3) := by decide +kernel
theorem dX4_findRoute_52 : decode cX4_findRoute 52 = .ok (.istore 6, 2) := by decide +kernel
theorem dX4_findRoute_54 : decode cX4_findRoute 54 = .ok (.iload 6, 2) := by decide +kernel
theorem dX4_findRoute_56 : decode cX4_findRoute 56 = .ok (.iconst (-1), 1) := by decide +kernel
theorem dX4_findRoute_57 : decode cX4_findRoute 57 = .ok (.if_icmp .ne 5, 3) := by decide +kernel
theorem dX4_findRoute_60 : decode cX4_findRoute 60 = .ok (.iconst (-1), 1) := by decide +kernel
theorem dX4_findRoute_61 : decode cX4_findRoute 61 = .ok (.ireturn, 1) := by decide +kernel
theorem dX4_findRoute_62 : decode cX4_findRoute 62 = .ok (.aload_n 0, 1) := by decide +kernel
theorem dX4_findRoute_63 : decode cX4_findRoute 63 = .ok (.getfield 27, 3) := by decide +kernel
theorem dX4_findRoute_66 : decode cX4_findRoute 66 = .ok (.iload 5, 2) := by decide +kernel
theorem dX4_findRoute_68 : decode cX4_findRoute 68 = .ok (.iload 6, 2) := by decide +kernel
theorem dX4_findRoute_70 : decode cX4_findRoute 70 = .ok (.iastore, 1) := by decide +kernel
theorem dX4_findRoute_71 : decode cX4_findRoute 71 = .ok (.aload_n 0, 1) := by decide +kernel
theorem dX4_findRoute_72 : decode cX4_findRoute 72 = .ok (.getfield 15, 3) := by decide +kernel
theorem dX4_findRoute_75 : decode cX4_findRoute 75 = .ok (.iload 6, 2) := by decide +kernel
theorem dX4_findRoute_77 : decode cX4_findRoute 77 = .ok (.iaload, 1) := by decide +kernel
theorem dX4_findRoute_78 : decode cX4_findRoute 78 = .ok (.istore 4, 2) := by decide +kernel
theorem dX4_findRoute_80 : decode cX4_findRoute 80 = .ok (.iinc 5 1, 3) := by decide +kernel
theorem dX4_findRoute_83 : decode cX4_findRoute 83 = .ok (.goto (-43), 3) := by decide +kernel
theorem dX4_findRoute_86 : decode cX4_findRoute 86 = .ok (.aload_n 0, 1) := by decide +kernel
theorem dX4_findRoute_87 : decode cX4_findRoute 87 = .ok (.iload_n 3, 1) := by decide +kernel
theorem dX4_findRoute_88 : decode cX4_findRoute 88 = .ok (.putfield 41, 3) := by decide +kernel
theorem dX4_findRoute_91 : decode cX4_findRoute 91 = .ok (.iload_n 3, 1) := by decide +kernel
theorem dX4_findRoute_92 : decode cX4_findRoute 92 = .ok (.ireturn, 1) := by decide +kernel
theorem dX4_measureDistances_0 : decode cX4_measureDistances 0 = .ok (.iconst 0, 1) := by decide +kernel
theorem dX4_measureDistances_1 : decode cX4_measureDistances 1 = .ok (.istore_n 2, 1) := by decide +kernel
theorem dX4_measureDistances_2 : decode cX4_measureDistances 2 = .ok (.iload_n 2, 1) := by decide +kernel
theorem dX4_measureDistances_3 : decode cX4_measureDistances 3 = .ok (.bipush 6, 2) := by decide +kernel
theorem dX4_measureDistances_5 : decode cX4_measureDistances 5 = .ok (.if_icmp .ge 27, 3) := by decide +kernel
theorem dX4_measureDistances_8 : decode cX4_measureDistances 8 = .ok (.aload_n 0, 1) := by decide +kernel
theorem dX4_measureDistances_9 : decode cX4_measureDistances 9 = .ok (.getfield 24, 3) := by decide +kernel
theorem dX4_measureDistances_12 : decode cX4_measureDistances 12 = .ok (.iload_n 2, 1) := by decide +kernel
theorem dX4_measureDistances_13 : decode cX4_measureDistances 13 = .ok (.iload_n 2, 1) := by decide +kernel
theorem dX4_measureDistances_14 : decode cX4_measureDistances 14 = .ok (.iload_n 1, 1) := by decide +kernel
theorem dX4_measureDistances_15 : decode cX4_measureDistances 15 = .ok (.if_icmp .ne 7, 3) := by decide +kernel
theorem dX4_measureDistances_18 : decode cX4_measureDistances 18 = .ok (.iconst 0, 1) := by decide +kernel
theorem dX4_measureDistances_19 : decode cX4_measureDistances 19 = .ok (.goto 6, 3) := by decide +kernel
theorem dX4_measureDistances_22 : decode cX4_measureDistances 22 = .ok (.sipush 1000, 3) := by decide +kernel
theorem dX4_measureDistances_25 : decode cX4_measureDistances 25 = .ok (.iastore, 1) := by decide +kernel
theorem dX4_measureDistances_26 : decode cX4_measureDistances 26 = .ok (.iinc 2 1, 3) := by decide +kernel
theorem dX4_measureDistances_29 : decode cX4_measureDistances 29 = .ok (.goto (-27), 3) := by decide +kernel
theorem dX4_measureDistances_32 : decode cX4_measureDistances 32 = .ok (.iconst 0, 1) := by decide +kernel
theorem dX4_measureDistances_33 : decode cX4_measureDistances 33 = .ok (.istore_n 2, 1) := by decide +kernel
theorem dX4_measureDistances_34 : decode cX4_measureDistances 34 = .ok (.iload_n 2, 1) := by decide +kernel
theorem dX4_measureDistances_35 : decode cX4_measureDistances 35 = .ok (.iconst 5, 1) := by decide +kernel
theorem dX4_measureDistances_36 : decode cX4_measureDistances 36 = .ok (.if_icmp .ge 67, 3) := by decide +kernel
theorem dX4_measureDistances_39 : decode cX4_measureDistances 39 = .ok (.iconst 0, 1) := by decide +kernel
theorem dX4_measureDistances_40 : decode cX4_measureDistances 40 = .ok (.istore_n 3, 1) := by decide +kernel
theorem dX4_measureDistances_41 : decode cX4_measureDistances 41 = .ok (.iload_n 3, 1) := by decide +kernel
theorem dX4_measureDistances_42 : decode cX4_measureDistances 42 = .ok (.aload_n 0, 1) := by decide +kernel
theorem dX4_measureDistances_43 : decode cX4_measureDistances 43 = .ok (.getfield 30, 3) := by decide +kernel
theorem dX4_measureDistances_46 : decode cX4_measureDistances 46 = .ok (.if_icmp .ge 51, 3) := by decide +kernel
theorem dX4_measureDistances_49 : decode cX4_measureDistances 49 = .ok (.aload_n 0, 1) := by decide +kernel
theorem dX4_measureDistances_50 : decode cX4_measureDistances 50 = .ok (.getfield 24, 3) := by decide +kernel
theorem dX4_measureDistances_53 : decode cX4_measureDistances 53 = .ok (.aload_n 0, 1) := by decide +kernel
theorem dX4_measureDistances_54 : decode cX4_measureDistances 54 = .ok (.getfield 15, 3) := by decide +kernel
theorem dX4_measureDistances_57 : decode cX4_measureDistances 57 = .ok (.iload_n 3, 1) := by decide +kernel
theorem dX4_measureDistances_58 : decode cX4_measureDistances 58 = .ok (.iaload, 1) := by decide +kernel
theorem dX4_measureDistances_59 : decode cX4_measureDistances 59 = .ok (.iaload, 1) := by decide +kernel
theorem dX4_measureDistances_60 : decode cX4_measureDistances 60 = .ok (.iconst 1, 1) := by decide +kernel
theorem dX4_measureDistances_61 : decode cX4_measureDistances 61 = .ok (.iadd, 1) := by decide +kernel
theorem dX4_measureDistances_62 : decode cX4_measureDistances 62 = .ok (.istore 4, 2) := by decide +kernel
theorem dX4_measureDistances_64 : decode cX4_measureDistances 64 = .ok (.aload_n 0, 1) := by decide +kernel
theorem dX4_measureDistances_65 : decode cX4_measureDistances 65 = .ok (.getfield 24, 3) := by decide +kernel
theorem dX4_measureDistances_68 : decode cX4_measureDistances 68 = .ok (.aload_n 0, 1) := by decide +kernel
theorem dX4_measureDistances_69 : decode cX4_measureDistances 69 = .ok (.getfield 11, 3) := by decide +kernel
theorem dX4_measureDistances_72 : decode cX4_measureDistances 72 = .ok (.iload_n 3, 1) := by decide +kernel
theorem dX4_measureDistances_73 : decode cX4_measureDistances 73 = .ok (.iaload, 1) := by decide +kernel
theorem dX4_measureDistances_74 : decode cX4_measureDistances 74 = .ok (.aload_n 0, 1) := by decide +kernel
theorem dX4_measureDistances_75 : decode cX4_measureDistances 75 = .ok (.getfield 24, 3) := by decide +kernel
theorem dX4_measureDistances_78 : decode cX4_measureDistances 78 = .ok (.aload_n 0, 1) := by decide +kernel
theorem dX4_measureDistances_79 : decode cX4_measureDistances 79 = .ok (.getfield 11, 3) := by decide +kernel
theorem dX4_measureDistances_82 : decode cX4_measureDistances 82 = .ok (.iload_n 3, 1) := by decide +kernel
theorem dX4_measureDistances_83 : decode cX4_measureDistances 83 = .ok (.iaload, 1) := by decide +kernel
theorem dX4_measureDistances_84 : decode cX4_measureDistances 84 = .ok (.iaload, 1) := by decide +kernel
theorem dX4_measureDistances_85 : decode cX4_measureDistances 85 = .ok (.iload 4, 2) := by decide +kernel
theorem dX4_measureDistances_87 : decode cX4_measureDistances 87 = .ok (.invokestatic 56, 3) := by decide +kernel
theorem dX4_measureDistances_90 : decode cX4_measureDistances 90 = .ok (.iastore, 1) := by decide +kernel
theorem dX4_measureDistances_91 : decode cX4_measureDistances 91 = .ok (.iinc 3 1, 3) := by decide +kernel
theorem dX4_measureDistances_94 : decode cX4_measureDistances 94 = .ok (.goto (-53), 3) := by decide +kernel
theorem dX4_measureDistances_97 : decode cX4_measureDistances 97 = .ok (.iinc 2 1, 3) := by decide +kernel
theorem dX4_measureDistances_100 : decode cX4_measureDistances 100 = .ok (.goto (-66), 3) := by decide +kernel
theorem dX4_measureDistances_103 : decode cX4_measureDistances 103 = .ok (.return_, 1) := by decide +kernel
theorem dX4_firstTowards_0 : decode cX4_firstTowards 0 = .ok (.iconst 0, 1) := by decide +kernel
theorem dX4_firstTowards_1 : decode cX4_firstTowards 1 = .ok (.istore_n 2, 1) := by decide +kernel
theorem dX4_firstTowards_2 : decode cX4_firstTowards 2 = .ok (.iload_n 2, 1) := by decide +kernel
theorem dX4_firstTowards_3 : decode cX4_firstTowards 3 = .ok (.aload_n 0, 1) := by decide +kernel
theorem dX4_firstTowards_4 : decode cX4_firstTowards 4 = .ok (.getfield 30, 3) := by decide +kernel
theorem dX4_firstTowards_7 : decode cX4_firstTowards 7 = .ok (.if_icmp .ge 43, 3) := by decide +kernel
theorem dX4_firstTowards_10 : decode cX4_firstTowards 10 = .ok (.aload_n 0, 1) := by decide +kernel
theorem dX4_firstTowards_11 : decode cX4_firstTowards 11 = .ok (.getfield 11, 3) := by decide +kernel
theorem dX4_firstTowards_14 : decode cX4_firstTowards 14 = .ok (.iload_n 2, 1) := by decide +kernel
theorem dX4_firstTowards_15 : decode cX4_firstTowards 15 = .ok (.iaload, 1) := by decide +kernel
theorem dX4_firstTowards_16 : decode cX4_firstTowards 16 = .ok (.iload_n 1, 1) := by decide +kernel
theorem dX4_firstTowards_17 : decode cX4_firstTowards 17 = .ok (.if_icmp .ne 27, 3) := by decide +kernel
theorem dX4_firstTowards_20 : decode cX4_firstTowards 20 = .ok (.aload_n 0, 1) := by decide +kernel
theorem dX4_firstTowards_21 : decode cX4_firstTowards 21 = .ok (.getfield 24, 3) := by decide +kernel
theorem dX4_firstTowards_24 : decode cX4_firstTowards 24 = .ok (.aload_n 0, 1) := by decide +kernel
theorem dX4_firstTowards_25 : decode cX4_firstTowards 25 = .ok (.getfield 15, 3) := by decide +kernel
theorem dX4_firstTowards_28 : decode cX4_firstTowards 28 = .ok (.iload_n 2, 1) := by decide +kernel
theorem dX4_firstTowards_29 : decode cX4_firstTowards 29 = .ok (.iaload, 1) := by decide +kernel
theorem dX4_firstTowards_30 : decode cX4_firstTowards 30 = .ok (.iaload, 1) := by decide +kernel
theorem dX4_firstTowards_31 : decode cX4_firstTowards 31 = .ok (.aload_n 0, 1) := by decide +kernel
theorem dX4_firstTowards_32 : decode cX4_firstTowards 32 = .ok (.getfield 24, 3) := by decide +kernel
theorem dX4_firstTowards_35 : decode cX4_firstTowards 35 = .ok (.iload_n 1, 1) := by decide +kernel
theorem dX4_firstTowards_36 : decode cX4_firstTowards 36 = .ok (.iaload, 1) := by decide +kernel
theorem dX4_firstTowards_37 : decode cX4_firstTowards 37 = .ok (.iconst 1, 1) := by decide +kernel
theorem dX4_firstTowards_38 : decode cX4_firstTowards 38 = .ok (.isub, 1) := by decide +kernel
theorem dX4_firstTowards_39 : decode cX4_firstTowards 39 = .ok (.if_icmp .ne 5, 3) := by decide +kernel
theorem dX4_firstTowards_42 : decode cX4_firstTowards 42 = .ok (.iload_n 2, 1) := by decide +kernel
theorem dX4_firstTowards_43 : decode cX4_firstTowards 43 = .ok (.ireturn, 1) := by decide +kernel
theorem dX4_firstTowards_44 : decode cX4_firstTowards 44 = .ok (.iinc 2 1, 3) := by decide +kernel
theorem dX4_firstTowards_47 : decode cX4_firstTowards 47 = .ok (.goto (-45), 3) := by decide +kernel
theorem dX4_firstTowards_50 : decode cX4_firstTowards 50 = .ok (.iconst (-1), 1) := by decide +kernel
theorem dX4_firstTowards_51 : decode cX4_firstTowards 51 = .ok (.ireturn, 1) := by decide +kernel
theorem dX5_init_0 : decode cX5_init 0 = .ok (.aload_n 0, 1) := by decide +kernel
theorem dX5_init_1 : decode cX5_init 1 = .ok (.invokespecial 5, 3) := by decide +kernel
theorem dX5_init_4 : decode cX5_init 4 = .ok (.aload_n 0, 1) := by decide +kernel
theorem dX5_init_5 : decode cX5_init 5 = .ok (.bipush 20, 2) := by decide +kernel
theorem dX5_init_7 : decode cX5_init 7 = .ok (.newarray .int, 2) := by decide +kernel
theorem dX5_init_9 : decode cX5_init 9 = .ok (.putfield 13, 3) := by decide +kernel
theorem dX5_init_12 : decode cX5_init 12 = .ok (.aload_n 0, 1) := by decide +kernel
theorem dX5_init_13 : decode cX5_init 13 = .ok (.bipush 20, 2) := by decide +kernel
theorem dX5_init_15 : decode cX5_init 15 = .ok (.newarray .int, 2) := by decide +kernel
theorem dX5_init_17 : decode cX5_init 17 = .ok (.putfield 17, 3) := by decide +kernel
theorem dX5_init_20 : decode cX5_init 20 = .ok (.aload_n 0, 1) := by decide +kernel
theorem dX5_init_21 : decode cX5_init 21 = .ok (.bipush 20, 2) := by decide +kernel
theorem dX5_init_23 : decode cX5_init 23 = .ok (.newarray .int, 2) := by decide +kernel
theorem dX5_init_25 : decode cX5_init 25 = .ok (.putfield 20, 3) := by decide +kernel
theorem dX5_init_28 : decode cX5_init 28 = .ok (.aload_n 0, 1) := by decide +kernel
theorem dX5_init_29 : decode cX5_init 29 = .ok (.bipush 20, 2) := by decide +kernel
theorem dX5_init_31 : decode cX5_init 31 = .ok (.newarray .int, 2) := by decide +kernel
theorem dX5_init_33 : decode cX5_init 33 = .ok (.putfield 23, 3) := by decide +kernel
theorem dX5_init_36 : decode cX5_init 36 = .ok (.aload_n 0, 1) := by decide +kernel
theorem dX5_init_37 : decode cX5_init 37 = .ok (.bipush 20, 2) := by decide +kernel
theorem dX5_init_39 : decode cX5_init 39 = .ok (.newarray .int, 2) := by decide +kernel
theorem dX5_init_41 : decode cX5_init 41 = .ok (.putfield 26, 3) := by decide +kernel
theorem dX5_init_44 : decode cX5_init 44 = .ok (.aload_n 0, 1) := by decide +kernel
theorem dX5_init_45 : decode cX5_init 45 = .ok (.bipush 100, 2) := by decide +kernel
theorem dX5_init_47 : decode cX5_init 47 = .ok (.newarray .int, 2) := by decide +kernel
theorem dX5_init_49 : decode cX5_init 49 = .ok (.putfield 29, 3) := by decide +kernel
theorem dX5_init_52 : decode cX5_init 52 = .ok (.aload_n 0, 1) := by decide +kernel
theorem dX5_init_53 : decode cX5_init 53 = .ok (.bipush 100, 2) := by decide +kernel
theorem dX5_init_55 : decode cX5_init 55 = .ok (.newarray .int, 2) := by decide +kernel
theorem dX5_init_57 : decode cX5_init 57 = .ok (.putfield 32, 3) := by decide +kernel
theorem dX5_init_60 : decode cX5_init 60 = .ok (.aload_n 0, 1) := by decide +kernel
theorem dX5_init_61 : decode cX5_init 61 = .ok (.bipush 20, 2) := by decide +kernel
theorem dX5_init_63 : decode cX5_init 63 = .ok (.newarray .int, 2) := by decide +kernel
theorem dX5_init_65 : decode cX5_init 65 = .ok (.putfield 35, 3) := by decide +kernel
theorem dX5_init_68 : decode cX5_init 68 = .ok (.aload_n 0, 1) := by decide +kernel
theorem dX5_init_69 : decode cX5_init 69 = .ok (.bipush 20, 2) := by decide +kernel
theorem dX5_init_71 : decode cX5_init 71 = .ok (.newarray .int, 2) := by decide +kernel
theorem dX5_init_73 : decode cX5_init 73 = .ok (.putfield 38, 3) := by decide +kernel
theorem dX5_init_76 : decode cX5_init 76 = .ok (.aload_n 0, 1) := by decide +kernel
theorem dX5_init_77 : decode cX5_init 77 = .ok (.bipush 20, 2) := by decide +kernel
theorem dX5_init_79 : decode cX5_init 79 = .ok (.newarray .int, 2) := by decide +kernel
theorem dX5_init_81 : decode cX5_init 81 = .ok (.putfield 41, 3) := by decide +kernel
theorem dX5_init_84 : decode cX5_init 84 = .ok (.aload_n 0, 1) := by decide +kernel
theorem dX5_init_85 : decode cX5_init 85 = .ok (.bipush 8, 2) := by decide +kernel
theorem dX5_init_87 : decode cX5_init 87 = .ok (.newarray .int, 2) := by decide +kernel
theorem dX5_init_89 : decode cX5_init 89 = .ok (.putfield 44, 3) := by decide +kernel
theorem dX5_init_92 : decode cX5_init 92 = .ok (.aload_n 0, 1) := by decide +kernel
theorem dX5_init_93 : decode cX5_init 93 = .ok (.aload_n 1, 1) := by decide +kernel
theorem dX5_init_94 : decode cX5_init 94 = .ok (.putfield 47, 3) := by decide +kernel
theorem dX5_init_97 : decode cX5_init 97 = .ok (.return_, 1) := by decide +kernel
theorem dX5_size_0 : decode cX5_size 0 = .ok (.aload_n 0, 1) := by decide +kernel
theorem dX5_size_1 : decode cX5_size 1 = .ok (.getfield 51, 3) := by decide +kernel
theorem dX5_size_4 : decode cX5_size 4 = .ok (.ireturn, 1) := by decide +kernel
theorem dX5_has_0 : decode cX5_has 0 = .ok (.iload_n 1, 1) := by decide +kernel
theorem dX5_has_1 : decode cX5_has 1 = .ok (.ifCond .lt 15, 3) := by decide +kernel
theorem dX5_has_4 : decode cX5_has 4 = .ok (.iload_n 1, 1) := by decide +kernel
theorem dX5_has_5 : decode cX5_has 5 = .ok (.aload_n 0, 1) := by decide +kernel
theorem dX5_has_6 : decode cX5_has 6 = .ok (.getfield 51, 3) := by decide +kernel
theorem dX5_has_9 : decode cX5_has 9 = .ok (.if_icmp .ge 7, 3) := by decide +kernel
theorem dX5_has_12 : decode cX5_has 12 = .ok (.iconst 1, 1) := by decide +kernel
theorem dX5_has_13 : decode cX5_has 13 = .ok (.goto 4, 3) := by decide +kernel
theorem dX5_has_16 : decode cX5_has 16 = .ok (.iconst 0, 1) := by decide +kernel
theorem dX5_has_17 : decode cX5_has 17 = .ok (.ireturn, 1) := by decide +kernel
theorem dX5_add_0 : decode cX5_add 0 = .ok (.aload_n 0, 1) := by decide +kernel
theorem dX5_add_1 : decode cX5_add 1 = .ok (.getfield 51, 3) := by decide +kernel
theorem dX5_add_4 : decode cX5_add 4 = .ok (.bipush 20, 2) := by decide +kernel
theorem dX5_add_6 : decode cX5_add 6 = .ok (.if_icmp .lt 5, 3) := by decide +kernel
theorem dX5_add_9 : decode cX5_add 9 = .ok (.iconst (-1), 1) := by decide +kernel
theorem dX5_add_10 : decode cX5_add 10 = .ok (.ireturn, 1) := by decide +kernel
theorem dX5_add_11 : decode cX5_add 11 = .ok (.aload_n 0, 1) := by decide +kernel
theorem dX5_add_12 : decode cX5_add 12 = .ok (.getfield 13, 3) := by decide +kernel
theorem dX5_add_15 : decode cX5_add 15 = .ok (.aload_n 0, 1) := by decide +kernel
theorem dX5_add_16 : decode cX5_add 16 = .ok (.getfield 51, 3) := by decide +kernel
theorem dX5_add_19 : decode cX5_add 19 = .ok (.iload_n 1, 1) := by decide +kernel
theorem dX5_add_20 : decode cX5_add 20 = .ok (.iastore, 1) := by decide +kernel
theorem dX5_add_21 : decode cX5_add 21 = .ok (.aload_n 0, 1) := by decide +kernel
theorem dX5_add_22 : decode cX5_add 22 = .ok (.getfield 17, 3) := by decide +kernel
theorem dX5_add_25 : decode cX5_add 25 = .ok (.aload_n 0, 1) := by decide +kernel
theorem dX5_add_26 : decode cX5_add 26 = .ok (.getfield 51, 3) := by decide +kernel
theorem dX5_add_29 : decode cX5_add 29 = .ok (.iload_n 2, 1) := by decide +kernel
theorem dX5_add_30 : decode cX5_add 30 = .ok (.iastore, 1) := by decide +kernel
theorem dX5_add_31 : decode cX5_add 31 = .ok (.aload_n 0, 1) := by decide +kernel
theorem dX5_add_32 : decode cX5_add 32 = .ok (.getfield 20, 3) := by decide +kernel
theorem dX5_add_35 : decode cX5_add 35 = .ok (.aload_n 0, 1) := by decide +kernel
theorem dX5_add_36 : decode cX5_add 36 = .ok (.getfield 51, 3) := by decide +kernel
theorem dX5_add_39 : decode cX5_add 39 = .ok (.iload_n 3, 1) := by decide +kernel
theorem dX5_add_40 : decode cX5_add 40 = .ok (.iastore, 1) := by decide +kernel
theorem dX5_add_41 : decode cX5_add 41 = .ok (.aload_n 0, 1) := by decide +kernel
theorem dX5_add_42 : decode cX5_add 42 = .ok (.getfield 23, 3) := by decide +kernel
theorem dX5_add_45 : decode cX5_add 45 = .ok (.aload_n 0, 1) := by decide +kernel
theorem dX5_add_46 : decode cX5_add 46 = .ok (.getfield 51, 3) := by decide +kernel
theorem dX5_add_49 : decode cX5_add 49 = .ok (.iload 4, 2) := by decide +kernel
theorem dX5_add_51 : decode cX5_add 51 = .ok (.iastore, 1) := by decide +kernel
theorem dX5_add_52 : decode cX5_add 52 = .ok (.aload_n 0, 1) := by decide +kernel
theorem dX5_add_53 : decode cX5_add 53 = .ok (.getfield 26, 3) := by decide +kernel
theorem dX5_add_56 : decode cX5_add 56 = .ok (.aload_n 0, 1) := by decide +kernel
theorem dX5_add_57 : decode cX5_add 57 = .ok (.getfield 51, 3) := by decide +kernel
theorem dX5_add_60 : decode cX5_add 60 = .ok (.iload 5, 2) := by decide +kernel
theorem dX5_add_62 : decode cX5_add 62 = .ok (.iastore, 1) := by decide +kernel
theorem dX5_add_63 : decode cX5_add 63 = .ok (.aload_n 0, 1) := by decide +kernel
theorem dX5_add_64 : decode cX5_add 64 = .ok (.dup, 1) := by decide +kernel
theorem dX5_add_65 : decode cX5_add 65 = .ok (.getfield 51, 3) := by decide +kernel
theorem dX5_add_68 : decode cX5_add 68 = .ok (.iconst 1, 1) := by decide +kernel
theorem dX5_add_69 : decode cX5_add 69 = .ok (.iadd, 1) := by decide +kernel
theorem dX5_add_70 : decode cX5_add 70 = .ok (.putfield 51, 3) := by decide +kernel
theorem dX5_add_73 : decode cX5_add 73 = .ok (.aload_n 0, 1) := by decide +kernel
theorem dX5_add_74 : decode cX5_add 74 = .ok (.getfield 51, 3) := by decide +kernel
theorem dX5_add_77 : decode cX5_add 77 = .ok (.iconst 1, 1) := by decide +kernel
theorem dX5_add_78 : decode cX5_add 78 = .ok (.isub, 1) := by decide +kernel
theorem dX5_add_79 : decode cX5_add 79 = .ok (.ireturn, 1) := by decide +kernel
theorem dX5_runAll_0 : decode cX5_runAll 0 = .ok (.aload_n 0, 1) := by decide +kernel
theorem dX5_runAll_1 : decode cX5_runAll 1 = .ok (.invokevirtual 55, 3) := by decide +kernel
theorem dX5_runAll_4 : decode cX5_runAll 4 = .ok (.iconst 0, 1) := by decide +kernel
theorem dX5_runAll_5 : decode cX5_runAll 5 = .ok (.istore_n 1, 1) := by decide +kernel
theorem dX5_runAll_6 : decode cX5_runAll 6 = .ok (.iload_n 1, 1) := by decide +kernel
theorem dX5_runAll_7 : decode cX5_runAll 7 = .ok (.bipush 100, 2) := by decide +kernel
theorem dX5_runAll_9 : decode cX5_runAll 9 = .ok (.if_icmp .ge 75, 3) := by decide +kernel
theorem dX5_runAll_12 : decode cX5_runAll 12 = .ok (.aload_n 0, 1) := by decide +kernel
theorem dX5_runAll_13 : decode cX5_runAll 13 = .ok (.invokevirtual 58, 3) := by decide +kernel
theorem dX5_runAll_16 : decode cX5_runAll 16 = .ok (.istore_n 2, 1) := by decide +kernel
theorem dX5_runAll_17 : decode cX5_runAll 17 = .ok (.iload_n 2, 1) := by decide +kernel
theorem dX5_runAll_18 : decode cX5_runAll 18 = .ok (.iconst (-1), 1) := by decide +kernel
theorem dX5_runAll_19 : decode cX5_runAll 19 = .ok (.if_icmp .ne 4, 3) := by decide +kernel
theorem dX5_runAll_22 : decode cX5_runAll 22 = .ok (.return_, 1) := by decide +kernel
theorem dX5_runAll_23 : decode cX5_runAll 23 = .ok (.iconst 0, 1) := by decide +kernel
theorem dX5_runAll_24 : decode cX5_runAll 24 = .ok (.istore_n 3, 1) := by decide +kernel
theorem dX5_runAll_25 : decode cX5_runAll 25 = .ok (.iload_n 3, 1) := by decide +kernel
theorem dX5_runAll_26 : decode cX5_runAll 26 = .ok (.aload_n 0, 1) := by decide +kernel
theorem dX5_runAll_27 : decode cX5_runAll 27 = .ok (.getfield 47, 3) := by decide +kernel
theorem dX5_runAll_30 : decode cX5_runAll 30 = .ok (.invokevirtual 62, 3) := by decide +kernel
theorem dX5_runAll_33 : decode cX5_runAll 33 = .ok (.if_icmp .ge 45, 3) := by decide +kernel
theorem dX5_runAll_36 : decode cX5_runAll 36 = .ok (.aload_n 0, 1) := by decide +kernel
theorem dX5_runAll_37 : decode cX5_runAll 37 = .ok (.getfield 44, 3) := by decide +kernel
theorem dX5_runAll_40 : decode cX5_runAll 40 = .ok (.iload_n 3, 1) := by decide +kernel
theorem dX5_runAll_41 : decode cX5_runAll 41 = .ok (.iaload, 1) := by decide +kernel
theorem dX5_runAll_42 : decode cX5_runAll 42 = .ok (.iload_n 2, 1) := by decide +kernel
theorem dX5_runAll_43 : decode cX5_runAll 43 = .ok (.if_icmp .gt 12, 3) := by decide +kernel
theorem dX5_runAll_46 : decode cX5_runAll 46 = .ok (.aload_n 0, 1) := by decide +kernel
theorem dX5_runAll_47 : decode cX5_runAll 47 = .ok (.iload_n 3, 1) := by decide +kernel
theorem dX5_runAll_48 : decode cX5_runAll 48 = .ok (.iload_n 2, 1) := by decide +kernel
theorem dX5_runAll_49 : decode cX5_runAll 49 = .ok (.invokevirtual 64, 3) := by decide +kernel
theorem dX5_runAll_52 : decode cX5_runAll 52 = .ok (.goto 4, 3) := by decide +kernel
theorem dX5_runAll_55 : decode cX5_runAll 55 = .ok (.iconst (-1), 1) := by decide +kernel
theorem dX5_runAll_56 : decode cX5_runAll 56 = .ok (.istore 4, 2) := by decide +kernel
theorem dX5_runAll_58 : decode cX5_runAll 58 = .ok (.iload 4, 2) := by decide +kernel
theorem dX5_runAll_60 : decode cX5_runAll 60 = .ok (.iconst (-1), 1) := by decide +kernel
theorem dX5_runAll_61 : decode cX5_runAll 61 = .ok (.if_icmp .eq 11, 3) := by decide +kernel
theorem dX5_runAll_64 : decode cX5_runAll 64 = .ok (.aload_n 0, 1) := by decide +kernel
theorem dX5_runAll_65 : decode cX5_runAll 65 = .ok (.iload 4, 2) := by decide +kernel
theorem dX5_runAll_67 : decode cX5_runAll 67 = .ok (.iload_n 3, 1) := by decide +kernel
theorem dX5_runAll_68 : decode cX5_runAll 68 = .ok (.iload_n 2, 1) := by decide +kernel
theorem dX5_runAll_69 : decode cX5_runAll 69 = .ok (.invokevirtual 68, 3) := by decide +kernel
theorem dX5_runAll_72 : decode cX5_runAll 72 = .ok (.iinc 3 1, 3) := by decide +kernel
theorem dX5_runAll_75 : decode cX5_runAll 75 = .ok (.goto (-50), 3) := by decide +kernel
theorem dX5_runAll_78 : decode cX5_runAll 78 = .ok (.iinc 1 1, 3) := by decide +kernel
theorem dX5_runAll_81 : decode cX5_runAll 81 = .ok (.goto (-75), 3) := by decide +kernel
theorem dX5_runAll_84 : decode cX5_runAll 84 = .ok (.return_, 1) := by decide +kernel
theorem dX5_prepare_0 : decode cX5_prepare 0 = .ok (.iconst 0, 1) := by decide +kernel
theorem dX5_prepare_1 : decode cX5_prepare 1 = .ok (.istore_n 1, 1) := by decide +kernel
theorem dX5_prepare_2 : decode cX5_prepare 2 = .ok (.iload_n 1, 1) := by decide +kernel
theorem dX5_prepare_3 : decode cX5_prepare 3 = .ok (.aload_n 0, 1) := by decide +kernel
theorem dX5_prepare_4 : decode cX5_prepare 4 = .ok (.getfield 51, 3) := by decide +kernel
theorem dX5_prepare_7 : decode cX5_prepare 7 = .ok (.if_icmp .ge 98, 3) := by decide +kernel
theorem dX5_prepare_10 : decode cX5_prepare 10 = .ok (.aload_n 0, 1) := by decide +kernel
theorem dX5_prepare_11 : decode cX5_prepare 11 = .ok (.getfield 47, 3) := by decide +kernel
theorem dX5_prepare_14 : decode cX5_prepare 14 = .ok (.aload_n 0, 1) := by decide +kernel
theorem dX5_prepare_15 : decode cX5_prepare 15 = .ok (.getfield 13, 3) := by decide +kernel
theorem dX5_prepare_18 : decode cX5_prepare 18 = .ok (.iload_n 1, 1) := by decide +kernel
theorem dX5_prepare_19 : decode cX5_prepare 19 = .ok (.iaload, 1) := by decide +kernel
theorem dX5_prepare_20 : decode cX5_prepare 20 = .ok (.aload_n 0, 1) := by decide +kernel
theorem dX5_prepare_21 : decode cX5_prepare 21 = .ok (.getfield 17, 3) := by decide +kernel
theorem dX5_prepare_24 : decode cX5_prepare 24 = .ok (.iload_n 1, 1) := by decide +kernel
theorem dX5_prepare_25 : decode cX5_prepare 25 = .ok (.iaload, 1) := by decide +kernel
theorem dX5_prepare_26 : decode cX5_prepare 26 = .ok (.invokevirtual 72, 3) := by decide +kernel
theorem dX5_prepare_29 : decode cX5_prepare 29 = .ok (.pop, 1) := by decide +kernel
theorem dX5_prepare_30 : decode cX5_prepare 30 = .ok (.iconst 0, 1) := by decide +kernel
theorem dX5_prepare_31 : decode cX5_prepare 31 = .ok (.istore_n 2, 1) := by decide +kernel
theorem dX5_prepare_32 : decode cX5_prepare 32 = .ok (.iload_n 2, 1) := by decide +kernel
theorem dX5_prepare_33 : decode cX5_prepare 33 = .ok (.iconst 5, 1) := by decide +kernel
theorem dX5_prepare_34 : decode cX5_prepare 34 = .ok (.if_icmp .ge 39, 3) := by decide +kernel
theorem dX5_prepare_37 : decode cX5_prepare 37 = .ok (.aload_n 0, 1) := by decide +kernel
theorem dX5_prepare_38 : decode cX5_prepare 38 = .ok (.getfield 47, 3) := by decide +kernel
theorem dX5_prepare_41 : decode cX5_prepare 41 = .ok (.iload_n 2, 1) := by decide +kernel
theorem dX5_prepare_42 : decode cX5_prepare 42 = .ok (.invokevirtual 75, 3) := by decide +kernel
theorem dX5_prepare_45 : decode cX5_prepare 45 = .ok (.iconst (-1), 1) := by decide +kernel
theorem dX5_prepare_46 : decode cX5_prepare 46 = .ok (.if_icmp .eq 27, 3) := by decide +kernel
theorem dX5_prepare_49 : decode cX5_prepare 49 = .ok (.aload_n 0, 1) := by decide +kernel
theorem dX5_prepare_50 : decode cX5_prepare 50 = .ok (.getfield 29, 3) := by decide +kernel
theorem dX5_prepare_53 : decode cX5_prepare 53 = .ok (.iload_n 1, 1) := by decide +kernel
theorem dX5_prepare_54 : decode cX5_prepare 54 = .ok (.iconst 5, 1) := by decide +kernel
theorem dX5_prepare_55 : decode cX5_prepare 55 = .ok (.imul, 1) := by decide +kernel
theorem dX5_prepare_56 : decode cX5_prepare 56 = .ok (.iload_n 2, 1) := by decide +kernel
theorem dX5_prepare_57 : decode cX5_prepare 57 = .ok (.iadd, 1) := by decide +kernel
theorem dX5_prepare_58 : decode cX5_prepare 58 = .ok (.aload_n 0, 1) := by decide +kernel
theorem dX5_prepare_59 : decode cX5_prepare 59 = .ok (.getfield 47, 3) := by decide +kernel
theorem dX5_prepare_62 : decode cX5_prepare 62 = .ok (.iload_n 2, 1) := by decide +kernel
theorem dX5_prepare_63 : decode cX5_prepare 63 = .ok (.invokevirtual 75, 3) := by decide +kernel
theorem dX5_prepare_66 : decode cX5_prepare 66 = .ok (.iastore, 1) := by decide +kernel
theorem dX5_prepare_67 : decode cX5_prepare 67 = .ok (.iinc 2 1, 3) := by decide +kernel
theorem dX5_prepare_70 : decode cX5_prepare 70 = .ok (.goto (-38), 3) := by decide +kernel
theorem dX5_prepare_73 : decode cX5_prepare 73 = .ok (.aload_n 0, 1) := by decide +kernel
theorem dX5_prepare_74 : decode cX5_prepare 74 = .ok (.getfield 35, 3) := by decide +kernel
theorem dX5_prepare_77 : decode cX5_prepare 77 = .ok (.iload_n 1, 1) := by decide +kernel
theorem dX5_prepare_78 : decode cX5_prepare 78 = .ok (.iload_n 2, 1) := by decide +kernel
theorem dX5_prepare_79 : decode cX5_prepare 79 = .ok (.iastore, 1) := by decide +kernel
theorem dX5_prepare_80 : decode cX5_prepare 80 = .ok (.aload_n 0, 1) := by decide +kernel
theorem dX5_prepare_81 : decode cX5_prepare 81 = .ok (.getfield 38, 3) := by decide +kernel
theorem dX5_prepare_84 : decode cX5_prepare 84 = .ok (.iload_n 1, 1) := by decide +kernel
theorem dX5_prepare_85 : decode cX5_prepare 85 = .ok (.iconst 0, 1) := by decide +kernel
theorem dX5_prepare_86 : decode cX5_prepare 86 = .ok (.iastore, 1) := by decide +kernel
theorem dX5_prepare_87 : decode cX5_prepare 87 = .ok (.aload_n 0, 1) := by decide +kernel
theorem dX5_prepare_88 : decode cX5_prepare 88 = .ok (.getfield 41, 3) := by decide +kernel
theorem dX5_prepare_91 : decode cX5_prepare 91 = .ok (.iload_n 1, 1) := by decide +kernel
theorem dX5_prepare_92 : decode cX5_prepare 92 = .ok (.aload_n 0, 1) := by decide +kernel
theorem dX5_prepare_93 : decode cX5_prepare 93 = .ok (.getfield 20, 3) := by decide +kernel
theorem dX5_prepare_96 : decode cX5_prepare 96 = .ok (.iload_n 1, 1) := by decide +kernel
theorem dX5_prepare_97 : decode cX5_prepare 97 = .ok (.iaload, 1) := by decide +kernel
theorem dX5_prepare_98 : decode cX5_prepare 98 = .ok (.iastore, 1) := by decide +kernel
theorem dX5_prepare_99 : decode cX5_prepare 99 = .ok (.iinc 1 1, 3) := by decide +kernel
theorem dX5_prepare_102 : decode cX5_prepare 102 = .ok (.goto (-100), 3) := by decide +kernel
theorem dX5_prepare_105 : decode cX5_prepare 105 = .ok (.iconst 0, 1) := by decide +kernel
theorem dX5_prepare_106 : decode cX5_prepare 106 = .ok (.istore_n 1, 1) := by decide +kernel
theorem dX5_prepare_107 : decode cX5_prepare 107 = .ok (.iload_n 1, 1) := by decide +kernel
theorem dX5_prepare_108 : decode cX5_prepare 108 = .ok (.bipush 8, 2) := by decide +kernel
theorem dX5_prepare_110 : decode cX5_prepare 110 = .ok (.if_icmp .ge 16, 3) := by decide +kernel
theorem dX5_prepare_113 : decode cX5_prepare 113 = .ok (.aload_n 0, 1) := by decide +kernel
theorem dX5_prepare_114 : decode cX5_prepare 114 = .ok (.getfield 44, 3) := by decide +kernel
theorem dX5_prepare_117 : decode cX5_prepare 117 = .ok (.iload_n 1, 1) := by decide +kernel
theorem dX5_prepare_118 : decode cX5_prepare 118 = .ok (.iconst 0, 1) := by decide +kernel
theorem dX5_prepare_119 : decode cX5_prepare 119 = .ok (.iastore, 1) := by decide +kernel
theorem dX5_prepare_120 : decode cX5_prepare 120 = .ok (.iinc 1 1, 3) := by decide +kernel
theorem dX5_prepare_123 : decode cX5_prepare 123 = .ok (.goto (-16), 3) := by decide +kernel
theorem dX5_prepare_126 : decode cX5_prepare 126 = .ok (.return_, 1) := by decide +kernel
theorem dX5_nextBegin_0 : decode cX5_nextBegin 0 = .ok (.iconst (-1), 1) := by decide +kernel
theorem dX5_nextBegin_1 : decode cX5_nextBegin 1 = .ok (.istore_n 1, 1) := by decide +kernel
theorem dX5_nextBegin_2 : decode cX5_nextBegin 2 = .ok (.iconst 0, 1) := by decide +kernel
theorem dX5_nextBegin_3 : decode cX5_nextBegin 3 = .ok (.istore_n 2, 1) := by decide +kernel
theorem dX5_nextBegin_4 : decode cX5_nextBegin 4 = .ok (.iload_n 2, 1) := by decide +kernel
theorem dX5_nextBegin_5 : decode cX5_nextBegin 5 = .ok (.aload_n 0, 1) := by decide +kernel
theorem dX5_nextBegin_6 : decode cX5_nextBegin 6 = .ok (.getfield 51, 3) := by decide +kernel
theorem dX5_nextBegin_9 : decode cX5_nextBegin 9 = .ok (.if_icmp .ge 51, 3) := by decide +kernel
theorem dX5_nextBegin_12 : decode cX5_nextBegin 12 = .ok (.aload_n 0, 1) := by decide +kernel
theorem dX5_nextBegin_13 : decode cX5_nextBegin 13 = .ok (.iload_n 2, 1) := by decide +kernel
theorem dX5_nextBegin_14 : decode cX5_nextBegin 14 = .ok (.invokevirtual 79, 3) := by decide +kernel
theorem dX5_nextBegin_17 : decode cX5_nextBegin 17 = .ok (.istore_n 3, 1) := by decide +kernel
theorem dX5_nextBegin_18 : decode cX5_nextBegin 18 = .ok (.iload_n 3, 1) := by decide +kernel
theorem dX5_nextBegin_19 : decode cX5_nextBegin 19 = .ok (.iconst (-1), 1) := by decide +kernel
theorem dX5_nextBegin_20 : decode cX5_nextBegin 20 = .ok (.if_icmp .eq 34, 3) := by decide +kernel
theorem dX5_nextBegin_23 : decode cX5_nextBegin 23 = .ok (.aload_n 0, 1) := by decide +kernel
theorem dX5_nextBegin_24 : decode cX5_nextBegin 24 = .ok (.getfield 41, 3) := by decide +kernel
theorem dX5_nextBegin_27 : decode cX5_nextBegin 27 = .ok (.iload_n 2, 1) := by decide +kernel
theorem dX5_nextBegin_28 : decode cX5_nextBegin 28 = .ok (.iaload, 1) := by decide +kernel
theorem dX5_nextBegin_29 : decode cX5_nextBegin 29 = .ok (.aload_n 0, 1) := by decide +kernel
theorem dX5_nextBegin_30 : decode cX5_nextBegin 30 = .ok (.getfield 44, 3) := by decide +kernel
theorem dX5_nextBegin_33 : decode cX5_nextBegin 33 = .ok (.iload_n 3, 1) := by decide +kernel
theorem dX5_nextBegin_34 : decode cX5_nextBegin 34 = .ok (.iaload, 1) := by decide +kernel
theorem dX5_nextBegin_35 : decode cX5_nextBegin 35 = .ok (.invokestatic 82, 3) := by decide +kernel
theorem dX5_nextBegin_38 : decode cX5_nextBegin 38 = .ok (.istore 4, 2) := by decide +kernel
theorem dX5_nextBegin_40 : decode cX5_nextBegin 40 = .ok (.iload_n 1, 1) := by decide +kernel
theorem dX5_nextBegin_41 : decode cX5_nextBegin 41 = .ok (.iconst (-1), 1) := by decide +kernel
theorem dX5_nextBegin_42 : decode cX5_nextBegin 42 = .ok (.if_icmp .eq 9, 3) := by decide +kernel
theorem dX5_nextBegin_45 : decode cX5_nextBegin 45 = .ok (.iload 4, 2) := by decide +kernel
theorem dX5_nextBegin_47 : decode cX5_nextBegin 47 = .ok (.iload_n 1, 1) := by decide +kernel
theorem dX5_nextBegin_48 : decode cX5_nextBegin 48 = .ok (.if_icmp .ge 6, 3) := by decide +kernel
theorem dX5_nextBegin_51 : decode cX5_nextBegin 51 = .ok (.iload 4, 2) := by decide +kernel
theorem dX5_nextBegin_53 : decode cX5_nextBegin 53 = .ok (.istore_n 1, 1) := by decide +kernel
theorem dX5_nextBegin_54 : decode cX5_nextBegin 54 = .ok (.iinc 2 1, 3) := by decide +kernel
theorem dX5_nextBegin_57 : decode cX5_nextBegin 57 = .ok (.goto (-53), 3) := by decide +kernel
theorem dX5_nextBegin_60 : decode cX5_nextBegin 60 = .ok (.iload_n 1, 1) := by decide +kernel
theorem dX5_nextBegin_61 : decode cX5_nextBegin 61 = .ok (.ireturn, 1) := by decide +kernel
theorem dX5_nextLine_0 : decode cX5_nextLine 0 = .ok (.aload_n 0, 1) := by decide +kernel
theorem dX5_nextLine_1 : decode cX5_nextLine 1 = .ok (.getfield 38, 3) := by decide +kernel
theorem dX5_nextLine_4 : decode cX5_nextLine 4 = .ok (.iload_n 1, 1) := by decide +kernel
theorem dX5_nextLine_5 : decode cX5_nextLine 5 = .ok (.iaload, 1) := by decide +kernel
theorem dX5_nextLine_6 : decode cX5_nextLine 6 = .ok (.istore_n 2, 1) := by decide +kernel
theorem dX5_nextLine_7 : decode cX5_nextLine 7 = .ok (.iload_n 2, 1) := by decide +kernel
theorem dX5_nextLine_8 : decode cX5_nextLine 8 = .ok (.aload_n 0, 1) := by decide +kernel
theorem dX5_nextLine_9 : decode cX5_nextLine 9 = .ok (.getfield 35, 3) := by decide +kernel
theorem dX5_nextLine_12 : decode cX5_nextLine 12 = .ok (.iload_n 1, 1) := by decide +kernel
theorem dX5_nextLine_13 : decode cX5_nextLine 13 = .ok (.iaload, 1) := by decide +kernel
theorem dX5_nextLine_14 : decode cX5_nextLine 14 = .ok (.if_icmp .ge 21, 3) := by decide +kernel
theorem dX5_nextLine_17 : decode cX5_nextLine 17 = .ok (.iload_n 2, 1) := by decide +kernel
theorem dX5_nextLine_18 : decode cX5_nextLine 18 = .ok (.iconst 5, 1) := by decide +kernel
theorem dX5_nextLine_19 : decode cX5_nextLine 19 = .ok (.if_icmp .ge 16, 3) := by decide +kernel
theorem dX5_nextLine_22 : decode cX5_nextLine 22 = .ok (.aload_n 0, 1) := by decide +kernel
theorem dX5_nextLine_23 : decode cX5_nextLine 23 = .ok (.getfield 29, 3) := by decide +kernel
theorem dX5_nextLine_26 : decode cX5_nextLine 26 = .ok (.iload_n 1, 1) := by decide +kernel
theorem dX5_nextLine_27 : decode cX5_nextLine 27 = .ok (.iconst 5, 1) := by decide +kernel
theorem dX5_nextLine_28 : decode cX5_nextLine 28 = .ok (.imul, 1) := by decide +kernel
theorem dX5_nextLine_29 : decode cX5_nextLine 29 = .ok (.iload_n 2, 1) := by decide +kernel
theorem dX5_nextLine_30 : decode cX5_nextLine 30 = .ok (.iadd, 1) := by decide +kernel
theorem dX5_nextLine_31 : decode cX5_nextLine 31 = .ok (.iaload, 1) := by decide +kernel
theorem dX5_nextLine_32 : decode cX5_nextLine 32 = .ok (.goto 4, 3) := by decide +kernel
theorem dX5_nextLine_35 : decode cX5_nextLine 35 = .ok (.iconst (-1), 1) := by decide +kernel
theorem dX5_nextLine_36 : decode cX5_nextLine 36 = .ok (.istore_n 3, 1) := by decide +kernel
theorem dX5_nextLine_37 : decode cX5_nextLine 37 = .ok (.aload_n 0, 1) := by decide +kernel
theorem dX5_nextLine_38 : decode cX5_nextLine 38 = .ok (.getfield 47, 3) := by decide +kernel
theorem dX5_nextLine_41 : decode cX5_nextLine 41 = .ok (.iload_n 3, 1) := by decide +kernel
theorem dX5_nextLine_42 : decode cX5_nextLine 42 = .ok (.invokevirtual 87, 3) := by decide +kernel
theorem dX5_nextLine_45 : decode cX5_nextLine 45 = .ok (.ifCond .eq 7, 3) := by decide +kernel
theorem dX5_nextLine_48 : decode cX5_nextLine 48 = .ok (.iload_n 3, 1) := by decide +kernel
theorem dX5_nextLine_49 : decode cX5_nextLine 49 = .ok (.goto 4, 3) := by decide +kernel
theorem dX5_nextLine_52 : decode cX5_nextLine 52 = .ok (.iconst (-1), 1) := by decide +kernel
theorem dX5_nextLine_53 : decode cX5_nextLine 53 = .ok (.ireturn, 1) := by decide +kernel
theorem dX5_chosenFor_0 : decode cX5_chosenFor 0 = .ok (.iconst (-1), 1) := by decide +kernel
theorem dX5_chosenFor_1 : decode cX5_chosenFor 1 = .ok (.istore_n 3, 1) := by decide +kernel
theorem dX5_chosenFor_2 : decode cX5_chosenFor 2 = .ok (.iconst 0, 1) := by decide +kernel
theorem dX5_chosenFor_3 : decode cX5_chosenFor 3 = .ok (.istore 4, 2) := by decide +kernel
theorem dX5_chosenFor_5 : decode cX5_chosenFor 5 = .ok (.iload 4, 2) := by decide +kernel
theorem dX5_chosenFor_7 : decode cX5_chosenFor 7 = .ok (.aload_n 0, 1) := by decide +kernel
theorem dX5_chosenFor_8 : decode cX5_chosenFor 8 = .ok (.getfield 51, 3) := by decide +kernel
theorem dX5_chosenFor_11 : decode cX5_chosenFor 11 = .ok (.if_icmp .ge 48, 3) := by decide +kernel
theorem dX5_chosenFor_14 : decode cX5_chosenFor 14 = .ok (.aload_n 0, 1) := by decide +kernel
theorem dX5_chosenFor_15 : decode cX5_chosenFor 15 = .ok (.iload 4, 2) := by decide +kernel
theorem dX5_chosenFor_17 : decode cX5_chosenFor 17 = .ok (.invokevirtual 79, 3) := by decide +kernel
theorem dX5_chosenFor_20 : decode cX5_chosenFor 20 = .ok (.iload_n 1, 1) := by decide +kernel
theorem dX5_chosenFor_21 : decode cX5_chosenFor 21 = .ok (.if_icmp .ne 32, 3) := by decide +kernel
theorem dX5_chosenFor_24 : decode cX5_chosenFor 24 = .ok (.aload_n 0, 1) := by decide +kernel
theorem dX5_chosenFor_25 : decode cX5_chosenFor 25 = .ok (.getfield 41, 3) := by decide +kernel
theorem dX5_chosenFor_28 : decode cX5_chosenFor 28 = .ok (.iload 4, 2) := by decide +kernel
theorem dX5_chosenFor_30 : decode cX5_chosenFor 30 = .ok (.iaload, 1) := by decide +kernel
theorem dX5_chosenFor_31 : decode cX5_chosenFor 31 = .ok (.iload_n 2, 1) := by decide +kernel
theorem dX5_chosenFor_32 : decode cX5_chosenFor 32 = .ok (.if_icmp .gt 21, 3) := by decide +kernel
theorem dX5_chosenFor_35 : decode cX5_chosenFor 35 = .ok (.iload_n 3, 1) := by decide +kernel
theorem dX5_chosenFor_36 : decode cX5_chosenFor 36 = .ok (.iconst (-1), 1) := by decide +kernel
theorem dX5_chosenFor_37 : decode cX5_chosenFor 37 = .ok (.if_icmp .eq 13, 3) := by decide +kernel
theorem dX5_chosenFor_40 : decode cX5_chosenFor 40 = .ok (.aload_n 0, 1) := by decide +kernel
theorem dX5_chosenFor_41 : decode cX5_chosenFor 41 = .ok (.iload 4, 2) := by decide +kernel
theorem dX5_chosenFor_43 : decode cX5_chosenFor 43 = .ok (.iload_n 3, 1) := by decide +kernel
theorem dX5_chosenFor_44 : decode cX5_chosenFor 44 = .ok (.invokevirtual 91, 3) := by decide +kernel
theorem dX5_chosenFor_47 : decode cX5_chosenFor 47 = .ok (.ifCond .eq 6, 3) := by decide +kernel
theorem dX5_chosenFor_50 : decode cX5_chosenFor 50 = .ok (.iload 4, 2) := by decide +kernel
theorem dX5_chosenFor_52 : decode cX5_chosenFor 52 = .ok (.istore_n 3, 1) := by decide +kernel
theorem dX5_chosenFor_53 : decode cX5_chosenFor 53 = .ok (.iinc 4 1, 3) := by decide +kernel
theorem dX5_chosenFor_56 : decode cX5_chosenFor 56 = .ok (.goto (-51), 3) := by decide +kernel
theorem dX5_chosenFor_59 : decode cX5_chosenFor 59 = .ok (.iload_n 3, 1) := by decide +kernel
theorem dX5_chosenFor_60 : decode cX5_chosenFor 60 = .ok (.ireturn, 1) := by decide +kernel
theorem dX5_goesAhead_0 : decode cX5_goesAhead 0 = .ok (.aload_n 0, 1) := by decide +kernel
theorem dX5_goesAhead_1 : decode cX5_goesAhead 1 = .ok (.getfield 26, 3) := by decide +kernel
theorem dX5_goesAhead_4 : decode cX5_goesAhead 4 = .ok (.iload_n 1, 1) := by decide +kernel
theorem dX5_goesAhead_5 : decode cX5_goesAhead 5 = .ok (.iaload, 1) := by decide +kernel
theorem dX5_goesAhead_6 : decode cX5_goesAhead 6 = .ok (.aload_n 0, 1) := by decide +kernel
theorem dX5_goesAhead_7 : decode cX5_goesAhead 7 = .ok (.getfield 26, 3) := by decide +kernel
theorem dX5_goesAhead_10 : decode cX5_goesAhead 10 = .ok (.iload_n 2, 1) := by decide +kernel
theorem dX5_goesAhead_11 : decode cX5_goesAhead 11 = .ok (.iaload, 1) := by decide +kernel
theorem dX5_goesAhead_12 : decode cX5_goesAhead 12 = .ok (.if_icmp .eq 24, 3) := by decide +kernel
theorem dX5_goesAhead_15 : decode cX5_goesAhead 15 = .ok (.aload_n 0, 1) := by decide +kernel
theorem dX5_goesAhead_16 : decode cX5_goesAhead 16 = .ok (.getfield 26, 3) := by decide +kernel
theorem dX5_goesAhead_19 : decode cX5_goesAhead 19 = .ok (.iload_n 1, 1) := by decide +kernel
theorem dX5_goesAhead_20 : decode cX5_goesAhead 20 = .ok (.iaload, 1) := by decide +kernel
theorem dX5_goesAhead_21 : decode cX5_goesAhead 21 = .ok (.aload_n 0, 1) := by decide +kernel
theorem dX5_goesAhead_22 : decode cX5_goesAhead 22 = .ok (.getfield 26, 3) := by decide +kernel
theorem dX5_goesAhead_25 : decode cX5_goesAhead 25 = .ok (.iload_n 2, 1) := by decide +kernel
theorem dX5_goesAhead_26 : decode cX5_goesAhead 26 = .ok (.iaload, 1) := by decide +kernel
theorem dX5_goesAhead_27 : decode cX5_goesAhead 27 = .ok (.if_icmp .le 7, 3) := by decide +kernel
theorem dX5_goesAhead_30 : decode cX5_goesAhead 30 = .ok (.iconst 1, 1) := by decide +kernel
theorem dX5_goesAhead_31 : decode cX5_goesAhead 31 = .ok (.goto 4, 3) := by decide +kernel
theorem dX5_goesAhead_34 : decode cX5_goesAhead 34 = .ok (.iconst 0, 1) := by decide +kernel
theorem dX5_goesAhead_35 : decode cX5_goesAhead 35 = .ok (.ireturn, 1) := by decide +kernel
theorem dX5_goesAhead_36 : decode cX5_goesAhead 36 = .ok (.aload_n 0, 1) := by decide +kernel
theorem dX5_goesAhead_37 : decode cX5_goesAhead 37 = .ok (.getfield 41, 3) := by decide +kernel
theorem dX5_goesAhead_40 : decode cX5_goesAhead 40 = .ok (.iload_n 1, 1) := by decide +kernel
theorem dX5_goesAhead_41 : decode cX5_goesAhead 41 = .ok (.iaload, 1) := by decide +kernel
theorem dX5_goesAhead_42 : decode cX5_goesAhead 42 = .ok (.aload_n 0, 1) := by decide +kernel
theorem dX5_goesAhead_43 : decode cX5_goesAhead 43 = .ok (.getfield 41, 3) := by decide +kernel
theorem dX5_goesAhead_46 : decode cX5_goesAhead 46 = .ok (.iload_n 2, 1) := by decide +kernel
theorem dX5_goesAhead_47 : decode cX5_goesAhead 47 = .ok (.iaload, 1) := by decide +kernel
theorem dX5_goesAhead_48 : decode cX5_goesAhead 48 = .ok (.if_icmp .ge 7, 3) := by decide +kernel
theorem dX5_goesAhead_51 : decode cX5_goesAhead 51 = .ok (.iconst 1, 1) := by decide +kernel
theorem dX5_goesAhead_52 : decode cX5_goesAhead 52 = .ok (.goto 4, 3) := by decide +kernel
theorem dX5_goesAhead_55 : decode cX5_goesAhead 55 = .ok (.iconst 0, 1) := by decide +kernel
theorem dX5_goesAhead_56 : decode cX5_goesAhead 56 = .ok (.ireturn, 1) := by decide +kernel
theorem dX5_begin_0 : decode cX5_begin 0 = .ok (.aload_n 0, 1) := by decide +kernel
theorem dX5_begin_1 : decode cX5_begin 1 = .ok (.getfield 32, 3) := by decide +kernel
theorem dX5_begin_4 : decode cX5_begin 4 = .ok (.iload_n 1, 1) := by decide +kernel
theorem dX5_begin_5 : decode cX5_begin 5 = .ok (.iconst 5, 1) := by decide +kernel
theorem dX5_begin_6 : decode cX5_begin 6 = .ok (.imul, 1) := by decide +kernel
theorem dX5_begin_7 : decode cX5_begin 7 = .ok (.aload_n 0, 1) := by decide +kernel
theorem dX5_begin_8 : decode cX5_begin 8 = .ok (.getfield 38, 3) := by decide +kernel
theorem dX5_begin_11 : decode cX5_begin 11 = .ok (.iload_n 1, 1) := by decide +kernel
theorem dX5_begin_12 : decode cX5_begin 12 = .ok (.iaload, 1) := by decide +kernel
theorem dX5_begin_13 : decode cX5_begin 13 = .ok (.iadd, 1) := by decide +kernel
theorem dX5_begin_14 : decode cX5_begin 14 = .ok (.iload_n 3, 1) := by decide +kernel
theorem dX5_begin_15 : decode cX5_begin 15 = .ok (.iastore, 1) := by decide +kernel
theorem dX5_begin_16 : decode cX5_begin 16 = .ok (.aload_n 0, 1) := by decide +kernel
theorem dX5_begin_17 : decode cX5_begin 17 = .ok (.getfield 38, 3) := by decide +kernel
theorem dX5_begin_20 : decode cX5_begin 20 = .ok (.iload_n 1, 1) := by decide +kernel
theorem dX5_begin_21 : decode cX5_begin 21 = .ok (.dup2, 1) := by decide +kernel
theorem dX5_begin_22 : decode cX5_begin 22 = .ok (.iaload, 1) := by decide +kernel
theorem dX5_begin_23 : decode cX5_begin 23 = .ok (.iconst 1, 1) := by decide +kernel
theorem dX5_begin_24 : decode cX5_begin 24 = .ok (.iadd, 1) := by decide +kernel
theorem dX5_begin_25 : decode cX5_begin 25 = .ok (.iastore, 1) := by decide +kernel
theorem dX5_begin_26 : decode cX5_begin 26 = .ok (.aload_n 0, 1) := by decide +kernel
theorem dX5_begin_27 : decode cX5_begin 27 = .ok (.getfield 41, 3) := by decide +kernel
theorem dX5_begin_30 : decode cX5_begin 30 = .ok (.iload_n 1, 1) := by decide +kernel
theorem dX5_begin_31 : decode cX5_begin 31 = .ok (.iload_n 3, 1) := by decide +kernel
theorem dX5_begin_32 : decode cX5_begin 32 = .ok (.aload_n 0, 1) := by decide +kernel
theorem dX5_begin_33 : decode cX5_begin 33 = .ok (.getfield 23, 3) := by decide +kernel
theorem dX5_begin_36 : decode cX5_begin 36 = .ok (.iload_n 1, 1) := by decide +kernel
theorem dX5_begin_37 : decode cX5_begin 37 = .ok (.iaload, 1) := by decide +kernel
theorem dX5_begin_38 : decode cX5_begin 38 = .ok (.iadd, 1) := by decide +kernel
theorem dX5_begin_39 : decode cX5_begin 39 = .ok (.iastore, 1) := by decide +kernel
theorem dX5_begin_40 : decode cX5_begin 40 = .ok (.aload_n 0, 1) := by decide +kernel
theorem dX5_begin_41 : decode cX5_begin 41 = .ok (.getfield 44, 3) := by decide +kernel
theorem dX5_begin_44 : decode cX5_begin 44 = .ok (.iload_n 2, 1) := by decide +kernel
theorem dX5_begin_45 : decode cX5_begin 45 = .ok (.iload_n 3, 1) := by decide +kernel
theorem dX5_begin_46 : decode cX5_begin 46 = .ok (.aload_n 0, 1) := by decide +kernel
theorem dX5_begin_47 : decode cX5_begin 47 = .ok (.getfield 23, 3) := by decide +kernel
theorem dX5_begin_50 : decode cX5_begin 50 = .ok (.iload_n 1, 1) := by decide +kernel
theorem dX5_begin_51 : decode cX5_begin 51 = .ok (.iaload, 1) := by decide +kernel
theorem dX5_begin_52 : decode cX5_begin 52 = .ok (.iadd, 1) := by decide +kernel
theorem dX5_begin_53 : decode cX5_begin 53 = .ok (.iastore, 1) := by decide +kernel
theorem dX5_begin_54 : decode cX5_begin 54 = .ok (.return_, 1) := by decide +kernel
theorem dX5_arrivalOf_0 : decode cX5_arrivalOf 0 = .ok (.aload_n 0, 1) := by decide +kernel
theorem dX5_arrivalOf_1 : decode cX5_arrivalOf 1 = .ok (.iload_n 1, 1) := by decide +kernel
theorem dX5_arrivalOf_2 : decode cX5_arrivalOf 2 = .ok (.invokevirtual 95, 3) := by decide +kernel
theorem dX5_arrivalOf_5 : decode cX5_arrivalOf 5 = .ok (.ifCond .eq 12, 3) := by decide +kernel
theorem dX5_arrivalOf_8 : decode cX5_arrivalOf 8 = .ok (.aload_n 0, 1) := by decide +kernel
theorem dX5_arrivalOf_9 : decode cX5_arrivalOf 9 = .ok (.getfield 41, 3) := by decide +kernel
theorem dX5_arrivalOf_12 : decode cX5_arrivalOf 12 = .ok (.iload_n 1, 1) := by decide +kernel
theorem dX5_arrivalOf_13 : decode cX5_arrivalOf 13 = .ok (.iaload, 1) := by decide +kernel
theorem dX5_arrivalOf_14 : decode cX5_arrivalOf 14 = .ok (.goto 4, 3) := by decide +kernel
theorem dX5_arrivalOf_17 : decode cX5_arrivalOf 17 = .ok (.iconst (-1), 1) := by decide +kernel
theorem dX5_arrivalOf_18 : decode cX5_arrivalOf 18 = .ok (.ireturn, 1) := by decide +kernel
theorem dX5_waitOf_0 : decode cX5_waitOf 0 = .ok (.aload_n 0, 1) := by decide +kernel
theorem dX5_waitOf_1 : decode cX5_waitOf 1 = .ok (.iload_n 1, 1) := by decide +kernel
theorem dX5_waitOf_2 : decode cX5_waitOf 2 = .ok (.invokevirtual 95, 3) := by decide +kernel
theorem dX5_waitOf_5 : decode cX5_waitOf 5 = .ok (.ifCond .ne 5, 3) := by decide +kernel
theorem dX5_waitOf_8 : decode cX5_waitOf 8 = .ok (.iconst (-1), 1) := by decide +kernel
theorem dX5_waitOf_9 : decode cX5_waitOf 9 = .ok (.ireturn, 1) := by decide +kernel
theorem dX5_waitOf_10 : decode cX5_waitOf 10 = .ok (.aload_n 0, 1) := by decide +kernel
theorem dX5_waitOf_11 : decode cX5_waitOf 11 = .ok (.getfield 41, 3) := by decide +kernel
theorem dX5_waitOf_14 : decode cX5_waitOf 14 = .ok (.iload_n 1, 1) := by decide +kernel
theorem dX5_waitOf_15 : decode cX5_waitOf 15 = .ok (.iaload, 1) := by decide +kernel
theorem dX5_waitOf_16 : decode cX5_waitOf 16 = .ok (.aload_n 0, 1) := by decide +kernel
theorem dX5_waitOf_17 : decode cX5_waitOf 17 = .ok (.getfield 20, 3) := by decide +kernel
theorem dX5_waitOf_20 : decode cX5_waitOf 20 = .ok (.iload_n 1, 1) := by decide +kernel
theorem dX5_waitOf_21 : decode cX5_waitOf 21 = .ok (.iaload, 1) := by decide +kernel
theorem dX5_waitOf_22 : decode cX5_waitOf 22 = .ok (.isub, 1) := by decide +kernel
theorem dX5_waitOf_23 : decode cX5_waitOf 23 = .ok (.aload_n 0, 1) := by decide +kernel
theorem dX5_waitOf_24 : decode cX5_waitOf 24 = .ok (.getfield 38, 3) := by decide +kernel
theorem dX5_waitOf_27 : decode cX5_waitOf 27 = .ok (.iload_n 1, 1) := by decide +kernel
theorem dX5_waitOf_28 : decode cX5_waitOf 28 = .ok (.iaload, 1) := by decide +kernel
theorem dX5_waitOf_29 : decode cX5_waitOf 29 = .ok (.aload_n 0, 1) := by decide +kernel
theorem dX5_waitOf_30 : decode cX5_waitOf 30 = .ok (.getfield 23, 3) := by decide +kernel
theorem dX5_waitOf_33 : decode cX5_waitOf 33 = .ok (.iload_n 1, 1) := by decide +kernel
theorem dX5_waitOf_34 : decode cX5_waitOf 34 = .ok (.iaload, 1) := by decide +kernel
theorem dX5_waitOf_35 : decode cX5_waitOf 35 = .ok (.imul, 1) := by decide +kernel
theorem dX5_waitOf_36 : decode cX5_waitOf 36 = .ok (.isub, 1) := by decide +kernel
theorem dX5_waitOf_37 : decode cX5_waitOf 37 = .ok (.ireturn, 1) := by decide +kernel
theorem dX5_whereIs_0 : decode cX5_whereIs 0 = .ok (.aload_n 0, 1) := by decide +kernel
theorem dX5_whereIs_1 : decode cX5_whereIs 1 = .ok (.iload_n 1, 1) := by decide +kernel
theorem dX5_whereIs_2 : decode cX5_whereIs 2 = .ok (.invokevirtual 95, 3) := by decide +kernel
theorem dX5_whereIs_5 : decode cX5_whereIs 5 = .ok (.ifCond .eq 13, 3) := by decide +kernel
theorem dX5_whereIs_8 : decode cX5_whereIs 8 = .ok (.iload_n 2, 1) := by decide +kernel
theorem dX5_whereIs_9 : decode cX5_whereIs 9 = .ok (.aload_n 0, 1) := by decide +kernel
theorem dX5_whereIs_10 : decode cX5_whereIs 10 = .ok (.getfield 20, 3) := by decide +kernel
theorem dX5_whereIs_13 : decode cX5_whereIs 13 = .ok (.iload_n 1, 1) := by decide +kernel
theorem dX5_whereIs_14 : decode cX5_whereIs 14 = .ok (.iaload, 1) := by decide +kernel
theorem dX5_whereIs_15 : decode cX5_whereIs 15 = .ok (.if_icmp .ge 5, 3) := by decide +kernel
theorem dX5_whereIs_18 : decode cX5_whereIs 18 = .ok (.iconst (-1), 1) := by decide +kernel
theorem dX5_whereIs_19 : decode cX5_whereIs 19 = .ok (.ireturn, 1) := by decide +kernel
theorem dX5_whereIs_20 : decode cX5_whereIs 20 = .ok (.aload_n 0, 1) := by decide +kernel
theorem dX5_whereIs_21 : decode cX5_whereIs 21 = .ok (.getfield 13, 3) := by decide +kernel
theorem dX5_whereIs_24 : decode cX5_whereIs 24 = .ok (.iload_n 1, 1) := by decide +kernel
theorem dX5_whereIs_25 : decode cX5_whereIs 25 = .ok (.iaload, 1) := by decide +kernel
theorem dX5_whereIs_26 : decode cX5_whereIs 26 = .ok (.istore_n 3, 1) := by decide +kernel
theorem dX5_whereIs_27 : decode cX5_whereIs 27 = .ok (.iconst 0, 1) := by decide +kernel
theorem dX5_whereIs_28 : decode cX5_whereIs 28 = .ok (.istore 4, 2) := by decide +kernel
theorem dX5_whereIs_30 : decode cX5_whereIs 30 = .ok (.iload 4, 2) := by decide +kernel
theorem dX5_whereIs_32 : decode cX5_whereIs 32 = .ok (.aload_n 0, 1) := by decide +kernel
theorem dX5_whereIs_33 : decode cX5_whereIs 33 = .ok (.getfield 38, 3) := by decide +kernel
theorem dX5_whereIs_36 : decode cX5_whereIs 36 = .ok (.iload_n 1, 1) := by decide +kernel
theorem dX5_whereIs_37 : decode cX5_whereIs 37 = .ok (.iaload, 1) := by decide +kernel
theorem dX5_whereIs_38 : decode cX5_whereIs 38 = .ok (.if_icmp .ge 78, 3) := by decide +kernel
theorem dX5_whereIs_41 : decode cX5_whereIs 41 = .ok (.iload 4, 2) := by decide +kernel
theorem dX5_whereIs_43 : decode cX5_whereIs 43 = .ok (.iconst 5, 1) := by decide +kernel
theorem dX5_whereIs_44 : decode cX5_whereIs 44 = .ok (.if_icmp .ge 72, 3) := by decide +kernel
theorem dX5_whereIs_47 : decode cX5_whereIs 47 = .ok (.aload_n 0, 1) := by decide +kernel
theorem dX5_whereIs_48 : decode cX5_whereIs 48 = .ok (.getfield 29, 3) := by decide +kernel
theorem dX5_whereIs_51 : decode cX5_whereIs 51 = .ok (.iload_n 1, 1) := by decide +kernel
theorem dX5_whereIs_52 : decode cX5_whereIs 52 = .ok (.iconst 5, 1) := by decide +kernel
theorem dX5_whereIs_53 : decode cX5_whereIs 53 = .ok (.imul, 1) := by decide +kernel
theorem dX5_whereIs_54 : decode cX5_whereIs 54 = .ok (.iload 4, 2) := by decide +kernel
theorem dX5_whereIs_56 : decode cX5_whereIs 56 = .ok (.iadd, 1) := by decide +kernel
theorem dX5_whereIs_57 : decode cX5_whereIs 57 = .ok (.iaload, 1) := by decide +kernel
theorem dX5_whereIs_58 : decode cX5_whereIs 58 = .ok (.istore 5, 2) := by decide +kernel
theorem dX5_whereIs_60 : decode cX5_whereIs 60 = .ok (.aload_n 0, 1) := by decide +kernel
theorem dX5_whereIs_61 : decode cX5_whereIs 61 = .ok (.getfield 32, 3) := by decide +kernel
theorem dX5_whereIs_64 : decode cX5_whereIs 64 = .ok (.iload_n 1, 1) := by decide +kernel
theorem dX5_whereIs_65 : decode cX5_whereIs 65 = .ok (.iconst 5, 1) := by decide +kernel
theorem dX5_whereIs_66 : decode cX5_whereIs 66 = .ok (.imul, 1) := by decide +kernel
theorem dX5_whereIs_67 : decode cX5_whereIs 67 = .ok (.iload 4, 2) := by decide +kernel
theorem dX5_whereIs_69 : decode cX5_whereIs 69 = .ok (.iadd, 1) := by decide +kernel
theorem dX5_whereIs_70 : decode cX5_whereIs 70 = .ok (.iaload, 1) := by decide +kernel
theorem dX5_whereIs_71 : decode cX5_whereIs 71 = .ok (.istore 6, 2) := by decide +kernel
theorem dX5_whereIs_73 : decode cX5_whereIs 73 = .ok (.iload_n 2, 1) := by decide +kernel
theorem dX5_whereIs_74 : decode cX5_whereIs 74 = .ok (.iload 6, 2) := by decide +kernel
theorem dX5_whereIs_76 : decode cX5_whereIs 76 = .ok (.if_icmp .ge 5, 3) := by decide +kernel
theorem dX5_whereIs_79 : decode cX5_whereIs 79 = .ok (.iload_n 3, 1) := by decide +kernel
theorem dX5_whereIs_80 : decode cX5_whereIs 80 = .ok (.ireturn, 1) := by decide +kernel
theorem dX5_whereIs_81 : decode cX5_whereIs 81 = .ok (.iload_n 2, 1) := by decide +kernel
theorem dX5_whereIs_82 : decode cX5_whereIs 82 = .ok (.iload 6, 2) := by decide +kernel
theorem dX5_whereIs_84 : decode cX5_whereIs 84 = .ok (.aload_n 0, 1) := by decide +kernel
theorem dX5_whereIs_85 : decode cX5_whereIs 85 = .ok (.getfield 23, 3) := by decide +kernel
theorem dX5_whereIs_88 : decode cX5_whereIs 88 = .ok (.iload_n 1, 1) := by decide +kernel
theorem dX5_whereIs_89 : decode cX5_whereIs 89 = .ok (.iaload, 1) := by decide +kernel
theorem dX5_whereIs_90 : decode cX5_whereIs 90 = .ok (.iadd, 1) := by decide +kernel
theorem dX5_whereIs_91 : decode cX5_whereIs 91 = .ok (.if_icmp .ge 9, 3) := by decide +kernel
theorem dX5_whereIs_94 : decode cX5_whereIs 94 = .ok (.bipush 10, 2) := by decide +kernel
theorem dX5_whereIs_96 : decode cX5_whereIs 96 = .ok (.iload 5, 2) := by decide +kernel
theorem dX5_whereIs_98 : decode cX5_whereIs 98 = .ok (.iadd, 1) := by decide +kernel
theorem dX5_whereIs_99 : decode cX5_whereIs 99 = .ok (.ireturn, 1) := by decide +kernel
theorem dX5_whereIs_100 : decode cX5_whereIs 100 = .ok (.aload_n 0, 1) := by decide +kernel
theorem dX5_whereIs_101 : decode cX5_whereIs 101 = .ok (.getfield 47, 3) := by decide +kernel
theorem dX5_whereIs_104 : decode cX5_whereIs 104 = .ok (.iload 5, 2) := by decide +kernel
theorem dX5_whereIs_106 : decode cX5_whereIs 106 = .ok (.invokevirtual 96, 3) := by decide +kernel
theorem dX5_whereIs_109 : decode cX5_whereIs 109 = .ok (.istore_n 3, 1) := by decide +kernel
theorem dX5_whereIs_110 : decode cX5_whereIs 110 = .ok (.iinc 4 1, 3) := by decide +kernel
theorem dX5_whereIs_113 : decode cX5_whereIs 113 = .ok (.goto (-83), 3) := by decide +kernel
theorem dX5_whereIs_116 : decode cX5_whereIs 116 = .ok (.iload_n 3, 1) := by decide +kernel
theorem dX5_whereIs_117 : decode cX5_whereIs 117 = .ok (.ireturn, 1) := by decide +kernel
theorem dX5_kthHeard_0 : decode cX5_kthHeard 0 = .ok (.iconst 0, 1) := by decide +kernel
theorem dX5_kthHeard_1 : decode cX5_kthHeard 1 = .ok (.istore_n 3, 1) := by decide +kernel
theorem dX5_kthHeard_2 : decode cX5_kthHeard 2 = .ok (.iconst (-1), 1) := by decide +kernel
theorem dX5_kthHeard_3 : decode cX5_kthHeard 3 = .ok (.istore 4, 2) := by decide +kernel
theorem dX5_kthHeard_5 : decode cX5_kthHeard 5 = .ok (.iconst 0, 1) := by decide +kernel
theorem dX5_kthHeard_6 : decode cX5_kthHeard 6 = .ok (.istore 5, 2) := by decide +kernel
theorem dX5_kthHeard_8 : decode cX5_kthHeard 8 = .ok (.iload 5, 2) := by decide +kernel
theorem dX5_kthHeard_10 : decode cX5_kthHeard 10 = .ok (.bipush 20, 2) := by decide +kernel
theorem dX5_kthHeard_12 : decode cX5_kthHeard 12 = .ok (.if_icmp .ge 55, 3) := by decide +kernel
theorem dX5_kthHeard_15 : decode cX5_kthHeard 15 = .ok (.aload_n 0, 1) := by decide +kernel
theorem dX5_kthHeard_16 : decode cX5_kthHeard 16 = .ok (.iload_n 1, 1) := by decide +kernel
theorem dX5_kthHeard_17 : decode cX5_kthHeard 17 = .ok (.iload 4, 2) := by decide +kernel
theorem dX5_kthHeard_19 : decode cX5_kthHeard 19 = .ok (.invokevirtual 99, 3) := by decide +kernel
theorem dX5_kthHeard_22 : decode cX5_kthHeard 22 = .ok (.istore 6, 2) := by decide +kernel
theorem dX5_kthHeard_24 : decode cX5_kthHeard 24 = .ok (.iload 6, 2) := by decide +kernel
theorem dX5_kthHeard_26 : decode cX5_kthHeard 26 = .ok (.iconst (-1), 1) := by decide +kernel
theorem dX5_kthHeard_27 : decode cX5_kthHeard 27 = .ok (.if_icmp .ne 14, 3) := by decide +kernel
theorem dX5_kthHeard_30 : decode cX5_kthHeard 30 = .ok (.iload_n 2, 1) := by decide +kernel
theorem dX5_kthHeard_31 : decode cX5_kthHeard 31 = .ok (.iconst (-1), 1) := by decide +kernel
theorem dX5_kthHeard_32 : decode cX5_kthHeard 32 = .ok (.if_icmp .ne 7, 3) := by decide +kernel
theorem dX5_kthHeard_35 : decode cX5_kthHeard 35 = .ok (.iload_n 3, 1) := by decide +kernel
theorem dX5_kthHeard_36 : decode cX5_kthHeard 36 = .ok (.goto 4, 3) := by decide +kernel
theorem dX5_kthHeard_39 : decode cX5_kthHeard 39 = .ok (.iconst (-1), 1) := by decide +kernel
theorem dX5_kthHeard_40 : decode cX5_kthHeard 40 = .ok (.ireturn, 1) := by decide +kernel
theorem dX5_kthHeard_41 : decode cX5_kthHeard 41 = .ok (.iload_n 3, 1) := by decide +kernel
theorem dX5_kthHeard_42 : decode cX5_kthHeard 42 = .ok (.iload_n 2, 1) := by decide +kernel
theorem dX5_kthHeard_43 : decode cX5_kthHeard 43 = .ok (.if_icmp .ne 6, 3) := by decide +kernel
theorem dX5_kthHeard_46 : decode cX5_kthHeard 46 = .ok (.iload 6, 2) := by decide +kernel
theorem dX5_kthHeard_48 : decode cX5_kthHeard 48 = .ok (.ireturn, 1) := by decide +kernel
theorem dX5_kthHeard_49 : decode cX5_kthHeard 49 = .ok (.iinc 3 1, 3) := by decide +kernel
theorem dX5_kthHeard_52 : decode cX5_kthHeard 52 = .ok (.aload_n 0, 1) := by decide +kernel
theorem dX5_kthHeard_53 : decode cX5_kthHeard 53 = .ok (.iload_n 1, 1) := by decide +kernel
theorem dX5_kthHeard_54 : decode cX5_kthHeard 54 = .ok (.iload 6, 2) := by decide +kernel
theorem dX5_kthHeard_56 : decode cX5_kthHeard 56 = .ok (.invokevirtual 102, 3) := by decide +kernel
theorem dX5_kthHeard_59 : decode cX5_kthHeard 59 = .ok (.istore 4, 2) := by decide +kernel
theorem dX5_kthHeard_61 : decode cX5_kthHeard 61 = .ok (.iinc 5 1, 3) := by decide +kernel
theorem dX5_kthHeard_64 : decode cX5_kthHeard 64 = .ok (.goto (-56), 3) := by decide +kernel
theorem dX5_kthHeard_67 : decode cX5_kthHeard 67 = .ok (.iload_n 2, 1) := by decide +kernel
theorem dX5_kthHeard_68 : decode cX5_kthHeard 68 = .ok (.iconst (-1), 1) := by decide +kernel
theorem dX5_kthHeard_69 : decode cX5_kthHeard 69 = .ok (.if_icmp .ne 7, 3) := by decide +kernel
theorem dX5_kthHeard_72 : decode cX5_kthHeard 72 = .ok (.iload_n 3, 1) := by decide +kernel
theorem dX5_kthHeard_73 : decode cX5_kthHeard 73 = .ok (.goto 4, 3) := by decide +kernel
theorem dX5_kthHeard_76 : decode cX5_kthHeard 76 = .ok (.iconst (-1), 1) := by decide +kernel
theorem dX5_kthHeard_77 : decode cX5_kthHeard 77 = .ok (.ireturn, 1) := by decide +kernel
theorem dX5_nextHeard_0 : decode cX5_nextHeard 0 = .ok (.iconst (-1), 1) := by decide +kernel
theorem dX5_nextHeard_1 : decode cX5_nextHeard 1 = .ok (.istore_n 3, 1) := by decide +kernel
theorem dX5_nextHeard_2 : decode cX5_nextHeard 2 = .ok (.iconst (-1), 1) := by decide +kernel
theorem dX5_nextHeard_3 : decode cX5_nextHeard 3 = .ok (.istore 4, 2) := by decide +kernel
theorem dX5_nextHeard_5 : decode cX5_nextHeard 5 = .ok (.iconst 0, 1) := by decide +kernel
theorem dX5_nextHeard_6 : decode cX5_nextHeard 6 = .ok (.istore 5, 2) := by decide +kernel
theorem dX5_nextHeard_8 : decode cX5_nextHeard 8 = .ok (.iload 5, 2) := by decide +kernel
theorem dX5_nextHeard_10 : decode cX5_nextHeard 10 = .ok (.aload_n 0, 1) := by decide +kernel
theorem dX5_nextHeard_11 : decode cX5_nextHeard 11 = .ok (.getfield 51, 3) := by decide +kernel
theorem dX5_nextHeard_14 : decode cX5_nextHeard 14 = .ok (.if_icmp .ge 43, 3) := by decide +kernel
theorem dX5_nextHeard_17 : decode cX5_nextHeard 17 = .ok (.aload_n 0, 1) := by decide +kernel
theorem dX5_nextHeard_18 : decode cX5_nextHeard 18 = .ok (.iload_n 1, 1) := by decide +kernel
theorem dX5_nextHeard_19 : decode cX5_nextHeard 19 = .ok (.iload 5, 2) := by decide +kernel
theorem dX5_nextHeard_21 : decode cX5_nextHeard 21 = .ok (.invokevirtual 102, 3) := by decide +kernel
theorem dX5_nextHeard_24 : decode cX5_nextHeard 24 = .ok (.istore 6, 2) := by decide +kernel
theorem dX5_nextHeard_26 : decode cX5_nextHeard 26 = .ok (.iload 6, 2) := by decide +kernel
theorem dX5_nextHeard_28 : decode cX5_nextHeard 28 = .ok (.iload_n 2, 1) := by decide +kernel
theorem dX5_nextHeard_29 : decode cX5_nextHeard 29 = .ok (.if_icmp .le 22, 3) := by decide +kernel
theorem dX5_nextHeard_32 : decode cX5_nextHeard 32 = .ok (.iload_n 3, 1) := by decide +kernel
theorem dX5_nextHeard_33 : decode cX5_nextHeard 33 = .ok (.iconst (-1), 1) := by decide +kernel
theorem dX5_nextHeard_34 : decode cX5_nextHeard 34 = .ok (.if_icmp .eq 10, 3) := by decide +kernel
theorem dX5_nextHeard_37 : decode cX5_nextHeard 37 = .ok (.iload 6, 2) := by decide +kernel
theorem dX5_nextHeard_39 : decode cX5_nextHeard 39 = .ok (.iload 4, 2) := by decide +kernel
theorem dX5_nextHeard_41 : decode cX5_nextHeard 41 = .ok (.if_icmp .ge 10, 3) := by decide +kernel
theorem dX5_nextHeard_44 : decode cX5_nextHeard 44 = .ok (.iload 5, 2) := by decide +kernel
theorem dX5_nextHeard_46 : decode cX5_nextHeard 46 = .ok (.istore_n 3, 1) := by decide +kernel
theorem dX5_nextHeard_47 : decode cX5_nextHeard 47 = .ok (.iload 6, 2) := by decide +kernel
theorem dX5_nextHeard_49 : decode cX5_nextHeard 49 = .ok (.istore 4, 2) := by decide +kernel
theorem dX5_nextHeard_51 : decode cX5_nextHeard 51 = .ok (.iinc 5 1, 3) := by decide +kernel
theorem dX5_nextHeard_54 : decode cX5_nextHeard 54 = .ok (.goto (-46), 3) := by decide +kernel
theorem dX5_nextHeard_57 : decode cX5_nextHeard 57 = .ok (.iload_n 3, 1) := by decide +kernel
theorem dX5_nextHeard_58 : decode cX5_nextHeard 58 = .ok (.ireturn, 1) := by decide +kernel
theorem dX5_beginOn_0 : decode cX5_beginOn 0 = .ok (.iconst 0, 1) := by decide +kernel
theorem dX5_beginOn_1 : decode cX5_beginOn 1 = .ok (.istore_n 3, 1) := by decide +kernel
theorem dX5_beginOn_2 : decode cX5_beginOn 2 = .ok (.iload_n 3, 1) := by decide +kernel
theorem dX5_beginOn_3 : decode cX5_beginOn 3 = .ok (.aload_n 0, 1) := by decide +kernel
theorem dX5_beginOn_4 : decode cX5_beginOn 4 = .ok (.getfield 38, 3) := by decide +kernel
theorem dX5_beginOn_7 : decode cX5_beginOn 7 = .ok (.iload_n 2, 1) := by decide +kernel
theorem dX5_beginOn_8 : decode cX5_beginOn 8 = .ok (.iaload, 1) := by decide +kernel
theorem dX5_beginOn_9 : decode cX5_beginOn 9 = .ok (.if_icmp .ge 39, 3) := by decide +kernel
theorem dX5_beginOn_12 : decode cX5_beginOn 12 = .ok (.iload_n 3, 1) := by decide +kernel
theorem dX5_beginOn_13 : decode cX5_beginOn 13 = .ok (.iconst 5, 1) := by decide +kernel
theorem dX5_beginOn_14 : decode cX5_beginOn 14 = .ok (.if_icmp .ge 34, 3) := by decide +kernel
theorem dX5_beginOn_17 : decode cX5_beginOn 17 = .ok (.aload_n 0, 1) := by decide +kernel
theorem dX5_beginOn_18 : decode cX5_beginOn 18 = .ok (.getfield 29, 3) := by decide +kernel
theorem dX5_beginOn_21 : decode cX5_beginOn 21 = .ok (.iload_n 2, 1) := by decide +kernel
theorem dX5_beginOn_22 : decode cX5_beginOn 22 = .ok (.iconst 5, 1) := by decide +kernel
theorem dX5_beginOn_23 : decode cX5_beginOn 23 = .ok (.imul, 1) := by decide +kernel
theorem dX5_beginOn_24 : decode cX5_beginOn 24 = .ok (.iload_n 3, 1) := by decide +kernel
theorem dX5_beginOn_25 : decode cX5_beginOn 25 = .ok (.iadd, 1) := by decide +kernel
theorem dX5_beginOn_26 : decode cX5_beginOn 26 = .ok (.iaload, 1) := by decide +kernel
theorem dX5_beginOn_27 : decode cX5_beginOn 27 = .ok (.iload_n 1, 1) := by decide +kernel
theorem dX5_beginOn_28 : decode cX5_beginOn 28 = .ok (.if_icmp .ne 14, 3) := by decide +kernel
theorem dX5_beginOn_31 : decode cX5_beginOn 31 = .ok (.aload_n 0, 1) := by decide +kernel
theorem dX5_beginOn_32 : decode cX5_beginOn 32 = .ok (.getfield 32, 3) := by decide +kernel
theorem dX5_beginOn_35 : decode cX5_beginOn 35 = .ok (.iload_n 2, 1) := by decide +kernel
theorem dX5_beginOn_36 : decode cX5_beginOn 36 = .ok (.iconst 5, 1) := by decide +kernel
theorem dX5_beginOn_37 : decode cX5_beginOn 37 = .ok (.imul, 1) := by decide +kernel
theorem dX5_beginOn_38 : decode cX5_beginOn 38 = .ok (.iload_n 3, 1) := by decide +kernel
theorem dX5_beginOn_39 : decode cX5_beginOn 39 = .ok (.iadd, 1) := by decide +kernel
theorem dX5_beginOn_40 : decode cX5_beginOn 40 = .ok (.iaload, 1) := by decide +kernel
theorem dX5_beginOn_41 : decode cX5_beginOn 41 = .ok (.ireturn, 1) := by decide +kernel
theorem dX5_beginOn_42 : decode cX5_beginOn 42 = .ok (.iinc 3 1, 3) := by decide +kernel
theorem dX5_beginOn_45 : decode cX5_beginOn 45 = .ok (.goto (-43), 3) := by decide +kernel
theorem dX5_beginOn_48 : decode cX5_beginOn 48 = .ok (.iconst (-1), 1) := by decide +kernel
theorem dX5_beginOn_49 : decode cX5_beginOn 49 = .ok (.ireturn, 1) := by decide +kernel
theorem dX6_init_0 : decode cX6_init 0 = .ok (.aload_n 0, 1) := by decide +kernel
theorem dX6_init_1 : decode cX6_init 1 = .ok (.invokespecial 5, 3) := by decide +kernel
theorem dX6_init_4 : decode cX6_init 4 = .ok (.aload_n 0, 1) := by decide +kernel
theorem dX6_init_5 : decode cX6_init 5 = .ok (.bipush 49, 2) := by decide +kernel
theorem dX6_init_7 : decode cX6_init 7 = .ok (.newarray .int, 2) := by decide +kernel
theorem dX6_init_9 : decode cX6_init 9 = .ok (.putfield 11, 3) := by decide +kernel
theorem dX6_init_12 : decode cX6_init 12 = .ok (.return_, 1) := by decide +kernel
theorem dX6_becomeOne_0 : decode cX6_becomeOne 0 = .ok (.iconst 0, 1) := by decide +kernel
theorem dX6_becomeOne_1 : decode cX6_becomeOne 1 = .ok (.istore_n 1, 1) := by decide +kernel
theorem dX6_becomeOne_2 : decode cX6_becomeOne 2 = .ok (.iload_n 1, 1) := by decide +kernel
theorem dX6_becomeOne_3 : decode cX6_becomeOne 3 = .ok (.bipush 49, 2) := by decide +kernel
theorem dX6_becomeOne_5 : decode cX6_becomeOne 5 = .ok (.if_icmp .ge 24, 3) := by decide +kernel
theorem dX6_becomeOne_8 : decode cX6_becomeOne 8 = .ok (.aload_n 0, 1) := by decide +kernel
theorem dX6_becomeOne_9 : decode cX6_becomeOne 9 = .ok (.getfield 11, 3) := by decide +kernel
theorem dX6_becomeOne_12 : decode cX6_becomeOne 12 = .ok (.iload_n 1, 1) := by decide +kernel
theorem dX6_becomeOne_13 : decode cX6_becomeOne 13 = .ok (.iload_n 1, 1) := by decide +kernel
theorem dX6_becomeOne_14 : decode cX6_becomeOne 14 = .ok (.ifCond .ne 7, 3) := by decide +kernel
theorem dX6_becomeOne_17 : decode cX6_becomeOne 17 = .ok (.iconst 1, 1) := by decide +kernel
theorem dX6_becomeOne_18 : decode cX6_becomeOne 18 = .ok (.goto 4, 3) := by decide +kernel
theorem dX6_becomeOne_21 : decode cX6_becomeOne 21 = .ok (.iconst 0, 1) := by decide +kernel
theorem dX6_becomeOne_22 : decode cX6_becomeOne 22 = .ok (.iastore, 1) := by decide +kernel
theorem dX6_becomeOne_23 : decode cX6_becomeOne 23 = .ok (.iinc 1 1, 3) := by decide +kernel
theorem dX6_becomeOne_26 : decode cX6_becomeOne 26 = .ok (.goto (-24), 3) := by decide +kernel
theorem dX6_becomeOne_29 : decode cX6_becomeOne 29 = .ok (.return_, 1) := by decide +kernel
theorem dX6_multiply_0 : decode cX6_multiply 0 = .ok (.iconst 0, 1) := by decide +kernel
theorem dX6_multiply_1 : decode cX6_multiply 1 = .ok (.istore_n 2, 1) := by decide +kernel
theorem dX6_multiply_2 : decode cX6_multiply 2 = .ok (.iconst 0, 1) := by decide +kernel
theorem dX6_multiply_3 : decode cX6_multiply 3 = .ok (.istore_n 3, 1) := by decide +kernel
theorem dX6_multiply_4 : decode cX6_multiply 4 = .ok (.iload_n 3, 1) := by decide +kernel
theorem dX6_multiply_5 : decode cX6_multiply 5 = .ok (.bipush 49, 2) := by decide +kernel
theorem dX6_multiply_7 : decode cX6_multiply 7 = .ok (.if_icmp .ge 38, 3) := by decide +kernel
theorem dX6_multiply_10 : decode cX6_multiply 10 = .ok (.aload_n 0, 1) := by decide +kernel
theorem dX6_multiply_11 : decode cX6_multiply 11 = .ok (.getfield 11, 3) := by decide +kernel
theorem dX6_multiply_14 : decode cX6_multiply 14 = .ok (.iload_n 3, 1) := by decide +kernel
theorem dX6_multiply_15 : decode cX6_multiply 15 = .ok (.iaload, 1) := by decide +kernel
theorem dX6_multiply_16 : decode cX6_multiply 16 = .ok (.iload_n 1, 1) := by decide +kernel
theorem dX6_multiply_17 : decode cX6_multiply 17 = .ok (.imul, 1) := by decide +kernel
theorem dX6_multiply_18 : decode cX6_multiply 18 = .ok (.iload_n 2, 1) := by decide +kernel
theorem dX6_multiply_19 : decode cX6_multiply 19 = .ok (.iadd, 1) := by decide +kernel
theorem dX6_multiply_20 : decode cX6_multiply 20 = .ok (.istore 4, 2) := by decide +kernel
theorem dX6_multiply_22 : decode cX6_multiply 22 = .ok (.aload_n 0, 1) := by decide +kernel
theorem dX6_multiply_23 : decode cX6_multiply 23 = .ok (.getfield 11, 3) := by decide +kernel
theorem dX6_multiply_26 : decode cX6_multiply 26 = .ok (.iload_n 3, 1) := by decide +kernel
theorem dX6_multiply_27 : decode cX6_multiply 27 = .ok (.iload 4, 2) := by decide +kernel
theorem dX6_multiply_29 : decode cX6_multiply 29 = .ok (.ldc 15, 2) := by decide +kernel
theorem dX6_multiply_31 : decode cX6_multiply 31 = .ok (.iand, 1) := by decide +kernel
theorem dX6_multiply_32 : decode cX6_multiply 32 = .ok (.iastore, 1) := by decide +kernel
theorem dX6_multiply_33 : decode cX6_multiply 33 = .ok (.iload 4, 2) := by decide +kernel
theorem dX6_multiply_35 : decode cX6_multiply 35 = .ok (.bipush 20, 2) := by decide +kernel
theorem dX6_multiply_37 : decode cX6_multiply 37 = .ok (.iushr, 1) := by decide +kernel
theorem dX6_multiply_38 : decode cX6_multiply 38 = .ok (.istore_n 2, 1) := by decide +kernel
theorem dX6_multiply_39 : decode cX6_multiply 39 = .ok (.iinc 3 1, 3) := by decide +kernel
theorem dX6_multiply_42 : decode cX6_multiply 42 = .ok (.goto (-38), 3) := by decide +kernel
theorem dX6_multiply_45 : decode cX6_multiply 45 = .ok (.return_, 1) := by decide +kernel
theorem dX6_compareWith_0 : decode cX6_compareWith 0 = .ok (.bipush 48, 2) := by decide +kernel
theorem dX6_compareWith_2 : decode cX6_compareWith 2 = .ok (.istore_n 2, 1) := by decide +kernel
theorem dX6_compareWith_3 : decode cX6_compareWith 3 = .ok (.iload_n 2, 1) := by decide +kernel
theorem dX6_compareWith_4 : decode cX6_compareWith 4 = .ok (.ifCond .lt 40, 3) := by decide +kernel
theorem dX6_compareWith_7 : decode cX6_compareWith 7 = .ok (.aload_n 0, 1) := by decide +kernel
theorem dX6_compareWith_8 : decode cX6_compareWith 8 = .ok (.getfield 11, 3) := by decide +kernel
theorem dX6_compareWith_11 : decode cX6_compareWith 11 = .ok (.iload_n 2, 1) := by decide +kernel
theorem dX6_compareWith_12 : decode cX6_compareWith 12 = .ok (.iaload, 1) := by decide +kernel
theorem dX6_compareWith_13 : decode cX6_compareWith 13 = .ok (.aload_n 1, 1) := by decide +kernel
theorem dX6_compareWith_14 : decode cX6_compareWith 14 = .ok (.getfield 11, 3) := by decide +kernel
theorem dX6_compareWith_17 : decode cX6_compareWith 17 = .ok (.iload_n 2, 1) := by decide +kernel
theorem dX6_compareWith_18 : decode cX6_compareWith 18 = .ok (.iaload, 1) := by decide +kernel
theorem dX6_compareWith_19 : decode cX6_compareWith 19 = .ok (.if_icmp .eq 19, 3) := by decide +kernel
theorem dX6_compareWith_22 : decode cX6_compareWith 22 = .ok (.aload_n 0, 1) := by decide +kernel
theorem dX6_compareWith_23 : decode cX6_compareWith 23 = .ok (.getfield 11, 3) := by decide +kernel
theorem dX6_compareWith_26 : decode cX6_compareWith 26 = .ok (.iload_n 2, 1) := by decide +kernel
theorem dX6_compareWith_27 : decode cX6_compareWith 27 = .ok (.iaload, 1) := by decide +kernel
theorem dX6_compareWith_28 : decode cX6_compareWith 28 = .ok (.aload_n 1, 1) := by decide +kernel
theorem dX6_compareWith_29 : decode cX6_compareWith 29 = .ok (.getfield 11, 3) := by decide +kernel
theorem dX6_compareWith_32 : decode cX6_compareWith 32 = .ok (.iload_n 2, 1) := by decide +kernel
theorem dX6_compareWith_33 : decode cX6_compareWith 33 = .ok (.iaload, 1) := by decide +kernel
theorem dX6_compareWith_34 : decode cX6_compareWith 34 = .ok (.invokestatic 16, 3) := by decide +kernel
theorem dX6_compareWith_37 : decode cX6_compareWith 37 = .ok (.ireturn, 1) := by decide +kernel
theorem dX6_compareWith_38 : decode cX6_compareWith 38 = .ok (.iinc 2 (-1), 3) := by decide +kernel
theorem dX6_compareWith_41 : decode cX6_compareWith 41 = .ok (.goto (-38), 3) := by decide +kernel
theorem dX6_compareWith_44 : decode cX6_compareWith 44 = .ok (.iconst 0, 1) := by decide +kernel
theorem dX6_compareWith_45 : decode cX6_compareWith 45 = .ok (.ireturn, 1) := by decide +kernel
theorem dX7_init_0 : decode cX7_init 0 = .ok (.aload_n 0, 1) := by decide +kernel
theorem dX7_init_1 : decode cX7_init 1 = .ok (.invokespecial 5, 3) := by decide +kernel
theorem dX7_init_4 : decode cX7_init 4 = .ok (.aload_n 0, 1) := by decide +kernel
theorem dX7_init_5 : decode cX7_init 5 = .ok (.iconst 5, 1) := by decide +kernel
theorem dX7_init_6 : decode cX7_init 6 = .ok (.newarray .int, 2) := by decide +kernel
theorem dX7_init_8 : decode cX7_init 8 = .ok (.putfield 11, 3) := by decide +kernel
theorem dX7_init_11 : decode cX7_init 11 = .ok (.aload_n 0, 1) := by decide +kernel
theorem dX7_init_12 : decode cX7_init 12 = .ok (.iconst 5, 1) := by decide +kernel
theorem dX7_init_13 : decode cX7_init 13 = .ok (.newarray .int, 2) := by decide +kernel
theorem dX7_init_15 : decode cX7_init 15 = .ok (.putfield 17, 3) := by decide +kernel
theorem dX7_init_18 : decode cX7_init 18 = .ok (.aload_n 0, 1) := by decide +kernel
theorem dX7_init_19 : decode cX7_init 19 = .ok (.bipush 61, 2) := by decide +kernel
theorem dX7_init_21 : decode cX7_init 21 = .ok (.newarray .int, 2) := by decide +kernel
theorem dX7_init_23 : decode cX7_init 23 = .ok (.putfield 20, 3) := by decide +kernel
theorem dX7_init_26 : decode cX7_init 26 = .ok (.aload_n 0, 1) := by decide +kernel
theorem dX7_init_27 : decode cX7_init 27 = .ok (.bipush 61, 2) := by decide +kernel
theorem dX7_init_29 : decode cX7_init 29 = .ok (.newarray .int, 2) := by decide +kernel
theorem dX7_init_31 : decode cX7_init 31 = .ok (.putfield 23, 3) := by decide +kernel
theorem dX7_init_34 : decode cX7_init 34 = .ok (.aload_n 0, 1) := by decide +kernel
theorem dX7_init_35 : decode cX7_init 35 = .ok (.bipush 61, 2) := by decide +kernel
theorem dX7_init_37 : decode cX7_init 37 = .ok (.newarray .int, 2) := by decide +kernel
theorem dX7_init_39 : decode cX7_init 39 = .ok (.putfield 26, 3) := by decide +kernel
theorem dX7_init_42 : decode cX7_init 42 = .ok (.aload_n 0, 1) := by decide +kernel
theorem dX7_init_43 : decode cX7_init 43 = .ok (.bipush 120, 2) := by decide +kernel
theorem dX7_init_45 : decode cX7_init 45 = .ok (.newarray .int, 2) := by decide +kernel
theorem dX7_init_47 : decode cX7_init 47 = .ok (.putfield 29, 3) := by decide +kernel
theorem dX7_init_50 : decode cX7_init 50 = .ok (.aload_n 0, 1) := by decide +kernel
theorem dX7_init_51 : decode cX7_init 51 = .ok (.aload_n 1, 1) := by decide +kernel
theorem dX7_init_52 : decode cX7_init 52 = .ok (.putfield 32, 3) := by decide +kernel
theorem dX7_init_55 : decode cX7_init 55 = .ok (.aload_n 0, 1) := by decide +kernel
theorem dX7_init_56 : decode cX7_init 56 = .ok (.aload_n 2, 1) := by decide +kernel
theorem dX7_init_57 : decode cX7_init 57 = .ok (.putfield 36, 3) := by decide +kernel
theorem dX7_init_60 : decode cX7_init 60 = .ok (.aload_n 0, 1) := by decide +kernel
theorem dX7_init_61 : decode cX7_init 61 = .ok (.aload_n 3, 1) := by decide +kernel
theorem dX7_init_62 : decode cX7_init 62 = .ok (.putfield 40, 3) := by decide +kernel
theorem dX7_init_65 : decode cX7_init 65 = .ok (.aload_n 0, 1) := by decide +kernel
theorem dX7_init_66 : decode cX7_init 66 = .ok (.aload 4, 2) := by decide +kernel
theorem dX7_init_68 : decode cX7_init 68 = .ok (.putfield 44, 3) := by decide +kernel
theorem dX7_init_71 : decode cX7_init 71 = .ok (.return_, 1) := by decide +kernel
theorem dX7_listen_0 : decode cX7_listen 0 = .ok (.iconst 0, 1) := by decide +kernel
theorem dX7_listen_1 : decode cX7_listen 1 = .ok (.istore_n 3, 1) := by decide +kernel
theorem dX7_listen_2 : decode cX7_listen 2 = .ok (.iload_n 3, 1) := by decide +kernel
theorem dX7_listen_3 : decode cX7_listen 3 = .ok (.iconst 5, 1) := by decide +kernel
theorem dX7_listen_4 : decode cX7_listen 4 = .ok (.if_icmp .ge 39, 3) := by decide +kernel
theorem dX7_listen_7 : decode cX7_listen 7 = .ok (.aload_n 0, 1) := by decide +kernel
theorem dX7_listen_8 : decode cX7_listen 8 = .ok (.getfield 11, 3) := by decide +kernel
theorem dX7_listen_11 : decode cX7_listen 11 = .ok (.iload_n 3, 1) := by decide +kernel
theorem dX7_listen_12 : decode cX7_listen 12 = .ok (.aload_n 0, 1) := by decide +kernel
theorem dX7_listen_13 : decode cX7_listen 13 = .ok (.getfield 40, 3) := by decide +kernel
theorem dX7_listen_16 : decode cX7_listen 16 = .ok (.iload_n 1, 1) := by decide +kernel
theorem dX7_listen_17 : decode cX7_listen 17 = .ok (.iload_n 3, 1) := by decide +kernel
theorem dX7_listen_18 : decode cX7_listen 18 = .ok (.invokevirtual 48, 3) := by decide +kernel
theorem dX7_listen_21 : decode cX7_listen 21 = .ok (.iastore, 1) := by decide +kernel
theorem dX7_listen_22 : decode cX7_listen 22 = .ok (.aload_n 0, 1) := by decide +kernel
theorem dX7_listen_23 : decode cX7_listen 23 = .ok (.getfield 17, 3) := by decide +kernel
theorem dX7_listen_26 : decode cX7_listen 26 = .ok (.iload_n 3, 1) := by decide +kernel
theorem dX7_listen_27 : decode cX7_listen 27 = .ok (.aload_n 0, 1) := by decide +kernel
theorem dX7_listen_28 : decode cX7_listen 28 = .ok (.getfield 40, 3) := by decide +kernel
theorem dX7_listen_31 : decode cX7_listen 31 = .ok (.iload_n 1, 1) := by decide +kernel
theorem dX7_listen_32 : decode cX7_listen 32 = .ok (.iload_n 3, 1) := by decide +kernel
theorem dX7_listen_33 : decode cX7_listen 33 = .ok (.invokevirtual 54, 3) := by decide +kernel
theorem dX7_listen_36 : decode cX7_listen 36 = .ok (.iastore, 1) := by decide +kernel
theorem dX7_listen_37 : decode cX7_listen 37 = .ok (.iinc 3 1, 3) := by decide +kernel
theorem dX7_listen_40 : decode cX7_listen 40 = .ok (.goto (-38), 3) := by decide +kernel
theorem dX7_listen_43 : decode cX7_listen 43 = .ok (.aload_n 0, 1) := by decide +kernel
theorem dX7_listen_44 : decode cX7_listen 44 = .ok (.aload_n 0, 1) := by decide +kernel
theorem dX7_listen_45 : decode cX7_listen 45 = .ok (.getfield 44, 3) := by decide +kernel
theorem dX7_listen_48 : decode cX7_listen 48 = .ok (.iload_n 2, 1) := by decide +kernel
theorem dX7_listen_49 : decode cX7_listen 49 = .ok (.invokevirtual 57, 3) := by decide +kernel
theorem dX7_listen_52 : decode cX7_listen 52 = .ok (.putfield 63, 3) := by decide +kernel
theorem dX7_listen_55 : decode cX7_listen 55 = .ok (.aload_n 0, 1) := by decide +kernel
theorem dX7_listen_56 : decode cX7_listen 56 = .ok (.aload_n 0, 1) := by decide +kernel
theorem dX7_listen_57 : decode cX7_listen 57 = .ok (.getfield 36, 3) := by decide +kernel
theorem dX7_listen_60 : decode cX7_listen 60 = .ok (.invokevirtual 67, 3) := by decide +kernel
theorem dX7_listen_63 : decode cX7_listen 63 = .ok (.iconst 1, 1) := by decide +kernel
theorem dX7_listen_64 : decode cX7_listen 64 = .ok (.iadd, 1) := by decide +kernel
theorem dX7_listen_65 : decode cX7_listen 65 = .ok (.iconst 2, 1) := by decide +kernel
theorem dX7_listen_66 : decode cX7_listen 66 = .ok (.idiv, 1) := by decide +kernel
theorem dX7_listen_67 : decode cX7_listen 67 = .ok (.bipush 60, 2) := by decide +kernel
theorem dX7_listen_69 : decode cX7_listen 69 = .ok (.invokestatic 71, 3) := by decide +kernel
theorem dX7_listen_72 : decode cX7_listen 72 = .ok (.putfield 76, 3) := by decide +kernel
theorem dX7_listen_75 : decode cX7_listen 75 = .ok (.return_, 1) := by decide +kernel
theorem dX7_costOf_0 : decode cX7_costOf 0 = .ok (.aload_n 0, 1) := by decide +kernel
theorem dX7_costOf_1 : decode cX7_costOf 1 = .ok (.getfield 36, 3) := by decide +kernel
theorem dX7_costOf_4 : decode cX7_costOf 4 = .ok (.iload_n 1, 1) := by decide +kernel
theorem dX7_costOf_5 : decode cX7_costOf 5 = .ok (.invokevirtual 79, 3) := by decide +kernel
theorem dX7_costOf_8 : decode cX7_costOf 8 = .ok (.istore_n 3, 1) := by decide +kernel
theorem dX7_costOf_9 : decode cX7_costOf 9 = .ok (.iload_n 3, 1) := by decide +kernel
theorem dX7_costOf_10 : decode cX7_costOf 10 = .ok (.iconst (-1), 1) := by decide +kernel
theorem dX7_costOf_11 : decode cX7_costOf 11 = .ok (.if_icmp .eq 12, 3) := by decide +kernel
theorem dX7_costOf_14 : decode cX7_costOf 14 = .ok (.iload_n 2, 1) := by decide +kernel
theorem dX7_costOf_15 : decode cX7_costOf 15 = .ok (.ifCond .lt 8, 3) := by decide +kernel
theorem dX7_costOf_18 : decode cX7_costOf 18 = .ok (.iload_n 2, 1) := by decide +kernel
theorem dX7_costOf_19 : decode cX7_costOf 19 = .ok (.iconst 5, 1) := by decide +kernel
theorem dX7_costOf_20 : decode cX7_costOf 20 = .ok (.if_icmp .lt 5, 3) := by decide +kernel
theorem dX7_costOf_23 : decode cX7_costOf 23 = .ok (.iconst (-1), 1) := by decide +kernel
theorem dX7_costOf_24 : decode cX7_costOf 24 = .ok (.ireturn, 1) := by decide +kernel
theorem dX7_costOf_25 : decode cX7_costOf 25 = .ok (.iload_n 1, 1) := by decide +kernel
theorem dX7_costOf_26 : decode cX7_costOf 26 = .ok (.iconst 2, 1) := by decide +kernel
theorem dX7_costOf_27 : decode cX7_costOf 27 = .ok (.irem, 1) := by decide +kernel
theorem dX7_costOf_28 : decode cX7_costOf 28 = .ok (.ifCond .ne 12, 3) := by decide +kernel
theorem dX7_costOf_31 : decode cX7_costOf 31 = .ok (.iload_n 3, 1) := by decide +kernel
theorem dX7_costOf_32 : decode cX7_costOf 32 = .ok (.aload_n 0, 1) := by decide +kernel
theorem dX7_costOf_33 : decode cX7_costOf 33 = .ok (.getfield 63, 3) := by decide +kernel
theorem dX7_costOf_36 : decode cX7_costOf 36 = .ok (.iadd, 1) := by decide +kernel
theorem dX7_costOf_37 : decode cX7_costOf 37 = .ok (.goto 9, 3) := by decide +kernel
theorem dX7_costOf_40 : decode cX7_costOf 40 = .ok (.iload_n 3, 1) := by decide +kernel
theorem dX7_costOf_41 : decode cX7_costOf 41 = .ok (.aload_n 0, 1) := by decide +kernel
theorem dX7_costOf_42 : decode cX7_costOf 42 = .ok (.getfield 63, 3) := by decide +kernel
theorem dX7_costOf_45 : decode cX7_costOf 45 = .ok (.isub, 1) := by decide +kernel
theorem dX7_costOf_46 : decode cX7_costOf 46 = .ok (.istore 4, 2) := by decide +kernel
theorem dX7_costOf_48 : decode cX7_costOf 48 = .ok (.iload 4, 2) := by decide +kernel
theorem dX7_costOf_50 : decode cX7_costOf 50 = .ok (.aload_n 0, 1) := by decide +kernel
theorem dX7_costOf_51 : decode cX7_costOf 51 = .ok (.getfield 11, 3) := by decide +kernel
theorem dX7_costOf_54 : decode cX7_costOf 54 = .ok (.iload_n 2, 1) := by decide +kernel
theorem dX7_costOf_55 : decode cX7_costOf 55 = .ok (.iaload, 1) := by decide +kernel
theorem dX7_costOf_56 : decode cX7_costOf 56 = .ok (.if_icmp .lt 14, 3) := by decide +kernel
theorem dX7_costOf_59 : decode cX7_costOf 59 = .ok (.iload 4, 2) := by decide +kernel
theorem dX7_costOf_61 : decode cX7_costOf 61 = .ok (.aload_n 0, 1) := by decide +kernel
theorem dX7_costOf_62 : decode cX7_costOf 62 = .ok (.getfield 17, 3) := by decide +kernel
theorem dX7_costOf_65 : decode cX7_costOf 65 = .ok (.iload_n 2, 1) := by decide +kernel
theorem dX7_costOf_66 : decode cX7_costOf 66 = .ok (.iaload, 1) := by decide +kernel
theorem dX7_costOf_67 : decode cX7_costOf 67 = .ok (.if_icmp .le 5, 3) := by decide +kernel
theorem dX7_costOf_70 : decode cX7_costOf 70 = .ok (.iconst (-1), 1) := by decide +kernel
theorem dX7_costOf_71 : decode cX7_costOf 71 = .ok (.ireturn, 1) := by decide +kernel
theorem dX7_costOf_72 : decode cX7_costOf 72 = .ok (.iconst 2, 1) := by decide +kernel
theorem dX7_costOf_73 : decode cX7_costOf 73 = .ok (.iload 4, 2) := by decide +kernel
theorem dX7_costOf_75 : decode cX7_costOf 75 = .ok (.imul, 1) := by decide +kernel
theorem dX7_costOf_76 : decode cX7_costOf 76 = .ok (.aload_n 0, 1) := by decide +kernel
theorem dX7_costOf_77 : decode cX7_costOf 77 = .ok (.getfield 11, 3) := by decide +kernel
theorem dX7_costOf_80 : decode cX7_costOf 80 = .ok (.iload_n 2, 1) := by decide +kernel
theorem dX7_costOf_81 : decode cX7_costOf 81 = .ok (.iaload, 1) := by decide +kernel
theorem dX7_costOf_82 : decode cX7_costOf 82 = .ok (.isub, 1) := by decide +kernel
theorem dX7_costOf_83 : decode cX7_costOf 83 = .ok (.aload_n 0, 1) := by decide +kernel
theorem dX7_costOf_84 : decode cX7_costOf 84 = .ok (.getfield 17, 3) := by decide +kernel
theorem dX7_costOf_87 : decode cX7_costOf 87 = .ok (.iload_n 2, 1) := by decide +kernel
theorem dX7_costOf_88 : decode cX7_costOf 88 = .ok (.iaload, 1) := by decide +kernel
theorem dX7_costOf_89 : decode cX7_costOf 89 = .ok (.isub, 1) := by decide +kernel
theorem dX7_costOf_90 : decode cX7_costOf 90 = .ok (.invokestatic 82, 3) := by decide +kernel
theorem dX7_costOf_93 : decode cX7_costOf 93 = .ok (.ireturn, 1) := by decide +kernel
theorem dX7_countAll_0 : decode cX7_countAll 0 = .ok (.aload_n 0, 1) := by decide +kernel
theorem dX7_countAll_1 : decode cX7_countAll 1 = .ok (.getfield 20, 3) := by decide +kernel
theorem dX7_countAll_4 : decode cX7_countAll 4 = .ok (.iconst 0, 1) := by decide +kernel
theorem dX7_countAll_5 : decode cX7_countAll 5 = .ok (.iconst 0, 1) := by decide +kernel
theorem dX7_countAll_6 : decode cX7_countAll 6 = .ok (.iastore, 1) := by decide +kernel
theorem dX7_countAll_7 : decode cX7_countAll 7 = .ok (.aload_n 0, 1) := by decide +kernel
theorem dX7_countAll_8 : decode cX7_countAll 8 = .ok (.getfield 76, 3) := by decide +kernel
theorem dX7_countAll_11 : decode cX7_countAll 11 = .ok (.iconst 1, 1) := by decide +kernel
theorem dX7_countAll_12 : decode cX7_countAll 12 = .ok (.isub, 1) := by decide +kernel
theorem dX7_countAll_13 : decode cX7_countAll 13 = .ok (.istore_n 1, 1) := by decide +kernel
theorem dX7_countAll_14 : decode cX7_countAll 14 = .ok (.iload_n 1, 1) := by decide +kernel
theorem dX7_countAll_15 : decode cX7_countAll 15 = .ok (.ifCond .lt 70, 3) := by decide +kernel
theorem dX7_countAll_18 : decode cX7_countAll 18 = .ok (.lconst 0, 1) := by decide +kernel
theorem dX7_countAll_19 : decode cX7_countAll 19 = .ok (.lstore_n 2, 1) := by decide +kernel
theorem dX7_countAll_20 : decode cX7_countAll 20 = .ok (.iconst 0, 1) := by decide +kernel
theorem dX7_countAll_21 : decode cX7_countAll 21 = .ok (.istore 4, 2) := by decide +kernel
theorem dX7_countAll_23 : decode cX7_countAll 23 = .ok (.iload 4, 2) := by decide +kernel
theorem dX7_countAll_25 : decode cX7_countAll 25 = .ok (.bipush 26, 2) := by decide +kernel
theorem dX7_countAll_27 : decode cX7_countAll 27 = .ok (.if_icmp .ge 38, 3) := by decide +kernel
theorem dX7_countAll_30 : decode cX7_countAll 30 = .ok (.aload_n 0, 1) := by decide +kernel
theorem dX7_countAll_31 : decode cX7_countAll 31 = .ok (.iload_n 1, 1) := by decide +kernel
theorem dX7_countAll_32 : decode cX7_countAll 32 = .ok (.iload 4, 2) := by decide +kernel
theorem dX7_countAll_34 : decode cX7_countAll 34 = .ok (.invokevirtual 85, 3) := by decide +kernel
theorem dX7_countAll_37 : decode cX7_countAll 37 = .ok (.iconst (-1), 1) := by decide +kernel
theorem dX7_countAll_38 : decode cX7_countAll 38 = .ok (.if_icmp .eq 21, 3) := by decide +kernel
theorem dX7_countAll_41 : decode cX7_countAll 41 = .ok (.lload_n 2, 1) := by decide +kernel
theorem dX7_countAll_42 : decode cX7_countAll 42 = .ok (.aload_n 0, 1) := by decide +kernel
theorem dX7_countAll_43 : decode cX7_countAll 43 = .ok (.iload_n 1, 1) := by decide +kernel
theorem dX7_countAll_44 : decode cX7_countAll 44 = .ok (.aload_n 0, 1) := by decide +kernel
theorem dX7_countAll_45 : decode cX7_countAll 45 = .ok (.getfield 32, 3) := by decide +kernel
theorem dX7_countAll_48 : decode cX7_countAll 48 = .ok (.iload 4, 2) := by decide +kernel
theorem dX7_countAll_50 : decode cX7_countAll 50 = .ok (.invokevirtual 88, 3) := by decide +kernel
theorem dX7_countAll_53 : decode cX7_countAll 53 = .ok (.iadd, 1) := by decide +kernel
theorem dX7_countAll_54 : decode cX7_countAll 54 = .ok (.invokevirtual 93, 3) := by decide +kernel
theorem dX7_countAll_57 : decode cX7_countAll 57 = .ok (.ladd, 1) := by decide +kernel
theorem dX7_countAll_58 : decode cX7_countAll 58 = .ok (.lstore_n 2, 1) := by decide +kernel
theorem dX7_countAll_59 : decode cX7_countAll 59 = .ok (.iinc 4 1, 3) := by decide +kernel
theorem dX7_countAll_62 : decode cX7_countAll 62 = .ok (.goto (-39), 3) := by decide +kernel
theorem dX7_countAll_65 : decode cX7_countAll 65 = .ok (.aload_n 0, 1) := by decide +kernel
theorem dX7_countAll_66 : decode cX7_countAll 66 = .ok (.getfield 20, 3) := by decide +kernel
theorem dX7_countAll_69 : decode cX7_countAll 69 = .ok (.iload_n 1, 1) := by decide +kernel
theorem dX7_countAll_70 : decode cX7_countAll 70 = .ok (.lload_n 2, 1) := by decide +kernel
theorem dX7_countAll_71 : decode cX7_countAll 71 = .ok (.ldc2_w 97, 3) := by decide +kernel
theorem dX7_countAll_74 : decode cX7_countAll 74 = .ok (.invokestatic 99, 3) := by decide +kernel
theorem dX7_countAll_77 : decode cX7_countAll 77 = .ok (.l2i, 1) := by decide +kernel
theorem dX7_countAll_78 : decode cX7_countAll 78 = .ok (.iastore, 1) := by decide +kernel
theorem dX7_countAll_79 : decode cX7_countAll 79 = .ok (.iinc 1 (-1), 3) := by decide +kernel
theorem dX7_countAll_82 : decode cX7_countAll 82 = .ok (.goto (-68), 3) := by decide +kernel
theorem dX7_countAll_85 : decode cX7_countAll 85 = .ok (.aload_n 0, 1) := by decide +kernel
theorem dX7_countAll_86 : decode cX7_countAll 86 = .ok (.getfield 20, 3) := by decide +kernel
theorem dX7_countAll_89 : decode cX7_countAll 89 = .ok (.iconst 0, 1) := by decide +kernel
theorem dX7_countAll_90 : decode cX7_countAll 90 = .ok (.iaload, 1) := by decide +kernel
theorem dX7_countAll_91 : decode cX7_countAll 91 = .ok (.ireturn, 1) := by decide +kernel
theorem dX7_waysBehind_0 : decode cX7_waysBehind 0 = .ok (.iload_n 1, 1) := by decide +kernel
theorem dX7_waysBehind_1 : decode cX7_waysBehind 1 = .ok (.aload_n 0, 1) := by decide +kernel
theorem dX7_waysBehind_2 : decode cX7_waysBehind 2 = .ok (.getfield 76, 3) := by decide +kernel
theorem dX7_waysBehind_5 : decode cX7_waysBehind 5 = .ok (.if_icmp .lt 5, 3) := by decide +kernel
theorem dX7_waysBehind_8 : decode cX7_waysBehind 8 = .ok (.lconst 1, 1) := by decide +kernel
theorem dX7_waysBehind_9 : decode cX7_waysBehind 9 = .ok (.lreturn, 1) := by decide +kernel
theorem dX7_waysBehind_10 : decode cX7_waysBehind 10 = .ok (.iconst 0, 1) := by decide +kernel
theorem dX7_waysBehind_11 : decode cX7_waysBehind 11 = .ok (.istore_n 2, 1) := by decide +kernel
theorem dX7_waysBehind_12 : decode cX7_waysBehind 12 = .ok (.aload_n 0, 1) := by decide +kernel
theorem dX7_waysBehind_13 : decode cX7_waysBehind 13 = .ok (.iconst 2, 1) := by decide +kernel
theorem dX7_waysBehind_14 : decode cX7_waysBehind 14 = .ok (.iload_n 1, 1) := by decide +kernel
theorem dX7_waysBehind_15 : decode cX7_waysBehind 15 = .ok (.imul, 1) := by decide +kernel
theorem dX7_waysBehind_16 : decode cX7_waysBehind 16 = .ok (.iconst 1, 1) := by decide +kernel
theorem dX7_waysBehind_17 : decode cX7_waysBehind 17 = .ok (.isub, 1) := by decide +kernel
theorem dX7_waysBehind_18 : decode cX7_waysBehind 18 = .ok (.iconst 3, 1) := by decide +kernel
theorem dX7_waysBehind_19 : decode cX7_waysBehind 19 = .ok (.invokevirtual 102, 3) := by decide +kernel
theorem dX7_waysBehind_22 : decode cX7_waysBehind 22 = .ok (.iconst (-1), 1) := by decide +kernel
theorem dX7_waysBehind_23 : decode cX7_waysBehind 23 = .ok (.if_icmp .eq 6, 3) := by decide +kernel
theorem dX7_waysBehind_26 : decode cX7_waysBehind 26 = .ok (.iinc 2 1, 3) := by decide +kernel
theorem dX7_waysBehind_29 : decode cX7_waysBehind 29 = .ok (.aload_n 0, 1) := by decide +kernel
theorem dX7_waysBehind_30 : decode cX7_waysBehind 30 = .ok (.iconst 2, 1) := by decide +kernel
theorem dX7_waysBehind_31 : decode cX7_waysBehind 31 = .ok (.iload_n 1, 1) := by decide +kernel
theorem dX7_waysBehind_32 : decode cX7_waysBehind 32 = .ok (.imul, 1) := by decide +kernel
theorem dX7_waysBehind_33 : decode cX7_waysBehind 33 = .ok (.iconst 1, 1) := by decide +kernel
theorem dX7_waysBehind_34 : decode cX7_waysBehind 34 = .ok (.isub, 1) := by decide +kernel
theorem dX7_waysBehind_35 : decode cX7_waysBehind 35 = .ok (.iconst 4, 1) := by decide +kernel
theorem dX7_waysBehind_36 : decode cX7_waysBehind 36 = .ok (.invokevirtual 102, 3) := by decide +kernel
theorem dX7_waysBehind_39 : decode cX7_waysBehind 39 = .ok (.iconst (-1), 1) := by decide +kernel
theorem dX7_waysBehind_40 : decode cX7_waysBehind 40 = .ok (.if_icmp .eq 6, 3) := by decide +kernel
theorem dX7_waysBehind_43 : decode cX7_waysBehind 43 = .ok (.iinc 2 1, 3) := by decide +kernel
theorem dX7_waysBehind_46 : decode cX7_waysBehind 46 = .ok (.iload_n 2, 1) := by decide +kernel
theorem dX7_waysBehind_47 : decode cX7_waysBehind 47 = .ok (.i2l, 1) := by decide +kernel
theorem dX7_waysBehind_48 : decode cX7_waysBehind 48 = .ok (.aload_n 0, 1) := by decide +kernel
theorem dX7_waysBehind_49 : decode cX7_waysBehind 49 = .ok (.getfield 20, 3) := by decide +kernel
theorem dX7_waysBehind_52 : decode cX7_waysBehind 52 = .ok (.iload_n 1, 1) := by decide +kernel
theorem dX7_waysBehind_53 : decode cX7_waysBehind 53 = .ok (.iaload, 1) := by decide +kernel
theorem dX7_waysBehind_54 : decode cX7_waysBehind 54 = .ok (.i2l, 1) := by decide +kernel
theorem dX7_waysBehind_55 : decode cX7_waysBehind 55 = .ok (.lmul, 1) := by decide +kernel
theorem dX7_waysBehind_56 : decode cX7_waysBehind 56 = .ok (.lreturn, 1) := by decide +kernel
theorem dX7_findNearest_0 : decode cX7_findNearest 0 = .ok (.aload_n 0, 1) := by decide +kernel
theorem dX7_findNearest_1 : decode cX7_findNearest 1 = .ok (.getfield 23, 3) := by decide +kernel
theorem dX7_findNearest_4 : decode cX7_findNearest 4 = .ok (.iconst 0, 1) := by decide +kernel
theorem dX7_findNearest_5 : decode cX7_findNearest 5 = .ok (.iconst (-1), 1) := by decide +kernel
theorem dX7_findNearest_6 : decode cX7_findNearest 6 = .ok (.iastore, 1) := by decide +kernel
theorem dX7_findNearest_7 : decode cX7_findNearest 7 = .ok (.aload_n 0, 1) := by decide +kernel
theorem dX7_findNearest_8 : decode cX7_findNearest 8 = .ok (.getfield 76, 3) := by decide +kernel
theorem dX7_findNearest_11 : decode cX7_findNearest 11 = .ok (.iconst 1, 1) := by decide +kernel
theorem dX7_findNearest_12 : decode cX7_findNearest 12 = .ok (.isub, 1) := by decide +kernel
theorem dX7_findNearest_13 : decode cX7_findNearest 13 = .ok (.istore_n 1, 1) := by decide +kernel
theorem dX7_findNearest_14 : decode cX7_findNearest 14 = .ok (.iload_n 1, 1) := by decide +kernel
theorem dX7_findNearest_15 : decode cX7_findNearest 15 = .ok (.ifCond .lt 83, 3) := by decide +kernel
theorem dX7_findNearest_18 : decode cX7_findNearest 18 = .ok (.aload_n 0, 1) := by decide +kernel
theorem dX7_findNearest_19 : decode cX7_findNearest 19 = .ok (.getfield 23, 3) := by decide +kernel
theorem dX7_findNearest_22 : decode cX7_findNearest 22 = .ok (.iload_n 1, 1) := by decide +kernel
theorem dX7_findNearest_23 : decode cX7_findNearest 23 = .ok (.iconst (-1), 1) := by decide +kernel
theorem dX7_findNearest_24 : decode cX7_findNearest 24 = .ok (.iastore, 1) := by decide +kernel
theorem dX7_findNearest_25 : decode cX7_findNearest 25 = .ok (.aload_n 0, 1) := by decide +kernel
theorem dX7_findNearest_26 : decode cX7_findNearest 26 = .ok (.getfield 26, 3) := by decide +kernel
theorem dX7_findNearest_29 : decode cX7_findNearest 29 = .ok (.iload_n 1, 1) := by decide +kernel
theorem dX7_findNearest_30 : decode cX7_findNearest 30 = .ok (.iconst (-1), 1) := by decide +kernel
theorem dX7_findNearest_31 : decode cX7_findNearest 31 = .ok (.iastore, 1) := by decide +kernel
theorem dX7_findNearest_32 : decode cX7_findNearest 32 = .ok (.iconst 0, 1) := by decide +kernel
theorem dX7_findNearest_33 : decode cX7_findNearest 33 = .ok (.istore_n 2, 1) := by decide +kernel
theorem dX7_findNearest_34 : decode cX7_findNearest 34 = .ok (.iload_n 2, 1) := by decide +kernel
theorem dX7_findNearest_35 : decode cX7_findNearest 35 = .ok (.bipush 26, 2) := by decide +kernel
theorem dX7_findNearest_37 : decode cX7_findNearest 37 = .ok (.if_icmp .ge 55, 3) := by decide +kernel
theorem dX7_findNearest_40 : decode cX7_findNearest 40 = .ok (.aload_n 0, 1) := by decide +kernel
theorem dX7_findNearest_41 : decode cX7_findNearest 41 = .ok (.iload_n 1, 1) := by decide +kernel
theorem dX7_findNearest_42 : decode cX7_findNearest 42 = .ok (.iload_n 2, 1) := by decide +kernel
theorem dX7_findNearest_43 : decode cX7_findNearest 43 = .ok (.invokevirtual 105, 3) := by decide +kernel
theorem dX7_findNearest_46 : decode cX7_findNearest 46 = .ok (.istore_n 3, 1) := by decide +kernel
theorem dX7_findNearest_47 : decode cX7_findNearest 47 = .ok (.iload_n 3, 1) := by decide +kernel
theorem dX7_findNearest_48 : decode cX7_findNearest 48 = .ok (.iconst (-1), 1) := by decide +kernel
theorem dX7_findNearest_49 : decode cX7_findNearest 49 = .ok (.if_icmp .eq 37, 3) := by decide +kernel
theorem dX7_findNearest_52 : decode cX7_findNearest 52 = .ok (.aload_n 0, 1) := by decide +kernel
theorem dX7_findNearest_53 : decode cX7_findNearest 53 = .ok (.getfield 23, 3) := by decide +kernel
theorem dX7_findNearest_56 : decode cX7_findNearest 56 = .ok (.iload_n 1, 1) := by decide +kernel
theorem dX7_findNearest_57 : decode cX7_findNearest 57 = .ok (.iaload, 1) := by decide +kernel
theorem dX7_findNearest_58 : decode cX7_findNearest 58 = .ok (.iconst (-1), 1) := by decide +kernel
theorem dX7_findNearest_59 : decode cX7_findNearest 59 = .ok (.if_icmp .eq 13, 3) := by decide +kernel
theorem dX7_findNearest_62 : decode cX7_findNearest 62 = .ok (.iload_n 3, 1) := by decide +kernel
theorem dX7_findNearest_63 : decode cX7_findNearest 63 = .ok (.aload_n 0, 1) := by decide +kernel
theorem dX7_findNearest_64 : decode cX7_findNearest 64 = .ok (.getfield 23, 3) := by decide +kernel
theorem dX7_findNearest_67 : decode cX7_findNearest 67 = .ok (.iload_n 1, 1) := by decide +kernel
theorem dX7_findNearest_68 : decode cX7_findNearest 68 = .ok (.iaload, 1) := by decide +kernel
theorem dX7_findNearest_69 : decode cX7_findNearest 69 = .ok (.if_icmp .ge 17, 3) := by decide +kernel
theorem dX7_findNearest_72 : decode cX7_findNearest 72 = .ok (.aload_n 0, 1) := by decide +kernel
theorem dX7_findNearest_73 : decode cX7_findNearest 73 = .ok (.getfield 23, 3) := by decide +kernel
theorem dX7_findNearest_76 : decode cX7_findNearest 76 = .ok (.iload_n 1, 1) := by decide +kernel
theorem dX7_findNearest_77 : decode cX7_findNearest 77 = .ok (.iload_n 3, 1) := by decide +kernel
theorem dX7_findNearest_78 : decode cX7_findNearest 78 = .ok (.iastore, 1) := by decide +kernel
theorem dX7_findNearest_79 : decode cX7_findNearest 79 = .ok (.aload_n 0, 1) := by decide +kernel
theorem dX7_findNearest_80 : decode cX7_findNearest 80 = .ok (.getfield 26, 3) := by decide +kernel
theorem dX7_findNearest_83 : decode cX7_findNearest 83 = .ok (.iload_n 1, 1) := by decide +kernel
theorem dX7_findNearest_84 : decode cX7_findNearest 84 = .ok (.iload_n 2, 1) := by decide +kernel
theorem dX7_findNearest_85 : decode cX7_findNearest 85 = .ok (.iastore, 1) := by decide +kernel
theorem dX7_findNearest_86 : decode cX7_findNearest 86 = .ok (.iinc 2 1, 3) := by decide +kernel
theorem dX7_findNearest_89 : decode cX7_findNearest 89 = .ok (.goto (-55), 3) := by decide +kernel
theorem dX7_findNearest_92 : decode cX7_findNearest 92 = .ok (.iinc 1 (-1), 3) := by decide +kernel
theorem dX7_findNearest_95 : decode cX7_findNearest 95 = .ok (.goto (-81), 3) := by decide +kernel
theorem dX7_findNearest_98 : decode cX7_findNearest 98 = .ok (.aload_n 0, 1) := by decide +kernel
theorem dX7_findNearest_99 : decode cX7_findNearest 99 = .ok (.getfield 23, 3) := by decide +kernel
theorem dX7_findNearest_102 : decode cX7_findNearest 102 = .ok (.iconst 0, 1) := by decide +kernel
theorem dX7_findNearest_103 : decode cX7_findNearest 103 = .ok (.iaload, 1) := by decide +kernel
theorem dX7_findNearest_104 : decode cX7_findNearest 104 = .ok (.ireturn, 1) := by decide +kernel
theorem dX7_writeNearest_0 : decode cX7_writeNearest 0 = .ok (.aload_n 0, 1) := by decide +kernel
theorem dX7_writeNearest_1 : decode cX7_writeNearest 1 = .ok (.iconst 0, 1) := by decide +kernel
theorem dX7_writeNearest_2 : decode cX7_writeNearest 2 = .ok (.putfield 108, 3) := by decide +kernel
theorem dX7_writeNearest_5 : decode cX7_writeNearest 5 = .ok (.iconst 0, 1) := by decide +kernel
theorem dX7_writeNearest_6 : decode cX7_writeNearest 6 = .ok (.istore_n 1, 1) := by decide +kernel
theorem dX7_writeNearest_7 : decode cX7_writeNearest 7 = .ok (.iconst 0, 1) := by decide +kernel
theorem dX7_writeNearest_8 : decode cX7_writeNearest 8 = .ok (.istore_n 2, 1) := by decide +kernel
theorem dX7_writeNearest_9 : decode cX7_writeNearest 9 = .ok (.iload_n 2, 1) := by decide +kernel
theorem dX7_writeNearest_10 : decode cX7_writeNearest 10 = .ok (.bipush 60, 2) := by decide +kernel
theorem dX7_writeNearest_12 : decode cX7_writeNearest 12 = .ok (.if_icmp .ge 81, 3) := by decide +kernel
theorem dX7_writeNearest_15 : decode cX7_writeNearest 15 = .ok (.iload_n 1, 1) := by decide +kernel
theorem dX7_writeNearest_16 : decode cX7_writeNearest 16 = .ok (.aload_n 0, 1) := by decide +kernel
theorem dX7_writeNearest_17 : decode cX7_writeNearest 17 = .ok (.getfield 76, 3) := by decide +kernel
theorem dX7_writeNearest_20 : decode cX7_writeNearest 20 = .ok (.if_icmp .ge 73, 3) := by decide +kernel
theorem dX7_writeNearest_23 : decode cX7_writeNearest 23 = .ok (.aload_n 0, 1) := by decide +kernel
theorem dX7_writeNearest_24 : decode cX7_writeNearest 24 = .ok (.getfield 26, 3) := by decide +kernel
theorem dX7_writeNearest_27 : decode cX7_writeNearest 27 = .ok (.iload_n 1, 1) := by decide +kernel
theorem dX7_writeNearest_28 : decode cX7_writeNearest 28 = .ok (.iaload, 1) := by decide +kernel
theorem dX7_writeNearest_29 : decode cX7_writeNearest 29 = .ok (.istore_n 3, 1) := by decide +kernel
theorem dX7_writeNearest_30 : decode cX7_writeNearest 30 = .ok (.iload_n 3, 1) := by decide +kernel
theorem dX7_writeNearest_31 : decode cX7_writeNearest 31 = .ok (.iconst (-1), 1) := by decide +kernel
theorem dX7_writeNearest_32 : decode cX7_writeNearest 32 = .ok (.if_icmp .ne 4, 3) := by decide +kernel
theorem dX7_writeNearest_35 : decode cX7_writeNearest 35 = .ok (.return_, 1) := by decide +kernel
theorem dX7_writeNearest_36 : decode cX7_writeNearest 36 = .ok (.aload_n 0, 1) := by decide +kernel
theorem dX7_writeNearest_37 : decode cX7_writeNearest 37 = .ok (.bipush 97, 2) := by decide +kernel
theorem dX7_writeNearest_39 : decode cX7_writeNearest 39 = .ok (.iload_n 3, 1) := by decide +kernel
theorem dX7_writeNearest_40 : decode cX7_writeNearest 40 = .ok (.iadd, 1) := by decide +kernel
theorem dX7_writeNearest_41 : decode cX7_writeNearest 41 = .ok (.invokevirtual 111, 3) := by decide +kernel
theorem dX7_writeNearest_44 : decode cX7_writeNearest 44 = .ok (.iload_n 1, 1) := by decide +kernel
theorem dX7_writeNearest_45 : decode cX7_writeNearest 45 = .ok (.aload_n 0, 1) := by decide +kernel
theorem dX7_writeNearest_46 : decode cX7_writeNearest 46 = .ok (.getfield 32, 3) := by decide +kernel
theorem dX7_writeNearest_49 : decode cX7_writeNearest 49 = .ok (.iload_n 3, 1) := by decide +kernel
theorem dX7_writeNearest_50 : decode cX7_writeNearest 50 = .ok (.invokevirtual 88, 3) := by decide +kernel
theorem dX7_writeNearest_53 : decode cX7_writeNearest 53 = .ok (.iadd, 1) := by decide +kernel
theorem dX7_writeNearest_54 : decode cX7_writeNearest 54 = .ok (.istore_n 1, 1) := by decide +kernel
theorem dX7_writeNearest_55 : decode cX7_writeNearest 55 = .ok (.iload_n 1, 1) := by decide +kernel
theorem dX7_writeNearest_56 : decode cX7_writeNearest 56 = .ok (.aload_n 0, 1) := by decide +kernel
theorem dX7_writeNearest_57 : decode cX7_writeNearest 57 = .ok (.getfield 76, 3) := by decide +kernel
theorem dX7_writeNearest_60 : decode cX7_writeNearest 60 = .ok (.if_icmp .ge 27, 3) := by decide +kernel
theorem dX7_writeNearest_63 : decode cX7_writeNearest 63 = .ok (.aload_n 0, 1) := by decide +kernel
theorem dX7_writeNearest_64 : decode cX7_writeNearest 64 = .ok (.iconst 2, 1) := by decide +kernel
theorem dX7_writeNearest_65 : decode cX7_writeNearest 65 = .ok (.iload_n 1, 1) := by decide +kernel
theorem dX7_writeNearest_66 : decode cX7_writeNearest 66 = .ok (.imul, 1) := by decide +kernel
theorem dX7_writeNearest_67 : decode cX7_writeNearest 67 = .ok (.iconst 1, 1) := by decide +kernel
theorem dX7_writeNearest_68 : decode cX7_writeNearest 68 = .ok (.isub, 1) := by decide +kernel
theorem dX7_writeNearest_69 : decode cX7_writeNearest 69 = .ok (.iconst 3, 1) := by decide +kernel
theorem dX7_writeNearest_70 : decode cX7_writeNearest 70 = .ok (.invokevirtual 102, 3) := by decide +kernel
theorem dX7_writeNearest_73 : decode cX7_writeNearest 73 = .ok (.aload_n 0, 1) := by decide +kernel
theorem dX7_writeNearest_74 : decode cX7_writeNearest 74 = .ok (.iload_n 1, 1) := by decide +kernel
theorem dX7_writeNearest_75 : decode cX7_writeNearest 75 = .ok (.invokevirtual 115, 3) := by decide +kernel
theorem dX7_writeNearest_78 : decode cX7_writeNearest 78 = .ok (.if_icmp .eq 9, 3) := by decide +kernel
theorem dX7_writeNearest_81 : decode cX7_writeNearest 81 = .ok (.aload_n 0, 1) := by decide +kernel
theorem dX7_writeNearest_82 : decode cX7_writeNearest 82 = .ok (.bipush 32, 2) := by decide +kernel
theorem dX7_writeNearest_84 : decode cX7_writeNearest 84 = .ok (.invokevirtual 111, 3) := by decide +kernel
theorem dX7_writeNearest_87 : decode cX7_writeNearest 87 = .ok (.iinc 2 1, 3) := by decide +kernel
theorem dX7_writeNearest_90 : decode cX7_writeNearest 90 = .ok (.goto (-81), 3) := by decide +kernel
theorem dX7_writeNearest_93 : decode cX7_writeNearest 93 = .ok (.return_, 1) := by decide +kernel
theorem dX7_write_0 : decode cX7_write 0 = .ok (.aload_n 0, 1) := by decide +kernel
theorem dX7_write_1 : decode cX7_write 1 = .ok (.getfield 108, 3) := by decide +kernel
theorem dX7_write_4 : decode cX7_write 4 = .ok (.bipush 120, 2) := by decide +kernel
theorem dX7_write_6 : decode cX7_write 6 = .ok (.if_icmp .ge 23, 3) := by decide +kernel
theorem dX7_write_9 : decode cX7_write 9 = .ok (.aload_n 0, 1) := by decide +kernel
theorem dX7_write_10 : decode cX7_write 10 = .ok (.getfield 29, 3) := by decide +kernel
theorem dX7_write_13 : decode cX7_write 13 = .ok (.aload_n 0, 1) := by decide +kernel
theorem dX7_write_14 : decode cX7_write 14 = .ok (.getfield 108, 3) := by decide +kernel
theorem dX7_write_17 : decode cX7_write 17 = .ok (.iload_n 1, 1) := by decide +kernel
theorem dX7_write_18 : decode cX7_write 18 = .ok (.iastore, 1) := by decide +kernel
theorem dX7_write_19 : decode cX7_write 19 = .ok (.aload_n 0, 1) := by decide +kernel
theorem dX7_write_20 : decode cX7_write 20 = .ok (.dup, 1) := by decide +kernel
theorem dX7_write_21 : decode cX7_write 21 = .ok (.getfield 108, 3) := by decide +kernel
theorem dX7_write_24 : decode cX7_write 24 = .ok (.iconst 1, 1) := by decide +kernel
theorem dX7_write_25 : decode cX7_write 25 = .ok (.iadd, 1) := by decide +kernel
theorem dX7_write_26 : decode cX7_write 26 = .ok (.putfield 108, 3) := by decide +kernel
theorem dX7_write_29 : decode cX7_write 29 = .ok (.return_, 1) := by decide +kernel
theorem dX7_rowSize_0 : decode cX7_rowSize 0 = .ok (.aload_n 0, 1) := by decide +kernel
theorem dX7_rowSize_1 : decode cX7_rowSize 1 = .ok (.getfield 108, 3) := by decide +kernel
theorem dX7_rowSize_4 : decode cX7_rowSize 4 = .ok (.ireturn, 1) := by decide +kernel
theorem dX7_rowAt_0 : decode cX7_rowAt 0 = .ok (.iload_n 1, 1) := by decide +kernel
theorem dX7_rowAt_1 : decode cX7_rowAt 1 = .ok (.ifCond .lt 20, 3) := by decide +kernel
theorem dX7_rowAt_4 : decode cX7_rowAt 4 = .ok (.iload_n 1, 1) := by decide +kernel
theorem dX7_rowAt_5 : decode cX7_rowAt 5 = .ok (.aload_n 0, 1) := by decide +kernel
theorem dX7_rowAt_6 : decode cX7_rowAt 6 = .ok (.getfield 108, 3) := by decide +kernel
theorem dX7_rowAt_9 : decode cX7_rowAt 9 = .ok (.if_icmp .ge 12, 3) := by decide +kernel
theorem dX7_rowAt_12 : decode cX7_rowAt 12 = .ok (.aload_n 0, 1) := by decide +kernel
theorem dX7_rowAt_13 : decode cX7_rowAt 13 = .ok (.getfield 29, 3) := by decide +kernel
theorem dX7_rowAt_16 : decode cX7_rowAt 16 = .ok (.iload_n 1, 1) := by decide +kernel
theorem dX7_rowAt_17 : decode cX7_rowAt 17 = .ok (.iaload, 1) := by decide +kernel
theorem dX7_rowAt_18 : decode cX7_rowAt 18 = .ok (.goto 4, 3) := by decide +kernel
theorem dX7_rowAt_21 : decode cX7_rowAt 21 = .ok (.iconst (-1), 1) := by decide +kernel
theorem dX7_rowAt_22 : decode cX7_rowAt 22 = .ok (.ireturn, 1) := by decide +kernel
theorem dX7_costFrom_0 : decode cX7_costFrom 0 = .ok (.aload_n 0, 1) := by decide +kernel
theorem dX7_costFrom_1 : decode cX7_costFrom 1 = .ok (.iload_n 1, 1) := by decide +kernel
theorem dX7_costFrom_2 : decode cX7_costFrom 2 = .ok (.iload_n 2, 1) := by decide +kernel
theorem dX7_costFrom_3 : decode cX7_costFrom 3 = .ok (.invokevirtual 85, 3) := by decide +kernel
theorem dX7_costFrom_6 : decode cX7_costFrom 6 = .ok (.istore_n 3, 1) := by decide +kernel
theorem dX7_costFrom_7 : decode cX7_costFrom 7 = .ok (.iload_n 1, 1) := by decide +kernel
theorem dX7_costFrom_8 : decode cX7_costFrom 8 = .ok (.aload_n 0, 1) := by decide +kernel
theorem dX7_costFrom_9 : decode cX7_costFrom 9 = .ok (.getfield 32, 3) := by decide +kernel
theorem dX7_costFrom_12 : decode cX7_costFrom 12 = .ok (.iload_n 2, 1) := by decide +kernel
theorem dX7_costFrom_13 : decode cX7_costFrom 13 = .ok (.invokevirtual 88, 3) := by decide +kernel
theorem dX7_costFrom_16 : decode cX7_costFrom 16 = .ok (.iadd, 1) := by decide +kernel
theorem dX7_costFrom_17 : decode cX7_costFrom 17 = .ok (.istore 4, 2) := by decide +kernel
theorem dX7_costFrom_19 : decode cX7_costFrom 19 = .ok (.iload_n 3, 1) := by decide +kernel
theorem dX7_costFrom_20 : decode cX7_costFrom 20 = .ok (.iconst (-1), 1) := by decide +kernel
theorem dX7_costFrom_21 : decode cX7_costFrom 21 = .ok (.if_icmp .eq 12, 3) := by decide +kernel
theorem dX7_costFrom_24 : decode cX7_costFrom 24 = .ok (.iload 4, 2) := by decide +kernel
theorem dX7_costFrom_26 : decode cX7_costFrom 26 = .ok (.aload_n 0, 1) := by decide +kernel
theorem dX7_costFrom_27 : decode cX7_costFrom 27 = .ok (.getfield 76, 3) := by decide +kernel
theorem dX7_costFrom_30 : decode cX7_costFrom 30 = .ok (.if_icmp .lt 5, 3) := by decide +kernel
theorem dX7_costFrom_33 : decode cX7_costFrom 33 = .ok (.iload_n 3, 1) := by decide +kernel
theorem dX7_costFrom_34 : decode cX7_costFrom 34 = .ok (.ireturn, 1) := by decide +kernel
theorem dX7_costFrom_35 : decode cX7_costFrom 35 = .ok (.aload_n 0, 1) := by decide +kernel
theorem dX7_costFrom_36 : decode cX7_costFrom 36 = .ok (.iload 4, 2) := by decide +kernel
theorem dX7_costFrom_38 : decode cX7_costFrom 38 = .ok (.invokevirtual 115, 3) := by decide +kernel
theorem dX7_costFrom_41 : decode cX7_costFrom 41 = .ok (.istore 5, 2) := by decide +kernel
theorem dX7_costFrom_43 : decode cX7_costFrom 43 = .ok (.iload 5, 2) := by decide +kernel
theorem dX7_costFrom_45 : decode cX7_costFrom 45 = .ok (.iconst (-1), 1) := by decide +kernel
theorem dX7_costFrom_46 : decode cX7_costFrom 46 = .ok (.if_icmp .eq 14, 3) := by decide +kernel
theorem dX7_costFrom_49 : decode cX7_costFrom 49 = .ok (.aload_n 0, 1) := by decide +kernel
theorem dX7_costFrom_50 : decode cX7_costFrom 50 = .ok (.getfield 23, 3) := by decide +kernel
theorem dX7_costFrom_53 : decode cX7_costFrom 53 = .ok (.iload 4, 2) := by decide +kernel
theorem dX7_costFrom_55 : decode cX7_costFrom 55 = .ok (.iaload, 1) := by decide +kernel
theorem dX7_costFrom_56 : decode cX7_costFrom 56 = .ok (.iconst (-1), 1) := by decide +kernel
theorem dX7_costFrom_57 : decode cX7_costFrom 57 = .ok (.if_icmp .ne 7, 3) := by decide +kernel
theorem dX7_costFrom_60 : decode cX7_costFrom 60 = .ok (.iconst (-1), 1) := by decide +kernel
theorem dX7_costFrom_61 : decode cX7_costFrom 61 = .ok (.goto 15, 3) := by decide +kernel
theorem dX7_costFrom_64 : decode cX7_costFrom 64 = .ok (.iload_n 3, 1) := by decide +kernel
theorem dX7_costFrom_65 : decode cX7_costFrom 65 = .ok (.iload 5, 2) := by decide +kernel
theorem dX7_costFrom_67 : decode cX7_costFrom 67 = .ok (.iadd, 1) := by decide +kernel
theorem dX7_costFrom_68 : decode cX7_costFrom 68 = .ok (.aload_n 0, 1) := by decide +kernel
theorem dX7_costFrom_69 : decode cX7_costFrom 69 = .ok (.getfield 23, 3) := by decide +kernel
theorem dX7_costFrom_72 : decode cX7_costFrom 72 = .ok (.iload 4, 2) := by decide +kernel
theorem dX7_costFrom_74 : decode cX7_costFrom 74 = .ok (.iaload, 1) := by decide +kernel
theorem dX7_costFrom_75 : decode cX7_costFrom 75 = .ok (.iadd, 1) := by decide +kernel
theorem dX7_costFrom_76 : decode cX7_costFrom 76 = .ok (.ireturn, 1) := by decide +kernel
theorem dX7_letterCost_0 : decode cX7_letterCost 0 = .ok (.aload_n 0, 1) := by decide +kernel
theorem dX7_letterCost_1 : decode cX7_letterCost 1 = .ok (.getfield 32, 3) := by decide +kernel
theorem dX7_letterCost_4 : decode cX7_letterCost 4 = .ok (.iload_n 2, 1) := by decide +kernel
theorem dX7_letterCost_5 : decode cX7_letterCost 5 = .ok (.invokevirtual 88, 3) := by decide +kernel
theorem dX7_letterCost_8 : decode cX7_letterCost 8 = .ok (.istore_n 3, 1) := by decide +kernel
theorem dX7_letterCost_9 : decode cX7_letterCost 9 = .ok (.iload_n 3, 1) := by decide +kernel
theorem dX7_letterCost_10 : decode cX7_letterCost 10 = .ok (.ifCond .eq 13, 3) := by decide +kernel
theorem dX7_letterCost_13 : decode cX7_letterCost 13 = .ok (.iload_n 1, 1) := by decide +kernel
theorem dX7_letterCost_14 : decode cX7_letterCost 14 = .ok (.iload_n 3, 1) := by decide +kernel
theorem dX7_letterCost_15 : decode cX7_letterCost 15 = .ok (.iadd, 1) := by decide +kernel
theorem dX7_letterCost_16 : decode cX7_letterCost 16 = .ok (.aload_n 0, 1) := by decide +kernel
theorem dX7_letterCost_17 : decode cX7_letterCost 17 = .ok (.getfield 76, 3) := by decide +kernel
theorem dX7_letterCost_20 : decode cX7_letterCost 20 = .ok (.if_icmp .le 5, 3) := by decide +kernel
theorem dX7_letterCost_23 : decode cX7_letterCost 23 = .ok (.iconst (-1), 1) := by decide +kernel
theorem dX7_letterCost_24 : decode cX7_letterCost 24 = .ok (.ireturn, 1) := by decide +kernel
theorem dX7_letterCost_25 : decode cX7_letterCost 25 = .ok (.iconst 0, 1) := by decide +kernel
theorem dX7_letterCost_26 : decode cX7_letterCost 26 = .ok (.istore 4, 2) := by decide +kernel
theorem dX7_letterCost_28 : decode cX7_letterCost 28 = .ok (.iconst 0, 1) := by decide +kernel
theorem dX7_letterCost_29 : decode cX7_letterCost 29 = .ok (.istore 5, 2) := by decide +kernel
theorem dX7_letterCost_31 : decode cX7_letterCost 31 = .ok (.iload 5, 2) := by decide +kernel
theorem dX7_letterCost_33 : decode cX7_letterCost 33 = .ok (.iconst 2, 1) := by decide +kernel
theorem dX7_letterCost_34 : decode cX7_letterCost 34 = .ok (.iload_n 3, 1) := by decide +kernel
theorem dX7_letterCost_35 : decode cX7_letterCost 35 = .ok (.imul, 1) := by decide +kernel
theorem dX7_letterCost_36 : decode cX7_letterCost 36 = .ok (.iconst 1, 1) := by decide +kernel
theorem dX7_letterCost_37 : decode cX7_letterCost 37 = .ok (.isub, 1) := by decide +kernel
theorem dX7_letterCost_38 : decode cX7_letterCost 38 = .ok (.if_icmp .ge 63, 3) := by decide +kernel
theorem dX7_letterCost_41 : decode cX7_letterCost 41 = .ok (.iload 5, 2) := by decide +kernel
theorem dX7_letterCost_43 : decode cX7_letterCost 43 = .ok (.iconst 2, 1) := by decide +kernel
theorem dX7_letterCost_44 : decode cX7_letterCost 44 = .ok (.irem, 1) := by decide +kernel
theorem dX7_letterCost_45 : decode cX7_letterCost 45 = .ok (.ifCond .ne 18, 3) := by decide +kernel
theorem dX7_letterCost_48 : decode cX7_letterCost 48 = .ok (.aload_n 0, 1) := by decide +kernel
theorem dX7_letterCost_49 : decode cX7_letterCost 49 = .ok (.getfield 32, 3) := by decide +kernel
theorem dX7_letterCost_52 : decode cX7_letterCost 52 = .ok (.iload_n 2, 1) := by decide +kernel
theorem dX7_letterCost_53 : decode cX7_letterCost 53 = .ok (.iload 5, 2) := by decide +kernel
theorem dX7_letterCost_55 : decode cX7_letterCost 55 = .ok (.iconst 2, 1) := by decide +kernel
theorem dX7_letterCost_56 : decode cX7_letterCost 56 = .ok (.idiv, 1) := by decide +kernel
theorem dX7_letterCost_57 : decode cX7_letterCost 57 = .ok (.invokevirtual 118, 3) := by decide +kernel
theorem dX7_letterCost_60 : decode cX7_letterCost 60 = .ok (.goto 4, 3) := by decide +kernel
theorem dX7_letterCost_63 : decode cX7_letterCost 63 = .ok (.iconst 2, 1) := by decide +kernel
theorem dX7_letterCost_64 : decode cX7_letterCost 64 = .ok (.istore 6, 2) := by decide +kernel
theorem dX7_letterCost_66 : decode cX7_letterCost 66 = .ok (.aload_n 0, 1) := by decide +kernel
theorem dX7_letterCost_67 : decode cX7_letterCost 67 = .ok (.iconst 2, 1) := by decide +kernel
theorem dX7_letterCost_68 : decode cX7_letterCost 68 = .ok (.iload_n 1, 1) := by decide +kernel
theorem dX7_letterCost_69 : decode cX7_letterCost 69 = .ok (.imul, 1) := by decide +kernel
theorem dX7_letterCost_70 : decode cX7_letterCost 70 = .ok (.iload 5, 2) := by decide +kernel
theorem dX7_letterCost_72 : decode cX7_letterCost 72 = .ok (.iadd, 1) := by decide +kernel
theorem dX7_letterCost_73 : decode cX7_letterCost 73 = .ok (.iload 6, 2) := by decide +kernel
theorem dX7_letterCost_75 : decode cX7_letterCost 75 = .ok (.invokevirtual 102, 3) := by decide +kernel
theorem dX7_letterCost_78 : decode cX7_letterCost 78 = .ok (.istore 7, 2) := by decide +kernel
theorem dX7_letterCost_80 : decode cX7_letterCost 80 = .ok (.iload 7, 2) := by decide +kernel
theorem dX7_letterCost_82 : decode cX7_letterCost 82 = .ok (.iconst (-1), 1) := by decide +kernel
theorem dX7_letterCost_83 : decode cX7_letterCost 83 = .ok (.if_icmp .ne 5, 3) := by decide +kernel
theorem dX7_letterCost_86 : decode cX7_letterCost 86 = .ok (.iconst (-1), 1) := by decide +kernel
theorem dX7_letterCost_87 : decode cX7_letterCost 87 = .ok (.ireturn, 1) := by decide +kernel
theorem dX7_letterCost_88 : decode cX7_letterCost 88 = .ok (.iload 4, 2) := by decide +kernel
theorem dX7_letterCost_90 : decode cX7_letterCost 90 = .ok (.iload 7, 2) := by decide +kernel
theorem dX7_letterCost_92 : decode cX7_letterCost 92 = .ok (.iadd, 1) := by decide +kernel
theorem dX7_letterCost_93 : decode cX7_letterCost 93 = .ok (.istore 4, 2) := by decide +kernel
theorem dX7_letterCost_95 : decode cX7_letterCost 95 = .ok (.iinc 5 1, 3) := by decide +kernel
theorem dX7_letterCost_98 : decode cX7_letterCost 98 = .ok (.goto (-67), 3) := by decide +kernel
theorem dX7_letterCost_101 : decode cX7_letterCost 101 = .ok (.iload 4, 2) := by decide +kernel
theorem dX7_letterCost_103 : decode cX7_letterCost 103 = .ok (.ireturn, 1) := by decide +kernel
theorem dX7_gapCost_0 : decode cX7_gapCost 0 = .ok (.aload_n 0, 1) := by decide +kernel
theorem dX7_gapCost_1 : decode cX7_gapCost 1 = .ok (.iconst 2, 1) := by decide +kernel
theorem dX7_gapCost_2 : decode cX7_gapCost 2 = .ok (.iload_n 1, 1) := by decide +kernel
theorem dX7_gapCost_3 : decode cX7_gapCost 3 = .ok (.imul, 1) := by decide +kernel
theorem dX7_gapCost_4 : decode cX7_gapCost 4 = .ok (.iconst 1, 1) := by decide +kernel
theorem dX7_gapCost_5 : decode cX7_gapCost 5 = .ok (.isub, 1) := by decide +kernel
theorem dX7_gapCost_6 : decode cX7_gapCost 6 = .ok (.iconst 3, 1) := by decide +kernel
theorem dX7_gapCost_7 : decode cX7_gapCost 7 = .ok (.invokevirtual 102, 3) := by decide +kernel
theorem dX7_gapCost_10 : decode cX7_gapCost 10 = .ok (.istore_n 2, 1) := by decide +kernel
theorem dX7_gapCost_11 : decode cX7_gapCost 11 = .ok (.aload_n 0, 1) := by decide +kernel
theorem dX7_gapCost_12 : decode cX7_gapCost 12 = .ok (.iconst 2, 1) := by decide +kernel
theorem dX7_gapCost_13 : decode cX7_gapCost 13 = .ok (.iload_n 1, 1) := by decide +kernel
theorem dX7_gapCost_14 : decode cX7_gapCost 14 = .ok (.imul, 1) := by decide +kernel
theorem dX7_gapCost_15 : decode cX7_gapCost 15 = .ok (.iconst 1, 1) := by decide +kernel
theorem dX7_gapCost_16 : decode cX7_gapCost 16 = .ok (.isub, 1) := by decide +kernel
theorem dX7_gapCost_17 : decode cX7_gapCost 17 = .ok (.iconst 4, 1) := by decide +kernel
theorem dX7_gapCost_18 : decode cX7_gapCost 18 = .ok (.invokevirtual 102, 3) := by decide +kernel
theorem dX7_gapCost_21 : decode cX7_gapCost 21 = .ok (.istore_n 3, 1) := by decide +kernel
theorem dX7_gapCost_22 : decode cX7_gapCost 22 = .ok (.iload_n 2, 1) := by decide +kernel
theorem dX7_gapCost_23 : decode cX7_gapCost 23 = .ok (.iconst (-1), 1) := by decide +kernel
theorem dX7_gapCost_24 : decode cX7_gapCost 24 = .ok (.if_icmp .eq 8, 3) := by decide +kernel
theorem dX7_gapCost_27 : decode cX7_gapCost 27 = .ok (.iload_n 3, 1) := by decide +kernel
theorem dX7_gapCost_28 : decode cX7_gapCost 28 = .ok (.iconst (-1), 1) := by decide +kernel
theorem dX7_gapCost_29 : decode cX7_gapCost 29 = .ok (.if_icmp .ne 9, 3) := by decide +kernel
theorem dX7_gapCost_32 : decode cX7_gapCost 32 = .ok (.iload_n 2, 1) := by decide +kernel
theorem dX7_gapCost_33 : decode cX7_gapCost 33 = .ok (.iload_n 3, 1) := by decide +kernel
theorem dX7_gapCost_34 : decode cX7_gapCost 34 = .ok (.invokestatic 121, 3) := by decide +kernel
theorem dX7_gapCost_37 : decode cX7_gapCost 37 = .ok (.ireturn, 1) := by decide +kernel
theorem dX7_gapCost_38 : decode cX7_gapCost 38 = .ok (.iload_n 2, 1) := by decide +kernel
theorem dX7_gapCost_39 : decode cX7_gapCost 39 = .ok (.iload_n 3, 1) := by decide +kernel
theorem dX7_gapCost_40 : decode cX7_gapCost 40 = .ok (.invokestatic 71, 3) := by decide +kernel
theorem dX7_gapCost_43 : decode cX7_gapCost 43 = .ok (.ireturn, 1) := by decide +kernel
theorem dX8_init_0 : decode cX8_init 0 = .ok (.aload_n 0, 1) := by decide +kernel
theorem dX8_init_1 : decode cX8_init 1 = .ok (.invokespecial 3, 3) := by decide +kernel
theorem dX8_init_4 : decode cX8_init 4 = .ok (.aload_n 0, 1) := by decide +kernel
theorem dX8_init_5 : decode cX8_init 5 = .ok (.bipush 120, 2) := by decide +kernel
theorem dX8_init_7 : decode cX8_init 7 = .ok (.newarray .int, 2) := by decide +kernel
theorem dX8_init_9 : decode cX8_init 9 = .ok (.putfield 11, 3) := by decide +kernel
theorem dX8_init_12 : decode cX8_init 12 = .ok (.aload_n 0, 1) := by decide +kernel
theorem dX8_init_13 : decode cX8_init 13 = .ok (.bipush 120, 2) := by decide +kernel
theorem dX8_init_15 : decode cX8_init 15 = .ok (.newarray .int, 2) := by decide +kernel
theorem dX8_init_17 : decode cX8_init 17 = .ok (.putfield 17, 3) := by decide +kernel
theorem dX8_init_20 : decode cX8_init 20 = .ok (.aload_n 0, 1) := by decide +kernel
theorem dX8_init_21 : decode cX8_init 21 = .ok (.aload_n 1, 1) := by decide +kernel
theorem dX8_init_22 : decode cX8_init 22 = .ok (.putfield 20, 3) := by decide +kernel
theorem dX8_init_25 : decode cX8_init 25 = .ok (.aload_n 0, 1) := by decide +kernel
theorem dX8_init_26 : decode cX8_init 26 = .ok (.aload_n 2, 1) := by decide +kernel
theorem dX8_init_27 : decode cX8_init 27 = .ok (.putfield 24, 3) := by decide +kernel
theorem dX8_init_30 : decode cX8_init 30 = .ok (.return_, 1) := by decide +kernel
theorem dX8_size_0 : decode cX8_size 0 = .ok (.aload_n 0, 1) := by decide +kernel
theorem dX8_size_1 : decode cX8_size 1 = .ok (.getfield 28, 3) := by decide +kernel
theorem dX8_size_4 : decode cX8_size 4 = .ok (.ireturn, 1) := by decide +kernel
theorem dX8_kindAt_0 : decode cX8_kindAt 0 = .ok (.iload_n 1, 1) := by decide +kernel
theorem dX8_kindAt_1 : decode cX8_kindAt 1 = .ok (.ifCond .lt 20, 3) := by decide +kernel
theorem dX8_kindAt_4 : decode cX8_kindAt 4 = .ok (.iload_n 1, 1) := by decide +kernel
theorem dX8_kindAt_5 : decode cX8_kindAt 5 = .ok (.aload_n 0, 1) := by decide +kernel
theorem dX8_kindAt_6 : decode cX8_kindAt 6 = .ok (.getfield 28, 3) := by decide +kernel
theorem dX8_kindAt_9 : decode cX8_kindAt 9 = .ok (.if_icmp .ge 12, 3) := by decide +kernel
theorem dX8_kindAt_12 : decode cX8_kindAt 12 = .ok (.aload_n 0, 1) := by decide +kernel
theorem dX8_kindAt_13 : decode cX8_kindAt 13 = .ok (.getfield 11, 3) := by decide +kernel
theorem dX8_kindAt_16 : decode cX8_kindAt 16 = .ok (.iload_n 1, 1) := by decide +kernel
theorem dX8_kindAt_17 : decode cX8_kindAt 17 = .ok (.iaload, 1) := by decide +kernel
theorem dX8_kindAt_18 : decode cX8_kindAt 18 = .ok (.goto 4, 3) := by decide +kernel
theorem dX8_kindAt_21 : decode cX8_kindAt 21 = .ok (.iconst (-1), 1) := by decide +kernel
theorem dX8_kindAt_22 : decode cX8_kindAt 22 = .ok (.ireturn, 1) := by decide +kernel
theorem dX8_isThere_0 : decode cX8_isThere 0 = .ok (.iconst 0, 1) := by decide +kernel
theorem dX8_isThere_1 : decode cX8_isThere 1 = .ok (.istore_n 1, 1) := by decide +kernel
theorem dX8_isThere_2 : decode cX8_isThere 2 = .ok (.iconst 0, 1) := by decide +kernel
theorem dX8_isThere_3 : decode cX8_isThere 3 = .ok (.istore_n 2, 1) := by decide +kernel
theorem dX8_isThere_4 : decode cX8_isThere 4 = .ok (.iload_n 2, 1) := by decide +kernel
theorem dX8_isThere_5 : decode cX8_isThere 5 = .ok (.aload_n 0, 1) := by decide +kernel
theorem dX8_isThere_6 : decode cX8_isThere 6 = .ok (.getfield 20, 3) := by decide +kernel
theorem dX8_isThere_9 : decode cX8_isThere 9 = .ok (.invokevirtual 32, 3) := by decide +kernel
theorem dX8_isThere_12 : decode cX8_isThere 12 = .ok (.if_icmp .ge 49, 3) := by decide +kernel
theorem dX8_isThere_15 : decode cX8_isThere 15 = .ok (.aload_n 0, 1) := by decide +kernel
theorem dX8_isThere_16 : decode cX8_isThere 16 = .ok (.getfield 20, 3) := by decide +kernel
theorem dX8_isThere_19 : decode cX8_isThere 19 = .ok (.iload_n 2, 1) := by decide +kernel
theorem dX8_isThere_20 : decode cX8_isThere 20 = .ok (.invokevirtual 37, 3) := by decide +kernel
theorem dX8_isThere_23 : decode cX8_isThere 23 = .ok (.ifCond .eq 8, 3) := by decide +kernel
theorem dX8_isThere_26 : decode cX8_isThere 26 = .ok (.iconst 1, 1) := by decide +kernel
theorem dX8_isThere_27 : decode cX8_isThere 27 = .ok (.istore_n 1, 1) := by decide +kernel
theorem dX8_isThere_28 : decode cX8_isThere 28 = .ok (.goto 27, 3) := by decide +kernel
theorem dX8_isThere_31 : decode cX8_isThere 31 = .ok (.aload_n 0, 1) := by decide +kernel
theorem dX8_isThere_32 : decode cX8_isThere 32 = .ok (.getfield 20, 3) := by decide +kernel
theorem dX8_isThere_35 : decode cX8_isThere 35 = .ok (.iload_n 2, 1) := by decide +kernel
theorem dX8_isThere_36 : decode cX8_isThere 36 = .ok (.invokevirtual 41, 3) := by decide +kernel
theorem dX8_isThere_39 : decode cX8_isThere 39 = .ok (.bipush 32, 2) := by decide +kernel
theorem dX8_isThere_41 : decode cX8_isThere 41 = .ok (.if_icmp .ne 12, 3) := by decide +kernel
theorem dX8_isThere_44 : decode cX8_isThere 44 = .ok (.iload_n 1, 1) := by decide +kernel
theorem dX8_isThere_45 : decode cX8_isThere 45 = .ok (.ifCond .eq 8, 3) := by decide +kernel
theorem dX8_isThere_48 : decode cX8_isThere 48 = .ok (.iconst 0, 1) := by decide +kernel
theorem dX8_isThere_49 : decode cX8_isThere 49 = .ok (.istore_n 1, 1) := by decide +kernel
theorem dX8_isThere_50 : decode cX8_isThere 50 = .ok (.goto 5, 3) := by decide +kernel
theorem dX8_isThere_53 : decode cX8_isThere 53 = .ok (.iconst 0, 1) := by decide +kernel
theorem dX8_isThere_54 : decode cX8_isThere 54 = .ok (.ireturn, 1) := by decide +kernel
theorem dX8_isThere_55 : decode cX8_isThere 55 = .ok (.iinc 2 1, 3) := by decide +kernel
theorem dX8_isThere_58 : decode cX8_isThere 58 = .ok (.goto (-54), 3) := by decide +kernel
theorem dX8_isThere_61 : decode cX8_isThere 61 = .ok (.iload_n 1, 1) := by decide +kernel
theorem dX8_isThere_62 : decode cX8_isThere 62 = .ok (.ireturn, 1) := by decide +kernel
theorem dX8_spell_0 : decode cX8_spell 0 = .ok (.aload_n 0, 1) := by decide +kernel
theorem dX8_spell_1 : decode cX8_spell 1 = .ok (.iconst 0, 1) := by decide +kernel
theorem dX8_spell_2 : decode cX8_spell 2 = .ok (.putfield 28, 3) := by decide +kernel
theorem dX8_spell_5 : decode cX8_spell 5 = .ok (.iconst (-1), 1) := by decide +kernel
theorem dX8_spell_6 : decode cX8_spell 6 = .ok (.istore_n 1, 1) := by decide +kernel
theorem dX8_spell_7 : decode cX8_spell 7 = .ok (.iconst 0, 1) := by decide +kernel
theorem dX8_spell_8 : decode cX8_spell 8 = .ok (.istore_n 2, 1) := by decide +kernel
theorem dX8_spell_9 : decode cX8_spell 9 = .ok (.iload_n 2, 1) := by decide +kernel
theorem dX8_spell_10 : decode cX8_spell 10 = .ok (.aload_n 0, 1) := by decide +kernel
theorem dX8_spell_11 : decode cX8_spell 11 = .ok (.getfield 20, 3) := by decide +kernel
theorem dX8_spell_14 : decode cX8_spell 14 = .ok (.invokevirtual 32, 3) := by decide +kernel
theorem dX8_spell_17 : decode cX8_spell 17 = .ok (.if_icmp .ge 58, 3) := by decide +kernel
theorem dX8_spell_20 : decode cX8_spell 20 = .ok (.aload_n 0, 1) := by decide +kernel
theorem dX8_spell_21 : decode cX8_spell 21 = .ok (.getfield 20, 3) := by decide +kernel
theorem dX8_spell_24 : decode cX8_spell 24 = .ok (.iload_n 2, 1) := by decide +kernel
theorem dX8_spell_25 : decode cX8_spell 25 = .ok (.invokevirtual 41, 3) := by decide +kernel
theorem dX8_spell_28 : decode cX8_spell 28 = .ok (.bipush 32, 2) := by decide +kernel
theorem dX8_spell_30 : decode cX8_spell 30 = .ok (.if_icmp .ne 8, 3) := by decide +kernel
theorem dX8_spell_33 : decode cX8_spell 33 = .ok (.iconst 4, 1) := by decide +kernel
theorem dX8_spell_34 : decode cX8_spell 34 = .ok (.istore_n 1, 1) := by decide +kernel
theorem dX8_spell_35 : decode cX8_spell 35 = .ok (.goto 34, 3) := by decide +kernel
theorem dX8_spell_38 : decode cX8_spell 38 = .ok (.aload_n 0, 1) := by decide +kernel
theorem dX8_spell_39 : decode cX8_spell 39 = .ok (.aload_n 0, 1) := by decide +kernel
theorem dX8_spell_40 : decode cX8_spell 40 = .ok (.getfield 20, 3) := by decide +kernel
theorem dX8_spell_43 : decode cX8_spell 43 = .ok (.iload_n 2, 1) := by decide +kernel
theorem dX8_spell_44 : decode cX8_spell 44 = .ok (.invokevirtual 41, 3) := by decide +kernel
theorem dX8_spell_47 : decode cX8_spell 47 = .ok (.bipush 97, 2) := by decide +kernel
theorem dX8_spell_49 : decode cX8_spell 49 = .ok (.isub, 1) := by decide +kernel
theorem dX8_spell_50 : decode cX8_spell 50 = .ok (.iload_n 1, 1) := by decide +kernel
theorem dX8_spell_51 : decode cX8_spell 51 = .ok (.invokevirtual 45, 3) := by decide +kernel
theorem dX8_spell_54 : decode cX8_spell 54 = .ok (.ifCond .eq 8, 3) := by decide +kernel
theorem dX8_spell_57 : decode cX8_spell 57 = .ok (.iconst 3, 1) := by decide +kernel
theorem dX8_spell_58 : decode cX8_spell 58 = .ok (.istore_n 1, 1) := by decide +kernel
theorem dX8_spell_59 : decode cX8_spell 59 = .ok (.goto 10, 3) := by decide +kernel
theorem dX8_spell_62 : decode cX8_spell 62 = .ok (.aload_n 0, 1) := by decide +kernel
theorem dX8_spell_63 : decode cX8_spell 63 = .ok (.iconst (-1), 1) := by decide +kernel
theorem dX8_spell_64 : decode cX8_spell 64 = .ok (.putfield 28, 3) := by decide +kernel
theorem dX8_spell_67 : decode cX8_spell 67 = .ok (.iconst (-1), 1) := by decide +kernel
theorem dX8_spell_68 : decode cX8_spell 68 = .ok (.ireturn, 1) := by decide +kernel
theorem dX8_spell_69 : decode cX8_spell 69 = .ok (.iinc 2 1, 3) := by decide +kernel
theorem dX8_spell_72 : decode cX8_spell 72 = .ok (.goto (-63), 3) := by decide +kernel
theorem dX8_spell_75 : decode cX8_spell 75 = .ok (.aload_n 0, 1) := by decide +kernel
theorem dX8_spell_76 : decode cX8_spell 76 = .ok (.getfield 28, 3) := by decide +kernel
theorem dX8_spell_79 : decode cX8_spell 79 = .ok (.ireturn, 1) := by decide +kernel
theorem dX8_spellLetter_0 : decode cX8_spellLetter 0 = .ok (.aload_n 0, 1) := by decide +kernel
theorem dX8_spellLetter_1 : decode cX8_spellLetter 1 = .ok (.getfield 24, 3) := by decide +kernel
theorem dX8_spellLetter_4 : decode cX8_spellLetter 4 = .ok (.iload_n 1, 1) := by decide +kernel
theorem dX8_spellLetter_5 : decode cX8_spellLetter 5 = .ok (.invokevirtual 49, 3) := by decide +kernel
theorem dX8_spellLetter_8 : decode cX8_spellLetter 8 = .ok (.istore_n 3, 1) := by decide +kernel
theorem dX8_spellLetter_9 : decode cX8_spellLetter 9 = .ok (.iload_n 3, 1) := by decide +kernel
theorem dX8_spellLetter_10 : decode cX8_spellLetter 10 = .ok (.ifCond .eq 16, 3) := by decide +kernel
theorem dX8_spellLetter_13 : decode cX8_spellLetter 13 = .ok (.aload_n 0, 1) := by decide +kernel
theorem dX8_spellLetter_14 : decode cX8_spellLetter 14 = .ok (.getfield 28, 3) := by decide +kernel
theorem dX8_spellLetter_17 : decode cX8_spellLetter 17 = .ok (.iconst 2, 1) := by decide +kernel
theorem dX8_spellLetter_18 : decode cX8_spellLetter 18 = .ok (.iload_n 3, 1) := by decide +kernel
theorem dX8_spellLetter_19 : decode cX8_spellLetter 19 = .ok (.imul, 1) := by decide +kernel
theorem dX8_spellLetter_20 : decode cX8_spellLetter 20 = .ok (.iadd, 1) := by decide +kernel
theorem dX8_spellLetter_21 : decode cX8_spellLetter 21 = .ok (.bipush 120, 2) := by decide +kernel
theorem dX8_spellLetter_23 : decode cX8_spellLetter 23 = .ok (.if_icmp .le 5, 3) := by decide +kernel
theorem dX8_spellLetter_26 : decode cX8_spellLetter 26 = .ok (.iconst 0, 1) := by decide +kernel
theorem dX8_spellLetter_27 : decode cX8_spellLetter 27 = .ok (.ireturn, 1) := by decide +kernel
theorem dX8_spellLetter_28 : decode cX8_spellLetter 28 = .ok (.iconst 0, 1) := by decide +kernel
theorem dX8_spellLetter_29 : decode cX8_spellLetter 29 = .ok (.istore 4, 2) := by decide +kernel
theorem dX8_spellLetter_31 : decode cX8_spellLetter 31 = .ok (.iload 4, 2) := by decide +kernel
theorem dX8_spellLetter_33 : decode cX8_spellLetter 33 = .ok (.iload_n 3, 1) := by decide +kernel
theorem dX8_spellLetter_34 : decode cX8_spellLetter 34 = .ok (.if_icmp .ge 47, 3) := by decide +kernel
theorem dX8_spellLetter_37 : decode cX8_spellLetter 37 = .ok (.iload 4, 2) := by decide +kernel
theorem dX8_spellLetter_39 : decode cX8_spellLetter 39 = .ok (.ifCond .ne 7, 3) := by decide +kernel
theorem dX8_spellLetter_42 : decode cX8_spellLetter 42 = .ok (.iload_n 2, 1) := by decide +kernel
theorem dX8_spellLetter_43 : decode cX8_spellLetter 43 = .ok (.goto 4, 3) := by decide +kernel
theorem dX8_spellLetter_46 : decode cX8_spellLetter 46 = .ok (.iconst 2, 1) := by decide +kernel
theorem dX8_spellLetter_47 : decode cX8_spellLetter 47 = .ok (.istore 5, 2) := by decide +kernel
theorem dX8_spellLetter_49 : decode cX8_spellLetter 49 = .ok (.iload 5, 2) := by decide +kernel
theorem dX8_spellLetter_51 : decode cX8_spellLetter 51 = .ok (.iconst (-1), 1) := by decide +kernel
theorem dX8_spellLetter_52 : decode cX8_spellLetter 52 = .ok (.if_icmp .eq 9, 3) := by decide +kernel
theorem dX8_spellLetter_55 : decode cX8_spellLetter 55 = .ok (.aload_n 0, 1) := by decide +kernel
theorem dX8_spellLetter_56 : decode cX8_spellLetter 56 = .ok (.iload 5, 2) := by decide +kernel
theorem dX8_spellLetter_58 : decode cX8_spellLetter 58 = .ok (.invokevirtual 54, 3) := by decide +kernel
theorem dX8_spellLetter_61 : decode cX8_spellLetter 61 = .ok (.aload_n 0, 1) := by decide +kernel
theorem dX8_spellLetter_62 : decode cX8_spellLetter 62 = .ok (.aload_n 0, 1) := by decide +kernel
theorem dX8_spellLetter_63 : decode cX8_spellLetter 63 = .ok (.getfield 24, 3) := by decide +kernel
theorem dX8_spellLetter_66 : decode cX8_spellLetter 66 = .ok (.iload_n 1, 1) := by decide +kernel
theorem dX8_spellLetter_67 : decode cX8_spellLetter 67 = .ok (.iload 4, 2) := by decide +kernel
theorem dX8_spellLetter_69 : decode cX8_spellLetter 69 = .ok (.invokevirtual 58, 3) := by decide +kernel
theorem dX8_spellLetter_72 : decode cX8_spellLetter 72 = .ok (.invokevirtual 54, 3) := by decide +kernel
theorem dX8_spellLetter_75 : decode cX8_spellLetter 75 = .ok (.iinc 4 1, 3) := by decide +kernel
theorem dX8_spellLetter_78 : decode cX8_spellLetter 78 = .ok (.goto (-47), 3) := by decide +kernel
theorem dX8_spellLetter_81 : decode cX8_spellLetter 81 = .ok (.iconst 1, 1) := by decide +kernel
theorem dX8_spellLetter_82 : decode cX8_spellLetter 82 = .ok (.ireturn, 1) := by decide +kernel
theorem dX8_addKind_0 : decode cX8_addKind 0 = .ok (.aload_n 0, 1) := by decide +kernel
theorem dX8_addKind_1 : decode cX8_addKind 1 = .ok (.getfield 28, 3) := by decide +kernel
theorem dX8_addKind_4 : decode cX8_addKind 4 = .ok (.ifCond .lt 32, 3) := by decide +kernel
theorem dX8_addKind_7 : decode cX8_addKind 7 = .ok (.aload_n 0, 1) := by decide +kernel
theorem dX8_addKind_8 : decode cX8_addKind 8 = .ok (.getfield 28, 3) := by decide +kernel
theorem dX8_addKind_11 : decode cX8_addKind 11 = .ok (.bipush 120, 2) := by decide +kernel
theorem dX8_addKind_13 : decode cX8_addKind 13 = .ok (.if_icmp .ge 23, 3) := by decide +kernel
theorem dX8_addKind_16 : decode cX8_addKind 16 = .ok (.aload_n 0, 1) := by decide +kernel
theorem dX8_addKind_17 : decode cX8_addKind 17 = .ok (.getfield 11, 3) := by decide +kernel
theorem dX8_addKind_20 : decode cX8_addKind 20 = .ok (.aload_n 0, 1) := by decide +kernel
theorem dX8_addKind_21 : decode cX8_addKind 21 = .ok (.getfield 28, 3) := by decide +kernel
theorem dX8_addKind_24 : decode cX8_addKind 24 = .ok (.iload_n 1, 1) := by decide +kernel
theorem dX8_addKind_25 : decode cX8_addKind 25 = .ok (.iastore, 1) := by decide +kernel
theorem dX8_addKind_26 : decode cX8_addKind 26 = .ok (.aload_n 0, 1) := by decide +kernel
theorem dX8_addKind_27 : decode cX8_addKind 27 = .ok (.dup, 1) := by decide +kernel
theorem dX8_addKind_28 : decode cX8_addKind 28 = .ok (.getfield 28, 3) := by decide +kernel
theorem dX8_addKind_31 : decode cX8_addKind 31 = .ok (.iconst 1, 1) := by decide +kernel
theorem dX8_addKind_32 : decode cX8_addKind 32 = .ok (.iadd, 1) := by decide +kernel
theorem dX8_addKind_33 : decode cX8_addKind 33 = .ok (.putfield 28, 3) := by decide +kernel
theorem dX8_addKind_36 : decode cX8_addKind 36 = .ok (.return_, 1) := by decide +kernel
theorem dX8_draw_0 : decode cX8_draw 0 = .ok (.iload_n 3, 1) := by decide +kernel
theorem dX8_draw_1 : decode cX8_draw 1 = .ok (.i2l, 1) := by decide +kernel
theorem dX8_draw_2 : decode cX8_draw 2 = .ok (.lstore 4, 2) := by decide +kernel
theorem dX8_draw_4 : decode cX8_draw 4 = .ok (.iconst 0, 1) := by decide +kernel
theorem dX8_draw_5 : decode cX8_draw 5 = .ok (.istore 6, 2) := by decide +kernel
theorem dX8_draw_7 : decode cX8_draw 7 = .ok (.iload 6, 2) := by decide +kernel
theorem dX8_draw_9 : decode cX8_draw 9 = .ok (.aload_n 0, 1) := by decide +kernel
theorem dX8_draw_10 : decode cX8_draw 10 = .ok (.getfield 28, 3) := by decide +kernel
theorem dX8_draw_13 : decode cX8_draw 13 = .ok (.if_icmp .ge 83, 3) := by decide +kernel
theorem dX8_draw_16 : decode cX8_draw 16 = .ok (.lload 4, 2) := by decide +kernel
theorem dX8_draw_18 : decode cX8_draw 18 = .ok (.ldc2_w 62, 3) := by decide +kernel
theorem dX8_draw_21 : decode cX8_draw 21 = .ok (.lmul, 1) := by decide +kernel
theorem dX8_draw_22 : decode cX8_draw 22 = .ok (.ldc2_w 64, 3) := by decide +kernel
theorem dX8_draw_25 : decode cX8_draw 25 = .ok (.ladd, 1) := by decide +kernel
theorem dX8_draw_26 : decode cX8_draw 26 = .ok (.ldc2_w 66, 3) := by decide +kernel
theorem dX8_draw_29 : decode cX8_draw 29 = .ok (.land, 1) := by decide +kernel
theorem dX8_draw_30 : decode cX8_draw 30 = .ok (.lstore 4, 2) := by decide +kernel
theorem dX8_draw_32 : decode cX8_draw 32 = .ok (.aload_n 1, 1) := by decide +kernel
theorem dX8_draw_33 : decode cX8_draw 33 = .ok (.iload_n 2, 1) := by decide +kernel
theorem dX8_draw_34 : decode cX8_draw 34 = .ok (.aload_n 0, 1) := by decide +kernel
theorem dX8_draw_35 : decode cX8_draw 35 = .ok (.getfield 11, 3) := by decide +kernel
theorem dX8_draw_38 : decode cX8_draw 38 = .ok (.iload 6, 2) := by decide +kernel
theorem dX8_draw_40 : decode cX8_draw 40 = .ok (.iaload, 1) := by decide +kernel
theorem dX8_draw_41 : decode cX8_draw 41 = .ok (.invokevirtual 68, 3) := by decide +kernel
theorem dX8_draw_44 : decode cX8_draw 44 = .ok (.istore 7, 2) := by decide +kernel
theorem dX8_draw_46 : decode cX8_draw 46 = .ok (.iload 7, 2) := by decide +kernel
theorem dX8_draw_48 : decode cX8_draw 48 = .ok (.ifCond .le 16, 3) := by decide +kernel
theorem dX8_draw_51 : decode cX8_draw 51 = .ok (.lload 4, 2) := by decide +kernel
theorem dX8_draw_53 : decode cX8_draw 53 = .ok (.ldc2_w 73, 3) := by decide +kernel
theorem dX8_draw_56 : decode cX8_draw 56 = .ok (.ldiv, 1) := by decide +kernel
theorem dX8_draw_57 : decode cX8_draw 57 = .ok (.iload 7, 2) := by decide +kernel
theorem dX8_draw_59 : decode cX8_draw 59 = .ok (.i2l, 1) := by decide +kernel
theorem dX8_draw_60 : decode cX8_draw 60 = .ok (.lrem, 1) := by decide +kernel
theorem dX8_draw_61 : decode cX8_draw 61 = .ok (.goto 4, 3) := by decide +kernel
theorem dX8_draw_64 : decode cX8_draw 64 = .ok (.lconst 0, 1) := by decide +kernel
theorem dX8_draw_65 : decode cX8_draw 65 = .ok (.lstore 8, 2) := by decide +kernel
theorem dX8_draw_67 : decode cX8_draw 67 = .ok (.aload_n 0, 1) := by decide +kernel
theorem dX8_draw_68 : decode cX8_draw 68 = .ok (.getfield 17, 3) := by decide +kernel
theorem dX8_draw_71 : decode cX8_draw 71 = .ok (.iload 6, 2) := by decide +kernel
theorem dX8_draw_73 : decode cX8_draw 73 = .ok (.aload_n 1, 1) := by decide +kernel
theorem dX8_draw_74 : decode cX8_draw 74 = .ok (.iload_n 2, 1) := by decide +kernel
theorem dX8_draw_75 : decode cX8_draw 75 = .ok (.aload_n 0, 1) := by decide +kernel
theorem dX8_draw_76 : decode cX8_draw 76 = .ok (.getfield 11, 3) := by decide +kernel
theorem dX8_draw_79 : decode cX8_draw 79 = .ok (.iload 6, 2) := by decide +kernel
theorem dX8_draw_81 : decode cX8_draw 81 = .ok (.iaload, 1) := by decide +kernel
theorem dX8_draw_82 : decode cX8_draw 82 = .ok (.invokevirtual 75, 3) := by decide +kernel
theorem dX8_draw_85 : decode cX8_draw 85 = .ok (.lload 8, 2) := by decide +kernel
theorem dX8_draw_87 : decode cX8_draw 87 = .ok (.l2i, 1) := by decide +kernel
theorem dX8_draw_88 : decode cX8_draw 88 = .ok (.iadd, 1) := by decide +kernel
theorem dX8_draw_89 : decode cX8_draw 89 = .ok (.iastore, 1) := by decide +kernel
theorem dX8_draw_90 : decode cX8_draw 90 = .ok (.iinc 6 1, 3) := by decide +kernel
theorem dX8_draw_93 : decode cX8_draw 93 = .ok (.goto (-86), 3) := by decide +kernel
theorem dX8_draw_96 : decode cX8_draw 96 = .ok (.return_, 1) := by decide +kernel
theorem dX8_sendThrough_0 : decode cX8_sendThrough 0 = .ok (.aload_n 2, 1) := by decide +kernel
theorem dX8_sendThrough_1 : decode cX8_sendThrough 1 = .ok (.iconst 0, 1) := by decide +kernel
theorem dX8_sendThrough_2 : decode cX8_sendThrough 2 = .ok (.invokevirtual 78, 3) := by decide +kernel
theorem dX8_sendThrough_5 : decode cX8_sendThrough 5 = .ok (.pop, 1) := by decide +kernel
theorem dX8_sendThrough_6 : decode cX8_sendThrough 6 = .ok (.iconst 0, 1) := by decide +kernel
theorem dX8_sendThrough_7 : decode cX8_sendThrough 7 = .ok (.istore_n 3, 1) := by decide +kernel
theorem dX8_sendThrough_8 : decode cX8_sendThrough 8 = .ok (.iconst 0, 1) := by decide +kernel
theorem dX8_sendThrough_9 : decode cX8_sendThrough 9 = .ok (.istore 4, 2) := by decide +kernel
theorem dX8_sendThrough_11 : decode cX8_sendThrough 11 = .ok (.iload 4, 2) := by decide +kernel
theorem dX8_sendThrough_13 : decode cX8_sendThrough 13 = .ok (.aload_n 0, 1) := by decide +kernel
theorem dX8_sendThrough_14 : decode cX8_sendThrough 14 = .ok (.getfield 28, 3) := by decide +kernel
theorem dX8_sendThrough_17 : decode cX8_sendThrough 17 = .ok (.if_icmp .ge 72, 3) := by decide +kernel
theorem dX8_sendThrough_20 : decode cX8_sendThrough 20 = .ok (.aload_n 0, 1) := by decide +kernel
theorem dX8_sendThrough_21 : decode cX8_sendThrough 21 = .ok (.getfield 17, 3) := by decide +kernel
theorem dX8_sendThrough_24 : decode cX8_sendThrough 24 = .ok (.iload 4, 2) := by decide +kernel
theorem dX8_sendThrough_26 : decode cX8_sendThrough 26 = .ok (.iaload, 1) := by decide +kernel
theorem dX8_sendThrough_27 : decode cX8_sendThrough 27 = .ok (.istore 5, 2) := by decide +kernel
theorem dX8_sendThrough_29 : decode cX8_sendThrough 29 = .ok (.iload 4, 2) := by decide +kernel
theorem dX8_sendThrough_31 : decode cX8_sendThrough 31 = .ok (.iconst 2, 1) := by decide +kernel
theorem dX8_sendThrough_32 : decode cX8_sendThrough 32 = .ok (.irem, 1) := by decide +kernel
theorem dX8_sendThrough_33 : decode cX8_sendThrough 33 = .ok (.iconst 1, 1) := by decide +kernel
theorem dX8_sendThrough_34 : decode cX8_sendThrough 34 = .ok (.if_icmp .eq 9, 3) := by decide +kernel
theorem dX8_sendThrough_37 : decode cX8_sendThrough 37 = .ok (.iload 5, 2) := by decide +kernel
theorem dX8_sendThrough_39 : decode cX8_sendThrough 39 = .ok (.iload_n 1, 1) := by decide +kernel
theorem dX8_sendThrough_40 : decode cX8_sendThrough 40 = .ok (.if_icmp .gt 11, 3) := by decide +kernel
theorem dX8_sendThrough_43 : decode cX8_sendThrough 43 = .ok (.iload_n 3, 1) := by decide +kernel
theorem dX8_sendThrough_44 : decode cX8_sendThrough 44 = .ok (.iload 5, 2) := by decide +kernel
theorem dX8_sendThrough_46 : decode cX8_sendThrough 46 = .ok (.iadd, 1) := by decide +kernel
theorem dX8_sendThrough_47 : decode cX8_sendThrough 47 = .ok (.istore_n 3, 1) := by decide +kernel
theorem dX8_sendThrough_48 : decode cX8_sendThrough 48 = .ok (.goto 35, 3) := by decide +kernel
theorem dX8_sendThrough_51 : decode cX8_sendThrough 51 = .ok (.aload_n 2, 1) := by decide +kernel
theorem dX8_sendThrough_52 : decode cX8_sendThrough 52 = .ok (.invokevirtual 81, 3) := by decide +kernel
theorem dX8_sendThrough_55 : decode cX8_sendThrough 55 = .ok (.ifCond .le 17, 3) := by decide +kernel
theorem dX8_sendThrough_58 : decode cX8_sendThrough 58 = .ok (.aload_n 2, 1) := by decide +kernel
theorem dX8_sendThrough_59 : decode cX8_sendThrough 59 = .ok (.iload_n 3, 1) := by decide +kernel
theorem dX8_sendThrough_60 : decode cX8_sendThrough 60 = .ok (.iload_n 1, 1) := by decide +kernel
theorem dX8_sendThrough_61 : decode cX8_sendThrough 61 = .ok (.iadd, 1) := by decide +kernel
theorem dX8_sendThrough_62 : decode cX8_sendThrough 62 = .ok (.sipush 999, 3) := by decide +kernel
theorem dX8_sendThrough_65 : decode cX8_sendThrough 65 = .ok (.invokestatic 82, 3) := by decide +kernel
theorem dX8_sendThrough_68 : decode cX8_sendThrough 68 = .ok (.invokevirtual 87, 3) := by decide +kernel
theorem dX8_sendThrough_71 : decode cX8_sendThrough 71 = .ok (.pop, 1) := by decide +kernel
theorem dX8_sendThrough_72 : decode cX8_sendThrough 72 = .ok (.aload_n 2, 1) := by decide +kernel
theorem dX8_sendThrough_73 : decode cX8_sendThrough 73 = .ok (.iload 5, 2) := by decide +kernel
theorem dX8_sendThrough_75 : decode cX8_sendThrough 75 = .ok (.iload_n 1, 1) := by decide +kernel
theorem dX8_sendThrough_76 : decode cX8_sendThrough 76 = .ok (.isub, 1) := by decide +kernel
theorem dX8_sendThrough_77 : decode cX8_sendThrough 77 = .ok (.invokevirtual 87, 3) := by decide +kernel
theorem dX8_sendThrough_80 : decode cX8_sendThrough 80 = .ok (.pop, 1) := by decide +kernel
theorem dX8_sendThrough_81 : decode cX8_sendThrough 81 = .ok (.iconst 0, 1) := by decide +kernel
theorem dX8_sendThrough_82 : decode cX8_sendThrough 82 = .ok (.istore_n 3, 1) := by decide +kernel
theorem dX8_sendThrough_83 : decode cX8_sendThrough 83 = .ok (.iinc 4 1, 3) := by decide +kernel
theorem dX8_sendThrough_86 : decode cX8_sendThrough 86 = .ok (.goto (-75), 3) := by decide +kernel
theorem dX8_sendThrough_89 : decode cX8_sendThrough 89 = .ok (.return_, 1) := by decide +kernel
theorem dX9_init_0 : decode cX9_init 0 = .ok (.aload_n 0, 1) := by decide +kernel
theorem dX9_init_1 : decode cX9_init 1 = .ok (.invokespecial 3, 3) := by decide +kernel
theorem dX9_init_4 : decode cX9_init 4 = .ok (.aload_n 0, 1) := by decide +kernel
theorem dX9_init_5 : decode cX9_init 5 = .ok (.bipush 120, 2) := by decide +kernel
theorem dX9_init_7 : decode cX9_init 7 = .ok (.newarray .int, 2) := by decide +kernel
theorem dX9_init_9 : decode cX9_init 9 = .ok (.putfield 11, 3) := by decide +kernel
theorem dX9_init_12 : decode cX9_init 12 = .ok (.return_, 1) := by decide +kernel
theorem dX9_size_0 : decode cX9_size 0 = .ok (.aload_n 0, 1) := by decide +kernel
theorem dX9_size_1 : decode cX9_size 1 = .ok (.getfield 15, 3) := by decide +kernel
theorem dX9_size_4 : decode cX9_size 4 = .ok (.ireturn, 1) := by decide +kernel
theorem dX9_add_0 : decode cX9_add 0 = .ok (.aload_n 0, 1) := by decide +kernel
theorem dX9_add_1 : decode cX9_add 1 = .ok (.getfield 15, 3) := by decide +kernel
theorem dX9_add_4 : decode cX9_add 4 = .ok (.bipush 120, 2) := by decide +kernel
theorem dX9_add_6 : decode cX9_add 6 = .ok (.if_icmp .lt 5, 3) := by decide +kernel
theorem dX9_add_9 : decode cX9_add 9 = .ok (.iconst (-1), 1) := by decide +kernel
theorem dX9_add_10 : decode cX9_add 10 = .ok (.ireturn, 1) := by decide +kernel
theorem dX9_add_11 : decode cX9_add 11 = .ok (.aload_n 0, 1) := by decide +kernel
theorem dX9_add_12 : decode cX9_add 12 = .ok (.getfield 11, 3) := by decide +kernel
theorem dX9_add_15 : decode cX9_add 15 = .ok (.aload_n 0, 1) := by decide +kernel
theorem dX9_add_16 : decode cX9_add 16 = .ok (.getfield 15, 3) := by decide +kernel
theorem dX9_add_19 : decode cX9_add 19 = .ok (.iload_n 1, 1) := by decide +kernel
theorem dX9_add_20 : decode cX9_add 20 = .ok (.iastore, 1) := by decide +kernel
theorem dX9_add_21 : decode cX9_add 21 = .ok (.aload_n 0, 1) := by decide +kernel
theorem dX9_add_22 : decode cX9_add 22 = .ok (.dup, 1) := by decide +kernel
theorem dX9_add_23 : decode cX9_add 23 = .ok (.getfield 15, 3) := by decide +kernel
theorem dX9_add_26 : decode cX9_add 26 = .ok (.iconst 1, 1) := by decide +kernel
theorem dX9_add_27 : decode cX9_add 27 = .ok (.iadd, 1) := by decide +kernel
theorem dX9_add_28 : decode cX9_add 28 = .ok (.putfield 15, 3) := by decide +kernel
theorem dX9_add_31 : decode cX9_add 31 = .ok (.aload_n 0, 1) := by decide +kernel
theorem dX9_add_32 : decode cX9_add 32 = .ok (.getfield 15, 3) := by decide +kernel
theorem dX9_add_35 : decode cX9_add 35 = .ok (.ireturn, 1) := by decide +kernel
theorem dX9_keep_0 : decode cX9_keep 0 = .ok (.iload_n 1, 1) := by decide +kernel
theorem dX9_keep_1 : decode cX9_keep 1 = .ok (.ifCond .lt 11, 3) := by decide +kernel
theorem dX9_keep_4 : decode cX9_keep 4 = .ok (.iload_n 1, 1) := by decide +kernel
theorem dX9_keep_5 : decode cX9_keep 5 = .ok (.aload_n 0, 1) := by decide +kernel
theorem dX9_keep_6 : decode cX9_keep 6 = .ok (.getfield 15, 3) := by decide +kernel
theorem dX9_keep_9 : decode cX9_keep 9 = .ok (.if_icmp .le 5, 3) := by decide +kernel
theorem dX9_keep_12 : decode cX9_keep 12 = .ok (.iconst 0, 1) := by decide +kernel
theorem dX9_keep_13 : decode cX9_keep 13 = .ok (.ireturn, 1) := by decide +kernel
theorem dX9_keep_14 : decode cX9_keep 14 = .ok (.aload_n 0, 1) := by decide +kernel
theorem dX9_keep_15 : decode cX9_keep 15 = .ok (.iload_n 1, 1) := by decide +kernel
theorem dX9_keep_16 : decode cX9_keep 16 = .ok (.putfield 15, 3) := by decide +kernel
theorem dX9_keep_19 : decode cX9_keep 19 = .ok (.iconst 1, 1) := by decide +kernel
theorem dX9_keep_20 : decode cX9_keep 20 = .ok (.ireturn, 1) := by decide +kernel
theorem dX9_at_0 : decode cX9_at 0 = .ok (.iload_n 1, 1) := by decide +kernel
theorem dX9_at_1 : decode cX9_at 1 = .ok (.ifCond .lt 20, 3) := by decide +kernel
theorem dX9_at_4 : decode cX9_at 4 = .ok (.iload_n 1, 1) := by decide +kernel
theorem dX9_at_5 : decode cX9_at 5 = .ok (.aload_n 0, 1) := by decide +kernel
theorem dX9_at_6 : decode cX9_at 6 = .ok (.getfield 15, 3) := by decide +kernel
theorem dX9_at_9 : decode cX9_at 9 = .ok (.if_icmp .ge 12, 3) := by decide +kernel
theorem dX9_at_12 : decode cX9_at 12 = .ok (.aload_n 0, 1) := by decide +kernel
theorem dX9_at_13 : decode cX9_at 13 = .ok (.getfield 11, 3) := by decide +kernel
theorem dX9_at_16 : decode cX9_at 16 = .ok (.iload_n 1, 1) := by decide +kernel
theorem dX9_at_17 : decode cX9_at 17 = .ok (.iaload, 1) := by decide +kernel
theorem dX9_at_18 : decode cX9_at 18 = .ok (.goto 4, 3) := by decide +kernel
theorem dX9_at_21 : decode cX9_at 21 = .ok (.iconst (-1), 1) := by decide +kernel
theorem dX9_at_22 : decode cX9_at 22 = .ok (.ireturn, 1) := by decide +kernel
theorem dX9_isWhole_0 : decode cX9_isWhole 0 = .ok (.aload_n 0, 1) := by decide +kernel
theorem dX9_isWhole_1 : decode cX9_isWhole 1 = .ok (.getfield 15, 3) := by decide +kernel
theorem dX9_isWhole_4 : decode cX9_isWhole 4 = .ok (.iconst 2, 1) := by decide +kernel
theorem dX9_isWhole_5 : decode cX9_isWhole 5 = .ok (.irem, 1) := by decide +kernel
theorem dX9_isWhole_6 : decode cX9_isWhole 6 = .ok (.iconst 1, 1) := by decide +kernel
theorem dX9_isWhole_7 : decode cX9_isWhole 7 = .ok (.if_icmp .ne 7, 3) := by decide +kernel
theorem dX9_isWhole_10 : decode cX9_isWhole 10 = .ok (.iconst 1, 1) := by decide +kernel
theorem dX9_isWhole_11 : decode cX9_isWhole 11 = .ok (.goto 4, 3) := by decide +kernel
theorem dX9_isWhole_14 : decode cX9_isWhole 14 = .ok (.iconst 0, 1) := by decide +kernel
theorem dX9_isWhole_15 : decode cX9_isWhole 15 = .ok (.ireturn, 1) := by decide +kernel
theorem dX10_init_0 : decode cX10_init 0 = .ok (.aload_n 0, 1) := by decide +kernel
theorem dX10_init_1 : decode cX10_init 1 = .ok (.invokespecial 3, 3) := by decide +kernel
theorem dX10_init_4 : decode cX10_init 4 = .ok (.aload_n 0, 1) := by decide +kernel
theorem dX10_init_5 : decode cX10_init 5 = .ok (.sipush 500, 3) := by decide +kernel
theorem dX10_init_8 : decode cX10_init 8 = .ok (.newarray .int, 2) := by decide +kernel
theorem dX10_init_10 : decode cX10_init 10 = .ok (.putfield 11, 3) := by decide +kernel
theorem dX10_init_13 : decode cX10_init 13 = .ok (.return_, 1) := by decide +kernel
theorem dX10_size_0 : decode cX10_size 0 = .ok (.aload_n 0, 1) := by decide +kernel
theorem dX10_size_1 : decode cX10_size 1 = .ok (.getfield 15, 3) := by decide +kernel
theorem dX10_size_4 : decode cX10_size 4 = .ok (.ireturn, 1) := by decide +kernel
theorem dX10_hasRoom_0 : decode cX10_hasRoom 0 = .ok (.aload_n 0, 1) := by decide +kernel
theorem dX10_hasRoom_1 : decode cX10_hasRoom 1 = .ok (.getfield 15, 3) := by decide +kernel
theorem dX10_hasRoom_4 : decode cX10_hasRoom 4 = .ok (.bipush 20, 2) := by decide +kernel
theorem dX10_hasRoom_6 : decode cX10_hasRoom 6 = .ok (.iadd, 1) := by decide +kernel
theorem dX10_hasRoom_7 : decode cX10_hasRoom 7 = .ok (.sipush 500, 3) := by decide +kernel
theorem dX10_hasRoom_10 : decode cX10_hasRoom 10 = .ok (.if_icmp .gt 7, 3) := by decide +kernel
theorem dX10_hasRoom_13 : decode cX10_hasRoom 13 = .ok (.iconst 1, 1) := by decide +kernel
theorem dX10_hasRoom_14 : decode cX10_hasRoom 14 = .ok (.goto 4, 3) := by decide +kernel
theorem dX10_hasRoom_17 : decode cX10_hasRoom 17 = .ok (.iconst 0, 1) := by decide +kernel
theorem dX10_hasRoom_18 : decode cX10_hasRoom 18 = .ok (.ireturn, 1) := by decide +kernel
theorem dX10_add_0 : decode cX10_add 0 = .ok (.bipush 24, 2) := by decide +kernel
theorem dX10_add_2 : decode cX10_add 2 = .ok (.istore_n 2, 1) := by decide +kernel
theorem dX10_add_3 : decode cX10_add 3 = .ok (.iload_n 2, 1) := by decide +kernel
theorem dX10_add_4 : decode cX10_add 4 = .ok (.ifCond .lt 45, 3) := by decide +kernel
theorem dX10_add_7 : decode cX10_add 7 = .ok (.aload_n 0, 1) := by decide +kernel
theorem dX10_add_8 : decode cX10_add 8 = .ok (.getfield 15, 3) := by decide +kernel
theorem dX10_add_11 : decode cX10_add 11 = .ok (.sipush 500, 3) := by decide +kernel
theorem dX10_add_14 : decode cX10_add 14 = .ok (.if_icmp .ge 35, 3) := by decide +kernel
theorem dX10_add_17 : decode cX10_add 17 = .ok (.aload_n 0, 1) := by decide +kernel
theorem dX10_add_18 : decode cX10_add 18 = .ok (.getfield 11, 3) := by decide +kernel
theorem dX10_add_21 : decode cX10_add 21 = .ok (.aload_n 0, 1) := by decide +kernel
theorem dX10_add_22 : decode cX10_add 22 = .ok (.getfield 15, 3) := by decide +kernel
theorem dX10_add_25 : decode cX10_add 25 = .ok (.iload_n 1, 1) := by decide +kernel
theorem dX10_add_26 : decode cX10_add 26 = .ok (.iload_n 2, 1) := by decide +kernel
theorem dX10_add_27 : decode cX10_add 27 = .ok (.iushr, 1) := by decide +kernel
theorem dX10_add_28 : decode cX10_add 28 = .ok (.sipush 255, 3) := by decide +kernel
theorem dX10_add_31 : decode cX10_add 31 = .ok (.iand, 1) := by decide +kernel
theorem dX10_add_32 : decode cX10_add 32 = .ok (.iastore, 1) := by decide +kernel
theorem dX10_add_33 : decode cX10_add 33 = .ok (.aload_n 0, 1) := by decide +kernel
theorem dX10_add_34 : decode cX10_add 34 = .ok (.dup, 1) := by decide +kernel
theorem dX10_add_35 : decode cX10_add 35 = .ok (.getfield 15, 3) := by decide +kernel
theorem dX10_add_38 : decode cX10_add 38 = .ok (.iconst 1, 1) := by decide +kernel
theorem dX10_add_39 : decode cX10_add 39 = .ok (.iadd, 1) := by decide +kernel
theorem dX10_add_40 : decode cX10_add 40 = .ok (.putfield 15, 3) := by decide +kernel
theorem dX10_add_43 : decode cX10_add 43 = .ok (.iinc 2 (-8), 3) := by decide +kernel
theorem dX10_add_46 : decode cX10_add 46 = .ok (.goto (-43), 3) := by decide +kernel
theorem dX10_add_49 : decode cX10_add 49 = .ok (.return_, 1) := by decide +kernel
theorem dX10_keep_0 : decode cX10_keep 0 = .ok (.iload_n 1, 1) := by decide +kernel
theorem dX10_keep_1 : decode cX10_keep 1 = .ok (.ifCond .lt 11, 3) := by decide +kernel
theorem dX10_keep_4 : decode cX10_keep 4 = .ok (.iload_n 1, 1) := by decide +kernel
theorem dX10_keep_5 : decode cX10_keep 5 = .ok (.aload_n 0, 1) := by decide +kernel
theorem dX10_keep_6 : decode cX10_keep 6 = .ok (.getfield 15, 3) := by decide +kernel
theorem dX10_keep_9 : decode cX10_keep 9 = .ok (.if_icmp .le 5, 3) := by decide +kernel
theorem dX10_keep_12 : decode cX10_keep 12 = .ok (.iconst 0, 1) := by decide +kernel
theorem dX10_keep_13 : decode cX10_keep 13 = .ok (.ireturn, 1) := by decide +kernel
theorem dX10_keep_14 : decode cX10_keep 14 = .ok (.aload_n 0, 1) := by decide +kernel
theorem dX10_keep_15 : decode cX10_keep 15 = .ok (.iload_n 1, 1) := by decide +kernel
theorem dX10_keep_16 : decode cX10_keep 16 = .ok (.putfield 15, 3) := by decide +kernel
theorem dX10_keep_19 : decode cX10_keep 19 = .ok (.iconst 1, 1) := by decide +kernel
theorem dX10_keep_20 : decode cX10_keep 20 = .ok (.ireturn, 1) := by decide +kernel
theorem dX10_at_0 : decode cX10_at 0 = .ok (.iload_n 1, 1) := by decide +kernel
theorem dX10_at_1 : decode cX10_at 1 = .ok (.ifCond .lt 20, 3) := by decide +kernel
theorem dX10_at_4 : decode cX10_at 4 = .ok (.iload_n 1, 1) := by decide +kernel
theorem dX10_at_5 : decode cX10_at 5 = .ok (.aload_n 0, 1) := by decide +kernel
theorem dX10_at_6 : decode cX10_at 6 = .ok (.getfield 15, 3) := by decide +kernel
theorem dX10_at_9 : decode cX10_at 9 = .ok (.if_icmp .ge 12, 3) := by decide +kernel
theorem dX10_at_12 : decode cX10_at 12 = .ok (.aload_n 0, 1) := by decide +kernel
theorem dX10_at_13 : decode cX10_at 13 = .ok (.getfield 11, 3) := by decide +kernel
theorem dX10_at_16 : decode cX10_at 16 = .ok (.iload_n 1, 1) := by decide +kernel
theorem dX10_at_17 : decode cX10_at 17 = .ok (.iaload, 1) := by decide +kernel
theorem dX10_at_18 : decode cX10_at 18 = .ok (.goto 4, 3) := by decide +kernel
theorem dX10_at_21 : decode cX10_at 21 = .ok (.iconst (-1), 1) := by decide +kernel
theorem dX10_at_22 : decode cX10_at 22 = .ok (.ireturn, 1) := by decide +kernel
theorem dX10_isLetter_0 : decode cX10_isLetter 0 = .ok (.aload_n 0, 1) := by decide +kernel
theorem dX10_isLetter_1 : decode cX10_isLetter 1 = .ok (.iload_n 1, 1) := by decide +kernel
theorem dX10_isLetter_2 : decode cX10_isLetter 2 = .ok (.invokevirtual 19, 3) := by decide +kernel
theorem dX10_isLetter_5 : decode cX10_isLetter 5 = .ok (.istore_n 2, 1) := by decide +kernel
theorem dX10_isLetter_6 : decode cX10_isLetter 6 = .ok (.iload_n 2, 1) := by decide +kernel
theorem dX10_isLetter_7 : decode cX10_isLetter 7 = .ok (.bipush 97, 2) := by decide +kernel
theorem dX10_isLetter_9 : decode cX10_isLetter 9 = .ok (.if_icmp .lt 13, 3) := by decide +kernel
theorem dX10_isLetter_12 : decode cX10_isLetter 12 = .ok (.iload_n 2, 1) := by decide +kernel
theorem dX10_isLetter_13 : decode cX10_isLetter 13 = .ok (.bipush 122, 2) := by decide +kernel
theorem dX10_isLetter_15 : decode cX10_isLetter 15 = .ok (.if_icmp .gt 7, 3) := by decide +kernel
theorem dX10_isLetter_18 : decode cX10_isLetter 18 = .ok (.iconst 1, 1) := by decide +kernel
theorem dX10_isLetter_19 : decode cX10_isLetter 19 = .ok (.goto 4, 3) := by decide +kernel
theorem dX10_isLetter_22 : decode cX10_isLetter 22 = .ok (.iconst 0, 1) := by decide +kernel
theorem dX10_isLetter_23 : decode cX10_isLetter 23 = .ok (.ireturn, 1) := by decide +kernel
theorem dX11_init_0 : decode cX11_init 0 = .ok (.aload_n 0, 1) := by decide +kernel
theorem dX11_init_1 : decode cX11_init 1 = .ok (.invokespecial 1, 3) := by decide +kernel
theorem dX11_init_4 : decode cX11_init 4 = .ok (.aload_n 0, 1) := by decide +kernel
theorem dX11_init_5 : decode cX11_init 5 = .ok (.new 7, 3) := by decide +kernel
theorem dX11_init_8 : decode cX11_init 8 = .ok (.dup, 1) := by decide +kernel
theorem dX11_init_9 : decode cX11_init 9 = .ok (.invokespecial 9, 3) := by decide +kernel
theorem dX11_init_12 : decode cX11_init 12 = .ok (.putfield 10, 3) := by decide +kernel
theorem dX11_init_15 : decode cX11_init 15 = .ok (.aload_n 0, 1) := by decide +kernel
theorem dX11_init_16 : decode cX11_init 16 = .ok (.new 16, 3) := by decide +kernel
theorem dX11_init_19 : decode cX11_init 19 = .ok (.dup, 1) := by decide +kernel
theorem dX11_init_20 : decode cX11_init 20 = .ok (.invokespecial 18, 3) := by decide +kernel
theorem dX11_init_23 : decode cX11_init 23 = .ok (.putfield 19, 3) := by decide +kernel
theorem dX11_init_26 : decode cX11_init 26 = .ok (.aload_n 0, 1) := by decide +kernel
theorem dX11_init_27 : decode cX11_init 27 = .ok (.new 16, 3) := by decide +kernel
theorem dX11_init_30 : decode cX11_init 30 = .ok (.dup, 1) := by decide +kernel
theorem dX11_init_31 : decode cX11_init 31 = .ok (.invokespecial 18, 3) := by decide +kernel
theorem dX11_init_34 : decode cX11_init 34 = .ok (.putfield 23, 3) := by decide +kernel
theorem dX11_init_37 : decode cX11_init 37 = .ok (.aload_n 0, 1) := by decide +kernel
theorem dX11_init_38 : decode cX11_init 38 = .ok (.new 26, 3) := by decide +kernel
theorem dX11_init_41 : decode cX11_init 41 = .ok (.dup, 1) := by decide +kernel
theorem dX11_init_42 : decode cX11_init 42 = .ok (.aload_n 0, 1) := by decide +kernel
theorem dX11_init_43 : decode cX11_init 43 = .ok (.getfield 10, 3) := by decide +kernel
theorem dX11_init_46 : decode cX11_init 46 = .ok (.aload_n 0, 1) := by decide +kernel
theorem dX11_init_47 : decode cX11_init 47 = .ok (.getfield 23, 3) := by decide +kernel
theorem dX11_init_50 : decode cX11_init 50 = .ok (.invokespecial 28, 3) := by decide +kernel
theorem dX11_init_53 : decode cX11_init 53 = .ok (.putfield 31, 3) := by decide +kernel
theorem dX11_init_56 : decode cX11_init 56 = .ok (.aload_n 0, 1) := by decide +kernel
theorem dX11_init_57 : decode cX11_init 57 = .ok (.new 35, 3) := by decide +kernel
theorem dX11_init_60 : decode cX11_init 60 = .ok (.dup, 1) := by decide +kernel
theorem dX11_init_61 : decode cX11_init 61 = .ok (.invokespecial 37, 3) := by decide +kernel
theorem dX11_init_64 : decode cX11_init 64 = .ok (.putfield 38, 3) := by decide +kernel
theorem dX11_init_67 : decode cX11_init 67 = .ok (.aload_n 0, 1) := by decide +kernel
theorem dX11_init_68 : decode cX11_init 68 = .ok (.new 42, 3) := by decide +kernel
theorem dX11_init_71 : decode cX11_init 71 = .ok (.dup, 1) := by decide +kernel
theorem dX11_init_72 : decode cX11_init 72 = .ok (.invokespecial 44, 3) := by decide +kernel
theorem dX11_init_75 : decode cX11_init 75 = .ok (.putfield 45, 3) := by decide +kernel
theorem dX11_init_78 : decode cX11_init 78 = .ok (.aload_n 0, 1) := by decide +kernel
theorem dX11_init_79 : decode cX11_init 79 = .ok (.new 49, 3) := by decide +kernel
theorem dX11_init_82 : decode cX11_init 82 = .ok (.dup, 1) := by decide +kernel
theorem dX11_init_83 : decode cX11_init 83 = .ok (.invokespecial 51, 3) := by decide +kernel
theorem dX11_init_86 : decode cX11_init 86 = .ok (.putfield 52, 3) := by decide +kernel
theorem dX11_init_89 : decode cX11_init 89 = .ok (.aload_n 0, 1) := by decide +kernel
theorem dX11_init_90 : decode cX11_init 90 = .ok (.new 56, 3) := by decide +kernel
theorem dX11_init_93 : decode cX11_init 93 = .ok (.dup, 1) := by decide +kernel
theorem dX11_init_94 : decode cX11_init 94 = .ok (.aload_n 0, 1) := by decide +kernel
theorem dX11_init_95 : decode cX11_init 95 = .ok (.getfield 19, 3) := by decide +kernel
theorem dX11_init_98 : decode cX11_init 98 = .ok (.aload_n 0, 1) := by decide +kernel
theorem dX11_init_99 : decode cX11_init 99 = .ok (.getfield 52, 3) := by decide +kernel
theorem dX11_init_102 : decode cX11_init 102 = .ok (.aload_n 0, 1) := by decide +kernel
theorem dX11_init_103 : decode cX11_init 103 = .ok (.getfield 38, 3) := by decide +kernel
theorem dX11_init_106 : decode cX11_init 106 = .ok (.aload_n 0, 1) := by decide +kernel
theorem dX11_init_107 : decode cX11_init 107 = .ok (.getfield 45, 3) := by decide +kernel
theorem dX11_init_110 : decode cX11_init 110 = .ok (.invokespecial 58, 3) := by decide +kernel
theorem dX11_init_113 : decode cX11_init 113 = .ok (.putfield 61, 3) := by decide +kernel
theorem dX11_init_116 : decode cX11_init 116 = .ok (.aload_n 0, 1) := by decide +kernel
theorem dX11_init_117 : decode cX11_init 117 = .ok (.new 65, 3) := by decide +kernel
theorem dX11_init_120 : decode cX11_init 120 = .ok (.dup, 1) := by decide +kernel
theorem dX11_init_121 : decode cX11_init 121 = .ok (.aload_n 0, 1) := by decide +kernel
theorem dX11_init_122 : decode cX11_init 122 = .ok (.getfield 10, 3) := by decide +kernel
theorem dX11_init_125 : decode cX11_init 125 = .ok (.aload_n 0, 1) := by decide +kernel
theorem dX11_init_126 : decode cX11_init 126 = .ok (.getfield 19, 3) := by decide +kernel
theorem dX11_init_129 : decode cX11_init 129 = .ok (.invokespecial 67, 3) := by decide +kernel
theorem dX11_init_132 : decode cX11_init 132 = .ok (.putfield 68, 3) := by decide +kernel
theorem dX11_init_135 : decode cX11_init 135 = .ok (.aload_n 0, 1) := by decide +kernel
theorem dX11_init_136 : decode cX11_init 136 = .ok (.new 72, 3) := by decide +kernel
theorem dX11_init_139 : decode cX11_init 139 = .ok (.dup, 1) := by decide +kernel
theorem dX11_init_140 : decode cX11_init 140 = .ok (.aload_n 0, 1) := by decide +kernel
theorem dX11_init_141 : decode cX11_init 141 = .ok (.getfield 45, 3) := by decide +kernel
theorem dX11_init_144 : decode cX11_init 144 = .ok (.invokespecial 74, 3) := by decide +kernel
theorem dX11_init_147 : decode cX11_init 147 = .ok (.putfield 77, 3) := by decide +kernel
theorem dX11_init_150 : decode cX11_init 150 = .ok (.aload_n 0, 1) := by decide +kernel
theorem dX11_init_151 : decode cX11_init 151 = .ok (.new 81, 3) := by decide +kernel
theorem dX11_init_154 : decode cX11_init 154 = .ok (.dup, 1) := by decide +kernel
theorem dX11_init_155 : decode cX11_init 155 = .ok (.invokespecial 83, 3) := by decide +kernel
theorem dX11_init_158 : decode cX11_init 158 = .ok (.putfield 84, 3) := by decide +kernel
theorem dX11_init_161 : decode cX11_init 161 = .ok (.aload_n 0, 1) := by decide +kernel
theorem dX11_init_162 : decode cX11_init 162 = .ok (.new 88, 3) := by decide +kernel
theorem dX11_init_165 : decode cX11_init 165 = .ok (.dup, 1) := by decide +kernel
theorem dX11_init_166 : decode cX11_init 166 = .ok (.invokespecial 90, 3) := by decide +kernel
theorem dX11_init_169 : decode cX11_init 169 = .ok (.putfield 91, 3) := by decide +kernel
theorem dX11_init_172 : decode cX11_init 172 = .ok (.aload_n 0, 1) := by decide +kernel
theorem dX11_init_173 : decode cX11_init 173 = .ok (.new 88, 3) := by decide +kernel
theorem dX11_init_176 : decode cX11_init 176 = .ok (.dup, 1) := by decide +kernel
theorem dX11_init_177 : decode cX11_init 177 = .ok (.invokespecial 90, 3) := by decide +kernel
theorem dX11_init_180 : decode cX11_init 180 = .ok (.putfield 95, 3) := by decide +kernel
theorem dX11_init_183 : decode cX11_init 183 = .ok (.return_, 1) := by decide +kernel
theorem dX11_feed_0 : decode cX11_feed 0 = .ok (.aload_n 0, 1) := by decide +kernel
theorem dX11_feed_1 : decode cX11_feed 1 = .ok (.getfield 10, 3) := by decide +kernel
theorem dX11_feed_4 : decode cX11_feed 4 = .ok (.invokevirtual 98, 3) := by decide +kernel
theorem dX11_feed_7 : decode cX11_feed 7 = .ok (.ifCond .ne 5, 3) := by decide +kernel
theorem dX11_feed_10 : decode cX11_feed 10 = .ok (.iconst (-1), 1) := by decide +kernel
theorem dX11_feed_11 : decode cX11_feed 11 = .ok (.ireturn, 1) := by decide +kernel
theorem dX11_feed_12 : decode cX11_feed 12 = .ok (.aload_n 0, 1) := by decide +kernel
theorem dX11_feed_13 : decode cX11_feed 13 = .ok (.getfield 10, 3) := by decide +kernel
theorem dX11_feed_16 : decode cX11_feed 16 = .ok (.iload_n 1, 1) := by decide +kernel
theorem dX11_feed_17 : decode cX11_feed 17 = .ok (.invokevirtual 102, 3) := by decide +kernel
theorem dX11_feed_20 : decode cX11_feed 20 = .ok (.aload_n 0, 1) := by decide +kernel
theorem dX11_feed_21 : decode cX11_feed 21 = .ok (.getfield 10, 3) := by decide +kernel
theorem dX11_feed_24 : decode cX11_feed 24 = .ok (.iload_n 2, 1) := by decide +kernel
theorem dX11_feed_25 : decode cX11_feed 25 = .ok (.invokevirtual 102, 3) := by decide +kernel
theorem dX11_feed_28 : decode cX11_feed 28 = .ok (.aload_n 0, 1) := by decide +kernel
theorem dX11_feed_29 : decode cX11_feed 29 = .ok (.getfield 10, 3) := by decide +kernel
theorem dX11_feed_32 : decode cX11_feed 32 = .ok (.iload_n 3, 1) := by decide +kernel
theorem dX11_feed_33 : decode cX11_feed 33 = .ok (.invokevirtual 102, 3) := by decide +kernel
theorem dX11_feed_36 : decode cX11_feed 36 = .ok (.aload_n 0, 1) := by decide +kernel
theorem dX11_feed_37 : decode cX11_feed 37 = .ok (.getfield 10, 3) := by decide +kernel
theorem dX11_feed_40 : decode cX11_feed 40 = .ok (.iload 4, 2) := by decide +kernel
theorem dX11_feed_42 : decode cX11_feed 42 = .ok (.invokevirtual 102, 3) := by decide +kernel
theorem dX11_feed_45 : decode cX11_feed 45 = .ok (.aload_n 0, 1) := by decide +kernel
theorem dX11_feed_46 : decode cX11_feed 46 = .ok (.getfield 10, 3) := by decide +kernel
theorem dX11_feed_49 : decode cX11_feed 49 = .ok (.iload 5, 2) := by decide +kernel
theorem dX11_feed_51 : decode cX11_feed 51 = .ok (.invokevirtual 102, 3) := by decide +kernel
theorem dX11_feed_54 : decode cX11_feed 54 = .ok (.aload_n 0, 1) := by decide +kernel
theorem dX11_feed_55 : decode cX11_feed 55 = .ok (.getfield 10, 3) := by decide +kernel
theorem dX11_feed_58 : decode cX11_feed 58 = .ok (.invokevirtual 106, 3) := by decide +kernel
theorem dX11_feed_61 : decode cX11_feed 61 = .ok (.ireturn, 1) := by decide +kernel
theorem dX11_end_0 : decode cX11_end 0 = .ok (.aload_n 0, 1) := by decide +kernel
theorem dX11_end_1 : decode cX11_end 1 = .ok (.getfield 10, 3) := by decide +kernel
theorem dX11_end_4 : decode cX11_end 4 = .ok (.iload_n 1, 1) := by decide +kernel
theorem dX11_end_5 : decode cX11_end 5 = .ok (.invokevirtual 110, 3) := by decide +kernel
theorem dX11_end_8 : decode cX11_end 8 = .ok (.ireturn, 1) := by decide +kernel
theorem dX11_fault_0 : decode cX11_fault 0 = .ok (.aload_n 0, 1) := by decide +kernel
theorem dX11_fault_1 : decode cX11_fault 1 = .ok (.getfield 31, 3) := by decide +kernel
theorem dX11_fault_4 : decode cX11_fault 4 = .ok (.invokevirtual 114, 3) := by decide +kernel
theorem dX11_fault_7 : decode cX11_fault 7 = .ok (.ireturn, 1) := by decide +kernel
theorem dX11_code_0 : decode cX11_code 0 = .ok (.aload_n 0, 1) := by decide +kernel
theorem dX11_code_1 : decode cX11_code 1 = .ok (.getfield 31, 3) := by decide +kernel
theorem dX11_code_4 : decode cX11_code 4 = .ok (.invokevirtual 114, 3) := by decide +kernel
theorem dX11_code_7 : decode cX11_code 7 = .ok (.iconst (-1), 1) := by decide +kernel
theorem dX11_code_8 : decode cX11_code 8 = .ok (.if_icmp .eq 5, 3) := by decide +kernel
theorem dX11_code_11 : decode cX11_code 11 = .ok (.iconst (-1), 1) := by decide +kernel
theorem dX11_code_12 : decode cX11_code 12 = .ok (.ireturn, 1) := by decide +kernel
theorem dX11_code_13 : decode cX11_code 13 = .ok (.aload_n 0, 1) := by decide +kernel
theorem dX11_code_14 : decode cX11_code 14 = .ok (.getfield 19, 3) := by decide +kernel
theorem dX11_code_17 : decode cX11_code 17 = .ok (.aload_n 0, 1) := by decide +kernel
theorem dX11_code_18 : decode cX11_code 18 = .ok (.getfield 23, 3) := by decide +kernel
theorem dX11_code_21 : decode cX11_code 21 = .ok (.invokevirtual 117, 3) := by decide +kernel
theorem dX11_code_24 : decode cX11_code 24 = .ok (.aload_n 0, 1) := by decide +kernel
theorem dX11_code_25 : decode cX11_code 25 = .ok (.getfield 10, 3) := by decide +kernel
theorem dX11_code_28 : decode cX11_code 28 = .ok (.iconst 0, 1) := by decide +kernel
theorem dX11_code_29 : decode cX11_code 29 = .ok (.invokevirtual 110, 3) := by decide +kernel
theorem dX11_code_32 : decode cX11_code 32 = .ok (.pop, 1) := by decide +kernel
theorem dX11_code_33 : decode cX11_code 33 = .ok (.aload_n 0, 1) := by decide +kernel
theorem dX11_code_34 : decode cX11_code 34 = .ok (.getfield 19, 3) := by decide +kernel
theorem dX11_code_37 : decode cX11_code 37 = .ok (.invokevirtual 121, 3) := by decide +kernel
theorem dX11_code_40 : decode cX11_code 40 = .ok (.ireturn, 1) := by decide +kernel
theorem dX11_marks_0 : decode cX11_marks 0 = .ok (.aload_n 0, 1) := by decide +kernel
theorem dX11_marks_1 : decode cX11_marks 1 = .ok (.getfield 19, 3) := by decide +kernel
theorem dX11_marks_4 : decode cX11_marks 4 = .ok (.iload_n 1, 1) := by decide +kernel
theorem dX11_marks_5 : decode cX11_marks 5 = .ok (.invokevirtual 124, 3) := by decide +kernel
theorem dX11_marks_8 : decode cX11_marks 8 = .ok (.ireturn, 1) := by decide +kernel
theorem dX11_group_0 : decode cX11_group 0 = .ok (.aload_n 0, 1) := by decide +kernel
theorem dX11_group_1 : decode cX11_group 1 = .ok (.getfield 19, 3) := by decide +kernel
theorem dX11_group_4 : decode cX11_group 4 = .ok (.iload_n 1, 1) := by decide +kernel
theorem dX11_group_5 : decode cX11_group 5 = .ok (.invokevirtual 128, 3) := by decide +kernel
theorem dX11_group_8 : decode cX11_group 8 = .ok (.ireturn, 1) := by decide +kernel
theorem dX11_mended_0 : decode cX11_mended 0 = .ok (.iload_n 1, 1) := by decide +kernel
theorem dX11_mended_1 : decode cX11_mended 1 = .ok (.ifCond .lt 19, 3) := by decide +kernel
theorem dX11_mended_4 : decode cX11_mended 4 = .ok (.iload_n 1, 1) := by decide +kernel
theorem dX11_mended_5 : decode cX11_mended 5 = .ok (.sipush 17576, 3) := by decide +kernel
theorem dX11_mended_8 : decode cX11_mended 8 = .ok (.if_icmp .ge 12, 3) := by decide +kernel
theorem dX11_mended_11 : decode cX11_mended 11 = .ok (.iload_n 2, 1) := by decide +kernel
theorem dX11_mended_12 : decode cX11_mended 12 = .ok (.ifCond .lt 8, 3) := by decide +kernel
theorem dX11_mended_15 : decode cX11_mended 15 = .ok (.iload_n 2, 1) := by decide +kernel
theorem dX11_mended_16 : decode cX11_mended 16 = .ok (.iconst 3, 1) := by decide +kernel
theorem dX11_mended_17 : decode cX11_mended 17 = .ok (.if_icmp .le 5, 3) := by decide +kernel
theorem dX11_mended_20 : decode cX11_mended 20 = .ok (.iconst (-1), 1) := by decide +kernel
theorem dX11_mended_21 : decode cX11_mended 21 = .ok (.ireturn, 1) := by decide +kernel
theorem dX11_mended_22 : decode cX11_mended 22 = .ok (.aload_n 0, 1) := by decide +kernel
theorem dX11_mended_23 : decode cX11_mended 23 = .ok (.getfield 19, 3) := by decide +kernel
theorem dX11_mended_26 : decode cX11_mended 26 = .ok (.iload_n 1, 1) := by decide +kernel
theorem dX11_mended_27 : decode cX11_mended 27 = .ok (.iload_n 2, 1) := by decide +kernel
theorem dX11_mended_28 : decode cX11_mended 28 = .ok (.iload_n 3, 1) := by decide +kernel
theorem dX11_mended_29 : decode cX11_mended 29 = .ok (.invokevirtual 131, 3) := by decide +kernel
theorem dX11_mended_32 : decode cX11_mended 32 = .ok (.ireturn, 1) := by decide +kernel
theorem dX11_hand_0 : decode cX11_hand 0 = .ok (.iload_n 1, 1) := by decide +kernel
theorem dX11_hand_1 : decode cX11_hand 1 = .ok (.invokestatic 135, 3) := by decide +kernel
theorem dX11_hand_4 : decode cX11_hand 4 = .ok (.ifCond .eq 37, 3) := by decide +kernel
theorem dX11_hand_7 : decode cX11_hand 7 = .ok (.iload_n 2, 1) := by decide +kernel
theorem dX11_hand_8 : decode cX11_hand 8 = .ok (.invokestatic 135, 3) := by decide +kernel
theorem dX11_hand_11 : decode cX11_hand 11 = .ok (.ifCond .eq 30, 3) := by decide +kernel
theorem dX11_hand_14 : decode cX11_hand 14 = .ok (.iload_n 3, 1) := by decide +kernel
theorem dX11_hand_15 : decode cX11_hand 15 = .ok (.invokestatic 135, 3) := by decide +kernel
theorem dX11_hand_18 : decode cX11_hand 18 = .ok (.ifCond .eq 23, 3) := by decide +kernel
theorem dX11_hand_21 : decode cX11_hand 21 = .ok (.iload 4, 2) := by decide +kernel
theorem dX11_hand_23 : decode cX11_hand 23 = .ok (.invokestatic 135, 3) := by decide +kernel
theorem dX11_hand_26 : decode cX11_hand 26 = .ok (.ifCond .eq 15, 3) := by decide +kernel
theorem dX11_hand_29 : decode cX11_hand 29 = .ok (.iload 5, 2) := by decide +kernel
theorem dX11_hand_31 : decode cX11_hand 31 = .ok (.invokestatic 135, 3) := by decide +kernel
theorem dX11_hand_34 : decode cX11_hand 34 = .ok (.ifCond .eq 7, 3) := by decide +kernel
theorem dX11_hand_37 : decode cX11_hand 37 = .ok (.iconst 1, 1) := by decide +kernel
theorem dX11_hand_38 : decode cX11_hand 38 = .ok (.goto 4, 3) := by decide +kernel
theorem dX11_hand_41 : decode cX11_hand 41 = .ok (.iconst 0, 1) := by decide +kernel
theorem dX11_hand_42 : decode cX11_hand 42 = .ok (.istore 6, 2) := by decide +kernel
theorem dX11_hand_44 : decode cX11_hand 44 = .ok (.iload 6, 2) := by decide +kernel
theorem dX11_hand_46 : decode cX11_hand 46 = .ok (.ifCond .eq 20, 3) := by decide +kernel
theorem dX11_hand_49 : decode cX11_hand 49 = .ok (.aload_n 0, 1) := by decide +kernel
theorem dX11_hand_50 : decode cX11_hand 50 = .ok (.getfield 38, 3) := by decide +kernel
theorem dX11_hand_53 : decode cX11_hand 53 = .ok (.iload_n 1, 1) := by decide +kernel
theorem dX11_hand_54 : decode cX11_hand 54 = .ok (.iload_n 2, 1) := by decide +kernel
theorem dX11_hand_55 : decode cX11_hand 55 = .ok (.iload_n 3, 1) := by decide +kernel
theorem dX11_hand_56 : decode cX11_hand 56 = .ok (.iload 4, 2) := by decide +kernel
theorem dX11_hand_58 : decode cX11_hand 58 = .ok (.iload 5, 2) := by decide +kernel
theorem dX11_hand_60 : decode cX11_hand 60 = .ok (.invokevirtual 138, 3) := by decide +kernel
theorem dX11_hand_63 : decode cX11_hand 63 = .ok (.goto 4, 3) := by decide +kernel
theorem dX11_hand_66 : decode cX11_hand 66 = .ok (.iconst (-1), 1) := by decide +kernel
theorem dX11_hand_67 : decode cX11_hand 67 = .ok (.ireturn, 1) := by decide +kernel
theorem dX11_line_0 : decode cX11_line 0 = .ok (.iload_n 1, 1) := by decide +kernel
theorem dX11_line_1 : decode cX11_line 1 = .ok (.iload_n 2, 1) := by decide +kernel
theorem dX11_line_2 : decode cX11_line 2 = .ok (.invokestatic 141, 3) := by decide +kernel
theorem dX11_line_5 : decode cX11_line 5 = .ok (.ifCond .eq 29, 3) := by decide +kernel
theorem dX11_line_8 : decode cX11_line 8 = .ok (.iload_n 3, 1) := by decide +kernel
theorem dX11_line_9 : decode cX11_line 9 = .ok (.ifCond .lt 25, 3) := by decide +kernel
theorem dX11_line_12 : decode cX11_line 12 = .ok (.iload_n 3, 1) := by decide +kernel
theorem dX11_line_13 : decode cX11_line 13 = .ok (.bipush 99, 2) := by decide +kernel
theorem dX11_line_15 : decode cX11_line 15 = .ok (.if_icmp .gt 19, 3) := by decide +kernel
theorem dX11_line_18 : decode cX11_line 18 = .ok (.iload 4, 2) := by decide +kernel
theorem dX11_line_20 : decode cX11_line 20 = .ok (.ifCond .lt 14, 3) := by decide +kernel
theorem dX11_line_23 : decode cX11_line 23 = .ok (.iload 4, 2) := by decide +kernel
theorem dX11_line_25 : decode cX11_line 25 = .ok (.bipush 20, 2) := by decide +kernel
theorem dX11_line_27 : decode cX11_line 27 = .ok (.if_icmp .gt 7, 3) := by decide +kernel
theorem dX11_line_30 : decode cX11_line 30 = .ok (.iconst 1, 1) := by decide +kernel
theorem dX11_line_31 : decode cX11_line 31 = .ok (.goto 4, 3) := by decide +kernel
theorem dX11_line_34 : decode cX11_line 34 = .ok (.iconst 0, 1) := by decide +kernel
theorem dX11_line_35 : decode cX11_line 35 = .ok (.istore 5, 2) := by decide +kernel
theorem dX11_line_37 : decode cX11_line 37 = .ok (.iload 5, 2) := by decide +kernel
theorem dX11_line_39 : decode cX11_line 39 = .ok (.ifCond .eq 18, 3) := by decide +kernel
theorem dX11_line_42 : decode cX11_line 42 = .ok (.aload_n 0, 1) := by decide +kernel
theorem dX11_line_43 : decode cX11_line 43 = .ok (.getfield 45, 3) := by decide +kernel
theorem dX11_line_46 : decode cX11_line 46 = .ok (.iload_n 1, 1) := by decide +kernel
theorem dX11_line_47 : decode cX11_line 47 = .ok (.iload_n 2, 1) := by decide +kernel
theorem dX11_line_48 : decode cX11_line 48 = .ok (.iload_n 3, 1) := by decide +kernel
theorem dX11_line_49 : decode cX11_line 49 = .ok (.iload 4, 2) := by decide +kernel
theorem dX11_line_51 : decode cX11_line 51 = .ok (.invokevirtual 145, 3) := by decide +kernel
theorem dX11_line_54 : decode cX11_line 54 = .ok (.goto 4, 3) := by decide +kernel
theorem dX11_line_57 : decode cX11_line 57 = .ok (.iconst (-1), 1) := by decide +kernel
theorem dX11_line_58 : decode cX11_line 58 = .ok (.ireturn, 1) := by decide +kernel
theorem dX11_rain_0 : decode cX11_rain 0 = .ok (.iload_n 1, 1) := by decide +kernel
theorem dX11_rain_1 : decode cX11_rain 1 = .ok (.ifCond .lt 9, 3) := by decide +kernel
theorem dX11_rain_4 : decode cX11_rain 4 = .ok (.iload_n 1, 1) := by decide +kernel
theorem dX11_rain_5 : decode cX11_rain 5 = .ok (.bipush 9, 2) := by decide +kernel
theorem dX11_rain_7 : decode cX11_rain 7 = .ok (.if_icmp .le 5, 3) := by decide +kernel
theorem dX11_rain_10 : decode cX11_rain 10 = .ok (.iconst 0, 1) := by decide +kernel
theorem dX11_rain_11 : decode cX11_rain 11 = .ok (.ireturn, 1) := by decide +kernel
theorem dX11_rain_12 : decode cX11_rain 12 = .ok (.aload_n 0, 1) := by decide +kernel
theorem dX11_rain_13 : decode cX11_rain 13 = .ok (.getfield 45, 3) := by decide +kernel
theorem dX11_rain_16 : decode cX11_rain 16 = .ok (.iload_n 1, 1) := by decide +kernel
theorem dX11_rain_17 : decode cX11_rain 17 = .ok (.invokevirtual 148, 3) := by decide +kernel
theorem dX11_rain_20 : decode cX11_rain 20 = .ok (.iconst 1, 1) := by decide +kernel
theorem dX11_rain_21 : decode cX11_rain 21 = .ok (.ireturn, 1) := by decide +kernel
theorem dX11_bite_0 : decode cX11_bite 0 = .ok (.aload_n 0, 1) := by decide +kernel
theorem dX11_bite_1 : decode cX11_bite 1 = .ok (.getfield 45, 3) := by decide +kernel
theorem dX11_bite_4 : decode cX11_bite 4 = .ok (.iload_n 1, 1) := by decide +kernel
theorem dX11_bite_5 : decode cX11_bite 5 = .ok (.invokevirtual 151, 3) := by decide +kernel
theorem dX11_bite_8 : decode cX11_bite 8 = .ok (.ifCond .eq 14, 3) := by decide +kernel
theorem dX11_bite_11 : decode cX11_bite 11 = .ok (.aload_n 0, 1) := by decide +kernel
theorem dX11_bite_12 : decode cX11_bite 12 = .ok (.getfield 45, 3) := by decide +kernel
theorem dX11_bite_15 : decode cX11_bite 15 = .ok (.iload_n 1, 1) := by decide +kernel
theorem dX11_bite_16 : decode cX11_bite 16 = .ok (.invokevirtual 154, 3) := by decide +kernel
theorem dX11_bite_19 : decode cX11_bite 19 = .ok (.goto 4, 3) := by decide +kernel
theorem dX11_bite_22 : decode cX11_bite 22 = .ok (.iconst (-1), 1) := by decide +kernel
theorem dX11_bite_23 : decode cX11_bite 23 = .ok (.ireturn, 1) := by decide +kernel
theorem dX11_isStation_0 : decode cX11_isStation 0 = .ok (.iload_n 0, 1) := by decide +kernel
theorem dX11_isStation_1 : decode cX11_isStation 1 = .ok (.ifCond .lt 13, 3) := by decide +kernel
theorem dX11_isStation_4 : decode cX11_isStation 4 = .ok (.iload_n 0, 1) := by decide +kernel
theorem dX11_isStation_5 : decode cX11_isStation 5 = .ok (.bipush 6, 2) := by decide +kernel
theorem dX11_isStation_7 : decode cX11_isStation 7 = .ok (.if_icmp .ge 7, 3) := by decide +kernel
theorem dX11_isStation_10 : decode cX11_isStation 10 = .ok (.iconst 1, 1) := by decide +kernel
theorem dX11_isStation_11 : decode cX11_isStation 11 = .ok (.goto 4, 3) := by decide +kernel
theorem dX11_isStation_14 : decode cX11_isStation 14 = .ok (.iconst 0, 1) := by decide +kernel
theorem dX11_isStation_15 : decode cX11_isStation 15 = .ok (.ireturn, 1) := by decide +kernel
theorem dX11_areTwoStations_0 : decode cX11_areTwoStations 0 = .ok (.iload_n 0, 1) := by decide +kernel
theorem dX11_areTwoStations_1 : decode cX11_areTwoStations 1 = .ok (.invokestatic 157, 3) := by decide +kernel
theorem dX11_areTwoStations_4 : decode cX11_areTwoStations 4 = .ok (.ifCond .eq 19, 3) := by decide +kernel
theorem dX11_areTwoStations_7 : decode cX11_areTwoStations 7 = .ok (.iload_n 1, 1) := by decide +kernel
theorem dX11_areTwoStations_8 : decode cX11_areTwoStations 8 = .ok (.invokestatic 157, 3) := by decide +kernel
theorem dX11_areTwoStations_11 : decode cX11_areTwoStations 11 = .ok (.ifCond .eq 12, 3) := by decide +kernel
theorem dX11_areTwoStations_14 : decode cX11_areTwoStations 14 = .ok (.iload_n 0, 1) := by decide +kernel
theorem dX11_areTwoStations_15 : decode cX11_areTwoStations 15 = .ok (.iload_n 1, 1) := by decide +kernel
theorem dX11_areTwoStations_16 : decode cX11_areTwoStations 16 = .ok (.if_icmp .eq 7, 3) := by decide +kernel
theorem dX11_areTwoStations_19 : decode cX11_areTwoStations 19 = .ok (.iconst 1, 1) := by decide +kernel
theorem dX11_areTwoStations_20 : decode cX11_areTwoStations 20 = .ok (.goto 4, 3) := by decide +kernel
theorem dX11_areTwoStations_23 : decode cX11_areTwoStations 23 = .ok (.iconst 0, 1) := by decide +kernel
theorem dX11_areTwoStations_24 : decode cX11_areTwoStations 24 = .ok (.ireturn, 1) := by decide +kernel
theorem dX11_length_0 : decode cX11_length 0 = .ok (.iload_n 1, 1) := by decide +kernel
theorem dX11_length_1 : decode cX11_length 1 = .ok (.iconst 1, 1) := by decide +kernel
theorem dX11_length_2 : decode cX11_length 2 = .ok (.if_icmp .lt 10, 3) := by decide +kernel
theorem dX11_length_5 : decode cX11_length 5 = .ok (.iload_n 1, 1) := by decide +kernel
theorem dX11_length_6 : decode cX11_length 6 = .ok (.sipush 999, 3) := by decide +kernel
theorem dX11_length_9 : decode cX11_length 9 = .ok (.if_icmp .le 7, 3) := by decide +kernel
theorem dX11_length_12 : decode cX11_length 12 = .ok (.iconst (-1), 1) := by decide +kernel
theorem dX11_length_13 : decode cX11_length 13 = .ok (.goto 11, 3) := by decide +kernel
theorem dX11_length_16 : decode cX11_length 16 = .ok (.aload_n 0, 1) := by decide +kernel
theorem dX11_length_17 : decode cX11_length 17 = .ok (.getfield 52, 3) := by decide +kernel
theorem dX11_length_20 : decode cX11_length 20 = .ok (.iload_n 1, 1) := by decide +kernel
theorem dX11_length_21 : decode cX11_length 21 = .ok (.invokevirtual 160, 3) := by decide +kernel
theorem dX11_length_24 : decode cX11_length 24 = .ok (.ireturn, 1) := by decide +kernel
theorem dX11_cut_0 : decode cX11_cut 0 = .ok (.aload_n 0, 1) := by decide +kernel
theorem dX11_cut_1 : decode cX11_cut 1 = .ok (.getfield 52, 3) := by decide +kernel
theorem dX11_cut_4 : decode cX11_cut 4 = .ok (.iload_n 1, 1) := by decide +kernel
theorem dX11_cut_5 : decode cX11_cut 5 = .ok (.invokevirtual 162, 3) := by decide +kernel
theorem dX11_cut_8 : decode cX11_cut 8 = .ok (.ireturn, 1) := by decide +kernel
theorem dX11_tape_0 : decode cX11_tape 0 = .ok (.aload_n 0, 1) := by decide +kernel
theorem dX11_tape_1 : decode cX11_tape 1 = .ok (.getfield 52, 3) := by decide +kernel
theorem dX11_tape_4 : decode cX11_tape 4 = .ok (.iload_n 1, 1) := by decide +kernel
theorem dX11_tape_5 : decode cX11_tape 5 = .ok (.invokevirtual 163, 3) := by decide +kernel
theorem dX11_tape_8 : decode cX11_tape 8 = .ok (.ireturn, 1) := by decide +kernel
theorem dX11_readings_0 : decode cX11_readings 0 = .ok (.aload_n 0, 1) := by decide +kernel
theorem dX11_readings_1 : decode cX11_readings 1 = .ok (.iload_n 1, 1) := by decide +kernel
theorem dX11_readings_2 : decode cX11_readings 2 = .ok (.iload_n 2, 1) := by decide +kernel
theorem dX11_readings_3 : decode cX11_readings 3 = .ok (.invokevirtual 166, 3) := by decide +kernel
theorem dX11_readings_6 : decode cX11_readings 6 = .ok (.ifCond .ne 5, 3) := by decide +kernel
theorem dX11_readings_9 : decode cX11_readings 9 = .ok (.iconst (-1), 1) := by decide +kernel
theorem dX11_readings_10 : decode cX11_readings 10 = .ok (.ireturn, 1) := by decide +kernel
theorem dX11_readings_11 : decode cX11_readings 11 = .ok (.aload_n 0, 1) := by decide +kernel
theorem dX11_readings_12 : decode cX11_readings 12 = .ok (.getfield 61, 3) := by decide +kernel
theorem dX11_readings_15 : decode cX11_readings 15 = .ok (.iload_n 1, 1) := by decide +kernel
theorem dX11_readings_16 : decode cX11_readings 16 = .ok (.iload_n 2, 1) := by decide +kernel
theorem dX11_readings_17 : decode cX11_readings 17 = .ok (.invokevirtual 169, 3) := by decide +kernel
theorem dX11_readings_20 : decode cX11_readings 20 = .ok (.aload_n 0, 1) := by decide +kernel
theorem dX11_readings_21 : decode cX11_readings 21 = .ok (.getfield 61, 3) := by decide +kernel
theorem dX11_readings_24 : decode cX11_readings 24 = .ok (.invokevirtual 173, 3) := by decide +kernel
theorem dX11_readings_27 : decode cX11_readings 27 = .ok (.ireturn, 1) := by decide +kernel
theorem dX11_nearest_0 : decode cX11_nearest 0 = .ok (.aload_n 0, 1) := by decide +kernel
theorem dX11_nearest_1 : decode cX11_nearest 1 = .ok (.iload_n 1, 1) := by decide +kernel
theorem dX11_nearest_2 : decode cX11_nearest 2 = .ok (.iload_n 2, 1) := by decide +kernel
theorem dX11_nearest_3 : decode cX11_nearest 3 = .ok (.invokevirtual 166, 3) := by decide +kernel
theorem dX11_nearest_6 : decode cX11_nearest 6 = .ok (.ifCond .ne 5, 3) := by decide +kernel
theorem dX11_nearest_9 : decode cX11_nearest 9 = .ok (.iconst (-1), 1) := by decide +kernel
theorem dX11_nearest_10 : decode cX11_nearest 10 = .ok (.ireturn, 1) := by decide +kernel
theorem dX11_nearest_11 : decode cX11_nearest 11 = .ok (.aload_n 0, 1) := by decide +kernel
theorem dX11_nearest_12 : decode cX11_nearest 12 = .ok (.getfield 61, 3) := by decide +kernel
theorem dX11_nearest_15 : decode cX11_nearest 15 = .ok (.iload_n 1, 1) := by decide +kernel
theorem dX11_nearest_16 : decode cX11_nearest 16 = .ok (.iload_n 2, 1) := by decide +kernel
theorem dX11_nearest_17 : decode cX11_nearest 17 = .ok (.invokevirtual 169, 3) := by decide +kernel
theorem dX11_nearest_20 : decode cX11_nearest 20 = .ok (.aload_n 0, 1) := by decide +kernel
theorem dX11_nearest_21 : decode cX11_nearest 21 = .ok (.getfield 61, 3) := by decide +kernel
theorem dX11_nearest_24 : decode cX11_nearest 24 = .ok (.invokevirtual 176, 3) := by decide +kernel
theorem dX11_nearest_27 : decode cX11_nearest 27 = .ok (.istore 4, 2) := by decide +kernel
theorem dX11_nearest_29 : decode cX11_nearest 29 = .ok (.iload 4, 2) := by decide +kernel
theorem dX11_nearest_31 : decode cX11_nearest 31 = .ok (.iconst (-1), 1) := by decide +kernel
theorem dX11_nearest_32 : decode cX11_nearest 32 = .ok (.if_icmp .eq 9, 3) := by decide +kernel
theorem dX11_nearest_35 : decode cX11_nearest 35 = .ok (.iload_n 3, 1) := by decide +kernel
theorem dX11_nearest_36 : decode cX11_nearest 36 = .ok (.bipush (-2), 2) := by decide +kernel
theorem dX11_nearest_38 : decode cX11_nearest 38 = .ok (.if_icmp .ne 6, 3) := by decide +kernel
theorem dX11_nearest_41 : decode cX11_nearest 41 = .ok (.iload 4, 2) := by decide +kernel
theorem dX11_nearest_43 : decode cX11_nearest 43 = .ok (.ireturn, 1) := by decide +kernel
theorem dX11_nearest_44 : decode cX11_nearest 44 = .ok (.aload_n 0, 1) := by decide +kernel
theorem dX11_nearest_45 : decode cX11_nearest 45 = .ok (.getfield 61, 3) := by decide +kernel
theorem dX11_nearest_48 : decode cX11_nearest 48 = .ok (.invokevirtual 179, 3) := by decide +kernel
theorem dX11_nearest_51 : decode cX11_nearest 51 = .ok (.iload_n 3, 1) := by decide +kernel
theorem dX11_nearest_52 : decode cX11_nearest 52 = .ok (.iconst (-1), 1) := by decide +kernel
theorem dX11_nearest_53 : decode cX11_nearest 53 = .ok (.if_icmp .ne 13, 3) := by decide +kernel
theorem dX11_nearest_56 : decode cX11_nearest 56 = .ok (.aload_n 0, 1) := by decide +kernel
theorem dX11_nearest_57 : decode cX11_nearest 57 = .ok (.getfield 61, 3) := by decide +kernel
theorem dX11_nearest_60 : decode cX11_nearest 60 = .ok (.invokevirtual 182, 3) := by decide +kernel
theorem dX11_nearest_63 : decode cX11_nearest 63 = .ok (.goto 11, 3) := by decide +kernel
theorem dX11_nearest_66 : decode cX11_nearest 66 = .ok (.aload_n 0, 1) := by decide +kernel
theorem dX11_nearest_67 : decode cX11_nearest 67 = .ok (.getfield 61, 3) := by decide +kernel
theorem dX11_nearest_70 : decode cX11_nearest 70 = .ok (.iload_n 3, 1) := by decide +kernel
theorem dX11_nearest_71 : decode cX11_nearest 71 = .ok (.invokevirtual 185, 3) := by decide +kernel
theorem dX11_nearest_74 : decode cX11_nearest 74 = .ok (.ireturn, 1) := by decide +kernel
theorem dX11_canRead_0 : decode cX11_canRead 0 = .ok (.aload_n 0, 1) := by decide +kernel
theorem dX11_canRead_1 : decode cX11_canRead 1 = .ok (.getfield 38, 3) := by decide +kernel
theorem dX11_canRead_4 : decode cX11_canRead 4 = .ok (.iload_n 1, 1) := by decide +kernel
theorem dX11_canRead_5 : decode cX11_canRead 5 = .ok (.invokevirtual 188, 3) := by decide +kernel
theorem dX11_canRead_8 : decode cX11_canRead 8 = .ok (.ifCond .eq 28, 3) := by decide +kernel
theorem dX11_canRead_11 : decode cX11_canRead 11 = .ok (.aload_n 0, 1) := by decide +kernel
theorem dX11_canRead_12 : decode cX11_canRead 12 = .ok (.getfield 45, 3) := by decide +kernel
theorem dX11_canRead_15 : decode cX11_canRead 15 = .ok (.iload_n 2, 1) := by decide +kernel
theorem dX11_canRead_16 : decode cX11_canRead 16 = .ok (.invokevirtual 151, 3) := by decide +kernel
theorem dX11_canRead_19 : decode cX11_canRead 19 = .ok (.ifCond .eq 17, 3) := by decide +kernel
theorem dX11_canRead_22 : decode cX11_canRead 22 = .ok (.aload_n 0, 1) := by decide +kernel
theorem dX11_canRead_23 : decode cX11_canRead 23 = .ok (.getfield 52, 3) := by decide +kernel
theorem dX11_canRead_26 : decode cX11_canRead 26 = .ok (.invokevirtual 189, 3) := by decide +kernel
theorem dX11_canRead_29 : decode cX11_canRead 29 = .ok (.ifCond .eq 7, 3) := by decide +kernel
theorem dX11_canRead_32 : decode cX11_canRead 32 = .ok (.iconst 1, 1) := by decide +kernel
theorem dX11_canRead_33 : decode cX11_canRead 33 = .ok (.goto 4, 3) := by decide +kernel
theorem dX11_canRead_36 : decode cX11_canRead 36 = .ok (.iconst 0, 1) := by decide +kernel
theorem dX11_canRead_37 : decode cX11_canRead 37 = .ok (.ireturn, 1) := by decide +kernel
theorem dX11_suspects_0 : decode cX11_suspects 0 = .ok (.aload_n 0, 1) := by decide +kernel
theorem dX11_suspects_1 : decode cX11_suspects 1 = .ok (.getfield 52, 3) := by decide +kernel
theorem dX11_suspects_4 : decode cX11_suspects 4 = .ok (.invokevirtual 189, 3) := by decide +kernel
theorem dX11_suspects_7 : decode cX11_suspects 7 = .ok (.ifCond .eq 13, 3) := by decide +kernel
theorem dX11_suspects_10 : decode cX11_suspects 10 = .ok (.aload_n 0, 1) := by decide +kernel
theorem dX11_suspects_11 : decode cX11_suspects 11 = .ok (.getfield 68, 3) := by decide +kernel
theorem dX11_suspects_14 : decode cX11_suspects 14 = .ok (.invokevirtual 192, 3) := by decide +kernel
theorem dX11_suspects_17 : decode cX11_suspects 17 = .ok (.ifCond .ne 5, 3) := by decide +kernel
theorem dX11_suspects_20 : decode cX11_suspects 20 = .ok (.iconst (-1), 1) := by decide +kernel
theorem dX11_suspects_21 : decode cX11_suspects 21 = .ok (.ireturn, 1) := by decide +kernel
theorem dX11_suspects_22 : decode cX11_suspects 22 = .ok (.aload_n 0, 1) := by decide +kernel
theorem dX11_suspects_23 : decode cX11_suspects 23 = .ok (.getfield 68, 3) := by decide +kernel
theorem dX11_suspects_26 : decode cX11_suspects 26 = .ok (.invokevirtual 195, 3) := by decide +kernel
theorem dX11_suspects_29 : decode cX11_suspects 29 = .ok (.pop, 1) := by decide +kernel
theorem dX11_suspects_30 : decode cX11_suspects 30 = .ok (.iconst 0, 1) := by decide +kernel
theorem dX11_suspects_31 : decode cX11_suspects 31 = .ok (.istore_n 2, 1) := by decide +kernel
theorem dX11_suspects_32 : decode cX11_suspects 32 = .ok (.iconst 0, 1) := by decide +kernel
theorem dX11_suspects_33 : decode cX11_suspects 33 = .ok (.istore_n 3, 1) := by decide +kernel
theorem dX11_suspects_34 : decode cX11_suspects 34 = .ok (.iload_n 3, 1) := by decide +kernel
theorem dX11_suspects_35 : decode cX11_suspects 35 = .ok (.aload_n 0, 1) := by decide +kernel
theorem dX11_suspects_36 : decode cX11_suspects 36 = .ok (.getfield 38, 3) := by decide +kernel
theorem dX11_suspects_39 : decode cX11_suspects 39 = .ok (.invokevirtual 198, 3) := by decide +kernel
theorem dX11_suspects_42 : decode cX11_suspects 42 = .ok (.if_icmp .ge 56, 3) := by decide +kernel
theorem dX11_suspects_45 : decode cX11_suspects 45 = .ok (.iconst 0, 1) := by decide +kernel
theorem dX11_suspects_46 : decode cX11_suspects 46 = .ok (.istore 4, 2) := by decide +kernel
theorem dX11_suspects_48 : decode cX11_suspects 48 = .ok (.iload 4, 2) := by decide +kernel
theorem dX11_suspects_50 : decode cX11_suspects 50 = .ok (.aload_n 0, 1) := by decide +kernel
theorem dX11_suspects_51 : decode cX11_suspects 51 = .ok (.getfield 45, 3) := by decide +kernel
theorem dX11_suspects_54 : decode cX11_suspects 54 = .ok (.invokevirtual 199, 3) := by decide +kernel
theorem dX11_suspects_57 : decode cX11_suspects 57 = .ok (.if_icmp .ge 35, 3) := by decide +kernel
theorem dX11_suspects_60 : decode cX11_suspects 60 = .ok (.aload_n 0, 1) := by decide +kernel
theorem dX11_suspects_61 : decode cX11_suspects 61 = .ok (.iload_n 3, 1) := by decide +kernel
theorem dX11_suspects_62 : decode cX11_suspects 62 = .ok (.iload 4, 2) := by decide +kernel
theorem dX11_suspects_64 : decode cX11_suspects 64 = .ok (.invokevirtual 200, 3) := by decide +kernel
theorem dX11_suspects_67 : decode cX11_suspects 67 = .ok (.ifCond .eq 19, 3) := by decide +kernel
theorem dX11_suspects_70 : decode cX11_suspects 70 = .ok (.iload_n 2, 1) := by decide +kernel
theorem dX11_suspects_71 : decode cX11_suspects 71 = .ok (.iload_n 1, 1) := by decide +kernel
theorem dX11_suspects_72 : decode cX11_suspects 72 = .ok (.if_icmp .ne 11, 3) := by decide +kernel
theorem dX11_suspects_75 : decode cX11_suspects 75 = .ok (.iload_n 3, 1) := by decide +kernel
theorem dX11_suspects_76 : decode cX11_suspects 76 = .ok (.bipush 10, 2) := by decide +kernel
theorem dX11_suspects_78 : decode cX11_suspects 78 = .ok (.imul, 1) := by decide +kernel
theorem dX11_suspects_79 : decode cX11_suspects 79 = .ok (.iload 4, 2) := by decide +kernel
theorem dX11_suspects_81 : decode cX11_suspects 81 = .ok (.iadd, 1) := by decide +kernel
theorem dX11_suspects_82 : decode cX11_suspects 82 = .ok (.ireturn, 1) := by decide +kernel
theorem dX11_suspects_83 : decode cX11_suspects 83 = .ok (.iinc 2 1, 3) := by decide +kernel
theorem dX11_suspects_86 : decode cX11_suspects 86 = .ok (.iinc 4 1, 3) := by decide +kernel
theorem dX11_suspects_89 : decode cX11_suspects 89 = .ok (.goto (-41), 3) := by decide +kernel
theorem dX11_suspects_92 : decode cX11_suspects 92 = .ok (.iinc 3 1, 3) := by decide +kernel
theorem dX11_suspects_95 : decode cX11_suspects 95 = .ok (.goto (-61), 3) := by decide +kernel
theorem dX11_suspects_98 : decode cX11_suspects 98 = .ok (.iload_n 1, 1) := by decide +kernel
theorem dX11_suspects_99 : decode cX11_suspects 99 = .ok (.iconst (-1), 1) := by decide +kernel
theorem dX11_suspects_100 : decode cX11_suspects 100 = .ok (.if_icmp .ne 7, 3) := by decide +kernel
theorem dX11_suspects_103 : decode cX11_suspects 103 = .ok (.iload_n 2, 1) := by decide +kernel
theorem dX11_suspects_104 : decode cX11_suspects 104 = .ok (.goto 4, 3) := by decide +kernel
theorem dX11_suspects_107 : decode cX11_suspects 107 = .ok (.iconst (-1), 1) := by decide +kernel
theorem dX11_suspects_108 : decode cX11_suspects 108 = .ok (.ireturn, 1) := by decide +kernel
theorem dX11_likelier_0 : decode cX11_likelier 0 = .ok (.aload_n 0, 1) := by decide +kernel
theorem dX11_likelier_1 : decode cX11_likelier 1 = .ok (.iload_n 1, 1) := by decide +kernel
theorem dX11_likelier_2 : decode cX11_likelier 2 = .ok (.iload_n 3, 1) := by decide +kernel
theorem dX11_likelier_3 : decode cX11_likelier 3 = .ok (.invokevirtual 166, 3) := by decide +kernel
theorem dX11_likelier_6 : decode cX11_likelier 6 = .ok (.ifCond .eq 22, 3) := by decide +kernel
theorem dX11_likelier_9 : decode cX11_likelier 9 = .ok (.aload_n 0, 1) := by decide +kernel
theorem dX11_likelier_10 : decode cX11_likelier 10 = .ok (.iload_n 2, 1) := by decide +kernel
theorem dX11_likelier_11 : decode cX11_likelier 11 = .ok (.iload_n 3, 1) := by decide +kernel
theorem dX11_likelier_12 : decode cX11_likelier 12 = .ok (.invokevirtual 166, 3) := by decide +kernel
theorem dX11_likelier_15 : decode cX11_likelier 15 = .ok (.ifCond .eq 13, 3) := by decide +kernel
theorem dX11_likelier_18 : decode cX11_likelier 18 = .ok (.aload_n 0, 1) := by decide +kernel
theorem dX11_likelier_19 : decode cX11_likelier 19 = .ok (.getfield 68, 3) := by decide +kernel
theorem dX11_likelier_22 : decode cX11_likelier 22 = .ok (.invokevirtual 192, 3) := by decide +kernel
theorem dX11_likelier_25 : decode cX11_likelier 25 = .ok (.ifCond .ne 5, 3) := by decide +kernel
theorem dX11_likelier_28 : decode cX11_likelier 28 = .ok (.iconst (-1), 1) := by decide +kernel
theorem dX11_likelier_29 : decode cX11_likelier 29 = .ok (.ireturn, 1) := by decide +kernel
theorem dX11_likelier_30 : decode cX11_likelier 30 = .ok (.aload_n 0, 1) := by decide +kernel
theorem dX11_likelier_31 : decode cX11_likelier 31 = .ok (.getfield 68, 3) := by decide +kernel
theorem dX11_likelier_34 : decode cX11_likelier 34 = .ok (.invokevirtual 195, 3) := by decide +kernel
theorem dX11_likelier_37 : decode cX11_likelier 37 = .ok (.pop, 1) := by decide +kernel
theorem dX11_likelier_38 : decode cX11_likelier 38 = .ok (.aload_n 0, 1) := by decide +kernel
theorem dX11_likelier_39 : decode cX11_likelier 39 = .ok (.iload_n 1, 1) := by decide +kernel
theorem dX11_likelier_40 : decode cX11_likelier 40 = .ok (.iload_n 3, 1) := by decide +kernel
theorem dX11_likelier_41 : decode cX11_likelier 41 = .ok (.invokevirtual 200, 3) := by decide +kernel
theorem dX11_likelier_44 : decode cX11_likelier 44 = .ok (.ifCond .eq 12, 3) := by decide +kernel
theorem dX11_likelier_47 : decode cX11_likelier 47 = .ok (.aload_n 0, 1) := by decide +kernel
theorem dX11_likelier_48 : decode cX11_likelier 48 = .ok (.iload_n 2, 1) := by decide +kernel
theorem dX11_likelier_49 : decode cX11_likelier 49 = .ok (.iload_n 3, 1) := by decide +kernel
theorem dX11_likelier_50 : decode cX11_likelier 50 = .ok (.invokevirtual 200, 3) := by decide +kernel
theorem dX11_likelier_53 : decode cX11_likelier 53 = .ok (.ifCond .ne 5, 3) := by decide +kernel
theorem dX11_likelier_56 : decode cX11_likelier 56 = .ok (.iconst (-1), 1) := by decide +kernel
theorem dX11_likelier_57 : decode cX11_likelier 57 = .ok (.ireturn, 1) := by decide +kernel
theorem dX11_likelier_58 : decode cX11_likelier 58 = .ok (.aload_n 0, 1) := by decide +kernel
theorem dX11_likelier_59 : decode cX11_likelier 59 = .ok (.aload_n 0, 1) := by decide +kernel
theorem dX11_likelier_60 : decode cX11_likelier 60 = .ok (.getfield 91, 3) := by decide +kernel
theorem dX11_likelier_63 : decode cX11_likelier 63 = .ok (.iload_n 1, 1) := by decide +kernel
theorem dX11_likelier_64 : decode cX11_likelier 64 = .ok (.invokevirtual 203, 3) := by decide +kernel
theorem dX11_likelier_67 : decode cX11_likelier 67 = .ok (.aload_n 0, 1) := by decide +kernel
theorem dX11_likelier_68 : decode cX11_likelier 68 = .ok (.aload_n 0, 1) := by decide +kernel
theorem dX11_likelier_69 : decode cX11_likelier 69 = .ok (.getfield 95, 3) := by decide +kernel
theorem dX11_likelier_72 : decode cX11_likelier 72 = .ok (.iload_n 2, 1) := by decide +kernel
theorem dX11_likelier_73 : decode cX11_likelier 73 = .ok (.invokevirtual 203, 3) := by decide +kernel
theorem dX11_likelier_76 : decode cX11_likelier 76 = .ok (.aload_n 0, 1) := by decide +kernel
theorem dX11_likelier_77 : decode cX11_likelier 77 = .ok (.getfield 91, 3) := by decide +kernel
theorem dX11_likelier_80 : decode cX11_likelier 80 = .ok (.aload_n 0, 1) := by decide +kernel
theorem dX11_likelier_81 : decode cX11_likelier 81 = .ok (.getfield 95, 3) := by decide +kernel
theorem dX11_likelier_84 : decode cX11_likelier 84 = .ok (.invokevirtual 207, 3) := by decide +kernel
theorem dX11_likelier_87 : decode cX11_likelier 87 = .ok (.istore 4, 2) := by decide +kernel
theorem dX11_likelier_89 : decode cX11_likelier 89 = .ok (.iload 4, 2) := by decide +kernel
theorem dX11_likelier_91 : decode cX11_likelier 91 = .ok (.ifCond .ne 5, 3) := by decide +kernel
theorem dX11_likelier_94 : decode cX11_likelier 94 = .ok (.iconst 0, 1) := by decide +kernel
theorem dX11_likelier_95 : decode cX11_likelier 95 = .ok (.ireturn, 1) := by decide +kernel
theorem dX11_likelier_96 : decode cX11_likelier 96 = .ok (.iload 4, 2) := by decide +kernel
theorem dX11_likelier_98 : decode cX11_likelier 98 = .ok (.ifCond .ge 7, 3) := by decide +kernel
theorem dX11_likelier_101 : decode cX11_likelier 101 = .ok (.iconst 1, 1) := by decide +kernel
theorem dX11_likelier_102 : decode cX11_likelier 102 = .ok (.goto 4, 3) := by decide +kernel
theorem dX11_likelier_105 : decode cX11_likelier 105 = .ok (.iconst 2, 1) := by decide +kernel
theorem dX11_likelier_106 : decode cX11_likelier 106 = .ok (.ireturn, 1) := by decide +kernel
theorem dX11_tapeSaysIt_0 : decode cX11_tapeSaysIt 0 = .ok (.aload_n 0, 1) := by decide +kernel
theorem dX11_tapeSaysIt_1 : decode cX11_tapeSaysIt 1 = .ok (.getfield 68, 3) := by decide +kernel
theorem dX11_tapeSaysIt_4 : decode cX11_tapeSaysIt 4 = .ok (.invokevirtual 211, 3) := by decide +kernel
theorem dX11_tapeSaysIt_7 : decode cX11_tapeSaysIt 7 = .ok (.aload_n 0, 1) := by decide +kernel
theorem dX11_tapeSaysIt_8 : decode cX11_tapeSaysIt 8 = .ok (.getfield 52, 3) := by decide +kernel
theorem dX11_tapeSaysIt_11 : decode cX11_tapeSaysIt 11 = .ok (.invokevirtual 212, 3) := by decide +kernel
theorem dX11_tapeSaysIt_14 : decode cX11_tapeSaysIt 14 = .ok (.if_icmp .eq 5, 3) := by decide +kernel
theorem dX11_tapeSaysIt_17 : decode cX11_tapeSaysIt 17 = .ok (.iconst 0, 1) := by decide +kernel
theorem dX11_tapeSaysIt_18 : decode cX11_tapeSaysIt 18 = .ok (.ireturn, 1) := by decide +kernel
theorem dX11_tapeSaysIt_19 : decode cX11_tapeSaysIt 19 = .ok (.aload_n 0, 1) := by decide +kernel
theorem dX11_tapeSaysIt_20 : decode cX11_tapeSaysIt 20 = .ok (.getfield 61, 3) := by decide +kernel
theorem dX11_tapeSaysIt_23 : decode cX11_tapeSaysIt 23 = .ok (.iload_n 1, 1) := by decide +kernel
theorem dX11_tapeSaysIt_24 : decode cX11_tapeSaysIt 24 = .ok (.iload_n 2, 1) := by decide +kernel
theorem dX11_tapeSaysIt_25 : decode cX11_tapeSaysIt 25 = .ok (.invokevirtual 169, 3) := by decide +kernel
theorem dX11_tapeSaysIt_28 : decode cX11_tapeSaysIt 28 = .ok (.iconst 0, 1) := by decide +kernel
theorem dX11_tapeSaysIt_29 : decode cX11_tapeSaysIt 29 = .ok (.istore_n 3, 1) := by decide +kernel
theorem dX11_tapeSaysIt_30 : decode cX11_tapeSaysIt 30 = .ok (.iload_n 3, 1) := by decide +kernel
theorem dX11_tapeSaysIt_31 : decode cX11_tapeSaysIt 31 = .ok (.aload_n 0, 1) := by decide +kernel
theorem dX11_tapeSaysIt_32 : decode cX11_tapeSaysIt 32 = .ok (.getfield 68, 3) := by decide +kernel
theorem dX11_tapeSaysIt_35 : decode cX11_tapeSaysIt 35 = .ok (.invokevirtual 211, 3) := by decide +kernel
theorem dX11_tapeSaysIt_38 : decode cX11_tapeSaysIt 38 = .ok (.if_icmp .ge 31, 3) := by decide +kernel
theorem dX11_tapeSaysIt_41 : decode cX11_tapeSaysIt 41 = .ok (.aload_n 0, 1) := by decide +kernel
theorem dX11_tapeSaysIt_42 : decode cX11_tapeSaysIt 42 = .ok (.getfield 61, 3) := by decide +kernel
theorem dX11_tapeSaysIt_45 : decode cX11_tapeSaysIt 45 = .ok (.iload_n 3, 1) := by decide +kernel
theorem dX11_tapeSaysIt_46 : decode cX11_tapeSaysIt 46 = .ok (.aload_n 0, 1) := by decide +kernel
theorem dX11_tapeSaysIt_47 : decode cX11_tapeSaysIt 47 = .ok (.getfield 68, 3) := by decide +kernel
theorem dX11_tapeSaysIt_50 : decode cX11_tapeSaysIt 50 = .ok (.iload_n 3, 1) := by decide +kernel
theorem dX11_tapeSaysIt_51 : decode cX11_tapeSaysIt 51 = .ok (.invokevirtual 213, 3) := by decide +kernel
theorem dX11_tapeSaysIt_54 : decode cX11_tapeSaysIt 54 = .ok (.invokevirtual 216, 3) := by decide +kernel
theorem dX11_tapeSaysIt_57 : decode cX11_tapeSaysIt 57 = .ok (.iconst (-1), 1) := by decide +kernel
theorem dX11_tapeSaysIt_58 : decode cX11_tapeSaysIt 58 = .ok (.if_icmp .ne 5, 3) := by decide +kernel
theorem dX11_tapeSaysIt_61 : decode cX11_tapeSaysIt 61 = .ok (.iconst 0, 1) := by decide +kernel
theorem dX11_tapeSaysIt_62 : decode cX11_tapeSaysIt 62 = .ok (.ireturn, 1) := by decide +kernel
theorem dX11_tapeSaysIt_63 : decode cX11_tapeSaysIt 63 = .ok (.iinc 3 1, 3) := by decide +kernel
theorem dX11_tapeSaysIt_66 : decode cX11_tapeSaysIt 66 = .ok (.goto (-36), 3) := by decide +kernel
theorem dX11_tapeSaysIt_69 : decode cX11_tapeSaysIt 69 = .ok (.iconst 1, 1) := by decide +kernel
theorem dX11_tapeSaysIt_70 : decode cX11_tapeSaysIt 70 = .ok (.ireturn, 1) := by decide +kernel
theorem dX11_multiplyChoices_0 : decode cX11_multiplyChoices 0 = .ok (.aload_n 1, 1) := by decide +kernel
theorem dX11_multiplyChoices_1 : decode cX11_multiplyChoices 1 = .ok (.invokevirtual 220, 3) := by decide +kernel
theorem dX11_multiplyChoices_4 : decode cX11_multiplyChoices 4 = .ok (.iconst 0, 1) := by decide +kernel
theorem dX11_multiplyChoices_5 : decode cX11_multiplyChoices 5 = .ok (.istore_n 3, 1) := by decide +kernel
theorem dX11_multiplyChoices_6 : decode cX11_multiplyChoices 6 = .ok (.iload_n 3, 1) := by decide +kernel
theorem dX11_multiplyChoices_7 : decode cX11_multiplyChoices 7 = .ok (.aload_n 0, 1) := by decide +kernel
theorem dX11_multiplyChoices_8 : decode cX11_multiplyChoices 8 = .ok (.getfield 68, 3) := by decide +kernel
theorem dX11_multiplyChoices_11 : decode cX11_multiplyChoices 11 = .ok (.invokevirtual 211, 3) := by decide +kernel
theorem dX11_multiplyChoices_14 : decode cX11_multiplyChoices 14 = .ok (.if_icmp .ge 29, 3) := by decide +kernel
theorem dX11_multiplyChoices_17 : decode cX11_multiplyChoices 17 = .ok (.aload_n 1, 1) := by decide +kernel
theorem dX11_multiplyChoices_18 : decode cX11_multiplyChoices 18 = .ok (.aload_n 0, 1) := by decide +kernel
theorem dX11_multiplyChoices_19 : decode cX11_multiplyChoices 19 = .ok (.getfield 38, 3) := by decide +kernel
theorem dX11_multiplyChoices_22 : decode cX11_multiplyChoices 22 = .ok (.iload_n 2, 1) := by decide +kernel
theorem dX11_multiplyChoices_23 : decode cX11_multiplyChoices 23 = .ok (.aload_n 0, 1) := by decide +kernel
theorem dX11_multiplyChoices_24 : decode cX11_multiplyChoices 24 = .ok (.getfield 68, 3) := by decide +kernel
theorem dX11_multiplyChoices_27 : decode cX11_multiplyChoices 27 = .ok (.iload_n 3, 1) := by decide +kernel
theorem dX11_multiplyChoices_28 : decode cX11_multiplyChoices 28 = .ok (.invokevirtual 213, 3) := by decide +kernel
theorem dX11_multiplyChoices_31 : decode cX11_multiplyChoices 31 = .ok (.invokevirtual 223, 3) := by decide +kernel
theorem dX11_multiplyChoices_34 : decode cX11_multiplyChoices 34 = .ok (.invokevirtual 226, 3) := by decide +kernel
theorem dX11_multiplyChoices_37 : decode cX11_multiplyChoices 37 = .ok (.iinc 3 1, 3) := by decide +kernel
theorem dX11_multiplyChoices_40 : decode cX11_multiplyChoices 40 = .ok (.goto (-34), 3) := by decide +kernel
theorem dX11_multiplyChoices_43 : decode cX11_multiplyChoices 43 = .ok (.return_, 1) := by decide +kernel
theorem dX11_key_0 : decode cX11_key 0 = .ok (.aload_n 0, 1) := by decide +kernel
theorem dX11_key_1 : decode cX11_key 1 = .ok (.getfield 38, 3) := by decide +kernel
theorem dX11_key_4 : decode cX11_key 4 = .ok (.iload_n 1, 1) := by decide +kernel
theorem dX11_key_5 : decode cX11_key 5 = .ok (.invokevirtual 188, 3) := by decide +kernel
theorem dX11_key_8 : decode cX11_key 8 = .ok (.ifCond .eq 24, 3) := by decide +kernel
theorem dX11_key_11 : decode cX11_key 11 = .ok (.aload_n 0, 1) := by decide +kernel
theorem dX11_key_12 : decode cX11_key 12 = .ok (.getfield 45, 3) := by decide +kernel
theorem dX11_key_15 : decode cX11_key 15 = .ok (.iload_n 2, 1) := by decide +kernel
theorem dX11_key_16 : decode cX11_key 16 = .ok (.invokevirtual 151, 3) := by decide +kernel
theorem dX11_key_19 : decode cX11_key 19 = .ok (.ifCond .eq 13, 3) := by decide +kernel
theorem dX11_key_22 : decode cX11_key 22 = .ok (.iload_n 3, 1) := by decide +kernel
theorem dX11_key_23 : decode cX11_key 23 = .ok (.ifCond .lt 9, 3) := by decide +kernel
theorem dX11_key_26 : decode cX11_key 26 = .ok (.iload_n 3, 1) := by decide +kernel
theorem dX11_key_27 : decode cX11_key 27 = .ok (.ldc 229, 2) := by decide +kernel
theorem dX11_key_29 : decode cX11_key 29 = .ok (.if_icmp .le 5, 3) := by decide +kernel
theorem dX11_key_32 : decode cX11_key 32 = .ok (.iconst (-1), 1) := by decide +kernel
theorem dX11_key_33 : decode cX11_key 33 = .ok (.ireturn, 1) := by decide +kernel
theorem dX11_key_34 : decode cX11_key 34 = .ok (.aload_n 0, 1) := by decide +kernel
theorem dX11_key_35 : decode cX11_key 35 = .ok (.getfield 68, 3) := by decide +kernel
theorem dX11_key_38 : decode cX11_key 38 = .ok (.invokevirtual 192, 3) := by decide +kernel
theorem dX11_key_41 : decode cX11_key 41 = .ok (.ifCond .eq 14, 3) := by decide +kernel
theorem dX11_key_44 : decode cX11_key 44 = .ok (.aload_n 0, 1) := by decide +kernel
theorem dX11_key_45 : decode cX11_key 45 = .ok (.getfield 68, 3) := by decide +kernel
theorem dX11_key_48 : decode cX11_key 48 = .ok (.invokevirtual 195, 3) := by decide +kernel
theorem dX11_key_51 : decode cX11_key 51 = .ok (.iconst (-1), 1) := by decide +kernel
theorem dX11_key_52 : decode cX11_key 52 = .ok (.if_icmp .ne 5, 3) := by decide +kernel
theorem dX11_key_55 : decode cX11_key 55 = .ok (.iconst (-1), 1) := by decide +kernel
theorem dX11_key_56 : decode cX11_key 56 = .ok (.ireturn, 1) := by decide +kernel
theorem dX11_key_57 : decode cX11_key 57 = .ok (.aload_n 0, 1) := by decide +kernel
theorem dX11_key_58 : decode cX11_key 58 = .ok (.getfield 68, 3) := by decide +kernel
theorem dX11_key_61 : decode cX11_key 61 = .ok (.aload_n 0, 1) := by decide +kernel
theorem dX11_key_62 : decode cX11_key 62 = .ok (.getfield 38, 3) := by decide +kernel
theorem dX11_key_65 : decode cX11_key 65 = .ok (.iload_n 1, 1) := by decide +kernel
theorem dX11_key_66 : decode cX11_key 66 = .ok (.iload_n 3, 1) := by decide +kernel
theorem dX11_key_67 : decode cX11_key 67 = .ok (.invokevirtual 230, 3) := by decide +kernel
theorem dX11_key_70 : decode cX11_key 70 = .ok (.aload_n 0, 1) := by decide +kernel
theorem dX11_key_71 : decode cX11_key 71 = .ok (.getfield 68, 3) := by decide +kernel
theorem dX11_key_74 : decode cX11_key 74 = .ok (.aload_n 0, 1) := by decide +kernel
theorem dX11_key_75 : decode cX11_key 75 = .ok (.getfield 45, 3) := by decide +kernel
theorem dX11_key_78 : decode cX11_key 78 = .ok (.iload_n 2, 1) := by decide +kernel
theorem dX11_key_79 : decode cX11_key 79 = .ok (.invokevirtual 154, 3) := by decide +kernel
theorem dX11_key_82 : decode cX11_key 82 = .ok (.aload_n 0, 1) := by decide +kernel
theorem dX11_key_83 : decode cX11_key 83 = .ok (.getfield 52, 3) := by decide +kernel
theorem dX11_key_86 : decode cX11_key 86 = .ok (.invokevirtual 234, 3) := by decide +kernel
theorem dX11_key_89 : decode cX11_key 89 = .ok (.aload_n 0, 1) := by decide +kernel
theorem dX11_key_90 : decode cX11_key 90 = .ok (.getfield 52, 3) := by decide +kernel
theorem dX11_key_93 : decode cX11_key 93 = .ok (.invokevirtual 212, 3) := by decide +kernel
theorem dX11_key_96 : decode cX11_key 96 = .ok (.ireturn, 1) := by decide +kernel
theorem dX11_message_0 : decode cX11_message 0 = .ok (.iload_n 1, 1) := by decide +kernel
theorem dX11_message_1 : decode cX11_message 1 = .ok (.ifCond .lt 16, 3) := by decide +kernel
theorem dX11_message_4 : decode cX11_message 4 = .ok (.iload_n 2, 1) := by decide +kernel
theorem dX11_message_5 : decode cX11_message 5 = .ok (.ifCond .lt 12, 3) := by decide +kernel
theorem dX11_message_8 : decode cX11_message 8 = .ok (.iload_n 3, 1) := by decide +kernel
theorem dX11_message_9 : decode cX11_message 9 = .ok (.ifCond .lt 8, 3) := by decide +kernel
theorem dX11_message_12 : decode cX11_message 12 = .ok (.iload_n 3, 1) := by decide +kernel
theorem dX11_message_13 : decode cX11_message 13 = .ok (.iconst 3, 1) := by decide +kernel
theorem dX11_message_14 : decode cX11_message 14 = .ok (.if_icmp .le 5, 3) := by decide +kernel
theorem dX11_message_17 : decode cX11_message 17 = .ok (.iconst (-1), 1) := by decide +kernel
theorem dX11_message_18 : decode cX11_message 18 = .ok (.ireturn, 1) := by decide +kernel
theorem dX11_message_19 : decode cX11_message 19 = .ok (.iload_n 1, 1) := by decide +kernel
theorem dX11_message_20 : decode cX11_message 20 = .ok (.bipush 10, 2) := by decide +kernel
theorem dX11_message_22 : decode cX11_message 22 = .ok (.idiv, 1) := by decide +kernel
theorem dX11_message_23 : decode cX11_message 23 = .ok (.istore 4, 2) := by decide +kernel
theorem dX11_message_25 : decode cX11_message 25 = .ok (.iload_n 1, 1) := by decide +kernel
theorem dX11_message_26 : decode cX11_message 26 = .ok (.bipush 10, 2) := by decide +kernel
theorem dX11_message_28 : decode cX11_message 28 = .ok (.irem, 1) := by decide +kernel
theorem dX11_message_29 : decode cX11_message 29 = .ok (.istore 5, 2) := by decide +kernel
theorem dX11_message_31 : decode cX11_message 31 = .ok (.iload_n 2, 1) := by decide +kernel
theorem dX11_message_32 : decode cX11_message 32 = .ok (.bipush 100, 2) := by decide +kernel
theorem dX11_message_34 : decode cX11_message 34 = .ok (.idiv, 1) := by decide +kernel
theorem dX11_message_35 : decode cX11_message 35 = .ok (.istore 6, 2) := by decide +kernel
theorem dX11_message_37 : decode cX11_message 37 = .ok (.iload_n 2, 1) := by decide +kernel
theorem dX11_message_38 : decode cX11_message 38 = .ok (.bipush 100, 2) := by decide +kernel
theorem dX11_message_40 : decode cX11_message 40 = .ok (.irem, 1) := by decide +kernel
theorem dX11_message_41 : decode cX11_message 41 = .ok (.istore 7, 2) := by decide +kernel
theorem dX11_message_43 : decode cX11_message 43 = .ok (.iload 4, 2) := by decide +kernel
theorem dX11_message_45 : decode cX11_message 45 = .ok (.iload 5, 2) := by decide +kernel
theorem dX11_message_47 : decode cX11_message 47 = .ok (.invokestatic 141, 3) := by decide +kernel
theorem dX11_message_50 : decode cX11_message 50 = .ok (.ifCond .eq 24, 3) := by decide +kernel
theorem dX11_message_53 : decode cX11_message 53 = .ok (.iload 6, 2) := by decide +kernel
theorem dX11_message_55 : decode cX11_message 55 = .ok (.sipush 200, 3) := by decide +kernel
theorem dX11_message_58 : decode cX11_message 58 = .ok (.if_icmp .gt 16, 3) := by decide +kernel
theorem dX11_message_61 : decode cX11_message 61 = .ok (.iload 7, 2) := by decide +kernel
theorem dX11_message_63 : decode cX11_message 63 = .ok (.iconst 1, 1) := by decide +kernel
theorem dX11_message_64 : decode cX11_message 64 = .ok (.if_icmp .lt 10, 3) := by decide +kernel
theorem dX11_message_67 : decode cX11_message 67 = .ok (.iload 7, 2) := by decide +kernel
theorem dX11_message_69 : decode cX11_message 69 = .ok (.bipush 60, 2) := by decide +kernel
theorem dX11_message_71 : decode cX11_message 71 = .ok (.if_icmp .le 5, 3) := by decide +kernel
theorem dX11_message_74 : decode cX11_message 74 = .ok (.iconst (-1), 1) := by decide +kernel
theorem dX11_message_75 : decode cX11_message 75 = .ok (.ireturn, 1) := by decide +kernel
theorem dX11_message_76 : decode cX11_message 76 = .ok (.aload_n 0, 1) := by decide +kernel
theorem dX11_message_77 : decode cX11_message 77 = .ok (.getfield 45, 3) := by decide +kernel
theorem dX11_message_80 : decode cX11_message 80 = .ok (.iload 4, 2) := by decide +kernel
theorem dX11_message_82 : decode cX11_message 82 = .ok (.iload 5, 2) := by decide +kernel
theorem dX11_message_84 : decode cX11_message 84 = .ok (.invokevirtual 238, 3) := by decide +kernel
theorem dX11_message_87 : decode cX11_message 87 = .ok (.iconst (-1), 1) := by decide +kernel
theorem dX11_message_88 : decode cX11_message 88 = .ok (.if_icmp .ne 7, 3) := by decide +kernel
theorem dX11_message_91 : decode cX11_message 91 = .ok (.iconst (-1), 1) := by decide +kernel
theorem dX11_message_92 : decode cX11_message 92 = .ok (.goto 19, 3) := by decide +kernel
theorem dX11_message_95 : decode cX11_message 95 = .ok (.aload_n 0, 1) := by decide +kernel
theorem dX11_message_96 : decode cX11_message 96 = .ok (.getfield 77, 3) := by decide +kernel
theorem dX11_message_99 : decode cX11_message 99 = .ok (.iload 4, 2) := by decide +kernel
theorem dX11_message_101 : decode cX11_message 101 = .ok (.iload 5, 2) := by decide +kernel
theorem dX11_message_103 : decode cX11_message 103 = .ok (.iload 6, 2) := by decide +kernel
theorem dX11_message_105 : decode cX11_message 105 = .ok (.iload 7, 2) := by decide +kernel
theorem dX11_message_107 : decode cX11_message 107 = .ok (.iload_n 3, 1) := by decide +kernel
theorem dX11_message_108 : decode cX11_message 108 = .ok (.invokevirtual 241, 3) := by decide +kernel
theorem dX11_message_111 : decode cX11_message 111 = .ok (.ireturn, 1) := by decide +kernel
theorem dX11_route_0 : decode cX11_route 0 = .ok (.iload_n 1, 1) := by decide +kernel
theorem dX11_route_1 : decode cX11_route 1 = .ok (.iload_n 2, 1) := by decide +kernel
theorem dX11_route_2 : decode cX11_route 2 = .ok (.invokestatic 141, 3) := by decide +kernel
theorem dX11_route_5 : decode cX11_route 5 = .ok (.ifCond .ne 5, 3) := by decide +kernel
theorem dX11_route_8 : decode cX11_route 8 = .ok (.iconst (-1), 1) := by decide +kernel
theorem dX11_route_9 : decode cX11_route 9 = .ok (.ireturn, 1) := by decide +kernel
theorem dX11_route_10 : decode cX11_route 10 = .ok (.aload_n 0, 1) := by decide +kernel
theorem dX11_route_11 : decode cX11_route 11 = .ok (.getfield 45, 3) := by decide +kernel
theorem dX11_route_14 : decode cX11_route 14 = .ok (.iload_n 1, 1) := by decide +kernel
theorem dX11_route_15 : decode cX11_route 15 = .ok (.iload_n 2, 1) := by decide +kernel
theorem dX11_route_16 : decode cX11_route 16 = .ok (.invokevirtual 238, 3) := by decide +kernel
theorem dX11_route_19 : decode cX11_route 19 = .ok (.istore 4, 2) := by decide +kernel
theorem dX11_route_21 : decode cX11_route 21 = .ok (.iload_n 3, 1) := by decide +kernel
theorem dX11_route_22 : decode cX11_route 22 = .ok (.iconst (-1), 1) := by decide +kernel
theorem dX11_route_23 : decode cX11_route 23 = .ok (.if_icmp .eq 9, 3) := by decide +kernel
theorem dX11_route_26 : decode cX11_route 26 = .ok (.iload 4, 2) := by decide +kernel
theorem dX11_route_28 : decode cX11_route 28 = .ok (.iconst (-1), 1) := by decide +kernel
theorem dX11_route_29 : decode cX11_route 29 = .ok (.if_icmp .ne 6, 3) := by decide +kernel
theorem dX11_route_32 : decode cX11_route 32 = .ok (.iload 4, 2) := by decide +kernel
theorem dX11_route_34 : decode cX11_route 34 = .ok (.ireturn, 1) := by decide +kernel
theorem dX11_route_35 : decode cX11_route 35 = .ok (.aload_n 0, 1) := by decide +kernel
theorem dX11_route_36 : decode cX11_route 36 = .ok (.getfield 45, 3) := by decide +kernel
theorem dX11_route_39 : decode cX11_route 39 = .ok (.iload_n 3, 1) := by decide +kernel
theorem dX11_route_40 : decode cX11_route 40 = .ok (.invokevirtual 242, 3) := by decide +kernel
theorem dX11_route_43 : decode cX11_route 43 = .ok (.ireturn, 1) := by decide +kernel
theorem dX11_sent_0 : decode cX11_sent 0 = .ok (.aload_n 0, 1) := by decide +kernel
theorem dX11_sent_1 : decode cX11_sent 1 = .ok (.getfield 77, 3) := by decide +kernel
theorem dX11_sent_4 : decode cX11_sent 4 = .ok (.iload_n 1, 1) := by decide +kernel
theorem dX11_sent_5 : decode cX11_sent 5 = .ok (.invokevirtual 245, 3) := by decide +kernel
theorem dX11_sent_8 : decode cX11_sent 8 = .ok (.ifCond .ne 5, 3) := by decide +kernel
theorem dX11_sent_11 : decode cX11_sent 11 = .ok (.iconst (-1), 1) := by decide +kernel
theorem dX11_sent_12 : decode cX11_sent 12 = .ok (.ireturn, 1) := by decide +kernel
theorem dX11_sent_13 : decode cX11_sent 13 = .ok (.aload_n 0, 1) := by decide +kernel
theorem dX11_sent_14 : decode cX11_sent 14 = .ok (.getfield 77, 3) := by decide +kernel
theorem dX11_sent_17 : decode cX11_sent 17 = .ok (.invokevirtual 246, 3) := by decide +kernel
theorem dX11_sent_20 : decode cX11_sent 20 = .ok (.iload_n 2, 1) := by decide +kernel
theorem dX11_sent_21 : decode cX11_sent 21 = .ok (.tableswitch 70 0 2 #[27, 36, 45], 27) := by decide +kernel
theorem dX11_sent_48 : decode cX11_sent 48 = .ok (.aload_n 0, 1) := by decide +kernel
theorem dX11_sent_49 : decode cX11_sent 49 = .ok (.getfield 77, 3) := by decide +kernel
theorem dX11_sent_52 : decode cX11_sent 52 = .ok (.iload_n 1, 1) := by decide +kernel
theorem dX11_sent_53 : decode cX11_sent 53 = .ok (.invokevirtual 249, 3) := by decide +kernel
theorem dX11_sent_56 : decode cX11_sent 56 = .ok (.ireturn, 1) := by decide +kernel
theorem dX11_sent_57 : decode cX11_sent 57 = .ok (.aload_n 0, 1) := by decide +kernel
theorem dX11_sent_58 : decode cX11_sent 58 = .ok (.getfield 77, 3) := by decide +kernel
theorem dX11_sent_61 : decode cX11_sent 61 = .ok (.iload_n 1, 1) := by decide +kernel
theorem dX11_sent_62 : decode cX11_sent 62 = .ok (.invokevirtual 252, 3) := by decide +kernel
theorem dX11_sent_65 : decode cX11_sent 65 = .ok (.ireturn, 1) := by decide +kernel
theorem dX11_sent_66 : decode cX11_sent 66 = .ok (.iload_n 3, 1) := by decide +kernel
theorem dX11_sent_67 : decode cX11_sent 67 = .ok (.ifCond .lt 10, 3) := by decide +kernel
theorem dX11_sent_70 : decode cX11_sent 70 = .ok (.iload_n 3, 1) := by decide +kernel
theorem dX11_sent_71 : decode cX11_sent 71 = .ok (.sipush 5000, 3) := by decide +kernel
theorem dX11_sent_74 : decode cX11_sent 74 = .ok (.if_icmp .le 7, 3) := by decide +kernel
theorem dX11_sent_77 : decode cX11_sent 77 = .ok (.iconst (-1), 1) := by decide +kernel
theorem dX11_sent_78 : decode cX11_sent 78 = .ok (.goto 12, 3) := by decide +kernel
theorem dX11_sent_81 : decode cX11_sent 81 = .ok (.aload_n 0, 1) := by decide +kernel
theorem dX11_sent_82 : decode cX11_sent 82 = .ok (.getfield 77, 3) := by decide +kernel
theorem dX11_sent_85 : decode cX11_sent 85 = .ok (.iload_n 1, 1) := by decide +kernel
theorem dX11_sent_86 : decode cX11_sent 86 = .ok (.iload_n 3, 1) := by decide +kernel
theorem dX11_sent_87 : decode cX11_sent 87 = .ok (.invokevirtual 255, 3) := by decide +kernel
theorem dX11_sent_90 : decode cX11_sent 90 = .ok (.ireturn, 1) := by decide +kernel
theorem dX11_sent_91 : decode cX11_sent 91 = .ok (.iconst (-1), 1) := by decide +kernel
theorem dX11_sent_92 : decode cX11_sent 92 = .ok (.ireturn, 1) := by decide +kernel
theorem dX11_tap_0 : decode cX11_tap 0 = .ok (.aload_n 0, 1) := by decide +kernel
theorem dX11_tap_1 : decode cX11_tap 1 = .ok (.getfield 45, 3) := by decide +kernel
theorem dX11_tap_4 : decode cX11_tap 4 = .ok (.iload_n 1, 1) := by decide +kernel
theorem dX11_tap_5 : decode cX11_tap 5 = .ok (.invokevirtual 151, 3) := by decide +kernel
theorem dX11_tap_8 : decode cX11_tap 8 = .ok (.ifCond .ne 5, 3) := by decide +kernel
theorem dX11_tap_11 : decode cX11_tap 11 = .ok (.iconst (-1), 1) := by decide +kernel
theorem dX11_tap_12 : decode cX11_tap 12 = .ok (.ireturn, 1) := by decide +kernel
theorem dX11_tap_13 : decode cX11_tap 13 = .ok (.aload_n 0, 1) := by decide +kernel
theorem dX11_tap_14 : decode cX11_tap 14 = .ok (.getfield 77, 3) := by decide +kernel
theorem dX11_tap_17 : decode cX11_tap 17 = .ok (.invokevirtual 246, 3) := by decide +kernel
theorem dX11_tap_20 : decode cX11_tap 20 = .ok (.aload_n 0, 1) := by decide +kernel
theorem dX11_tap_21 : decode cX11_tap 21 = .ok (.getfield 77, 3) := by decide +kernel
theorem dX11_tap_24 : decode cX11_tap 24 = .ok (.iload_n 1, 1) := by decide +kernel
theorem dX11_tap_25 : decode cX11_tap 25 = .ok (.iload_n 2, 1) := by decide +kernel
theorem dX11_tap_26 : decode cX11_tap 26 = .ok (.invokevirtual 258, 3) := by decide +kernel
theorem dX11_tap_29 : decode cX11_tap 29 = .ok (.ireturn, 1) := by decide +kernel
theorem dX11_clock_0 : decode cX11_clock 0 = .ok (.iload_n 1, 1) := by decide +kernel
theorem dX11_clock_1 : decode cX11_clock 1 = .ok (.invokestatic 157, 3) := by decide +kernel
theorem dX11_clock_4 : decode cX11_clock 4 = .ok (.ifCond .eq 20, 3) := by decide +kernel
theorem dX11_clock_7 : decode cX11_clock 7 = .ok (.iload_n 2, 1) := by decide +kernel
theorem dX11_clock_8 : decode cX11_clock 8 = .ok (.bipush (-60), 2) := by decide +kernel
theorem dX11_clock_10 : decode cX11_clock 10 = .ok (.if_icmp .lt 14, 3) := by decide +kernel
theorem dX11_clock_13 : decode cX11_clock 13 = .ok (.iload_n 3, 1) := by decide +kernel
theorem dX11_clock_14 : decode cX11_clock 14 = .ok (.bipush 60, 2) := by decide +kernel
theorem dX11_clock_16 : decode cX11_clock 16 = .ok (.if_icmp .gt 8, 3) := by decide +kernel
theorem dX11_clock_19 : decode cX11_clock 19 = .ok (.iload_n 2, 1) := by decide +kernel
theorem dX11_clock_20 : decode cX11_clock 20 = .ok (.iload_n 3, 1) := by decide +kernel
theorem dX11_clock_21 : decode cX11_clock 21 = .ok (.if_icmp .le 5, 3) := by decide +kernel
theorem dX11_clock_24 : decode cX11_clock 24 = .ok (.iconst 0, 1) := by decide +kernel
theorem dX11_clock_25 : decode cX11_clock 25 = .ok (.ireturn, 1) := by decide +kernel
theorem dX11_clock_26 : decode cX11_clock 26 = .ok (.aload_n 0, 1) := by decide +kernel
theorem dX11_clock_27 : decode cX11_clock 27 = .ok (.getfield 84, 3) := by decide +kernel
theorem dX11_clock_30 : decode cX11_clock 30 = .ok (.iload_n 1, 1) := by decide +kernel
theorem dX11_clock_31 : decode cX11_clock 31 = .ok (.iload_n 2, 1) := by decide +kernel
theorem dX11_clock_32 : decode cX11_clock 32 = .ok (.iload_n 3, 1) := by decide +kernel
theorem dX11_clock_33 : decode cX11_clock 33 = .ok (.invokevirtual 261, 3) := by decide +kernel
theorem dX11_clock_36 : decode cX11_clock 36 = .ok (.iconst 1, 1) := by decide +kernel
theorem dX11_clock_37 : decode cX11_clock 37 = .ok (.ireturn, 1) := by decide +kernel
theorem dX11_event_0 : decode cX11_event 0 = .ok (.iload_n 1, 1) := by decide +kernel
theorem dX11_event_1 : decode cX11_event 1 = .ok (.invokestatic 157, 3) := by decide +kernel
theorem dX11_event_4 : decode cX11_event 4 = .ok (.ifCond .eq 26, 3) := by decide +kernel
theorem dX11_event_7 : decode cX11_event 7 = .ok (.iload_n 2, 1) := by decide +kernel
theorem dX11_event_8 : decode cX11_event 8 = .ok (.ifCond .lt 22, 3) := by decide +kernel
theorem dX11_event_11 : decode cX11_event 11 = .ok (.iload_n 2, 1) := by decide +kernel
theorem dX11_event_12 : decode cX11_event 12 = .ok (.sipush 999, 3) := by decide +kernel
theorem dX11_event_15 : decode cX11_event 15 = .ok (.if_icmp .gt 15, 3) := by decide +kernel
theorem dX11_event_18 : decode cX11_event 18 = .ok (.aload_n 0, 1) := by decide +kernel
theorem dX11_event_19 : decode cX11_event 19 = .ok (.getfield 84, 3) := by decide +kernel
theorem dX11_event_22 : decode cX11_event 22 = .ok (.iload_n 1, 1) := by decide +kernel
theorem dX11_event_23 : decode cX11_event 23 = .ok (.iload_n 2, 1) := by decide +kernel
theorem dX11_event_24 : decode cX11_event 24 = .ok (.invokevirtual 265, 3) := by decide +kernel
theorem dX11_event_27 : decode cX11_event 27 = .ok (.goto 4, 3) := by decide +kernel
theorem dX11_event_30 : decode cX11_event 30 = .ok (.iconst (-1), 1) := by decide +kernel
theorem dX11_event_31 : decode cX11_event 31 = .ok (.ireturn, 1) := by decide +kernel
theorem dX11_fact_0 : decode cX11_fact 0 = .ok (.aload_n 0, 1) := by decide +kernel
theorem dX11_fact_1 : decode cX11_fact 1 = .ok (.getfield 84, 3) := by decide +kernel
theorem dX11_fact_4 : decode cX11_fact 4 = .ok (.iload_n 1, 1) := by decide +kernel
theorem dX11_fact_5 : decode cX11_fact 5 = .ok (.invokevirtual 268, 3) := by decide +kernel
theorem dX11_fact_8 : decode cX11_fact 8 = .ok (.ifCond .eq 35, 3) := by decide +kernel
theorem dX11_fact_11 : decode cX11_fact 11 = .ok (.aload_n 0, 1) := by decide +kernel
theorem dX11_fact_12 : decode cX11_fact 12 = .ok (.getfield 84, 3) := by decide +kernel
theorem dX11_fact_15 : decode cX11_fact 15 = .ok (.iload_n 2, 1) := by decide +kernel
theorem dX11_fact_16 : decode cX11_fact 16 = .ok (.invokevirtual 268, 3) := by decide +kernel
theorem dX11_fact_19 : decode cX11_fact 19 = .ok (.ifCond .eq 24, 3) := by decide +kernel
theorem dX11_fact_22 : decode cX11_fact 22 = .ok (.iload_n 1, 1) := by decide +kernel
theorem dX11_fact_23 : decode cX11_fact 23 = .ok (.iload_n 2, 1) := by decide +kernel
theorem dX11_fact_24 : decode cX11_fact 24 = .ok (.if_icmp .eq 19, 3) := by decide +kernel
theorem dX11_fact_27 : decode cX11_fact 27 = .ok (.iload_n 3, 1) := by decide +kernel
theorem dX11_fact_28 : decode cX11_fact 28 = .ok (.bipush (-99), 2) := by decide +kernel
theorem dX11_fact_30 : decode cX11_fact 30 = .ok (.if_icmp .lt 13, 3) := by decide +kernel
theorem dX11_fact_33 : decode cX11_fact 33 = .ok (.iload_n 3, 1) := by decide +kernel
theorem dX11_fact_34 : decode cX11_fact 34 = .ok (.bipush 99, 2) := by decide +kernel
theorem dX11_fact_36 : decode cX11_fact 36 = .ok (.if_icmp .gt 7, 3) := by decide +kernel
theorem dX11_fact_39 : decode cX11_fact 39 = .ok (.iconst 1, 1) := by decide +kernel
theorem dX11_fact_40 : decode cX11_fact 40 = .ok (.goto 4, 3) := by decide +kernel
theorem dX11_fact_43 : decode cX11_fact 43 = .ok (.iconst 0, 1) := by decide +kernel
theorem dX11_fact_44 : decode cX11_fact 44 = .ok (.istore 4, 2) := by decide +kernel
theorem dX11_fact_46 : decode cX11_fact 46 = .ok (.iload 4, 2) := by decide +kernel
theorem dX11_fact_48 : decode cX11_fact 48 = .ok (.ifCond .eq 16, 3) := by decide +kernel
theorem dX11_fact_51 : decode cX11_fact 51 = .ok (.aload_n 0, 1) := by decide +kernel
theorem dX11_fact_52 : decode cX11_fact 52 = .ok (.getfield 84, 3) := by decide +kernel
theorem dX11_fact_55 : decode cX11_fact 55 = .ok (.iload_n 1, 1) := by decide +kernel
theorem dX11_fact_56 : decode cX11_fact 56 = .ok (.iload_n 2, 1) := by decide +kernel
theorem dX11_fact_57 : decode cX11_fact 57 = .ok (.iload_n 3, 1) := by decide +kernel
theorem dX11_fact_58 : decode cX11_fact 58 = .ok (.invokevirtual 271, 3) := by decide +kernel
theorem dX11_fact_61 : decode cX11_fact 61 = .ok (.goto 4, 3) := by decide +kernel
theorem dX11_fact_64 : decode cX11_fact 64 = .ok (.iconst (-1), 1) := by decide +kernel
theorem dX11_fact_65 : decode cX11_fact 65 = .ok (.ireturn, 1) := by decide +kernel
theorem dX11_undo_0 : decode cX11_undo 0 = .ok (.aload_n 0, 1) := by decide +kernel
theorem dX11_undo_1 : decode cX11_undo 1 = .ok (.getfield 84, 3) := by decide +kernel
theorem dX11_undo_4 : decode cX11_undo 4 = .ok (.invokevirtual 274, 3) := by decide +kernel
theorem dX11_undo_7 : decode cX11_undo 7 = .ok (.ireturn, 1) := by decide +kernel
theorem dX11_apart_0 : decode cX11_apart 0 = .ok (.aload_n 0, 1) := by decide +kernel
theorem dX11_apart_1 : decode cX11_apart 1 = .ok (.getfield 84, 3) := by decide +kernel
theorem dX11_apart_4 : decode cX11_apart 4 = .ok (.iload_n 1, 1) := by decide +kernel
theorem dX11_apart_5 : decode cX11_apart 5 = .ok (.invokevirtual 268, 3) := by decide +kernel
theorem dX11_apart_8 : decode cX11_apart 8 = .ok (.ifCond .eq 24, 3) := by decide +kernel
theorem dX11_apart_11 : decode cX11_apart 11 = .ok (.aload_n 0, 1) := by decide +kernel
theorem dX11_apart_12 : decode cX11_apart 12 = .ok (.getfield 84, 3) := by decide +kernel
theorem dX11_apart_15 : decode cX11_apart 15 = .ok (.iload_n 2, 1) := by decide +kernel
theorem dX11_apart_16 : decode cX11_apart 16 = .ok (.invokevirtual 268, 3) := by decide +kernel
theorem dX11_apart_19 : decode cX11_apart 19 = .ok (.ifCond .eq 13, 3) := by decide +kernel
theorem dX11_apart_22 : decode cX11_apart 22 = .ok (.aload_n 0, 1) := by decide +kernel
theorem dX11_apart_23 : decode cX11_apart 23 = .ok (.getfield 84, 3) := by decide +kernel
theorem dX11_apart_26 : decode cX11_apart 26 = .ok (.invokevirtual 277, 3) := by decide +kernel
theorem dX11_apart_29 : decode cX11_apart 29 = .ok (.ifCond .ne 7, 3) := by decide +kernel
theorem dX11_apart_32 : decode cX11_apart 32 = .ok (.ldc_w 280, 3) := by decide +kernel
theorem dX11_apart_35 : decode cX11_apart 35 = .ok (.ireturn, 1) := by decide +kernel
theorem dX11_apart_36 : decode cX11_apart 36 = .ok (.iload_n 3, 1) := by decide +kernel
theorem dX11_apart_37 : decode cX11_apart 37 = .ok (.ifCond .ne 13, 3) := by decide +kernel
theorem dX11_apart_40 : decode cX11_apart 40 = .ok (.aload_n 0, 1) := by decide +kernel
theorem dX11_apart_41 : decode cX11_apart 41 = .ok (.getfield 84, 3) := by decide +kernel
theorem dX11_apart_44 : decode cX11_apart 44 = .ok (.iload_n 1, 1) := by decide +kernel
theorem dX11_apart_45 : decode cX11_apart 45 = .ok (.iload_n 2, 1) := by decide +kernel
theorem dX11_apart_46 : decode cX11_apart 46 = .ok (.invokevirtual 281, 3) := by decide +kernel
theorem dX11_apart_49 : decode cX11_apart 49 = .ok (.ireturn, 1) := by decide +kernel
theorem dX11_apart_50 : decode cX11_apart 50 = .ok (.iload_n 3, 1) := by decide +kernel
theorem dX11_apart_51 : decode cX11_apart 51 = .ok (.iconst 1, 1) := by decide +kernel
theorem dX11_apart_52 : decode cX11_apart 52 = .ok (.if_icmp .ne 15, 3) := by decide +kernel
theorem dX11_apart_55 : decode cX11_apart 55 = .ok (.aload_n 0, 1) := by decide +kernel
theorem dX11_apart_56 : decode cX11_apart 56 = .ok (.getfield 84, 3) := by decide +kernel
theorem dX11_apart_59 : decode cX11_apart 59 = .ok (.iload_n 1, 1) := by decide +kernel
theorem dX11_apart_60 : decode cX11_apart 60 = .ok (.iload_n 2, 1) := by decide +kernel
theorem dX11_apart_61 : decode cX11_apart 61 = .ok (.invokevirtual 284, 3) := by decide +kernel
theorem dX11_apart_64 : decode cX11_apart 64 = .ok (.goto 6, 3) := by decide +kernel
theorem dX11_apart_67 : decode cX11_apart 67 = .ok (.ldc_w 280, 3) := by decide +kernel
theorem dX11_apart_70 : decode cX11_apart 70 = .ok (.ireturn, 1) := by decide +kernel
theorem dX11_first_0 : decode cX11_first 0 = .ok (.aload_n 0, 1) := by decide +kernel
theorem dX11_first_1 : decode cX11_first 1 = .ok (.getfield 84, 3) := by decide +kernel
theorem dX11_first_4 : decode cX11_first 4 = .ok (.iload_n 1, 1) := by decide +kernel
theorem dX11_first_5 : decode cX11_first 5 = .ok (.invokevirtual 268, 3) := by decide +kernel
theorem dX11_first_8 : decode cX11_first 8 = .ok (.ifCond .eq 24, 3) := by decide +kernel
theorem dX11_first_11 : decode cX11_first 11 = .ok (.aload_n 0, 1) := by decide +kernel
theorem dX11_first_12 : decode cX11_first 12 = .ok (.getfield 84, 3) := by decide +kernel
theorem dX11_first_15 : decode cX11_first 15 = .ok (.iload_n 2, 1) := by decide +kernel
theorem dX11_first_16 : decode cX11_first 16 = .ok (.invokevirtual 268, 3) := by decide +kernel
theorem dX11_first_19 : decode cX11_first 19 = .ok (.ifCond .eq 13, 3) := by decide +kernel
theorem dX11_first_22 : decode cX11_first 22 = .ok (.aload_n 0, 1) := by decide +kernel
theorem dX11_first_23 : decode cX11_first 23 = .ok (.getfield 84, 3) := by decide +kernel
theorem dX11_first_26 : decode cX11_first 26 = .ok (.invokevirtual 277, 3) := by decide +kernel
theorem dX11_first_29 : decode cX11_first 29 = .ok (.ifCond .ne 5, 3) := by decide +kernel
theorem dX11_first_32 : decode cX11_first 32 = .ok (.iconst (-1), 1) := by decide +kernel
theorem dX11_first_33 : decode cX11_first 33 = .ok (.ireturn, 1) := by decide +kernel
theorem dX11_first_34 : decode cX11_first 34 = .ok (.aload_n 0, 1) := by decide +kernel
theorem dX11_first_35 : decode cX11_first 35 = .ok (.getfield 84, 3) := by decide +kernel
theorem dX11_first_38 : decode cX11_first 38 = .ok (.iload_n 1, 1) := by decide +kernel
theorem dX11_first_39 : decode cX11_first 39 = .ok (.iload_n 2, 1) := by decide +kernel
theorem dX11_first_40 : decode cX11_first 40 = .ok (.invokevirtual 281, 3) := by decide +kernel
theorem dX11_first_43 : decode cX11_first 43 = .ok (.istore_n 3, 1) := by decide +kernel
theorem dX11_first_44 : decode cX11_first 44 = .ok (.aload_n 0, 1) := by decide +kernel
theorem dX11_first_45 : decode cX11_first 45 = .ok (.getfield 84, 3) := by decide +kernel
theorem dX11_first_48 : decode cX11_first 48 = .ok (.iload_n 1, 1) := by decide +kernel
theorem dX11_first_49 : decode cX11_first 49 = .ok (.iload_n 2, 1) := by decide +kernel
theorem dX11_first_50 : decode cX11_first 50 = .ok (.invokevirtual 284, 3) := by decide +kernel
theorem dX11_first_53 : decode cX11_first 53 = .ok (.istore 4, 2) := by decide +kernel
theorem dX11_first_55 : decode cX11_first 55 = .ok (.iload_n 3, 1) := by decide +kernel
theorem dX11_first_56 : decode cX11_first 56 = .ok (.ifCond .le 5, 3) := by decide +kernel
theorem dX11_first_59 : decode cX11_first 59 = .ok (.iconst 1, 1) := by decide +kernel
theorem dX11_first_60 : decode cX11_first 60 = .ok (.ireturn, 1) := by decide +kernel
theorem dX11_first_61 : decode cX11_first 61 = .ok (.iload 4, 2) := by decide +kernel
theorem dX11_first_63 : decode cX11_first 63 = .ok (.ifCond .ge 5, 3) := by decide +kernel
theorem dX11_first_66 : decode cX11_first 66 = .ok (.iconst 2, 1) := by decide +kernel
theorem dX11_first_67 : decode cX11_first 67 = .ok (.ireturn, 1) := by decide +kernel
theorem dX11_first_68 : decode cX11_first 68 = .ok (.iload_n 3, 1) := by decide +kernel
theorem dX11_first_69 : decode cX11_first 69 = .ok (.ifCond .ne 12, 3) := by decide +kernel
theorem dX11_first_72 : decode cX11_first 72 = .ok (.iload 4, 2) := by decide +kernel
theorem dX11_first_74 : decode cX11_first 74 = .ok (.ifCond .ne 7, 3) := by decide +kernel
theorem dX11_first_77 : decode cX11_first 77 = .ok (.iconst 0, 1) := by decide +kernel
theorem dX11_first_78 : decode cX11_first 78 = .ok (.goto 4, 3) := by decide +kernel
theorem dX11_first_81 : decode cX11_first 81 = .ok (.iconst (-1), 1) := by decide +kernel
theorem dX11_first_82 : decode cX11_first 82 = .ok (.ireturn, 1) := by decide +kernel
theorem dX11_count_0 : decode cX11_count 0 = .ok (.iload_n 1, 1) := by decide +kernel
theorem dX11_count_1 : decode cX11_count 1 = .ok (.tableswitch 135 0 9 #[55, 63, 71, 79, 87, 95, 103, 111, 119, 127], 55) := by decide +kernel
theorem dX11_count_56 : decode cX11_count 56 = .ok (.aload_n 0, 1) := by decide +kernel
theorem dX11_count_57 : decode cX11_count 57 = .ok (.getfield 19, 3) := by decide +kernel
theorem dX11_count_60 : decode cX11_count 60 = .ok (.invokevirtual 287, 3) := by decide +kernel
theorem dX11_count_63 : decode cX11_count 63 = .ok (.ireturn, 1) := by decide +kernel
theorem dX11_count_64 : decode cX11_count 64 = .ok (.aload_n 0, 1) := by decide +kernel
theorem dX11_count_65 : decode cX11_count 65 = .ok (.getfield 19, 3) := by decide +kernel
theorem dX11_count_68 : decode cX11_count 68 = .ok (.invokevirtual 121, 3) := by decide +kernel
theorem dX11_count_71 : decode cX11_count 71 = .ok (.ireturn, 1) := by decide +kernel
theorem dX11_count_72 : decode cX11_count 72 = .ok (.aload_n 0, 1) := by decide +kernel
theorem dX11_count_73 : decode cX11_count 73 = .ok (.getfield 38, 3) := by decide +kernel
theorem dX11_count_76 : decode cX11_count 76 = .ok (.invokevirtual 198, 3) := by decide +kernel
theorem dX11_count_79 : decode cX11_count 79 = .ok (.ireturn, 1) := by decide +kernel
theorem dX11_count_80 : decode cX11_count 80 = .ok (.aload_n 0, 1) := by decide +kernel
theorem dX11_count_81 : decode cX11_count 81 = .ok (.getfield 45, 3) := by decide +kernel
theorem dX11_count_84 : decode cX11_count 84 = .ok (.invokevirtual 199, 3) := by decide +kernel
theorem dX11_count_87 : decode cX11_count 87 = .ok (.ireturn, 1) := by decide +kernel
theorem dX11_count_88 : decode cX11_count 88 = .ok (.aload_n 0, 1) := by decide +kernel
theorem dX11_count_89 : decode cX11_count 89 = .ok (.getfield 52, 3) := by decide +kernel
theorem dX11_count_92 : decode cX11_count 92 = .ok (.invokevirtual 212, 3) := by decide +kernel
theorem dX11_count_95 : decode cX11_count 95 = .ok (.ireturn, 1) := by decide +kernel
theorem dX11_count_96 : decode cX11_count 96 = .ok (.aload_n 0, 1) := by decide +kernel
theorem dX11_count_97 : decode cX11_count 97 = .ok (.getfield 77, 3) := by decide +kernel
theorem dX11_count_100 : decode cX11_count 100 = .ok (.invokevirtual 290, 3) := by decide +kernel
theorem dX11_count_103 : decode cX11_count 103 = .ok (.ireturn, 1) := by decide +kernel
theorem dX11_count_104 : decode cX11_count 104 = .ok (.aload_n 0, 1) := by decide +kernel
theorem dX11_count_105 : decode cX11_count 105 = .ok (.getfield 84, 3) := by decide +kernel
theorem dX11_count_108 : decode cX11_count 108 = .ok (.invokevirtual 291, 3) := by decide +kernel
theorem dX11_count_111 : decode cX11_count 111 = .ok (.ireturn, 1) := by decide +kernel
theorem dX11_count_112 : decode cX11_count 112 = .ok (.aload_n 0, 1) := by decide +kernel
theorem dX11_count_113 : decode cX11_count 113 = .ok (.getfield 84, 3) := by decide +kernel
theorem dX11_count_116 : decode cX11_count 116 = .ok (.invokevirtual 294, 3) := by decide +kernel
theorem dX11_count_119 : decode cX11_count 119 = .ok (.ireturn, 1) := by decide +kernel
theorem dX11_count_120 : decode cX11_count 120 = .ok (.aload_n 0, 1) := by decide +kernel
theorem dX11_count_121 : decode cX11_count 121 = .ok (.getfield 10, 3) := by decide +kernel
theorem dX11_count_124 : decode cX11_count 124 = .ok (.invokevirtual 106, 3) := by decide +kernel
theorem dX11_count_127 : decode cX11_count 127 = .ok (.ireturn, 1) := by decide +kernel
theorem dX11_count_128 : decode cX11_count 128 = .ok (.aload_n 0, 1) := by decide +kernel
theorem dX11_count_129 : decode cX11_count 129 = .ok (.getfield 45, 3) := by decide +kernel
theorem dX11_count_132 : decode cX11_count 132 = .ok (.invokevirtual 297, 3) := by decide +kernel
theorem dX11_count_135 : decode cX11_count 135 = .ok (.ireturn, 1) := by decide +kernel
theorem dX11_count_136 : decode cX11_count 136 = .ok (.iconst (-1), 1) := by decide +kernel
theorem dX11_count_137 : decode cX11_count 137 = .ok (.ireturn, 1) := by decide +kernel
theorem dJ6_compare_7cf53_0 : decode cJ6_compare_7cf53 0 = .ok (.iload_n 0, 1) := by decide +kernel
theorem dJ6_compare_7cf53_1 : decode cJ6_compare_7cf53 1 = .ok (.iload_n 1, 1) := by decide +kernel
theorem dJ6_compare_7cf53_2 : decode cJ6_compare_7cf53 2 = .ok (.if_icmp .ge 7, 3) := by decide +kernel
theorem dJ6_compare_7cf53_5 : decode cJ6_compare_7cf53 5 = .ok (.iconst (-1), 1) := by decide +kernel
theorem dJ6_compare_7cf53_6 : decode cJ6_compare_7cf53 6 = .ok (.goto 13, 3) := by decide +kernel
theorem dJ6_compare_7cf53_9 : decode cJ6_compare_7cf53 9 = .ok (.iload_n 0, 1) := by decide +kernel
theorem dJ6_compare_7cf53_10 : decode cJ6_compare_7cf53 10 = .ok (.iload_n 1, 1) := by decide +kernel
theorem dJ6_compare_7cf53_11 : decode cJ6_compare_7cf53 11 = .ok (.if_icmp .ne 7, 3) := by decide +kernel
theorem dJ6_compare_7cf53_14 : decode cJ6_compare_7cf53 14 = .ok (.iconst 0, 1) := by decide +kernel
theorem dJ6_compare_7cf53_15 : decode cJ6_compare_7cf53 15 = .ok (.goto 4, 3) := by decide +kernel
theorem dJ6_compare_7cf53_18 : decode cJ6_compare_7cf53 18 = .ok (.iconst 1, 1) := by decide +kernel
theorem dJ6_compare_7cf53_19 : decode cJ6_compare_7cf53 19 = .ok (.ireturn, 1) := by decide +kernel
theorem dJ9_abs_0f7a4_0 : decode cJ9_abs_0f7a4 0 = .ok (.iload_n 0, 1) := by decide +kernel
theorem dJ9_abs_0f7a4_1 : decode cJ9_abs_0f7a4 1 = .ok (.ifCond .ge 8, 3) := by decide +kernel
theorem dJ9_abs_0f7a4_4 : decode cJ9_abs_0f7a4 4 = .ok (.iload_n 0, 1) := by decide +kernel
theorem dJ9_abs_0f7a4_5 : decode cJ9_abs_0f7a4 5 = .ok (.ineg, 1) := by decide +kernel
theorem dJ9_abs_0f7a4_6 : decode cJ9_abs_0f7a4 6 = .ok (.goto 4, 3) := by decide +kernel
theorem dJ9_abs_0f7a4_9 : decode cJ9_abs_0f7a4 9 = .ok (.iload_n 0, 1) := by decide +kernel
theorem dJ9_abs_0f7a4_10 : decode cJ9_abs_0f7a4 10 = .ok (.ireturn, 1) := by decide +kernel
theorem dJ9_max_7cf53_0 : decode cJ9_max_7cf53 0 = .ok (.iload_n 0, 1) := by decide +kernel
theorem dJ9_max_7cf53_1 : decode cJ9_max_7cf53 1 = .ok (.iload_n 1, 1) := by decide +kernel
theorem dJ9_max_7cf53_2 : decode cJ9_max_7cf53 2 = .ok (.if_icmp .lt 7, 3) := by decide +kernel
theorem dJ9_max_7cf53_5 : decode cJ9_max_7cf53 5 = .ok (.iload_n 0, 1) := by decide +kernel
theorem dJ9_max_7cf53_6 : decode cJ9_max_7cf53 6 = .ok (.goto 4, 3) := by decide +kernel
theorem dJ9_max_7cf53_9 : decode cJ9_max_7cf53 9 = .ok (.iload_n 1, 1) := by decide +kernel
theorem dJ9_max_7cf53_10 : decode cJ9_max_7cf53 10 = .ok (.ireturn, 1) := by decide +kernel
theorem dJ9_min_7cf53_0 : decode cJ9_min_7cf53 0 = .ok (.iload_n 0, 1) := by decide +kernel
theorem dJ9_min_7cf53_1 : decode cJ9_min_7cf53 1 = .ok (.iload_n 1, 1) := by decide +kernel
theorem dJ9_min_7cf53_2 : decode cJ9_min_7cf53 2 = .ok (.if_icmp .gt 7, 3) := by decide +kernel
theorem dJ9_min_7cf53_5 : decode cJ9_min_7cf53 5 = .ok (.iload_n 0, 1) := by decide +kernel
theorem dJ9_min_7cf53_6 : decode cJ9_min_7cf53 6 = .ok (.goto 4, 3) := by decide +kernel
theorem dJ9_min_7cf53_9 : decode cJ9_min_7cf53 9 = .ok (.iload_n 1, 1) := by decide +kernel
theorem dJ9_min_7cf53_10 : decode cJ9_min_7cf53 10 = .ok (.ireturn, 1) := by decide +kernel
theorem dJ9_min_f86c9_0 : decode cJ9_min_f86c9 0 = .ok (.lload_n 0, 1) := by decide +kernel
theorem dJ9_min_f86c9_1 : decode cJ9_min_f86c9 1 = .ok (.lload_n 2, 1) := by decide +kernel
theorem dJ9_min_f86c9_2 : decode cJ9_min_f86c9 2 = .ok (.lcmp, 1) := by decide +kernel
theorem dJ9_min_f86c9_3 : decode cJ9_min_f86c9 3 = .ok (.ifCond .gt 7, 3) := by decide +kernel
theorem dJ9_min_f86c9_6 : decode cJ9_min_f86c9 6 = .ok (.lload_n 0, 1) := by decide +kernel
theorem dJ9_min_f86c9_7 : decode cJ9_min_f86c9 7 = .ok (.goto 4, 3) := by decide +kernel
theorem dJ9_min_f86c9_10 : decode cJ9_min_f86c9 10 = .ok (.lload_n 2, 1) := by decide +kernel
theorem dJ9_min_f86c9_11 : decode cJ9_min_f86c9 11 = .ok (.lreturn, 1) := by decide +kernel
theorem dJ0_length_8abf5_0 : decode cJ0_length_8abf5 0 = .ok (.aload_n 0, 1) := by decide +kernel
theorem dJ0_length_8abf5_1 : decode cJ0_length_8abf5 1 = .ok (.getfield 9, 3) := by decide +kernel
theorem dJ0_length_8abf5_4 : decode cJ0_length_8abf5 4 = .ok (.arraylength, 1) := by decide +kernel
theorem dJ0_length_8abf5_5 : decode cJ0_length_8abf5 5 = .ok (.aload_n 0, 1) := by decide +kernel
theorem dJ0_length_8abf5_6 : decode cJ0_length_8abf5 6 = .ok (.invokevirtual 335, 3) := by decide +kernel
theorem dJ0_length_8abf5_9 : decode cJ0_length_8abf5 9 = .ok (.ishr, 1) := by decide +kernel
theorem dJ0_length_8abf5_10 : decode cJ0_length_8abf5 10 = .ok (.ireturn, 1) := by decide +kernel
theorem dJ0_charAt_5068e_0 : decode cJ0_charAt_5068e 0 = .ok (.aload_n 0, 1) := by decide +kernel
theorem dJ0_charAt_5068e_1 : decode cJ0_charAt_5068e 1 = .ok (.invokevirtual 492, 3) := by decide +kernel
theorem dJ0_charAt_5068e_4 : decode cJ0_charAt_5068e 4 = .ok (.ifCond .eq 12, 3) := by decide +kernel
theorem dJ0_charAt_5068e_7 : decode cJ0_charAt_5068e 7 = .ok (.aload_n 0, 1) := by decide +kernel
theorem dJ0_charAt_5068e_8 : decode cJ0_charAt_5068e 8 = .ok (.getfield 9, 3) := by decide +kernel
theorem dJ0_charAt_5068e_11 : decode cJ0_charAt_5068e 11 = .ok (.iload_n 1, 1) := by decide +kernel
theorem dJ0_charAt_5068e_12 : decode cJ0_charAt_5068e 12 = .ok (.invokestatic 495, 3) := by decide +kernel
theorem dJ0_charAt_5068e_15 : decode cJ0_charAt_5068e 15 = .ok (.ireturn, 1) := by decide +kernel
theorem dJ0_charAt_5068e_16 : decode cJ0_charAt_5068e 16 = .ok (.aload_n 0, 1) := by decide +kernel
theorem dJ0_charAt_5068e_17 : decode cJ0_charAt_5068e 17 = .ok (.getfield 9, 3) := by decide +kernel
theorem dJ0_charAt_5068e_20 : decode cJ0_charAt_5068e 20 = .ok (.iload_n 1, 1) := by decide +kernel
theorem dJ0_charAt_5068e_21 : decode cJ0_charAt_5068e 21 = .ok (.invokestatic 498, 3) := by decide +kernel
theorem dJ0_charAt_5068e_24 : decode cJ0_charAt_5068e 24 = .ok (.ireturn, 1) := by decide +kernel
theorem dJ0_coder_7d493_0 : decode cJ0_coder_7d493 0 = .ok (.getstatic 38, 3) := by decide +kernel
theorem dJ0_coder_7d493_3 : decode cJ0_coder_7d493 3 = .ok (.ifCond .eq 10, 3) := by decide +kernel
theorem dJ0_coder_7d493_6 : decode cJ0_coder_7d493 6 = .ok (.aload_n 0, 1) := by decide +kernel
theorem dJ0_coder_7d493_7 : decode cJ0_coder_7d493 7 = .ok (.getfield 15, 3) := by decide +kernel
theorem dJ0_coder_7d493_10 : decode cJ0_coder_7d493 10 = .ok (.goto 4, 3) := by decide +kernel
theorem dJ0_coder_7d493_13 : decode cJ0_coder_7d493 13 = .ok (.iconst 1, 1) := by decide +kernel
theorem dJ0_coder_7d493_14 : decode cJ0_coder_7d493 14 = .ok (.ireturn, 1) := by decide +kernel
theorem dJ0_isLatin1_aae02_0 : decode cJ0_isLatin1_aae02 0 = .ok (.getstatic 38, 3) := by decide +kernel
theorem dJ0_isLatin1_aae02_3 : decode cJ0_isLatin1_aae02 3 = .ok (.ifCond .eq 14, 3) := by decide +kernel
theorem dJ0_isLatin1_aae02_6 : decode cJ0_isLatin1_aae02 6 = .ok (.aload_n 0, 1) := by decide +kernel
theorem dJ0_isLatin1_aae02_7 : decode cJ0_isLatin1_aae02 7 = .ok (.getfield 15, 3) := by decide +kernel
theorem dJ0_isLatin1_aae02_10 : decode cJ0_isLatin1_aae02 10 = .ok (.ifCond .ne 7, 3) := by decide +kernel
theorem dJ0_isLatin1_aae02_13 : decode cJ0_isLatin1_aae02 13 = .ok (.iconst 1, 1) := by decide +kernel
theorem dJ0_isLatin1_aae02_14 : decode cJ0_isLatin1_aae02 14 = .ok (.goto 4, 3) := by decide +kernel
theorem dJ0_isLatin1_aae02_17 : decode cJ0_isLatin1_aae02 17 = .ok (.iconst 0, 1) := by decide +kernel
theorem dJ0_isLatin1_aae02_18 : decode cJ0_isLatin1_aae02 18 = .ok (.ireturn, 1) := by decide +kernel
theorem dJ0_checkIndex_df160_0 : decode cJ0_checkIndex_df160 0 = .ok (.iload_n 0, 1) := by decide +kernel
theorem dJ0_checkIndex_df160_1 : decode cJ0_checkIndex_df160 1 = .ok (.iload_n 1, 1) := by decide +kernel
theorem dJ0_checkIndex_df160_2 : decode cJ0_checkIndex_df160 2 = .ok (.getstatic 1053, 3) := by decide +kernel
theorem dJ0_checkIndex_df160_5 : decode cJ0_checkIndex_df160 5 = .ok (.invokestatic 1059, 3) := by decide +kernel
theorem dJ0_checkIndex_df160_8 : decode cJ0_checkIndex_df160 8 = .ok (.pop, 1) := by decide +kernel
theorem dJ0_checkIndex_df160_9 : decode cJ0_checkIndex_df160 9 = .ok (.return_, 1) := by decide +kernel
theorem dJ1_charAt_3b067_0 : decode cJ1_charAt_3b067 0 = .ok (.iload_n 1, 1) := by decide +kernel
theorem dJ1_charAt_3b067_1 : decode cJ1_charAt_3b067 1 = .ok (.aload_n 0, 1) := by decide +kernel
theorem dJ1_charAt_3b067_2 : decode cJ1_charAt_3b067 2 = .ok (.arraylength, 1) := by decide +kernel
theorem dJ1_charAt_3b067_3 : decode cJ1_charAt_3b067 3 = .ok (.invokestatic 9, 3) := by decide +kernel
theorem dJ1_charAt_3b067_6 : decode cJ1_charAt_3b067 6 = .ok (.aload_n 0, 1) := by decide +kernel
theorem dJ1_charAt_3b067_7 : decode cJ1_charAt_3b067 7 = .ok (.iload_n 1, 1) := by decide +kernel
theorem dJ1_charAt_3b067_8 : decode cJ1_charAt_3b067 8 = .ok (.baload, 1) := by decide +kernel
theorem dJ1_charAt_3b067_9 : decode cJ1_charAt_3b067 9 = .ok (.sipush 255, 3) := by decide +kernel
theorem dJ1_charAt_3b067_12 : decode cJ1_charAt_3b067 12 = .ok (.iand, 1) := by decide +kernel
theorem dJ1_charAt_3b067_13 : decode cJ1_charAt_3b067 13 = .ok (.i2c, 1) := by decide +kernel
theorem dJ1_charAt_3b067_14 : decode cJ1_charAt_3b067 14 = .ok (.ireturn, 1) := by decide +kernel
theorem dJ2_getChar_3b067_0 : decode cJ2_getChar_3b067 0 = .ok (.getstatic 44, 3) := by decide +kernel
theorem dJ2_getChar_3b067_3 : decode cJ2_getChar_3b067 3 = .ok (.ifCond .ne 25, 3) := by decide +kernel
theorem dJ2_getChar_3b067_6 : decode cJ2_getChar_3b067 6 = .ok (.iload_n 1, 1) := by decide +kernel
theorem dJ2_getChar_3b067_7 : decode cJ2_getChar_3b067 7 = .ok (.ifCond .lt 11, 3) := by decide +kernel
theorem dJ2_getChar_3b067_10 : decode cJ2_getChar_3b067 10 = .ok (.iload_n 1, 1) := by decide +kernel
theorem dJ2_getChar_3b067_11 : decode cJ2_getChar_3b067 11 = .ok (.aload_n 0, 1) := by decide +kernel
theorem dJ2_getChar_3b067_12 : decode cJ2_getChar_3b067 12 = .ok (.invokestatic 48, 3) := by decide +kernel
theorem dJ2_getChar_3b067_15 : decode cJ2_getChar_3b067 15 = .ok (.if_icmp .lt 13, 3) := by decide +kernel
theorem dJ2_getChar_3b067_18 : decode cJ2_getChar_3b067 18 = .ok (.new 52, 3) := by decide +kernel
theorem dJ2_getChar_3b067_21 : decode cJ2_getChar_3b067 21 = .ok (.dup, 1) := by decide +kernel
theorem dJ2_getChar_3b067_22 : decode cJ2_getChar_3b067 22 = .ok (.ldc 54, 2) := by decide +kernel
theorem dJ2_getChar_3b067_24 : decode cJ2_getChar_3b067 24 = .ok (.invokespecial 56, 3) := by decide +kernel
theorem dJ2_getChar_3b067_27 : decode cJ2_getChar_3b067 27 = .ok (.athrow, 1) := by decide +kernel
theorem dJ2_getChar_3b067_28 : decode cJ2_getChar_3b067 28 = .ok (.iload_n 1, 1) := by decide +kernel
theorem dJ2_getChar_3b067_29 : decode cJ2_getChar_3b067 29 = .ok (.iconst 1, 1) := by decide +kernel
theorem dJ2_getChar_3b067_30 : decode cJ2_getChar_3b067 30 = .ok (.ishl, 1) := by decide +kernel
theorem dJ2_getChar_3b067_31 : decode cJ2_getChar_3b067 31 = .ok (.istore_n 1, 1) := by decide +kernel
theorem dJ2_getChar_3b067_32 : decode cJ2_getChar_3b067 32 = .ok (.aload_n 0, 1) := by decide +kernel
theorem dJ2_getChar_3b067_33 : decode cJ2_getChar_3b067 33 = .ok (.iload_n 1, 1) := by decide +kernel
theorem dJ2_getChar_3b067_34 : decode cJ2_getChar_3b067 34 = .ok (.iinc 1 1, 3) := by decide +kernel
theorem dJ2_getChar_3b067_37 : decode cJ2_getChar_3b067 37 = .ok (.baload, 1) := by decide +kernel
theorem dJ2_getChar_3b067_38 : decode cJ2_getChar_3b067 38 = .ok (.sipush 255, 3) := by decide +kernel
theorem dJ2_getChar_3b067_41 : decode cJ2_getChar_3b067 41 = .ok (.iand, 1) := by decide +kernel
theorem dJ2_getChar_3b067_42 : decode cJ2_getChar_3b067 42 = .ok (.getstatic 59, 3) := by decide +kernel
theorem dJ2_getChar_3b067_45 : decode cJ2_getChar_3b067 45 = .ok (.ishl, 1) := by decide +kernel
theorem dJ2_getChar_3b067_46 : decode cJ2_getChar_3b067 46 = .ok (.aload_n 0, 1) := by decide +kernel
theorem dJ2_getChar_3b067_47 : decode cJ2_getChar_3b067 47 = .ok (.iload_n 1, 1) := by decide +kernel
theorem dJ2_getChar_3b067_48 : decode cJ2_getChar_3b067 48 = .ok (.baload, 1) := by decide +kernel
theorem dJ2_getChar_3b067_49 : decode cJ2_getChar_3b067 49 = .ok (.sipush 255, 3) := by decide +kernel
theorem dJ2_getChar_3b067_52 : decode cJ2_getChar_3b067 52 = .ok (.iand, 1) := by decide +kernel
theorem dJ2_getChar_3b067_53 : decode cJ2_getChar_3b067 53 = .ok (.getstatic 63, 3) := by decide +kernel
theorem dJ2_getChar_3b067_56 : decode cJ2_getChar_3b067 56 = .ok (.ishl, 1) := by decide +kernel
theorem dJ2_getChar_3b067_57 : decode cJ2_getChar_3b067 57 = .ok (.ior, 1) := by decide +kernel
theorem dJ2_getChar_3b067_58 : decode cJ2_getChar_3b067 58 = .ok (.i2c, 1) := by decide +kernel
theorem dJ2_getChar_3b067_59 : decode cJ2_getChar_3b067 59 = .ok (.ireturn, 1) := by decide +kernel
theorem dJ2_length_9d52b_0 : decode cJ2_length_9d52b 0 = .ok (.aload_n 0, 1) := by decide +kernel
theorem dJ2_length_9d52b_1 : decode cJ2_length_9d52b 1 = .ok (.arraylength, 1) := by decide +kernel
theorem dJ2_length_9d52b_2 : decode cJ2_length_9d52b 2 = .ok (.iconst 1, 1) := by decide +kernel
theorem dJ2_length_9d52b_3 : decode cJ2_length_9d52b 3 = .ok (.ishr, 1) := by decide +kernel
theorem dJ2_length_9d52b_4 : decode cJ2_length_9d52b 4 = .ok (.ireturn, 1) := by decide +kernel
theorem dJ2_charAt_3b067_0 : decode cJ2_charAt_3b067 0 = .ok (.iload_n 1, 1) := by decide +kernel
theorem dJ2_charAt_3b067_1 : decode cJ2_charAt_3b067 1 = .ok (.aload_n 0, 1) := by decide +kernel
theorem dJ2_charAt_3b067_2 : decode cJ2_charAt_3b067 2 = .ok (.invokestatic 67, 3) := by decide +kernel
theorem dJ2_charAt_3b067_5 : decode cJ2_charAt_3b067 5 = .ok (.aload_n 0, 1) := by decide +kernel
theorem dJ2_charAt_3b067_6 : decode cJ2_charAt_3b067 6 = .ok (.iload_n 1, 1) := by decide +kernel
theorem dJ2_charAt_3b067_7 : decode cJ2_charAt_3b067 7 = .ok (.invokestatic 71, 3) := by decide +kernel
theorem dJ2_charAt_3b067_10 : decode cJ2_charAt_3b067 10 = .ok (.ireturn, 1) := by decide +kernel
theorem dJ2_checkIndex_2214a_0 : decode cJ2_checkIndex_2214a 0 = .ok (.iload_n 0, 1) := by decide +kernel
theorem dJ2_checkIndex_2214a_1 : decode cJ2_checkIndex_2214a 1 = .ok (.aload_n 1, 1) := by decide +kernel
theorem dJ2_checkIndex_2214a_2 : decode cJ2_checkIndex_2214a 2 = .ok (.invokestatic 48, 3) := by decide +kernel
theorem dJ2_checkIndex_2214a_5 : decode cJ2_checkIndex_2214a 5 = .ok (.invokestatic 414, 3) := by decide +kernel
theorem dJ2_checkIndex_2214a_8 : decode cJ2_checkIndex_2214a 8 = .ok (.return_, 1) := by decide +kernel
theorem dJ3_checkIndex_8e157_0 : decode cJ3_checkIndex_8e157 0 = .ok (.iload_n 0, 1) := by decide +kernel
theorem dJ3_checkIndex_8e157_1 : decode cJ3_checkIndex_8e157 1 = .ok (.ifCond .lt 8, 3) := by decide +kernel
theorem dJ3_checkIndex_8e157_4 : decode cJ3_checkIndex_8e157 4 = .ok (.iload_n 0, 1) := by decide +kernel
theorem dJ3_checkIndex_8e157_5 : decode cJ3_checkIndex_8e157 5 = .ok (.iload_n 1, 1) := by decide +kernel
theorem dJ3_checkIndex_8e157_6 : decode cJ3_checkIndex_8e157 6 = .ok (.if_icmp .lt 10, 3) := by decide +kernel
theorem dJ3_checkIndex_8e157_9 : decode cJ3_checkIndex_8e157 9 = .ok (.aload_n 2, 1) := by decide +kernel
theorem dJ3_checkIndex_8e157_10 : decode cJ3_checkIndex_8e157 10 = .ok (.iload_n 0, 1) := by decide +kernel
theorem dJ3_checkIndex_8e157_11 : decode cJ3_checkIndex_8e157 11 = .ok (.iload_n 1, 1) := by decide +kernel
theorem dJ3_checkIndex_8e157_12 : decode cJ3_checkIndex_8e157 12 = .ok (.invokestatic 95, 3) := by decide +kernel
theorem dJ3_checkIndex_8e157_15 : decode cJ3_checkIndex_8e157 15 = .ok (.athrow, 1) := by decide +kernel
theorem dJ3_checkIndex_8e157_16 : decode cJ3_checkIndex_8e157 16 = .ok (.iload_n 0, 1) := by decide +kernel
theorem dJ3_checkIndex_8e157_17 : decode cJ3_checkIndex_8e157 17 = .ok (.ireturn, 1) := by decide +kernel
