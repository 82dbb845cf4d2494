theorem dX0_init_0 : decode cX0_init 0 = .ok (.aload_n 0, 1) := by decide +kernel
theorem dX0_init_1 : decode cX0_init 1 = .ok (.invokespecial 3, 3) := by decide +kernel
theorem dX0_init_4 : decode cX0_init 4 = .ok (.aload_n 0, 1) := by decide +kernel
theorem dX0_init_5 : decode cX0_init 5 = .ok (.bipush 64, 2) := by decide +kernel
theorem dX0_init_7 : decode cX0_init 7 = .ok (.newarray .int, 2) := by decide +kernel
theorem dX0_init_9 : decode cX0_init 9 = .ok (.putfield 11, 3) := by decide +kernel
theorem dX0_init_12 : decode cX0_init 12 = .ok (.aload_n 0, 1) := by decide +kernel
theorem dX0_init_13 : decode cX0_init 13 = .ok (.bipush 64, 2) := by decide +kernel
theorem dX0_init_15 : decode cX0_init 15 = .ok (.newarray .int, 2) := by decide +kernel
theorem dX0_init_17 : decode cX0_init 17 = .ok (.putfield 17, 3) := by decide +kernel
theorem dX0_init_20 : decode cX0_init 20 = .ok (.aload_n 0, 1) := by decide +kernel
theorem dX0_init_21 : decode cX0_init 21 = .ok (.lconst 0, 1) := by decide +kernel
theorem dX0_init_22 : decode cX0_init 22 = .ok (.putfield 20, 3) := by decide +kernel
theorem dX0_init_25 : decode cX0_init 25 = .ok (.return_, 1) := by decide +kernel
theorem dX0_hasTile_0 : decode cX0_hasTile 0 = .ok (.iload_n 1, 1) := by decide +kernel
theorem dX0_hasTile_1 : decode cX0_hasTile 1 = .ok (.ifCond .lt 26, 3) := by decide +kernel
theorem dX0_hasTile_4 : decode cX0_hasTile 4 = .ok (.iload_n 1, 1) := by decide +kernel
theorem dX0_hasTile_5 : decode cX0_hasTile 5 = .ok (.bipush 64, 2) := by decide +kernel
theorem dX0_hasTile_7 : decode cX0_hasTile 7 = .ok (.if_icmp .ge 20, 3) := by decide +kernel
theorem dX0_hasTile_10 : decode cX0_hasTile 10 = .ok (.aload_n 0, 1) := by decide +kernel
theorem dX0_hasTile_11 : decode cX0_hasTile 11 = .ok (.getfield 20, 3) := by decide +kernel
theorem dX0_hasTile_14 : decode cX0_hasTile 14 = .ok (.iload_n 1, 1) := by decide +kernel
theorem dX0_hasTile_15 : decode cX0_hasTile 15 = .ok (.lushr, 1) := by decide +kernel
theorem dX0_hasTile_16 : decode cX0_hasTile 16 = .ok (.lconst 1, 1) := by decide +kernel
theorem dX0_hasTile_17 : decode cX0_hasTile 17 = .ok (.land, 1) := by decide +kernel
theorem dX0_hasTile_18 : decode cX0_hasTile 18 = .ok (.lconst 0, 1) := by decide +kernel
theorem dX0_hasTile_19 : decode cX0_hasTile 19 = .ok (.lcmp, 1) := by decide +kernel
theorem dX0_hasTile_20 : decode cX0_hasTile 20 = .ok (.ifCond .eq 7, 3) := by decide +kernel
theorem dX0_hasTile_23 : decode cX0_hasTile 23 = .ok (.iconst 1, 1) := by decide +kernel
theorem dX0_hasTile_24 : decode cX0_hasTile 24 = .ok (.goto 4, 3) := by decide +kernel
theorem dX0_hasTile_27 : decode cX0_hasTile 27 = .ok (.iconst 0, 1) := by decide +kernel
theorem dX0_hasTile_28 : decode cX0_hasTile 28 = .ok (.ireturn, 1) := by decide +kernel
theorem dX0_letter_0 : decode cX0_letter 0 = .ok (.aload_n 0, 1) := by decide +kernel
theorem dX0_letter_1 : decode cX0_letter 1 = .ok (.iload_n 1, 1) := by decide +kernel
theorem dX0_letter_2 : decode cX0_letter 2 = .ok (.invokevirtual 24, 3) := by decide +kernel
theorem dX0_letter_5 : decode cX0_letter 5 = .ok (.ifCond .eq 12, 3) := by decide +kernel
theorem dX0_letter_8 : decode cX0_letter 8 = .ok (.aload_n 0, 1) := by decide +kernel
theorem dX0_letter_9 : decode cX0_letter 9 = .ok (.getfield 11, 3) := by decide +kernel
theorem dX0_letter_12 : decode cX0_letter 12 = .ok (.iload_n 1, 1) := by decide +kernel
theorem dX0_letter_13 : decode cX0_letter 13 = .ok (.iaload, 1) := by decide +kernel
theorem dX0_letter_14 : decode cX0_letter 14 = .ok (.goto 4, 3) := by decide +kernel
theorem dX0_letter_17 : decode cX0_letter 17 = .ok (.iconst (-1), 1) := by decide +kernel
theorem dX0_letter_18 : decode cX0_letter 18 = .ok (.ireturn, 1) := by decide +kernel
theorem dX0_premium_0 : decode cX0_premium 0 = .ok (.iload_n 1, 1) := by decide +kernel
theorem dX0_premium_1 : decode cX0_premium 1 = .ok (.ifCond .lt 18, 3) := by decide +kernel
theorem dX0_premium_4 : decode cX0_premium 4 = .ok (.iload_n 1, 1) := by decide +kernel
theorem dX0_premium_5 : decode cX0_premium 5 = .ok (.bipush 64, 2) := by decide +kernel
theorem dX0_premium_7 : decode cX0_premium 7 = .ok (.if_icmp .ge 12, 3) := by decide +kernel
theorem dX0_premium_10 : decode cX0_premium 10 = .ok (.aload_n 0, 1) := by decide +kernel
theorem dX0_premium_11 : decode cX0_premium 11 = .ok (.getfield 17, 3) := by decide +kernel
theorem dX0_premium_14 : decode cX0_premium 14 = .ok (.iload_n 1, 1) := by decide +kernel
theorem dX0_premium_15 : decode cX0_premium 15 = .ok (.iaload, 1) := by decide +kernel
theorem dX0_premium_16 : decode cX0_premium 16 = .ok (.goto 4, 3) := by decide +kernel
theorem dX0_premium_19 : decode cX0_premium 19 = .ok (.iconst 0, 1) := by decide +kernel
theorem dX0_premium_20 : decode cX0_premium 20 = .ok (.ireturn, 1) := by decide +kernel
theorem dX0_changePremium_0 : decode cX0_changePremium 0 = .ok (.iload_n 1, 1) := by decide +kernel
theorem dX0_changePremium_1 : decode cX0_changePremium 1 = .ok (.ifCond .lt 16, 3) := by decide +kernel
theorem dX0_changePremium_4 : decode cX0_changePremium 4 = .ok (.iload_n 1, 1) := by decide +kernel
theorem dX0_changePremium_5 : decode cX0_changePremium 5 = .ok (.bipush 64, 2) := by decide +kernel
theorem dX0_changePremium_7 : decode cX0_changePremium 7 = .ok (.if_icmp .ge 10, 3) := by decide +kernel
theorem dX0_changePremium_10 : decode cX0_changePremium 10 = .ok (.aload_n 0, 1) := by decide +kernel
theorem dX0_changePremium_11 : decode cX0_changePremium 11 = .ok (.getfield 17, 3) := by decide +kernel
theorem dX0_changePremium_14 : decode cX0_changePremium 14 = .ok (.iload_n 1, 1) := by decide +kernel
theorem dX0_changePremium_15 : decode cX0_changePremium 15 = .ok (.iload_n 2, 1) := by decide +kernel
theorem dX0_changePremium_16 : decode cX0_changePremium 16 = .ok (.iastore, 1) := by decide +kernel
theorem dX0_changePremium_17 : decode cX0_changePremium 17 = .ok (.return_, 1) := by decide +kernel
theorem dX0_put_0 : decode cX0_put 0 = .ok (.iload_n 1, 1) := by decide +kernel
theorem dX0_put_1 : decode cX0_put 1 = .ok (.ifCond .lt 9, 3) := by decide +kernel
theorem dX0_put_4 : decode cX0_put 4 = .ok (.iload_n 1, 1) := by decide +kernel
theorem dX0_put_5 : decode cX0_put 5 = .ok (.bipush 64, 2) := by decide +kernel
theorem dX0_put_7 : decode cX0_put 7 = .ok (.if_icmp .lt 4, 3) := by decide +kernel
theorem dX0_put_10 : decode cX0_put 10 = .ok (.return_, 1) := by decide +kernel
theorem dX0_put_11 : decode cX0_put 11 = .ok (.iload_n 2, 1) := by decide +kernel
theorem dX0_put_12 : decode cX0_put 12 = .ok (.iconst (-1), 1) := by decide +kernel
theorem dX0_put_13 : decode cX0_put 13 = .ok (.if_icmp .ne 13, 3) := by decide +kernel
theorem dX0_put_16 : decode cX0_put 16 = .ok (.aload_n 0, 1) := by decide +kernel
theorem dX0_put_17 : decode cX0_put 17 = .ok (.lconst 1, 1) := by decide +kernel
theorem dX0_put_18 : decode cX0_put 18 = .ok (.iload_n 1, 1) := by decide +kernel
theorem dX0_put_19 : decode cX0_put 19 = .ok (.lshl, 1) := by decide +kernel
theorem dX0_put_20 : decode cX0_put 20 = .ok (.invokevirtual 28, 3) := by decide +kernel
theorem dX0_put_23 : decode cX0_put 23 = .ok (.goto 22, 3) := by decide +kernel
theorem dX0_put_26 : decode cX0_put 26 = .ok (.aload_n 0, 1) := by decide +kernel
theorem dX0_put_27 : decode cX0_put 27 = .ok (.getfield 11, 3) := by decide +kernel
theorem dX0_put_30 : decode cX0_put 30 = .ok (.iload_n 1, 1) := by decide +kernel
theorem dX0_put_31 : decode cX0_put 31 = .ok (.iload_n 2, 1) := by decide +kernel
theorem dX0_put_32 : decode cX0_put 32 = .ok (.iastore, 1) := by decide +kernel
theorem dX0_put_33 : decode cX0_put 33 = .ok (.aload_n 0, 1) := by decide +kernel
theorem dX0_put_34 : decode cX0_put 34 = .ok (.dup, 1) := by decide +kernel
theorem dX0_put_35 : decode cX0_put 35 = .ok (.getfield 20, 3) := by decide +kernel
theorem dX0_put_38 : decode cX0_put 38 = .ok (.lconst 1, 1) := by decide +kernel
theorem dX0_put_39 : decode cX0_put 39 = .ok (.iload_n 1, 1) := by decide +kernel
theorem dX0_put_40 : decode cX0_put 40 = .ok (.lshl, 1) := by decide +kernel
theorem dX0_put_41 : decode cX0_put 41 = .ok (.lor, 1) := by decide +kernel
theorem dX0_put_42 : decode cX0_put 42 = .ok (.putfield 20, 3) := by decide +kernel
theorem dX0_put_45 : decode cX0_put 45 = .ok (.return_, 1) := by decide +kernel
theorem dX0_takeAway_0 : decode cX0_takeAway 0 = .ok (.aload_n 0, 1) := by decide +kernel
theorem dX0_takeAway_1 : decode cX0_takeAway 1 = .ok (.dup, 1) := by decide +kernel
theorem dX0_takeAway_2 : decode cX0_takeAway 2 = .ok (.getfield 20, 3) := by decide +kernel
theorem dX0_takeAway_5 : decode cX0_takeAway 5 = .ok (.lload_n 1, 1) := by decide +kernel
theorem dX0_takeAway_6 : decode cX0_takeAway 6 = .ok (.ldc2_w 32, 3) := by decide +kernel
theorem dX0_takeAway_9 : decode cX0_takeAway 9 = .ok (.lxor, 1) := by decide +kernel
theorem dX0_takeAway_10 : decode cX0_takeAway 10 = .ok (.land, 1) := by decide +kernel
theorem dX0_takeAway_11 : decode cX0_takeAway 11 = .ok (.putfield 20, 3) := by decide +kernel
theorem dX0_takeAway_14 : decode cX0_takeAway 14 = .ok (.return_, 1) := by decide +kernel
theorem dX0_emptyOf_0 : decode cX0_emptyOf 0 = .ok (.lload_n 1, 1) := by decide +kernel
theorem dX0_emptyOf_1 : decode cX0_emptyOf 1 = .ok (.aload_n 0, 1) := by decide +kernel
theorem dX0_emptyOf_2 : decode cX0_emptyOf 2 = .ok (.getfield 20, 3) := by decide +kernel
theorem dX0_emptyOf_5 : decode cX0_emptyOf 5 = .ok (.ldc2_w 32, 3) := by decide +kernel
theorem dX0_emptyOf_8 : decode cX0_emptyOf 8 = .ok (.lxor, 1) := by decide +kernel
theorem dX0_emptyOf_9 : decode cX0_emptyOf 9 = .ok (.land, 1) := by decide +kernel
theorem dX0_emptyOf_10 : decode cX0_emptyOf 10 = .ok (.lreturn, 1) := by decide +kernel
theorem dX0_connects_0 : decode cX0_connects 0 = .ok (.aload_n 0, 1) := by decide +kernel
theorem dX0_connects_1 : decode cX0_connects 1 = .ok (.getfield 20, 3) := by decide +kernel
theorem dX0_connects_4 : decode cX0_connects 4 = .ok (.lconst 0, 1) := by decide +kernel
theorem dX0_connects_5 : decode cX0_connects 5 = .ok (.lcmp, 1) := by decide +kernel
theorem dX0_connects_6 : decode cX0_connects 6 = .ok (.ifCond .ne 19, 3) := by decide +kernel
theorem dX0_connects_9 : decode cX0_connects 9 = .ok (.lload_n 1, 1) := by decide +kernel
theorem dX0_connects_10 : decode cX0_connects 10 = .ok (.ldc2_w 34, 3) := by decide +kernel
theorem dX0_connects_13 : decode cX0_connects 13 = .ok (.land, 1) := by decide +kernel
theorem dX0_connects_14 : decode cX0_connects 14 = .ok (.lconst 0, 1) := by decide +kernel
theorem dX0_connects_15 : decode cX0_connects 15 = .ok (.lcmp, 1) := by decide +kernel
theorem dX0_connects_16 : decode cX0_connects 16 = .ok (.ifCond .eq 7, 3) := by decide +kernel
theorem dX0_connects_19 : decode cX0_connects 19 = .ok (.iconst 1, 1) := by decide +kernel
theorem dX0_connects_20 : decode cX0_connects 20 = .ok (.goto 4, 3) := by decide +kernel
theorem dX0_connects_23 : decode cX0_connects 23 = .ok (.iconst 0, 1) := by decide +kernel
theorem dX0_connects_24 : decode cX0_connects 24 = .ok (.ireturn, 1) := by decide +kernel
theorem dX0_connects_25 : decode cX0_connects 25 = .ok (.aload_n 0, 1) := by decide +kernel
theorem dX0_connects_26 : decode cX0_connects 26 = .ok (.getfield 20, 3) := by decide +kernel
theorem dX0_connects_29 : decode cX0_connects 29 = .ok (.aload_n 0, 1) := by decide +kernel
theorem dX0_connects_30 : decode cX0_connects 30 = .ok (.getfield 20, 3) := by decide +kernel
theorem dX0_connects_33 : decode cX0_connects 33 = .ok (.iload_n 3, 1) := by decide +kernel
theorem dX0_connects_34 : decode cX0_connects 34 = .ok (.lshl, 1) := by decide +kernel
theorem dX0_connects_35 : decode cX0_connects 35 = .ok (.lor, 1) := by decide +kernel
theorem dX0_connects_36 : decode cX0_connects 36 = .ok (.aload_n 0, 1) := by decide +kernel
theorem dX0_connects_37 : decode cX0_connects 37 = .ok (.getfield 20, 3) := by decide +kernel
theorem dX0_connects_40 : decode cX0_connects 40 = .ok (.iload_n 3, 1) := by decide +kernel
theorem dX0_connects_41 : decode cX0_connects 41 = .ok (.lushr, 1) := by decide +kernel
theorem dX0_connects_42 : decode cX0_connects 42 = .ok (.lor, 1) := by decide +kernel
theorem dX0_connects_43 : decode cX0_connects 43 = .ok (.lstore 4, 2) := by decide +kernel
theorem dX0_connects_45 : decode cX0_connects 45 = .ok (.lload_n 1, 1) := by decide +kernel
theorem dX0_connects_46 : decode cX0_connects 46 = .ok (.lload 4, 2) := by decide +kernel
theorem dX0_connects_48 : decode cX0_connects 48 = .ok (.land, 1) := by decide +kernel
theorem dX0_connects_49 : decode cX0_connects 49 = .ok (.lconst 0, 1) := by decide +kernel
theorem dX0_connects_50 : decode cX0_connects 50 = .ok (.lcmp, 1) := by decide +kernel
theorem dX0_connects_51 : decode cX0_connects 51 = .ok (.ifCond .eq 7, 3) := by decide +kernel
theorem dX0_connects_54 : decode cX0_connects 54 = .ok (.iconst 1, 1) := by decide +kernel
theorem dX0_connects_55 : decode cX0_connects 55 = .ok (.goto 4, 3) := by decide +kernel
theorem dX0_connects_58 : decode cX0_connects 58 = .ok (.iconst 0, 1) := by decide +kernel
theorem dX0_connects_59 : decode cX0_connects 59 = .ok (.ireturn, 1) := by decide +kernel
theorem dX0_anchorSquares_0 : decode cX0_anchorSquares 0 = .ok (.aload_n 0, 1) := by decide +kernel
theorem dX0_anchorSquares_1 : decode cX0_anchorSquares 1 = .ok (.getfield 20, 3) := by decide +kernel
theorem dX0_anchorSquares_4 : decode cX0_anchorSquares 4 = .ok (.lconst 0, 1) := by decide +kernel
theorem dX0_anchorSquares_5 : decode cX0_anchorSquares 5 = .ok (.lcmp, 1) := by decide +kernel
theorem dX0_anchorSquares_6 : decode cX0_anchorSquares 6 = .ok (.ifCond .ne 7, 3) := by decide +kernel
theorem dX0_anchorSquares_9 : decode cX0_anchorSquares 9 = .ok (.ldc2_w 34, 3) := by decide +kernel
theorem dX0_anchorSquares_12 : decode cX0_anchorSquares 12 = .ok (.lreturn, 1) := by decide +kernel
theorem dX0_anchorSquares_13 : decode cX0_anchorSquares 13 = .ok (.aload_n 0, 1) := by decide +kernel
theorem dX0_anchorSquares_14 : decode cX0_anchorSquares 14 = .ok (.getfield 20, 3) := by decide +kernel
theorem dX0_anchorSquares_17 : decode cX0_anchorSquares 17 = .ok (.iconst 1, 1) := by decide +kernel
theorem dX0_anchorSquares_18 : decode cX0_anchorSquares 18 = .ok (.lshl, 1) := by decide +kernel
theorem dX0_anchorSquares_19 : decode cX0_anchorSquares 19 = .ok (.aload_n 0, 1) := by decide +kernel
theorem dX0_anchorSquares_20 : decode cX0_anchorSquares 20 = .ok (.getfield 20, 3) := by decide +kernel
theorem dX0_anchorSquares_23 : decode cX0_anchorSquares 23 = .ok (.iconst 1, 1) := by decide +kernel
theorem dX0_anchorSquares_24 : decode cX0_anchorSquares 24 = .ok (.lushr, 1) := by decide +kernel
theorem dX0_anchorSquares_25 : decode cX0_anchorSquares 25 = .ok (.lor, 1) := by decide +kernel
theorem dX0_anchorSquares_26 : decode cX0_anchorSquares 26 = .ok (.lstore_n 1, 1) := by decide +kernel
theorem dX0_anchorSquares_27 : decode cX0_anchorSquares 27 = .ok (.aload_n 0, 1) := by decide +kernel
theorem dX0_anchorSquares_28 : decode cX0_anchorSquares 28 = .ok (.getfield 20, 3) := by decide +kernel
theorem dX0_anchorSquares_31 : decode cX0_anchorSquares 31 = .ok (.bipush 8, 2) := by decide +kernel
theorem dX0_anchorSquares_33 : decode cX0_anchorSquares 33 = .ok (.lshl, 1) := by decide +kernel
theorem dX0_anchorSquares_34 : decode cX0_anchorSquares 34 = .ok (.aload_n 0, 1) := by decide +kernel
theorem dX0_anchorSquares_35 : decode cX0_anchorSquares 35 = .ok (.getfield 20, 3) := by decide +kernel
theorem dX0_anchorSquares_38 : decode cX0_anchorSquares 38 = .ok (.bipush 8, 2) := by decide +kernel
theorem dX0_anchorSquares_40 : decode cX0_anchorSquares 40 = .ok (.lushr, 1) := by decide +kernel
theorem dX0_anchorSquares_41 : decode cX0_anchorSquares 41 = .ok (.lor, 1) := by decide +kernel
theorem dX0_anchorSquares_42 : decode cX0_anchorSquares 42 = .ok (.lstore_n 3, 1) := by decide +kernel
theorem dX0_anchorSquares_43 : decode cX0_anchorSquares 43 = .ok (.aload_n 0, 1) := by decide +kernel
theorem dX0_anchorSquares_44 : decode cX0_anchorSquares 44 = .ok (.lload_n 1, 1) := by decide +kernel
theorem dX0_anchorSquares_45 : decode cX0_anchorSquares 45 = .ok (.lload_n 3, 1) := by decide +kernel
theorem dX0_anchorSquares_46 : decode cX0_anchorSquares 46 = .ok (.lor, 1) := by decide +kernel
theorem dX0_anchorSquares_47 : decode cX0_anchorSquares 47 = .ok (.ldc2_w 36, 3) := by decide +kernel
theorem dX0_anchorSquares_50 : decode cX0_anchorSquares 50 = .ok (.land, 1) := by decide +kernel
theorem dX0_anchorSquares_51 : decode cX0_anchorSquares 51 = .ok (.invokevirtual 38, 3) := by decide +kernel
theorem dX0_anchorSquares_54 : decode cX0_anchorSquares 54 = .ok (.lreturn, 1) := by decide +kernel
theorem dX0_wordThrough_0 : decode cX0_wordThrough 0 = .ok (.iload_n 1, 1) := by decide +kernel
theorem dX0_wordThrough_1 : decode cX0_wordThrough 1 = .ok (.istore 4, 2) := by decide +kernel
theorem dX0_wordThrough_3 : decode cX0_wordThrough 3 = .ok (.iconst 0, 1) := by decide +kernel
theorem dX0_wordThrough_4 : decode cX0_wordThrough 4 = .ok (.istore 5, 2) := by decide +kernel
theorem dX0_wordThrough_6 : decode cX0_wordThrough 6 = .ok (.iload 5, 2) := by decide +kernel
theorem dX0_wordThrough_8 : decode cX0_wordThrough 8 = .ok (.bipush 7, 2) := by decide +kernel
theorem dX0_wordThrough_10 : decode cX0_wordThrough 10 = .ok (.if_icmp .ge 26, 3) := by decide +kernel
theorem dX0_wordThrough_13 : decode cX0_wordThrough 13 = .ok (.aload_n 0, 1) := by decide +kernel
theorem dX0_wordThrough_14 : decode cX0_wordThrough 14 = .ok (.iload 4, 2) := by decide +kernel
theorem dX0_wordThrough_16 : decode cX0_wordThrough 16 = .ok (.iload_n 3, 1) := by decide +kernel
theorem dX0_wordThrough_17 : decode cX0_wordThrough 17 = .ok (.isub, 1) := by decide +kernel
theorem dX0_wordThrough_18 : decode cX0_wordThrough 18 = .ok (.invokevirtual 24, 3) := by decide +kernel
theorem dX0_wordThrough_21 : decode cX0_wordThrough 21 = .ok (.ifCond .eq 15, 3) := by decide +kernel
theorem dX0_wordThrough_24 : decode cX0_wordThrough 24 = .ok (.iload 4, 2) := by decide +kernel
theorem dX0_wordThrough_26 : decode cX0_wordThrough 26 = .ok (.iload_n 3, 1) := by decide +kernel
theorem dX0_wordThrough_27 : decode cX0_wordThrough 27 = .ok (.isub, 1) := by decide +kernel
theorem dX0_wordThrough_28 : decode cX0_wordThrough 28 = .ok (.istore 4, 2) := by decide +kernel
theorem dX0_wordThrough_30 : decode cX0_wordThrough 30 = .ok (.iinc 5 1, 3) := by decide +kernel
theorem dX0_wordThrough_33 : decode cX0_wordThrough 33 = .ok (.goto (-27), 3) := by decide +kernel
theorem dX0_wordThrough_36 : decode cX0_wordThrough 36 = .ok (.iconst 0, 1) := by decide +kernel
theorem dX0_wordThrough_37 : decode cX0_wordThrough 37 = .ok (.istore 5, 2) := by decide +kernel
theorem dX0_wordThrough_39 : decode cX0_wordThrough 39 = .ok (.iconst 0, 1) := by decide +kernel
theorem dX0_wordThrough_40 : decode cX0_wordThrough 40 = .ok (.istore 6, 2) := by decide +kernel
theorem dX0_wordThrough_42 : decode cX0_wordThrough 42 = .ok (.iload 6, 2) := by decide +kernel
theorem dX0_wordThrough_44 : decode cX0_wordThrough 44 = .ok (.bipush 7, 2) := by decide +kernel
theorem dX0_wordThrough_46 : decode cX0_wordThrough 46 = .ok (.if_icmp .ge 53, 3) := by decide +kernel
theorem dX0_wordThrough_49 : decode cX0_wordThrough 49 = .ok (.iload 4, 2) := by decide +kernel
theorem dX0_wordThrough_51 : decode cX0_wordThrough 51 = .ok (.iload_n 1, 1) := by decide +kernel
theorem dX0_wordThrough_52 : decode cX0_wordThrough 52 = .ok (.if_icmp .eq 12, 3) := by decide +kernel
theorem dX0_wordThrough_55 : decode cX0_wordThrough 55 = .ok (.aload_n 0, 1) := by decide +kernel
theorem dX0_wordThrough_56 : decode cX0_wordThrough 56 = .ok (.iload 4, 2) := by decide +kernel
theorem dX0_wordThrough_58 : decode cX0_wordThrough 58 = .ok (.invokevirtual 24, 3) := by decide +kernel
theorem dX0_wordThrough_61 : decode cX0_wordThrough 61 = .ok (.ifCond .eq 38, 3) := by decide +kernel
theorem dX0_wordThrough_64 : decode cX0_wordThrough 64 = .ok (.iload 5, 2) := by decide +kernel
theorem dX0_wordThrough_66 : decode cX0_wordThrough 66 = .ok (.iload 4, 2) := by decide +kernel
theorem dX0_wordThrough_68 : decode cX0_wordThrough 68 = .ok (.iload_n 1, 1) := by decide +kernel
theorem dX0_wordThrough_69 : decode cX0_wordThrough 69 = .ok (.if_icmp .ne 7, 3) := by decide +kernel
theorem dX0_wordThrough_72 : decode cX0_wordThrough 72 = .ok (.iload_n 2, 1) := by decide +kernel
theorem dX0_wordThrough_73 : decode cX0_wordThrough 73 = .ok (.goto 9, 3) := by decide +kernel
theorem dX0_wordThrough_76 : decode cX0_wordThrough 76 = .ok (.aload_n 0, 1) := by decide +kernel
theorem dX0_wordThrough_77 : decode cX0_wordThrough 77 = .ok (.iload 4, 2) := by decide +kernel
theorem dX0_wordThrough_79 : decode cX0_wordThrough 79 = .ok (.invokevirtual 44, 3) := by decide +kernel
theorem dX0_wordThrough_82 : decode cX0_wordThrough 82 = .ok (.invokestatic 48, 3) := by decide +kernel
theorem dX0_wordThrough_85 : decode cX0_wordThrough 85 = .ok (.istore 5, 2) := by decide +kernel
theorem dX0_wordThrough_87 : decode cX0_wordThrough 87 = .ok (.iload 4, 2) := by decide +kernel
theorem dX0_wordThrough_89 : decode cX0_wordThrough 89 = .ok (.iload_n 3, 1) := by decide +kernel
theorem dX0_wordThrough_90 : decode cX0_wordThrough 90 = .ok (.iadd, 1) := by decide +kernel
theorem dX0_wordThrough_91 : decode cX0_wordThrough 91 = .ok (.istore 4, 2) := by decide +kernel
theorem dX0_wordThrough_93 : decode cX0_wordThrough 93 = .ok (.iinc 6 1, 3) := by decide +kernel
theorem dX0_wordThrough_96 : decode cX0_wordThrough 96 = .ok (.goto (-54), 3) := by decide +kernel
theorem dX0_wordThrough_99 : decode cX0_wordThrough 99 = .ok (.iload 5, 2) := by decide +kernel
theorem dX0_wordThrough_101 : decode cX0_wordThrough 101 = .ok (.ireturn, 1) := by decide +kernel
theorem dX0_copyFrom_0 : decode cX0_copyFrom 0 = .ok (.aload_n 1, 1) := by decide +kernel
theorem dX0_copyFrom_1 : decode cX0_copyFrom 1 = .ok (.getfield 11, 3) := by decide +kernel
theorem dX0_copyFrom_4 : decode cX0_copyFrom 4 = .ok (.iconst 0, 1) := by decide +kernel
theorem dX0_copyFrom_5 : decode cX0_copyFrom 5 = .ok (.aload_n 0, 1) := by decide +kernel
theorem dX0_copyFrom_6 : decode cX0_copyFrom 6 = .ok (.getfield 11, 3) := by decide +kernel
theorem dX0_copyFrom_9 : decode cX0_copyFrom 9 = .ok (.iconst 0, 1) := by decide +kernel
theorem dX0_copyFrom_10 : decode cX0_copyFrom 10 = .ok (.bipush 64, 2) := by decide +kernel
theorem dX0_copyFrom_12 : decode cX0_copyFrom 12 = .ok (.invokestatic 52, 3) := by decide +kernel
theorem dX0_copyFrom_15 : decode cX0_copyFrom 15 = .ok (.aload_n 1, 1) := by decide +kernel
theorem dX0_copyFrom_16 : decode cX0_copyFrom 16 = .ok (.getfield 17, 3) := by decide +kernel
theorem dX0_copyFrom_19 : decode cX0_copyFrom 19 = .ok (.iconst 0, 1) := by decide +kernel
theorem dX0_copyFrom_20 : decode cX0_copyFrom 20 = .ok (.aload_n 0, 1) := by decide +kernel
theorem dX0_copyFrom_21 : decode cX0_copyFrom 21 = .ok (.getfield 17, 3) := by decide +kernel
theorem dX0_copyFrom_24 : decode cX0_copyFrom 24 = .ok (.iconst 0, 1) := by decide +kernel
theorem dX0_copyFrom_25 : decode cX0_copyFrom 25 = .ok (.bipush 64, 2) := by decide +kernel
theorem dX0_copyFrom_27 : decode cX0_copyFrom 27 = .ok (.invokestatic 52, 3) := by decide +kernel
theorem dX0_copyFrom_30 : decode cX0_copyFrom 30 = .ok (.aload_n 0, 1) := by decide +kernel
theorem dX0_copyFrom_31 : decode cX0_copyFrom 31 = .ok (.aload_n 1, 1) := by decide +kernel
theorem dX0_copyFrom_32 : decode cX0_copyFrom 32 = .ok (.getfield 20, 3) := by decide +kernel
theorem dX0_copyFrom_35 : decode cX0_copyFrom 35 = .ok (.putfield 20, 3) := by decide +kernel
theorem dX0_copyFrom_38 : decode cX0_copyFrom 38 = .ok (.return_, 1) := by decide +kernel
theorem dX1_init_0 : decode cX1_init 0 = .ok (.aload_n 0, 1) := by decide +kernel
theorem dX1_init_1 : decode cX1_init 1 = .ok (.invokespecial 3, 3) := by decide +kernel
theorem dX1_init_4 : decode cX1_init 4 = .ok (.aload_n 0, 1) := by decide +kernel
theorem dX1_init_5 : decode cX1_init 5 = .ok (.bipush 30, 2) := by decide +kernel
theorem dX1_init_7 : decode cX1_init 7 = .ok (.newarray .int, 2) := by decide +kernel
theorem dX1_init_9 : decode cX1_init 9 = .ok (.putfield 11, 3) := by decide +kernel
theorem dX1_init_12 : decode cX1_init 12 = .ok (.aload_n 0, 1) := by decide +kernel
theorem dX1_init_13 : decode cX1_init 13 = .ok (.iconst 0, 1) := by decide +kernel
theorem dX1_init_14 : decode cX1_init 14 = .ok (.putfield 15, 3) := by decide +kernel
theorem dX1_init_17 : decode cX1_init 17 = .ok (.return_, 1) := by decide +kernel
theorem dX1_size_0 : decode cX1_size 0 = .ok (.aload_n 0, 1) := by decide +kernel
theorem dX1_size_1 : decode cX1_size 1 = .ok (.getfield 15, 3) := by decide +kernel
theorem dX1_size_4 : decode cX1_size 4 = .ok (.ireturn, 1) := by decide +kernel
theorem dX1_isFull_0 : decode cX1_isFull 0 = .ok (.aload_n 0, 1) := by decide +kernel
theorem dX1_isFull_1 : decode cX1_isFull 1 = .ok (.getfield 15, 3) := by decide +kernel
theorem dX1_isFull_4 : decode cX1_isFull 4 = .ok (.bipush 30, 2) := by decide +kernel
theorem dX1_isFull_6 : decode cX1_isFull 6 = .ok (.if_icmp .lt 7, 3) := by decide +kernel
theorem dX1_isFull_9 : decode cX1_isFull 9 = .ok (.iconst 1, 1) := by decide +kernel
theorem dX1_isFull_10 : decode cX1_isFull 10 = .ok (.goto 4, 3) := by decide +kernel
theorem dX1_isFull_13 : decode cX1_isFull 13 = .ok (.iconst 0, 1) := by decide +kernel
theorem dX1_isFull_14 : decode cX1_isFull 14 = .ok (.ireturn, 1) := by decide +kernel
theorem dX1_word_0 : decode cX1_word 0 = .ok (.iload_n 1, 1) := by decide +kernel
theorem dX1_word_1 : decode cX1_word 1 = .ok (.ifCond .lt 20, 3) := by decide +kernel
theorem dX1_word_4 : decode cX1_word 4 = .ok (.iload_n 1, 1) := by decide +kernel
theorem dX1_word_5 : decode cX1_word 5 = .ok (.aload_n 0, 1) := by decide +kernel
theorem dX1_word_6 : decode cX1_word 6 = .ok (.getfield 15, 3) := by decide +kernel
theorem dX1_word_9 : decode cX1_word 9 = .ok (.if_icmp .ge 12, 3) := by decide +kernel
theorem dX1_word_12 : decode cX1_word 12 = .ok (.aload_n 0, 1) := by decide +kernel
theorem dX1_word_13 : decode cX1_word 13 = .ok (.getfield 11, 3) := by decide +kernel
theorem dX1_word_16 : decode cX1_word 16 = .ok (.iload_n 1, 1) := by decide +kernel
theorem dX1_word_17 : decode cX1_word 17 = .ok (.iaload, 1) := by decide +kernel
theorem dX1_word_18 : decode cX1_word 18 = .ok (.goto 4, 3) := by decide +kernel
theorem dX1_word_21 : decode cX1_word 21 = .ok (.iconst 0, 1) := by decide +kernel
theorem dX1_word_22 : decode cX1_word 22 = .ok (.ireturn, 1) := by decide +kernel
theorem dX1_numberOf_0 : decode cX1_numberOf 0 = .ok (.iconst 0, 1) := by decide +kernel
theorem dX1_numberOf_1 : decode cX1_numberOf 1 = .ok (.istore_n 2, 1) := by decide +kernel
theorem dX1_numberOf_2 : decode cX1_numberOf 2 = .ok (.iload_n 2, 1) := by decide +kernel
theorem dX1_numberOf_3 : decode cX1_numberOf 3 = .ok (.aload_n 0, 1) := by decide +kernel
theorem dX1_numberOf_4 : decode cX1_numberOf 4 = .ok (.getfield 15, 3) := by decide +kernel
theorem dX1_numberOf_7 : decode cX1_numberOf 7 = .ok (.if_icmp .ge 21, 3) := by decide +kernel
theorem dX1_numberOf_10 : decode cX1_numberOf 10 = .ok (.aload_n 0, 1) := by decide +kernel
theorem dX1_numberOf_11 : decode cX1_numberOf 11 = .ok (.getfield 11, 3) := by decide +kernel
theorem dX1_numberOf_14 : decode cX1_numberOf 14 = .ok (.iload_n 2, 1) := by decide +kernel
theorem dX1_numberOf_15 : decode cX1_numberOf 15 = .ok (.iaload, 1) := by decide +kernel
theorem dX1_numberOf_16 : decode cX1_numberOf 16 = .ok (.iload_n 1, 1) := by decide +kernel
theorem dX1_numberOf_17 : decode cX1_numberOf 17 = .ok (.if_icmp .ne 5, 3) := by decide +kernel
theorem dX1_numberOf_20 : decode cX1_numberOf 20 = .ok (.iload_n 2, 1) := by decide +kernel
theorem dX1_numberOf_21 : decode cX1_numberOf 21 = .ok (.ireturn, 1) := by decide +kernel
theorem dX1_numberOf_22 : decode cX1_numberOf 22 = .ok (.iinc 2 1, 3) := by decide +kernel
theorem dX1_numberOf_25 : decode cX1_numberOf 25 = .ok (.goto (-23), 3) := by decide +kernel
theorem dX1_numberOf_28 : decode cX1_numberOf 28 = .ok (.iconst (-1), 1) := by decide +kernel
theorem dX1_numberOf_29 : decode cX1_numberOf 29 = .ok (.ireturn, 1) := by decide +kernel
theorem dX1_add_0 : decode cX1_add 0 = .ok (.aload_n 0, 1) := by decide +kernel
theorem dX1_add_1 : decode cX1_add 1 = .ok (.invokevirtual 21, 3) := by decide +kernel
theorem dX1_add_4 : decode cX1_add 4 = .ok (.ifCond .ne 12, 3) := by decide +kernel
theorem dX1_add_7 : decode cX1_add 7 = .ok (.aload_n 0, 1) := by decide +kernel
theorem dX1_add_8 : decode cX1_add 8 = .ok (.iload_n 1, 1) := by decide +kernel
theorem dX1_add_9 : decode cX1_add 9 = .ok (.invokevirtual 25, 3) := by decide +kernel
theorem dX1_add_12 : decode cX1_add 12 = .ok (.iconst (-1), 1) := by decide +kernel
theorem dX1_add_13 : decode cX1_add 13 = .ok (.if_icmp .eq 4, 3) := by decide +kernel
theorem dX1_add_16 : decode cX1_add 16 = .ok (.return_, 1) := by decide +kernel
theorem dX1_add_17 : decode cX1_add 17 = .ok (.aload_n 0, 1) := by decide +kernel
theorem dX1_add_18 : decode cX1_add 18 = .ok (.getfield 15, 3) := by decide +kernel
theorem dX1_add_21 : decode cX1_add 21 = .ok (.istore_n 2, 1) := by decide +kernel
theorem dX1_add_22 : decode cX1_add 22 = .ok (.iload_n 2, 1) := by decide +kernel
theorem dX1_add_23 : decode cX1_add 23 = .ok (.ifCond .le 35, 3) := by decide +kernel
theorem dX1_add_26 : decode cX1_add 26 = .ok (.aload_n 0, 1) := by decide +kernel
theorem dX1_add_27 : decode cX1_add 27 = .ok (.getfield 11, 3) := by decide +kernel
theorem dX1_add_30 : decode cX1_add 30 = .ok (.iload_n 2, 1) := by decide +kernel
theorem dX1_add_31 : decode cX1_add 31 = .ok (.iconst 1, 1) := by decide +kernel
theorem dX1_add_32 : decode cX1_add 32 = .ok (.isub, 1) := by decide +kernel
theorem dX1_add_33 : decode cX1_add 33 = .ok (.iaload, 1) := by decide +kernel
theorem dX1_add_34 : decode cX1_add 34 = .ok (.iload_n 1, 1) := by decide +kernel
theorem dX1_add_35 : decode cX1_add 35 = .ok (.if_icmp .le 23, 3) := by decide +kernel
theorem dX1_add_38 : decode cX1_add 38 = .ok (.aload_n 0, 1) := by decide +kernel
theorem dX1_add_39 : decode cX1_add 39 = .ok (.getfield 11, 3) := by decide +kernel
theorem dX1_add_42 : decode cX1_add 42 = .ok (.iload_n 2, 1) := by decide +kernel
theorem dX1_add_43 : decode cX1_add 43 = .ok (.aload_n 0, 1) := by decide +kernel
theorem dX1_add_44 : decode cX1_add 44 = .ok (.getfield 11, 3) := by decide +kernel
theorem dX1_add_47 : decode cX1_add 47 = .ok (.iload_n 2, 1) := by decide +kernel
theorem dX1_add_48 : decode cX1_add 48 = .ok (.iconst 1, 1) := by decide +kernel
theorem dX1_add_49 : decode cX1_add 49 = .ok (.isub, 1) := by decide +kernel
theorem dX1_add_50 : decode cX1_add 50 = .ok (.iaload, 1) := by decide +kernel
theorem dX1_add_51 : decode cX1_add 51 = .ok (.iastore, 1) := by decide +kernel
theorem dX1_add_52 : decode cX1_add 52 = .ok (.iinc 2 (-1), 3) := by decide +kernel
theorem dX1_add_55 : decode cX1_add 55 = .ok (.goto (-33), 3) := by decide +kernel
theorem dX1_add_58 : decode cX1_add 58 = .ok (.aload_n 0, 1) := by decide +kernel
theorem dX1_add_59 : decode cX1_add 59 = .ok (.getfield 11, 3) := by decide +kernel
theorem dX1_add_62 : decode cX1_add 62 = .ok (.iload_n 2, 1) := by decide +kernel
theorem dX1_add_63 : decode cX1_add 63 = .ok (.iload_n 1, 1) := by decide +kernel
theorem dX1_add_64 : decode cX1_add 64 = .ok (.iastore, 1) := by decide +kernel
theorem dX1_add_65 : decode cX1_add 65 = .ok (.aload_n 0, 1) := by decide +kernel
theorem dX1_add_66 : decode cX1_add 66 = .ok (.dup, 1) := by decide +kernel
theorem dX1_add_67 : decode cX1_add 67 = .ok (.getfield 15, 3) := by decide +kernel
theorem dX1_add_70 : decode cX1_add 70 = .ok (.iconst 1, 1) := by decide +kernel
theorem dX1_add_71 : decode cX1_add 71 = .ok (.iadd, 1) := by decide +kernel
theorem dX1_add_72 : decode cX1_add 72 = .ok (.putfield 15, 3) := by decide +kernel
theorem dX1_add_75 : decode cX1_add 75 = .ok (.return_, 1) := by decide +kernel
theorem dX1_copyFrom_0 : decode cX1_copyFrom 0 = .ok (.aload_n 1, 1) := by decide +kernel
theorem dX1_copyFrom_1 : decode cX1_copyFrom 1 = .ok (.getfield 11, 3) := by decide +kernel
theorem dX1_copyFrom_4 : decode cX1_copyFrom 4 = .ok (.iconst 0, 1) := by decide +kernel
theorem dX1_copyFrom_5 : decode cX1_copyFrom 5 = .ok (.aload_n 0, 1) := by decide +kernel
theorem dX1_copyFrom_6 : decode cX1_copyFrom 6 = .ok (.getfield 11, 3) := by decide +kernel
theorem dX1_copyFrom_9 : decode cX1_copyFrom 9 = .ok (.iconst 0, 1) := by decide +kernel
theorem dX1_copyFrom_10 : decode cX1_copyFrom 10 = .ok (.bipush 30, 2) := by decide +kernel
theorem dX1_copyFrom_12 : decode cX1_copyFrom 12 = .ok (.invokestatic 29, 3) := by decide +kernel
theorem dX1_copyFrom_15 : decode cX1_copyFrom 15 = .ok (.aload_n 0, 1) := by decide +kernel
theorem dX1_copyFrom_16 : decode cX1_copyFrom 16 = .ok (.aload_n 1, 1) := by decide +kernel
theorem dX1_copyFrom_17 : decode cX1_copyFrom 17 = .ok (.getfield 15, 3) := by decide +kernel
theorem dX1_copyFrom_20 : decode cX1_copyFrom 20 = .ok (.putfield 15, 3) := by decide +kernel
theorem dX1_copyFrom_23 : decode cX1_copyFrom 23 = .ok (.return_, 1) := by decide +kernel
theorem dX2_init_0 : decode cX2_init 0 = .ok (.aload_n 0, 1) := by decide +kernel
theorem dX2_init_1 : decode cX2_init 1 = .ok (.invokespecial 3, 3) := by decide +kernel
theorem dX2_init_4 : decode cX2_init 4 = .ok (.aload_n 0, 1) := by decide +kernel
theorem dX2_init_5 : decode cX2_init 5 = .ok (.aload_n 1, 1) := by decide +kernel
theorem dX2_init_6 : decode cX2_init 6 = .ok (.putfield 9, 3) := by decide +kernel
theorem dX2_init_9 : decode cX2_init 9 = .ok (.aload_n 0, 1) := by decide +kernel
theorem dX2_init_10 : decode cX2_init 10 = .ok (.aload_n 2, 1) := by decide +kernel
theorem dX2_init_11 : decode cX2_init 11 = .ok (.putfield 15, 3) := by decide +kernel
theorem dX2_init_14 : decode cX2_init 14 = .ok (.aload_n 0, 1) := by decide +kernel
theorem dX2_init_15 : decode cX2_init 15 = .ok (.iconst 0, 1) := by decide +kernel
theorem dX2_init_16 : decode cX2_init 16 = .ok (.putfield 19, 3) := by decide +kernel
theorem dX2_init_19 : decode cX2_init 19 = .ok (.return_, 1) := by decide +kernel
theorem dX2_begin_0 : decode cX2_begin 0 = .ok (.aload_n 0, 1) := by decide +kernel
theorem dX2_begin_1 : decode cX2_begin 1 = .ok (.iconst 0, 1) := by decide +kernel
theorem dX2_begin_2 : decode cX2_begin 2 = .ok (.putfield 19, 3) := by decide +kernel
theorem dX2_begin_5 : decode cX2_begin 5 = .ok (.return_, 1) := by decide +kernel
theorem dX2_hasFailed_0 : decode cX2_hasFailed 0 = .ok (.aload_n 0, 1) := by decide +kernel
theorem dX2_hasFailed_1 : decode cX2_hasFailed 1 = .ok (.getfield 19, 3) := by decide +kernel
theorem dX2_hasFailed_4 : decode cX2_hasFailed 4 = .ok (.sipush 400, 3) := by decide +kernel
theorem dX2_hasFailed_7 : decode cX2_hasFailed 7 = .ok (.if_icmp .le 7, 3) := by decide +kernel
theorem dX2_hasFailed_10 : decode cX2_hasFailed 10 = .ok (.iconst 1, 1) := by decide +kernel
theorem dX2_hasFailed_11 : decode cX2_hasFailed 11 = .ok (.goto 4, 3) := by decide +kernel
theorem dX2_hasFailed_14 : decode cX2_hasFailed 14 = .ok (.iconst 0, 1) := by decide +kernel
theorem dX2_hasFailed_15 : decode cX2_hasFailed 15 = .ok (.ireturn, 1) := by decide +kernel
theorem dX2_bestDifference_0 : decode cX2_bestDifference 0 = .ok (.aload_n 0, 1) := by decide +kernel
theorem dX2_bestDifference_1 : decode cX2_bestDifference 1 = .ok (.iload_n 3, 1) := by decide +kernel
theorem dX2_bestDifference_2 : decode cX2_bestDifference 2 = .ok (.bipush 40, 2) := by decide +kernel
theorem dX2_bestDifference_4 : decode cX2_bestDifference 4 = .ok (.if_icmp .le 9, 3) := by decide +kernel
theorem dX2_bestDifference_7 : decode cX2_bestDifference 7 = .ok (.sipush 401, 3) := by decide +kernel
theorem dX2_bestDifference_10 : decode cX2_bestDifference 10 = .ok (.goto 9, 3) := by decide +kernel
theorem dX2_bestDifference_13 : decode cX2_bestDifference 13 = .ok (.aload_n 0, 1) := by decide +kernel
theorem dX2_bestDifference_14 : decode cX2_bestDifference 14 = .ok (.getfield 19, 3) := by decide +kernel
theorem dX2_bestDifference_17 : decode cX2_bestDifference 17 = .ok (.iconst 1, 1) := by decide +kernel
theorem dX2_bestDifference_18 : decode cX2_bestDifference 18 = .ok (.iadd, 1) := by decide +kernel
theorem dX2_bestDifference_19 : decode cX2_bestDifference 19 = .ok (.putfield 19, 3) := by decide +kernel
theorem dX2_bestDifference_22 : decode cX2_bestDifference 22 = .ok (.aload_n 0, 1) := by decide +kernel
theorem dX2_bestDifference_23 : decode cX2_bestDifference 23 = .ok (.invokevirtual 23, 3) := by decide +kernel
theorem dX2_bestDifference_26 : decode cX2_bestDifference 26 = .ok (.ifCond .ne 11, 3) := by decide +kernel
theorem dX2_bestDifference_29 : decode cX2_bestDifference 29 = .ok (.aload_n 0, 1) := by decide +kernel
theorem dX2_bestDifference_30 : decode cX2_bestDifference 30 = .ok (.iload_n 2, 1) := by decide +kernel
theorem dX2_bestDifference_31 : decode cX2_bestDifference 31 = .ok (.invokevirtual 27, 3) := by decide +kernel
theorem dX2_bestDifference_34 : decode cX2_bestDifference 34 = .ok (.ifCond .eq 9, 3) := by decide +kernel
theorem dX2_bestDifference_37 : decode cX2_bestDifference 37 = .ok (.aload_n 0, 1) := by decide +kernel
theorem dX2_bestDifference_38 : decode cX2_bestDifference 38 = .ok (.iload_n 1, 1) := by decide +kernel
theorem dX2_bestDifference_39 : decode cX2_bestDifference 39 = .ok (.invokevirtual 31, 3) := by decide +kernel
theorem dX2_bestDifference_42 : decode cX2_bestDifference 42 = .ok (.ireturn, 1) := by decide +kernel
theorem dX2_bestDifference_43 : decode cX2_bestDifference 43 = .ok (.aload_n 0, 1) := by decide +kernel
theorem dX2_bestDifference_44 : decode cX2_bestDifference 44 = .ok (.iload_n 1, 1) := by decide +kernel
theorem dX2_bestDifference_45 : decode cX2_bestDifference 45 = .ok (.iload_n 2, 1) := by decide +kernel
theorem dX2_bestDifference_46 : decode cX2_bestDifference 46 = .ok (.iload_n 3, 1) := by decide +kernel
theorem dX2_bestDifference_47 : decode cX2_bestDifference 47 = .ok (.invokevirtual 35, 3) := by decide +kernel
theorem dX2_bestDifference_50 : decode cX2_bestDifference 50 = .ok (.istore 4, 2) := by decide +kernel
theorem dX2_bestDifference_52 : decode cX2_bestDifference 52 = .ok (.aload_n 0, 1) := by decide +kernel
theorem dX2_bestDifference_53 : decode cX2_bestDifference 53 = .ok (.getfield 15, 3) := by decide +kernel
theorem dX2_bestDifference_56 : decode cX2_bestDifference 56 = .ok (.iload_n 1, 1) := by decide +kernel
theorem dX2_bestDifference_57 : decode cX2_bestDifference 57 = .ok (.iconst 0, 1) := by decide +kernel
theorem dX2_bestDifference_58 : decode cX2_bestDifference 58 = .ok (.invokevirtual 39, 3) := by decide +kernel
theorem dX2_bestDifference_61 : decode cX2_bestDifference 61 = .ok (.istore 5, 2) := by decide +kernel
theorem dX2_bestDifference_63 : decode cX2_bestDifference 63 = .ok (.iconst 0, 1) := by decide +kernel
theorem dX2_bestDifference_64 : decode cX2_bestDifference 64 = .ok (.istore 6, 2) := by decide +kernel
theorem dX2_bestDifference_66 : decode cX2_bestDifference 66 = .ok (.iload 6, 2) := by decide +kernel
theorem dX2_bestDifference_68 : decode cX2_bestDifference 68 = .ok (.sipush 4096, 3) := by decide +kernel
theorem dX2_bestDifference_71 : decode cX2_bestDifference 71 = .ok (.if_icmp .ge 51, 3) := by decide +kernel
theorem dX2_bestDifference_74 : decode cX2_bestDifference 74 = .ok (.iload 5, 2) := by decide +kernel
theorem dX2_bestDifference_76 : decode cX2_bestDifference 76 = .ok (.iconst (-1), 1) := by decide +kernel
theorem dX2_bestDifference_77 : decode cX2_bestDifference 77 = .ok (.if_icmp .eq 45, 3) := by decide +kernel
theorem dX2_bestDifference_80 : decode cX2_bestDifference 80 = .ok (.aload_n 0, 1) := by decide +kernel
theorem dX2_bestDifference_81 : decode cX2_bestDifference 81 = .ok (.invokevirtual 23, 3) := by decide +kernel
theorem dX2_bestDifference_84 : decode cX2_bestDifference 84 = .ok (.ifCond .ne 38, 3) := by decide +kernel
theorem dX2_bestDifference_87 : decode cX2_bestDifference 87 = .ok (.iload 4, 2) := by decide +kernel
theorem dX2_bestDifference_89 : decode cX2_bestDifference 89 = .ok (.aload_n 0, 1) := by decide +kernel
theorem dX2_bestDifference_90 : decode cX2_bestDifference 90 = .ok (.iload_n 1, 1) := by decide +kernel
theorem dX2_bestDifference_91 : decode cX2_bestDifference 91 = .ok (.iload 5, 2) := by decide +kernel
theorem dX2_bestDifference_93 : decode cX2_bestDifference 93 = .ok (.iload_n 3, 1) := by decide +kernel
theorem dX2_bestDifference_94 : decode cX2_bestDifference 94 = .ok (.invokevirtual 47, 3) := by decide +kernel
theorem dX2_bestDifference_97 : decode cX2_bestDifference 97 = .ok (.invokestatic 50, 3) := by decide +kernel
theorem dX2_bestDifference_100 : decode cX2_bestDifference 100 = .ok (.istore 4, 2) := by decide +kernel
theorem dX2_bestDifference_102 : decode cX2_bestDifference 102 = .ok (.aload_n 0, 1) := by decide +kernel
theorem dX2_bestDifference_103 : decode cX2_bestDifference 103 = .ok (.getfield 15, 3) := by decide +kernel
theorem dX2_bestDifference_106 : decode cX2_bestDifference 106 = .ok (.iload_n 1, 1) := by decide +kernel
theorem dX2_bestDifference_107 : decode cX2_bestDifference 107 = .ok (.iload 5, 2) := by decide +kernel
theorem dX2_bestDifference_109 : decode cX2_bestDifference 109 = .ok (.iconst 1, 1) := by decide +kernel
theorem dX2_bestDifference_110 : decode cX2_bestDifference 110 = .ok (.iadd, 1) := by decide +kernel
theorem dX2_bestDifference_111 : decode cX2_bestDifference 111 = .ok (.invokevirtual 39, 3) := by decide +kernel
theorem dX2_bestDifference_114 : decode cX2_bestDifference 114 = .ok (.istore 5, 2) := by decide +kernel
theorem dX2_bestDifference_116 : decode cX2_bestDifference 116 = .ok (.iinc 6 1, 3) := by decide +kernel
theorem dX2_bestDifference_119 : decode cX2_bestDifference 119 = .ok (.goto (-53), 3) := by decide +kernel
theorem dX2_bestDifference_122 : decode cX2_bestDifference 122 = .ok (.iload 4, 2) := by decide +kernel
theorem dX2_bestDifference_124 : decode cX2_bestDifference 124 = .ok (.ireturn, 1) := by decide +kernel
theorem dX2_afterPass_0 : decode cX2_afterPass 0 = .ok (.aload_n 0, 1) := by decide +kernel
theorem dX2_afterPass_1 : decode cX2_afterPass 1 = .ok (.iconst 1, 1) := by decide +kernel
theorem dX2_afterPass_2 : decode cX2_afterPass 2 = .ok (.iload_n 1, 1) := by decide +kernel
theorem dX2_afterPass_3 : decode cX2_afterPass 3 = .ok (.isub, 1) := by decide +kernel
theorem dX2_afterPass_4 : decode cX2_afterPass 4 = .ok (.iload_n 2, 1) := by decide +kernel
theorem dX2_afterPass_5 : decode cX2_afterPass 5 = .ok (.iconst 1, 1) := by decide +kernel
theorem dX2_afterPass_6 : decode cX2_afterPass 6 = .ok (.iadd, 1) := by decide +kernel
theorem dX2_afterPass_7 : decode cX2_afterPass 7 = .ok (.iload_n 3, 1) := by decide +kernel
theorem dX2_afterPass_8 : decode cX2_afterPass 8 = .ok (.iconst 1, 1) := by decide +kernel
theorem dX2_afterPass_9 : decode cX2_afterPass 9 = .ok (.iadd, 1) := by decide +kernel
theorem dX2_afterPass_10 : decode cX2_afterPass 10 = .ok (.invokevirtual 55, 3) := by decide +kernel
theorem dX2_afterPass_13 : decode cX2_afterPass 13 = .ok (.ineg, 1) := by decide +kernel
theorem dX2_afterPass_14 : decode cX2_afterPass 14 = .ok (.ireturn, 1) := by decide +kernel
theorem dX2_afterPlay_0 : decode cX2_afterPlay 0 = .ok (.aload_n 0, 1) := by decide +kernel
theorem dX2_afterPlay_1 : decode cX2_afterPlay 1 = .ok (.getfield 15, 3) := by decide +kernel
theorem dX2_afterPlay_4 : decode cX2_afterPlay 4 = .ok (.iload_n 2, 1) := by decide +kernel
theorem dX2_afterPlay_5 : decode cX2_afterPlay 5 = .ok (.invokevirtual 58, 3) := by decide +kernel
theorem dX2_afterPlay_8 : decode cX2_afterPlay 8 = .ok (.istore 4, 2) := by decide +kernel
theorem dX2_afterPlay_10 : decode cX2_afterPlay 10 = .ok (.aload_n 0, 1) := by decide +kernel
theorem dX2_afterPlay_11 : decode cX2_afterPlay 11 = .ok (.getfield 9, 3) := by decide +kernel
theorem dX2_afterPlay_14 : decode cX2_afterPlay 14 = .ok (.iload_n 1, 1) := by decide +kernel
theorem dX2_afterPlay_15 : decode cX2_afterPlay 15 = .ok (.invokevirtual 61, 3) := by decide +kernel
theorem dX2_afterPlay_18 : decode cX2_afterPlay 18 = .ok (.istore 5, 2) := by decide +kernel
theorem dX2_afterPlay_20 : decode cX2_afterPlay 20 = .ok (.aload_n 0, 1) := by decide +kernel
theorem dX2_afterPlay_21 : decode cX2_afterPlay 21 = .ok (.getfield 15, 3) := by decide +kernel
theorem dX2_afterPlay_24 : decode cX2_afterPlay 24 = .ok (.iload_n 1, 1) := by decide +kernel
theorem dX2_afterPlay_25 : decode cX2_afterPlay 25 = .ok (.iload_n 2, 1) := by decide +kernel
theorem dX2_afterPlay_26 : decode cX2_afterPlay 26 = .ok (.invokevirtual 66, 3) := by decide +kernel
theorem dX2_afterPlay_29 : decode cX2_afterPlay 29 = .ok (.lstore 6, 2) := by decide +kernel
theorem dX2_afterPlay_31 : decode cX2_afterPlay 31 = .ok (.iload 4, 2) := by decide +kernel
theorem dX2_afterPlay_33 : decode cX2_afterPlay 33 = .ok (.aload_n 0, 1) := by decide +kernel
theorem dX2_afterPlay_34 : decode cX2_afterPlay 34 = .ok (.iconst 1, 1) := by decide +kernel
theorem dX2_afterPlay_35 : decode cX2_afterPlay 35 = .ok (.iload_n 1, 1) := by decide +kernel
theorem dX2_afterPlay_36 : decode cX2_afterPlay 36 = .ok (.isub, 1) := by decide +kernel
theorem dX2_afterPlay_37 : decode cX2_afterPlay 37 = .ok (.iconst 0, 1) := by decide +kernel
theorem dX2_afterPlay_38 : decode cX2_afterPlay 38 = .ok (.iload_n 3, 1) := by decide +kernel
theorem dX2_afterPlay_39 : decode cX2_afterPlay 39 = .ok (.iconst 1, 1) := by decide +kernel
theorem dX2_afterPlay_40 : decode cX2_afterPlay 40 = .ok (.iadd, 1) := by decide +kernel
theorem dX2_afterPlay_41 : decode cX2_afterPlay 41 = .ok (.invokevirtual 55, 3) := by decide +kernel
theorem dX2_afterPlay_44 : decode cX2_afterPlay 44 = .ok (.isub, 1) := by decide +kernel
theorem dX2_afterPlay_45 : decode cX2_afterPlay 45 = .ok (.istore 8, 2) := by decide +kernel
theorem dX2_afterPlay_47 : decode cX2_afterPlay 47 = .ok (.aload_n 0, 1) := by decide +kernel
theorem dX2_afterPlay_48 : decode cX2_afterPlay 48 = .ok (.getfield 9, 3) := by decide +kernel
theorem dX2_afterPlay_51 : decode cX2_afterPlay 51 = .ok (.getfield 70, 3) := by decide +kernel
theorem dX2_afterPlay_54 : decode cX2_afterPlay 54 = .ok (.lload 6, 2) := by decide +kernel
theorem dX2_afterPlay_56 : decode cX2_afterPlay 56 = .ok (.invokevirtual 74, 3) := by decide +kernel
theorem dX2_afterPlay_59 : decode cX2_afterPlay 59 = .ok (.aload_n 0, 1) := by decide +kernel
theorem dX2_afterPlay_60 : decode cX2_afterPlay 60 = .ok (.getfield 9, 3) := by decide +kernel
theorem dX2_afterPlay_63 : decode cX2_afterPlay 63 = .ok (.iload_n 1, 1) := by decide +kernel
theorem dX2_afterPlay_64 : decode cX2_afterPlay 64 = .ok (.iload 5, 2) := by decide +kernel
theorem dX2_afterPlay_66 : decode cX2_afterPlay 66 = .ok (.invokevirtual 80, 3) := by decide +kernel
theorem dX2_afterPlay_69 : decode cX2_afterPlay 69 = .ok (.iload 8, 2) := by decide +kernel
theorem dX2_afterPlay_71 : decode cX2_afterPlay 71 = .ok (.ireturn, 1) := by decide +kernel
theorem dX2_hasEnded_0 : decode cX2_hasEnded 0 = .ok (.aload_n 0, 1) := by decide +kernel
theorem dX2_hasEnded_1 : decode cX2_hasEnded 1 = .ok (.iconst 0, 1) := by decide +kernel
theorem dX2_hasEnded_2 : decode cX2_hasEnded 2 = .ok (.invokevirtual 84, 3) := by decide +kernel
theorem dX2_hasEnded_5 : decode cX2_hasEnded 5 = .ok (.ifCond .ne 16, 3) := by decide +kernel
theorem dX2_hasEnded_8 : decode cX2_hasEnded 8 = .ok (.aload_n 0, 1) := by decide +kernel
theorem dX2_hasEnded_9 : decode cX2_hasEnded 9 = .ok (.iconst 1, 1) := by decide +kernel
theorem dX2_hasEnded_10 : decode cX2_hasEnded 10 = .ok (.invokevirtual 84, 3) := by decide +kernel
theorem dX2_hasEnded_13 : decode cX2_hasEnded 13 = .ok (.ifCond .ne 8, 3) := by decide +kernel
theorem dX2_hasEnded_16 : decode cX2_hasEnded 16 = .ok (.iload_n 1, 1) := by decide +kernel
theorem dX2_hasEnded_17 : decode cX2_hasEnded 17 = .ok (.iconst 2, 1) := by decide +kernel
theorem dX2_hasEnded_18 : decode cX2_hasEnded 18 = .ok (.if_icmp .lt 7, 3) := by decide +kernel
theorem dX2_hasEnded_21 : decode cX2_hasEnded 21 = .ok (.iconst 1, 1) := by decide +kernel
theorem dX2_hasEnded_22 : decode cX2_hasEnded 22 = .ok (.goto 4, 3) := by decide +kernel
theorem dX2_hasEnded_25 : decode cX2_hasEnded 25 = .ok (.iconst 0, 1) := by decide +kernel
theorem dX2_hasEnded_26 : decode cX2_hasEnded 26 = .ok (.ireturn, 1) := by decide +kernel
theorem dX2_isOut_0 : decode cX2_isOut 0 = .ok (.aload_n 0, 1) := by decide +kernel
theorem dX2_isOut_1 : decode cX2_isOut 1 = .ok (.getfield 9, 3) := by decide +kernel
theorem dX2_isOut_4 : decode cX2_isOut 4 = .ok (.iload_n 1, 1) := by decide +kernel
theorem dX2_isOut_5 : decode cX2_isOut 5 = .ok (.invokevirtual 61, 3) := by decide +kernel
theorem dX2_isOut_8 : decode cX2_isOut 8 = .ok (.ifCond .ne 7, 3) := by decide +kernel
theorem dX2_isOut_11 : decode cX2_isOut 11 = .ok (.iconst 1, 1) := by decide +kernel
theorem dX2_isOut_12 : decode cX2_isOut 12 = .ok (.goto 4, 3) := by decide +kernel
theorem dX2_isOut_15 : decode cX2_isOut 15 = .ok (.iconst 0, 1) := by decide +kernel
theorem dX2_isOut_16 : decode cX2_isOut 16 = .ok (.ireturn, 1) := by decide +kernel
theorem dX2_finalDifference_0 : decode cX2_finalDifference 0 = .ok (.aload_n 0, 1) := by decide +kernel
theorem dX2_finalDifference_1 : decode cX2_finalDifference 1 = .ok (.getfield 9, 3) := by decide +kernel
theorem dX2_finalDifference_4 : decode cX2_finalDifference 4 = .ok (.iload_n 1, 1) := by decide +kernel
theorem dX2_finalDifference_5 : decode cX2_finalDifference 5 = .ok (.invokevirtual 87, 3) := by decide +kernel
theorem dX2_finalDifference_8 : decode cX2_finalDifference 8 = .ok (.istore_n 2, 1) := by decide +kernel
theorem dX2_finalDifference_9 : decode cX2_finalDifference 9 = .ok (.aload_n 0, 1) := by decide +kernel
theorem dX2_finalDifference_10 : decode cX2_finalDifference 10 = .ok (.getfield 9, 3) := by decide +kernel
theorem dX2_finalDifference_13 : decode cX2_finalDifference 13 = .ok (.iconst 1, 1) := by decide +kernel
theorem dX2_finalDifference_14 : decode cX2_finalDifference 14 = .ok (.iload_n 1, 1) := by decide +kernel
theorem dX2_finalDifference_15 : decode cX2_finalDifference 15 = .ok (.isub, 1) := by decide +kernel
theorem dX2_finalDifference_16 : decode cX2_finalDifference 16 = .ok (.invokevirtual 87, 3) := by decide +kernel
theorem dX2_finalDifference_19 : decode cX2_finalDifference 19 = .ok (.istore_n 3, 1) := by decide +kernel
theorem dX2_finalDifference_20 : decode cX2_finalDifference 20 = .ok (.aload_n 0, 1) := by decide +kernel
theorem dX2_finalDifference_21 : decode cX2_finalDifference 21 = .ok (.iload_n 1, 1) := by decide +kernel
theorem dX2_finalDifference_22 : decode cX2_finalDifference 22 = .ok (.invokevirtual 84, 3) := by decide +kernel
theorem dX2_finalDifference_25 : decode cX2_finalDifference 25 = .ok (.ifCond .eq 7, 3) := by decide +kernel
theorem dX2_finalDifference_28 : decode cX2_finalDifference 28 = .ok (.iconst 2, 1) := by decide +kernel
theorem dX2_finalDifference_29 : decode cX2_finalDifference 29 = .ok (.iload_n 3, 1) := by decide +kernel
theorem dX2_finalDifference_30 : decode cX2_finalDifference 30 = .ok (.imul, 1) := by decide +kernel
theorem dX2_finalDifference_31 : decode cX2_finalDifference 31 = .ok (.ireturn, 1) := by decide +kernel
theorem dX2_finalDifference_32 : decode cX2_finalDifference 32 = .ok (.aload_n 0, 1) := by decide +kernel
theorem dX2_finalDifference_33 : decode cX2_finalDifference 33 = .ok (.iconst 1, 1) := by decide +kernel
theorem dX2_finalDifference_34 : decode cX2_finalDifference 34 = .ok (.iload_n 1, 1) := by decide +kernel
theorem dX2_finalDifference_35 : decode cX2_finalDifference 35 = .ok (.isub, 1) := by decide +kernel
theorem dX2_finalDifference_36 : decode cX2_finalDifference 36 = .ok (.invokevirtual 84, 3) := by decide +kernel
theorem dX2_finalDifference_39 : decode cX2_finalDifference 39 = .ok (.ifCond .eq 10, 3) := by decide +kernel
theorem dX2_finalDifference_42 : decode cX2_finalDifference 42 = .ok (.bipush (-2), 2) := by decide +kernel
theorem dX2_finalDifference_44 : decode cX2_finalDifference 44 = .ok (.iload_n 2, 1) := by decide +kernel
theorem dX2_finalDifference_45 : decode cX2_finalDifference 45 = .ok (.imul, 1) := by decide +kernel
theorem dX2_finalDifference_46 : decode cX2_finalDifference 46 = .ok (.goto 6, 3) := by decide +kernel
theorem dX2_finalDifference_49 : decode cX2_finalDifference 49 = .ok (.iload_n 3, 1) := by decide +kernel
theorem dX2_finalDifference_50 : decode cX2_finalDifference 50 = .ok (.iload_n 2, 1) := by decide +kernel
theorem dX2_finalDifference_51 : decode cX2_finalDifference 51 = .ok (.isub, 1) := by decide +kernel
theorem dX2_finalDifference_52 : decode cX2_finalDifference 52 = .ok (.ireturn, 1) := by decide +kernel
theorem dX3_init_0 : decode cX3_init 0 = .ok (.aload_n 0, 1) := by decide +kernel
theorem dX3_init_1 : decode cX3_init 1 = .ok (.invokespecial 1, 3) := by decide +kernel
theorem dX3_init_4 : decode cX3_init 4 = .ok (.aload_n 0, 1) := by decide +kernel
theorem dX3_init_5 : decode cX3_init 5 = .ok (.iconst 4, 1) := by decide +kernel
theorem dX3_init_6 : decode cX3_init 6 = .ok (.anewarray 9, 3) := by decide +kernel
theorem dX3_init_9 : decode cX3_init 9 = .ok (.putfield 11, 3) := by decide +kernel
theorem dX3_init_12 : decode cX3_init 12 = .ok (.aload_n 0, 1) := by decide +kernel
theorem dX3_init_13 : decode cX3_init 13 = .ok (.iconst 0, 1) := by decide +kernel
theorem dX3_init_14 : decode cX3_init 14 = .ok (.putfield 15, 3) := by decide +kernel
theorem dX3_init_17 : decode cX3_init 17 = .ok (.aload_n 0, 1) := by decide +kernel
theorem dX3_init_18 : decode cX3_init 18 = .ok (.iconst 0, 1) := by decide +kernel
theorem dX3_init_19 : decode cX3_init 19 = .ok (.putfield 19, 3) := by decide +kernel
theorem dX3_init_22 : decode cX3_init 22 = .ok (.return_, 1) := by decide +kernel
theorem dX3_size_0 : decode cX3_size 0 = .ok (.aload_n 0, 1) := by decide +kernel
theorem dX3_size_1 : decode cX3_size 1 = .ok (.getfield 19, 3) := by decide +kernel
theorem dX3_size_4 : decode cX3_size 4 = .ok (.ireturn, 1) := by decide +kernel
theorem dX3_save_0 : decode cX3_save 0 = .ok (.aload_n 0, 1) := by decide +kernel
theorem dX3_save_1 : decode cX3_save 1 = .ok (.aload_n 0, 1) := by decide +kernel
theorem dX3_save_2 : decode cX3_save 2 = .ok (.getfield 19, 3) := by decide +kernel
theorem dX3_save_5 : decode cX3_save 5 = .ok (.invokevirtual 22, 3) := by decide +kernel
theorem dX3_save_8 : decode cX3_save 8 = .ok (.istore_n 2, 1) := by decide +kernel
theorem dX3_save_9 : decode cX3_save 9 = .ok (.aload_n 0, 1) := by decide +kernel
theorem dX3_save_10 : decode cX3_save 10 = .ok (.getfield 11, 3) := by decide +kernel
theorem dX3_save_13 : decode cX3_save 13 = .ok (.iload_n 2, 1) := by decide +kernel
theorem dX3_save_14 : decode cX3_save 14 = .ok (.aaload, 1) := by decide +kernel
theorem dX3_save_15 : decode cX3_save 15 = .ok (.astore_n 3, 1) := by decide +kernel
theorem dX3_save_16 : decode cX3_save 16 = .ok (.aload_n 3, 1) := by decide +kernel
theorem dX3_save_17 : decode cX3_save 17 = .ok (.ifnonnull 18, 3) := by decide +kernel
theorem dX3_save_20 : decode cX3_save 20 = .ok (.new 9, 3) := by decide +kernel
theorem dX3_save_23 : decode cX3_save 23 = .ok (.dup, 1) := by decide +kernel
theorem dX3_save_24 : decode cX3_save 24 = .ok (.invokespecial 26, 3) := by decide +kernel
theorem dX3_save_27 : decode cX3_save 27 = .ok (.astore_n 3, 1) := by decide +kernel
theorem dX3_save_28 : decode cX3_save 28 = .ok (.aload_n 0, 1) := by decide +kernel
theorem dX3_save_29 : decode cX3_save 29 = .ok (.getfield 11, 3) := by decide +kernel
theorem dX3_save_32 : decode cX3_save 32 = .ok (.iload_n 2, 1) := by decide +kernel
theorem dX3_save_33 : decode cX3_save 33 = .ok (.aload_n 3, 1) := by decide +kernel
theorem dX3_save_34 : decode cX3_save 34 = .ok (.aastore, 1) := by decide +kernel
theorem dX3_save_35 : decode cX3_save 35 = .ok (.aload_n 3, 1) := by decide +kernel
theorem dX3_save_36 : decode cX3_save 36 = .ok (.aload_n 1, 1) := by decide +kernel
theorem dX3_save_37 : decode cX3_save 37 = .ok (.invokevirtual 27, 3) := by decide +kernel
theorem dX3_save_40 : decode cX3_save 40 = .ok (.aload_n 0, 1) := by decide +kernel
theorem dX3_save_41 : decode cX3_save 41 = .ok (.getfield 19, 3) := by decide +kernel
theorem dX3_save_44 : decode cX3_save 44 = .ok (.iconst 4, 1) := by decide +kernel
theorem dX3_save_45 : decode cX3_save 45 = .ok (.if_icmp .ge 16, 3) := by decide +kernel
theorem dX3_save_48 : decode cX3_save 48 = .ok (.aload_n 0, 1) := by decide +kernel
theorem dX3_save_49 : decode cX3_save 49 = .ok (.dup, 1) := by decide +kernel
theorem dX3_save_50 : decode cX3_save 50 = .ok (.getfield 19, 3) := by decide +kernel
theorem dX3_save_53 : decode cX3_save 53 = .ok (.iconst 1, 1) := by decide +kernel
theorem dX3_save_54 : decode cX3_save 54 = .ok (.iadd, 1) := by decide +kernel
theorem dX3_save_55 : decode cX3_save 55 = .ok (.putfield 19, 3) := by decide +kernel
theorem dX3_save_58 : decode cX3_save 58 = .ok (.goto 12, 3) := by decide +kernel
theorem dX3_save_61 : decode cX3_save 61 = .ok (.aload_n 0, 1) := by decide +kernel
theorem dX3_save_62 : decode cX3_save 62 = .ok (.aload_n 0, 1) := by decide +kernel
theorem dX3_save_63 : decode cX3_save 63 = .ok (.iconst 1, 1) := by decide +kernel
theorem dX3_save_64 : decode cX3_save 64 = .ok (.invokevirtual 22, 3) := by decide +kernel
theorem dX3_save_67 : decode cX3_save 67 = .ok (.putfield 15, 3) := by decide +kernel
theorem dX3_save_70 : decode cX3_save 70 = .ok (.return_, 1) := by decide +kernel
theorem dX3_restore_0 : decode cX3_restore 0 = .ok (.aload_n 0, 1) := by decide +kernel
theorem dX3_restore_1 : decode cX3_restore 1 = .ok (.getfield 19, 3) := by decide +kernel
theorem dX3_restore_4 : decode cX3_restore 4 = .ok (.ifCond .gt 4, 3) := by decide +kernel
theorem dX3_restore_7 : decode cX3_restore 7 = .ok (.return_, 1) := by decide +kernel
theorem dX3_restore_8 : decode cX3_restore 8 = .ok (.aload_n 0, 1) := by decide +kernel
theorem dX3_restore_9 : decode cX3_restore 9 = .ok (.dup, 1) := by decide +kernel
theorem dX3_restore_10 : decode cX3_restore 10 = .ok (.getfield 19, 3) := by decide +kernel
theorem dX3_restore_13 : decode cX3_restore 13 = .ok (.iconst 1, 1) := by decide +kernel
theorem dX3_restore_14 : decode cX3_restore 14 = .ok (.isub, 1) := by decide +kernel
theorem dX3_restore_15 : decode cX3_restore 15 = .ok (.putfield 19, 3) := by decide +kernel
theorem dX3_restore_18 : decode cX3_restore 18 = .ok (.aload_n 0, 1) := by decide +kernel
theorem dX3_restore_19 : decode cX3_restore 19 = .ok (.getfield 11, 3) := by decide +kernel
theorem dX3_restore_22 : decode cX3_restore 22 = .ok (.aload_n 0, 1) := by decide +kernel
theorem dX3_restore_23 : decode cX3_restore 23 = .ok (.aload_n 0, 1) := by decide +kernel
theorem dX3_restore_24 : decode cX3_restore 24 = .ok (.getfield 19, 3) := by decide +kernel
theorem dX3_restore_27 : decode cX3_restore 27 = .ok (.invokevirtual 22, 3) := by decide +kernel
theorem dX3_restore_30 : decode cX3_restore 30 = .ok (.aaload, 1) := by decide +kernel
theorem dX3_restore_31 : decode cX3_restore 31 = .ok (.astore_n 2, 1) := by decide +kernel
theorem dX3_restore_32 : decode cX3_restore 32 = .ok (.aload_n 2, 1) := by decide +kernel
theorem dX3_restore_33 : decode cX3_restore 33 = .ok (.ifnull 8, 3) := by decide +kernel
theorem dX3_restore_36 : decode cX3_restore 36 = .ok (.aload_n 1, 1) := by decide +kernel
theorem dX3_restore_37 : decode cX3_restore 37 = .ok (.aload_n 2, 1) := by decide +kernel
theorem dX3_restore_38 : decode cX3_restore 38 = .ok (.invokevirtual 27, 3) := by decide +kernel
theorem dX3_restore_41 : decode cX3_restore 41 = .ok (.return_, 1) := by decide +kernel
theorem dX3_placeOf_0 : decode cX3_placeOf 0 = .ok (.aload_n 0, 1) := by decide +kernel
theorem dX3_placeOf_1 : decode cX3_placeOf 1 = .ok (.getfield 15, 3) := by decide +kernel
theorem dX3_placeOf_4 : decode cX3_placeOf 4 = .ok (.iload_n 1, 1) := by decide +kernel
theorem dX3_placeOf_5 : decode cX3_placeOf 5 = .ok (.iadd, 1) := by decide +kernel
theorem dX3_placeOf_6 : decode cX3_placeOf 6 = .ok (.iconst 4, 1) := by decide +kernel
theorem dX3_placeOf_7 : decode cX3_placeOf 7 = .ok (.irem, 1) := by decide +kernel
theorem dX3_placeOf_8 : decode cX3_placeOf 8 = .ok (.ireturn, 1) := by decide +kernel
theorem dX4_of_0 : decode cX4_of 0 = .ok (.iconst 0, 1) := by decide +kernel
theorem dX4_of_1 : decode cX4_of 1 = .ok (.istore_n 1, 1) := by decide +kernel
theorem dX4_of_2 : decode cX4_of 2 = .ok (.iload_n 0, 1) := by decide +kernel
theorem dX4_of_3 : decode cX4_of 3 = .ok (.invokestatic 9, 3) := by decide +kernel
theorem dX4_of_6 : decode cX4_of 6 = .ok (.istore_n 2, 1) := by decide +kernel
theorem dX4_of_7 : decode cX4_of 7 = .ok (.iconst 0, 1) := by decide +kernel
theorem dX4_of_8 : decode cX4_of 8 = .ok (.istore_n 3, 1) := by decide +kernel
theorem dX4_of_9 : decode cX4_of 9 = .ok (.iload_n 3, 1) := by decide +kernel
theorem dX4_of_10 : decode cX4_of 10 = .ok (.iload_n 2, 1) := by decide +kernel
theorem dX4_of_11 : decode cX4_of 11 = .ok (.if_icmp .ge 20, 3) := by decide +kernel
theorem dX4_of_14 : decode cX4_of 14 = .ok (.iload_n 1, 1) := by decide +kernel
theorem dX4_of_15 : decode cX4_of 15 = .ok (.iload_n 0, 1) := by decide +kernel
theorem dX4_of_16 : decode cX4_of 16 = .ok (.iload_n 3, 1) := by decide +kernel
theorem dX4_of_17 : decode cX4_of 17 = .ok (.invokestatic 15, 3) := by decide +kernel
theorem dX4_of_20 : decode cX4_of 20 = .ok (.invokestatic 19, 3) := by decide +kernel
theorem dX4_of_23 : decode cX4_of 23 = .ok (.iadd, 1) := by decide +kernel
theorem dX4_of_24 : decode cX4_of 24 = .ok (.istore_n 1, 1) := by decide +kernel
theorem dX4_of_25 : decode cX4_of 25 = .ok (.iinc 3 1, 3) := by decide +kernel
theorem dX4_of_28 : decode cX4_of 28 = .ok (.goto (-19), 3) := by decide +kernel
theorem dX4_of_31 : decode cX4_of 31 = .ok (.iload_n 1, 1) := by decide +kernel
theorem dX4_of_32 : decode cX4_of 32 = .ok (.ireturn, 1) := by decide +kernel
theorem dX4_count_0 : decode cX4_count 0 = .ok (.iload_n 0, 1) := by decide +kernel
theorem dX4_count_1 : decode cX4_count 1 = .ok (.iconst 4, 1) := by decide +kernel
theorem dX4_count_2 : decode cX4_count 2 = .ok (.iload_n 1, 1) := by decide +kernel
theorem dX4_count_3 : decode cX4_count 3 = .ok (.imul, 1) := by decide +kernel
theorem dX4_count_4 : decode cX4_count 4 = .ok (.iushr, 1) := by decide +kernel
theorem dX4_count_5 : decode cX4_count 5 = .ok (.bipush 15, 2) := by decide +kernel
theorem dX4_count_7 : decode cX4_count 7 = .ok (.iand, 1) := by decide +kernel
theorem dX4_count_8 : decode cX4_count 8 = .ok (.ireturn, 1) := by decide +kernel
theorem dX4_without_0 : decode cX4_without 0 = .ok (.iload_n 0, 1) := by decide +kernel
theorem dX4_without_1 : decode cX4_without 1 = .ok (.iload_n 1, 1) := by decide +kernel
theorem dX4_without_2 : decode cX4_without 2 = .ok (.invokestatic 19, 3) := by decide +kernel
theorem dX4_without_5 : decode cX4_without 5 = .ok (.isub, 1) := by decide +kernel
theorem dX4_without_6 : decode cX4_without 6 = .ok (.ireturn, 1) := by decide +kernel
theorem dX4_oneTile_0 : decode cX4_oneTile 0 = .ok (.iconst 1, 1) := by decide +kernel
theorem dX4_oneTile_1 : decode cX4_oneTile 1 = .ok (.iconst 4, 1) := by decide +kernel
theorem dX4_oneTile_2 : decode cX4_oneTile 2 = .ok (.iload_n 0, 1) := by decide +kernel
theorem dX4_oneTile_3 : decode cX4_oneTile 3 = .ok (.imul, 1) := by decide +kernel
theorem dX4_oneTile_4 : decode cX4_oneTile 4 = .ok (.ishl, 1) := by decide +kernel
theorem dX4_oneTile_5 : decode cX4_oneTile 5 = .ok (.ireturn, 1) := by decide +kernel
theorem dX5_init_0 : decode cX5_init 0 = .ok (.aload_n 0, 1) := by decide +kernel
theorem dX5_init_1 : decode cX5_init 1 = .ok (.invokespecial 3, 3) := by decide +kernel
theorem dX5_init_4 : decode cX5_init 4 = .ok (.aload_n 0, 1) := by decide +kernel
theorem dX5_init_5 : decode cX5_init 5 = .ok (.aload_n 1, 1) := by decide +kernel
theorem dX5_init_6 : decode cX5_init 6 = .ok (.putfield 9, 3) := by decide +kernel
theorem dX5_init_9 : decode cX5_init 9 = .ok (.return_, 1) := by decide +kernel
theorem dX5_refusal_0 : decode cX5_refusal 0 = .ok (.iload_n 3, 1) := by decide +kernel
theorem dX5_refusal_1 : decode cX5_refusal 1 = .ok (.iconst (-1), 1) := by decide +kernel
theorem dX5_refusal_2 : decode cX5_refusal 2 = .ok (.if_icmp .ne 5, 3) := by decide +kernel
theorem dX5_refusal_5 : decode cX5_refusal 5 = .ok (.iconst 1, 1) := by decide +kernel
theorem dX5_refusal_6 : decode cX5_refusal 6 = .ok (.ireturn, 1) := by decide +kernel
theorem dX5_refusal_7 : decode cX5_refusal 7 = .ok (.aload_n 0, 1) := by decide +kernel
theorem dX5_refusal_8 : decode cX5_refusal 8 = .ok (.getfield 9, 3) := by decide +kernel
theorem dX5_refusal_11 : decode cX5_refusal 11 = .ok (.getfield 15, 3) := by decide +kernel
theorem dX5_refusal_14 : decode cX5_refusal 14 = .ok (.iload_n 3, 1) := by decide +kernel
theorem dX5_refusal_15 : decode cX5_refusal 15 = .ok (.invokevirtual 21, 3) := by decide +kernel
theorem dX5_refusal_18 : decode cX5_refusal 18 = .ok (.istore 4, 2) := by decide +kernel
theorem dX5_refusal_20 : decode cX5_refusal 20 = .ok (.iload 4, 2) := by decide +kernel
theorem dX5_refusal_22 : decode cX5_refusal 22 = .ok (.invokestatic 27, 3) := by decide +kernel
theorem dX5_refusal_25 : decode cX5_refusal 25 = .ok (.istore 5, 2) := by decide +kernel
theorem dX5_refusal_27 : decode cX5_refusal 27 = .ok (.iload 5, 2) := by decide +kernel
theorem dX5_refusal_29 : decode cX5_refusal 29 = .ok (.iload_n 2, 1) := by decide +kernel
theorem dX5_refusal_30 : decode cX5_refusal 30 = .ok (.invokestatic 32, 3) := by decide +kernel
theorem dX5_refusal_33 : decode cX5_refusal 33 = .ok (.if_icmp .le 5, 3) := by decide +kernel
theorem dX5_refusal_36 : decode cX5_refusal 36 = .ok (.iconst 2, 1) := by decide +kernel
theorem dX5_refusal_37 : decode cX5_refusal 37 = .ok (.ireturn, 1) := by decide +kernel
theorem dX5_refusal_38 : decode cX5_refusal 38 = .ok (.aload_n 0, 1) := by decide +kernel
theorem dX5_refusal_39 : decode cX5_refusal 39 = .ok (.iload_n 2, 1) := by decide +kernel
theorem dX5_refusal_40 : decode cX5_refusal 40 = .ok (.iload 5, 2) := by decide +kernel
theorem dX5_refusal_42 : decode cX5_refusal 42 = .ok (.invokevirtual 37, 3) := by decide +kernel
theorem dX5_refusal_45 : decode cX5_refusal 45 = .ok (.ifCond .eq 5, 3) := by decide +kernel
theorem dX5_refusal_48 : decode cX5_refusal 48 = .ok (.iconst 3, 1) := by decide +kernel
theorem dX5_refusal_49 : decode cX5_refusal 49 = .ok (.ireturn, 1) := by decide +kernel
theorem dX5_refusal_50 : decode cX5_refusal 50 = .ok (.aload_n 0, 1) := by decide +kernel
theorem dX5_refusal_51 : decode cX5_refusal 51 = .ok (.iload_n 2, 1) := by decide +kernel
theorem dX5_refusal_52 : decode cX5_refusal 52 = .ok (.iload 4, 2) := by decide +kernel
theorem dX5_refusal_54 : decode cX5_refusal 54 = .ok (.invokevirtual 41, 3) := by decide +kernel
theorem dX5_refusal_57 : decode cX5_refusal 57 = .ok (.ifCond .ne 5, 3) := by decide +kernel
theorem dX5_refusal_60 : decode cX5_refusal 60 = .ok (.iconst 4, 1) := by decide +kernel
theorem dX5_refusal_61 : decode cX5_refusal 61 = .ok (.ireturn, 1) := by decide +kernel
theorem dX5_refusal_62 : decode cX5_refusal 62 = .ok (.aload_n 0, 1) := by decide +kernel
theorem dX5_refusal_63 : decode cX5_refusal 63 = .ok (.iload_n 2, 1) := by decide +kernel
theorem dX5_refusal_64 : decode cX5_refusal 64 = .ok (.iload 5, 2) := by decide +kernel
theorem dX5_refusal_66 : decode cX5_refusal 66 = .ok (.invokevirtual 44, 3) := by decide +kernel
theorem dX5_refusal_69 : decode cX5_refusal 69 = .ok (.ifCond .ne 5, 3) := by decide +kernel
theorem dX5_refusal_72 : decode cX5_refusal 72 = .ok (.iconst 5, 1) := by decide +kernel
theorem dX5_refusal_73 : decode cX5_refusal 73 = .ok (.ireturn, 1) := by decide +kernel
theorem dX5_refusal_74 : decode cX5_refusal 74 = .ok (.aload_n 0, 1) := by decide +kernel
theorem dX5_refusal_75 : decode cX5_refusal 75 = .ok (.aload_n 0, 1) := by decide +kernel
theorem dX5_refusal_76 : decode cX5_refusal 76 = .ok (.getfield 9, 3) := by decide +kernel
theorem dX5_refusal_79 : decode cX5_refusal 79 = .ok (.iload_n 1, 1) := by decide +kernel
theorem dX5_refusal_80 : decode cX5_refusal 80 = .ok (.invokevirtual 47, 3) := by decide +kernel
theorem dX5_refusal_83 : decode cX5_refusal 83 = .ok (.iload_n 2, 1) := by decide +kernel
theorem dX5_refusal_84 : decode cX5_refusal 84 = .ok (.iload 4, 2) := by decide +kernel
theorem dX5_refusal_86 : decode cX5_refusal 86 = .ok (.invokevirtual 50, 3) := by decide +kernel
theorem dX5_refusal_89 : decode cX5_refusal 89 = .ok (.iconst (-1), 1) := by decide +kernel
theorem dX5_refusal_90 : decode cX5_refusal 90 = .ok (.if_icmp .ne 6, 3) := by decide +kernel
theorem dX5_refusal_93 : decode cX5_refusal 93 = .ok (.bipush 6, 2) := by decide +kernel
theorem dX5_refusal_95 : decode cX5_refusal 95 = .ok (.ireturn, 1) := by decide +kernel
theorem dX5_refusal_96 : decode cX5_refusal 96 = .ok (.aload_n 0, 1) := by decide +kernel
theorem dX5_refusal_97 : decode cX5_refusal 97 = .ok (.iload_n 2, 1) := by decide +kernel
theorem dX5_refusal_98 : decode cX5_refusal 98 = .ok (.iload 5, 2) := by decide +kernel
theorem dX5_refusal_100 : decode cX5_refusal 100 = .ok (.invokevirtual 54, 3) := by decide +kernel
theorem dX5_refusal_103 : decode cX5_refusal 103 = .ok (.ifCond .ne 6, 3) := by decide +kernel
theorem dX5_refusal_106 : decode cX5_refusal 106 = .ok (.bipush 7, 2) := by decide +kernel
theorem dX5_refusal_108 : decode cX5_refusal 108 = .ok (.ireturn, 1) := by decide +kernel
theorem dX5_refusal_109 : decode cX5_refusal 109 = .ok (.aload_n 0, 1) := by decide +kernel
theorem dX5_refusal_110 : decode cX5_refusal 110 = .ok (.iload_n 2, 1) := by decide +kernel
theorem dX5_refusal_111 : decode cX5_refusal 111 = .ok (.iload 4, 2) := by decide +kernel
theorem dX5_refusal_113 : decode cX5_refusal 113 = .ok (.invokevirtual 57, 3) := by decide +kernel
theorem dX5_refusal_116 : decode cX5_refusal 116 = .ok (.ifCond .eq 7, 3) := by decide +kernel
theorem dX5_refusal_119 : decode cX5_refusal 119 = .ok (.iconst 0, 1) := by decide +kernel
theorem dX5_refusal_120 : decode cX5_refusal 120 = .ok (.goto 5, 3) := by decide +kernel
theorem dX5_refusal_123 : decode cX5_refusal 123 = .ok (.bipush 8, 2) := by decide +kernel
theorem dX5_refusal_125 : decode cX5_refusal 125 = .ok (.ireturn, 1) := by decide +kernel
theorem dX5_touchesTileAtAnEnd_0 : decode cX5_touchesTileAtAnEnd 0 = .ok (.iload_n 1, 1) := by decide +kernel
theorem dX5_touchesTileAtAnEnd_1 : decode cX5_touchesTileAtAnEnd 1 = .ok (.invokestatic 60, 3) := by decide +kernel
theorem dX5_touchesTileAtAnEnd_4 : decode cX5_touchesTileAtAnEnd 4 = .ok (.istore_n 3, 1) := by decide +kernel
theorem dX5_touchesTileAtAnEnd_5 : decode cX5_touchesTileAtAnEnd 5 = .ok (.iload_n 1, 1) := by decide +kernel
theorem dX5_touchesTileAtAnEnd_6 : decode cX5_touchesTileAtAnEnd 6 = .ok (.invokestatic 63, 3) := by decide +kernel
theorem dX5_touchesTileAtAnEnd_9 : decode cX5_touchesTileAtAnEnd 9 = .ok (.istore 4, 2) := by decide +kernel
theorem dX5_touchesTileAtAnEnd_11 : decode cX5_touchesTileAtAnEnd 11 = .ok (.aload_n 0, 1) := by decide +kernel
theorem dX5_touchesTileAtAnEnd_12 : decode cX5_touchesTileAtAnEnd 12 = .ok (.getfield 9, 3) := by decide +kernel
theorem dX5_touchesTileAtAnEnd_15 : decode cX5_touchesTileAtAnEnd 15 = .ok (.getfield 66, 3) := by decide +kernel
theorem dX5_touchesTileAtAnEnd_18 : decode cX5_touchesTileAtAnEnd 18 = .ok (.iload_n 3, 1) := by decide +kernel
theorem dX5_touchesTileAtAnEnd_19 : decode cX5_touchesTileAtAnEnd 19 = .ok (.iload 4, 2) := by decide +kernel
theorem dX5_touchesTileAtAnEnd_21 : decode cX5_touchesTileAtAnEnd 21 = .ok (.isub, 1) := by decide +kernel
theorem dX5_touchesTileAtAnEnd_22 : decode cX5_touchesTileAtAnEnd 22 = .ok (.invokevirtual 70, 3) := by decide +kernel
theorem dX5_touchesTileAtAnEnd_25 : decode cX5_touchesTileAtAnEnd 25 = .ok (.ifCond .ne 22, 3) := by decide +kernel
theorem dX5_touchesTileAtAnEnd_28 : decode cX5_touchesTileAtAnEnd 28 = .ok (.aload_n 0, 1) := by decide +kernel
theorem dX5_touchesTileAtAnEnd_29 : decode cX5_touchesTileAtAnEnd 29 = .ok (.getfield 9, 3) := by decide +kernel
theorem dX5_touchesTileAtAnEnd_32 : decode cX5_touchesTileAtAnEnd 32 = .ok (.getfield 66, 3) := by decide +kernel
theorem dX5_touchesTileAtAnEnd_35 : decode cX5_touchesTileAtAnEnd 35 = .ok (.iload_n 3, 1) := by decide +kernel
theorem dX5_touchesTileAtAnEnd_36 : decode cX5_touchesTileAtAnEnd 36 = .ok (.iload_n 2, 1) := by decide +kernel
theorem dX5_touchesTileAtAnEnd_37 : decode cX5_touchesTileAtAnEnd 37 = .ok (.iload 4, 2) := by decide +kernel
theorem dX5_touchesTileAtAnEnd_39 : decode cX5_touchesTileAtAnEnd 39 = .ok (.imul, 1) := by decide +kernel
theorem dX5_touchesTileAtAnEnd_40 : decode cX5_touchesTileAtAnEnd 40 = .ok (.iadd, 1) := by decide +kernel
theorem dX5_touchesTileAtAnEnd_41 : decode cX5_touchesTileAtAnEnd 41 = .ok (.invokevirtual 70, 3) := by decide +kernel
theorem dX5_touchesTileAtAnEnd_44 : decode cX5_touchesTileAtAnEnd 44 = .ok (.ifCond .eq 7, 3) := by decide +kernel
theorem dX5_touchesTileAtAnEnd_47 : decode cX5_touchesTileAtAnEnd 47 = .ok (.iconst 1, 1) := by decide +kernel
theorem dX5_touchesTileAtAnEnd_48 : decode cX5_touchesTileAtAnEnd 48 = .ok (.goto 4, 3) := by decide +kernel
theorem dX5_touchesTileAtAnEnd_51 : decode cX5_touchesTileAtAnEnd 51 = .ok (.iconst 0, 1) := by decide +kernel
theorem dX5_touchesTileAtAnEnd_52 : decode cX5_touchesTileAtAnEnd 52 = .ok (.ireturn, 1) := by decide +kernel
theorem dX5_agreesWithTiles_0 : decode cX5_agreesWithTiles 0 = .ok (.iload_n 1, 1) := by decide +kernel
theorem dX5_agreesWithTiles_1 : decode cX5_agreesWithTiles 1 = .ok (.invokestatic 60, 3) := by decide +kernel
theorem dX5_agreesWithTiles_4 : decode cX5_agreesWithTiles 4 = .ok (.istore_n 3, 1) := by decide +kernel
theorem dX5_agreesWithTiles_5 : decode cX5_agreesWithTiles 5 = .ok (.iload_n 2, 1) := by decide +kernel
theorem dX5_agreesWithTiles_6 : decode cX5_agreesWithTiles 6 = .ok (.invokestatic 27, 3) := by decide +kernel
theorem dX5_agreesWithTiles_9 : decode cX5_agreesWithTiles 9 = .ok (.istore 4, 2) := by decide +kernel
theorem dX5_agreesWithTiles_11 : decode cX5_agreesWithTiles 11 = .ok (.iconst 0, 1) := by decide +kernel
theorem dX5_agreesWithTiles_12 : decode cX5_agreesWithTiles 12 = .ok (.istore 5, 2) := by decide +kernel
theorem dX5_agreesWithTiles_14 : decode cX5_agreesWithTiles 14 = .ok (.iload 5, 2) := by decide +kernel
theorem dX5_agreesWithTiles_16 : decode cX5_agreesWithTiles 16 = .ok (.iload 4, 2) := by decide +kernel
theorem dX5_agreesWithTiles_18 : decode cX5_agreesWithTiles 18 = .ok (.if_icmp .ge 48, 3) := by decide +kernel
theorem dX5_agreesWithTiles_21 : decode cX5_agreesWithTiles 21 = .ok (.aload_n 0, 1) := by decide +kernel
theorem dX5_agreesWithTiles_22 : decode cX5_agreesWithTiles 22 = .ok (.getfield 9, 3) := by decide +kernel
theorem dX5_agreesWithTiles_25 : decode cX5_agreesWithTiles 25 = .ok (.getfield 66, 3) := by decide +kernel
theorem dX5_agreesWithTiles_28 : decode cX5_agreesWithTiles 28 = .ok (.iload_n 3, 1) := by decide +kernel
theorem dX5_agreesWithTiles_29 : decode cX5_agreesWithTiles 29 = .ok (.invokevirtual 76, 3) := by decide +kernel
theorem dX5_agreesWithTiles_32 : decode cX5_agreesWithTiles 32 = .ok (.istore 6, 2) := by decide +kernel
theorem dX5_agreesWithTiles_34 : decode cX5_agreesWithTiles 34 = .ok (.iload 6, 2) := by decide +kernel
theorem dX5_agreesWithTiles_36 : decode cX5_agreesWithTiles 36 = .ok (.iconst (-1), 1) := by decide +kernel
theorem dX5_agreesWithTiles_37 : decode cX5_agreesWithTiles 37 = .ok (.if_icmp .eq 16, 3) := by decide +kernel
theorem dX5_agreesWithTiles_40 : decode cX5_agreesWithTiles 40 = .ok (.iload 6, 2) := by decide +kernel
theorem dX5_agreesWithTiles_42 : decode cX5_agreesWithTiles 42 = .ok (.iload_n 2, 1) := by decide +kernel
theorem dX5_agreesWithTiles_43 : decode cX5_agreesWithTiles 43 = .ok (.iload 5, 2) := by decide +kernel
theorem dX5_agreesWithTiles_45 : decode cX5_agreesWithTiles 45 = .ok (.invokestatic 79, 3) := by decide +kernel
theorem dX5_agreesWithTiles_48 : decode cX5_agreesWithTiles 48 = .ok (.if_icmp .eq 5, 3) := by decide +kernel
theorem dX5_agreesWithTiles_51 : decode cX5_agreesWithTiles 51 = .ok (.iconst 0, 1) := by decide +kernel
theorem dX5_agreesWithTiles_52 : decode cX5_agreesWithTiles 52 = .ok (.ireturn, 1) := by decide +kernel
theorem dX5_agreesWithTiles_53 : decode cX5_agreesWithTiles 53 = .ok (.iload_n 3, 1) := by decide +kernel
theorem dX5_agreesWithTiles_54 : decode cX5_agreesWithTiles 54 = .ok (.iload_n 1, 1) := by decide +kernel
theorem dX5_agreesWithTiles_55 : decode cX5_agreesWithTiles 55 = .ok (.invokestatic 63, 3) := by decide +kernel
theorem dX5_agreesWithTiles_58 : decode cX5_agreesWithTiles 58 = .ok (.iadd, 1) := by decide +kernel
theorem dX5_agreesWithTiles_59 : decode cX5_agreesWithTiles 59 = .ok (.istore_n 3, 1) := by decide +kernel
theorem dX5_agreesWithTiles_60 : decode cX5_agreesWithTiles 60 = .ok (.iinc 5 1, 3) := by decide +kernel
theorem dX5_agreesWithTiles_63 : decode cX5_agreesWithTiles 63 = .ok (.goto (-49), 3) := by decide +kernel
theorem dX5_agreesWithTiles_66 : decode cX5_agreesWithTiles 66 = .ok (.iconst 1, 1) := by decide +kernel
theorem dX5_agreesWithTiles_67 : decode cX5_agreesWithTiles 67 = .ok (.ireturn, 1) := by decide +kernel
theorem dX5_hasEmptySquare_0 : decode cX5_hasEmptySquare 0 = .ok (.aload_n 0, 1) := by decide +kernel
theorem dX5_hasEmptySquare_1 : decode cX5_hasEmptySquare 1 = .ok (.getfield 9, 3) := by decide +kernel
theorem dX5_hasEmptySquare_4 : decode cX5_hasEmptySquare 4 = .ok (.getfield 66, 3) := by decide +kernel
theorem dX5_hasEmptySquare_7 : decode cX5_hasEmptySquare 7 = .ok (.iload_n 1, 1) := by decide +kernel
theorem dX5_hasEmptySquare_8 : decode cX5_hasEmptySquare 8 = .ok (.iload_n 2, 1) := by decide +kernel
theorem dX5_hasEmptySquare_9 : decode cX5_hasEmptySquare 9 = .ok (.invokestatic 82, 3) := by decide +kernel
theorem dX5_hasEmptySquare_12 : decode cX5_hasEmptySquare 12 = .ok (.invokevirtual 86, 3) := by decide +kernel
theorem dX5_hasEmptySquare_15 : decode cX5_hasEmptySquare 15 = .ok (.lconst 0, 1) := by decide +kernel
theorem dX5_hasEmptySquare_16 : decode cX5_hasEmptySquare 16 = .ok (.lcmp, 1) := by decide +kernel
theorem dX5_hasEmptySquare_17 : decode cX5_hasEmptySquare 17 = .ok (.ifCond .eq 7, 3) := by decide +kernel
theorem dX5_hasEmptySquare_20 : decode cX5_hasEmptySquare 20 = .ok (.iconst 1, 1) := by decide +kernel
theorem dX5_hasEmptySquare_21 : decode cX5_hasEmptySquare 21 = .ok (.goto 4, 3) := by decide +kernel
theorem dX5_hasEmptySquare_24 : decode cX5_hasEmptySquare 24 = .ok (.iconst 0, 1) := by decide +kernel
theorem dX5_hasEmptySquare_25 : decode cX5_hasEmptySquare 25 = .ok (.ireturn, 1) := by decide +kernel
theorem dX5_isConnected_0 : decode cX5_isConnected 0 = .ok (.aload_n 0, 1) := by decide +kernel
theorem dX5_isConnected_1 : decode cX5_isConnected 1 = .ok (.getfield 9, 3) := by decide +kernel
theorem dX5_isConnected_4 : decode cX5_isConnected 4 = .ok (.getfield 66, 3) := by decide +kernel
theorem dX5_isConnected_7 : decode cX5_isConnected 7 = .ok (.iload_n 1, 1) := by decide +kernel
theorem dX5_isConnected_8 : decode cX5_isConnected 8 = .ok (.iload_n 2, 1) := by decide +kernel
theorem dX5_isConnected_9 : decode cX5_isConnected 9 = .ok (.invokestatic 82, 3) := by decide +kernel
theorem dX5_isConnected_12 : decode cX5_isConnected 12 = .ok (.iload_n 1, 1) := by decide +kernel
theorem dX5_isConnected_13 : decode cX5_isConnected 13 = .ok (.invokestatic 90, 3) := by decide +kernel
theorem dX5_isConnected_16 : decode cX5_isConnected 16 = .ok (.invokevirtual 93, 3) := by decide +kernel
theorem dX5_isConnected_19 : decode cX5_isConnected 19 = .ok (.ireturn, 1) := by decide +kernel
theorem dX5_rackAfter_0 : decode cX5_rackAfter 0 = .ok (.iload_n 1, 1) := by decide +kernel
theorem dX5_rackAfter_1 : decode cX5_rackAfter 1 = .ok (.istore 4, 2) := by decide +kernel
theorem dX5_rackAfter_3 : decode cX5_rackAfter 3 = .ok (.iload_n 2, 1) := by decide +kernel
theorem dX5_rackAfter_4 : decode cX5_rackAfter 4 = .ok (.invokestatic 60, 3) := by decide +kernel
theorem dX5_rackAfter_7 : decode cX5_rackAfter 7 = .ok (.istore 5, 2) := by decide +kernel
theorem dX5_rackAfter_9 : decode cX5_rackAfter 9 = .ok (.iload_n 3, 1) := by decide +kernel
theorem dX5_rackAfter_10 : decode cX5_rackAfter 10 = .ok (.invokestatic 27, 3) := by decide +kernel
theorem dX5_rackAfter_13 : decode cX5_rackAfter 13 = .ok (.istore 6, 2) := by decide +kernel
theorem dX5_rackAfter_15 : decode cX5_rackAfter 15 = .ok (.iconst 0, 1) := by decide +kernel
theorem dX5_rackAfter_16 : decode cX5_rackAfter 16 = .ok (.istore 7, 2) := by decide +kernel
theorem dX5_rackAfter_18 : decode cX5_rackAfter 18 = .ok (.iload 7, 2) := by decide +kernel
theorem dX5_rackAfter_20 : decode cX5_rackAfter 20 = .ok (.iload 6, 2) := by decide +kernel
theorem dX5_rackAfter_22 : decode cX5_rackAfter 22 = .ok (.if_icmp .ge 62, 3) := by decide +kernel
theorem dX5_rackAfter_25 : decode cX5_rackAfter 25 = .ok (.aload_n 0, 1) := by decide +kernel
theorem dX5_rackAfter_26 : decode cX5_rackAfter 26 = .ok (.getfield 9, 3) := by decide +kernel
theorem dX5_rackAfter_29 : decode cX5_rackAfter 29 = .ok (.getfield 66, 3) := by decide +kernel
theorem dX5_rackAfter_32 : decode cX5_rackAfter 32 = .ok (.iload 5, 2) := by decide +kernel
theorem dX5_rackAfter_34 : decode cX5_rackAfter 34 = .ok (.invokevirtual 70, 3) := by decide +kernel
theorem dX5_rackAfter_37 : decode cX5_rackAfter 37 = .ok (.ifCond .ne 32, 3) := by decide +kernel
theorem dX5_rackAfter_40 : decode cX5_rackAfter 40 = .ok (.iload_n 3, 1) := by decide +kernel
theorem dX5_rackAfter_41 : decode cX5_rackAfter 41 = .ok (.iload 7, 2) := by decide +kernel
theorem dX5_rackAfter_43 : decode cX5_rackAfter 43 = .ok (.invokestatic 79, 3) := by decide +kernel
theorem dX5_rackAfter_46 : decode cX5_rackAfter 46 = .ok (.istore 8, 2) := by decide +kernel
theorem dX5_rackAfter_48 : decode cX5_rackAfter 48 = .ok (.iload 4, 2) := by decide +kernel
theorem dX5_rackAfter_50 : decode cX5_rackAfter 50 = .ok (.iload 8, 2) := by decide +kernel
theorem dX5_rackAfter_52 : decode cX5_rackAfter 52 = .ok (.invokestatic 97, 3) := by decide +kernel
theorem dX5_rackAfter_55 : decode cX5_rackAfter 55 = .ok (.ifCond .ne 5, 3) := by decide +kernel
theorem dX5_rackAfter_58 : decode cX5_rackAfter 58 = .ok (.iconst (-1), 1) := by decide +kernel
theorem dX5_rackAfter_59 : decode cX5_rackAfter 59 = .ok (.ireturn, 1) := by decide +kernel
theorem dX5_rackAfter_60 : decode cX5_rackAfter 60 = .ok (.iload 4, 2) := by decide +kernel
theorem dX5_rackAfter_62 : decode cX5_rackAfter 62 = .ok (.iload 8, 2) := by decide +kernel
theorem dX5_rackAfter_64 : decode cX5_rackAfter 64 = .ok (.invokestatic 102, 3) := by decide +kernel
theorem dX5_rackAfter_67 : decode cX5_rackAfter 67 = .ok (.istore 4, 2) := by decide +kernel
theorem dX5_rackAfter_69 : decode cX5_rackAfter 69 = .ok (.iload 5, 2) := by decide +kernel
theorem dX5_rackAfter_71 : decode cX5_rackAfter 71 = .ok (.iload_n 2, 1) := by decide +kernel
theorem dX5_rackAfter_72 : decode cX5_rackAfter 72 = .ok (.invokestatic 63, 3) := by decide +kernel
theorem dX5_rackAfter_75 : decode cX5_rackAfter 75 = .ok (.iadd, 1) := by decide +kernel
theorem dX5_rackAfter_76 : decode cX5_rackAfter 76 = .ok (.istore 5, 2) := by decide +kernel
theorem dX5_rackAfter_78 : decode cX5_rackAfter 78 = .ok (.iinc 7 1, 3) := by decide +kernel
theorem dX5_rackAfter_81 : decode cX5_rackAfter 81 = .ok (.goto (-63), 3) := by decide +kernel
theorem dX5_rackAfter_84 : decode cX5_rackAfter 84 = .ok (.iload 4, 2) := by decide +kernel
theorem dX5_rackAfter_86 : decode cX5_rackAfter 86 = .ok (.ireturn, 1) := by decide +kernel
theorem dX5_crossWordsAreWords_0 : decode cX5_crossWordsAreWords 0 = .ok (.iload_n 1, 1) := by decide +kernel
theorem dX5_crossWordsAreWords_1 : decode cX5_crossWordsAreWords 1 = .ok (.invokestatic 60, 3) := by decide +kernel
theorem dX5_crossWordsAreWords_4 : decode cX5_crossWordsAreWords 4 = .ok (.istore_n 3, 1) := by decide +kernel
theorem dX5_crossWordsAreWords_5 : decode cX5_crossWordsAreWords 5 = .ok (.iload_n 2, 1) := by decide +kernel
theorem dX5_crossWordsAreWords_6 : decode cX5_crossWordsAreWords 6 = .ok (.invokestatic 27, 3) := by decide +kernel
theorem dX5_crossWordsAreWords_9 : decode cX5_crossWordsAreWords 9 = .ok (.istore 4, 2) := by decide +kernel
theorem dX5_crossWordsAreWords_11 : decode cX5_crossWordsAreWords 11 = .ok (.iconst 0, 1) := by decide +kernel
theorem dX5_crossWordsAreWords_12 : decode cX5_crossWordsAreWords 12 = .ok (.istore 5, 2) := by decide +kernel
theorem dX5_crossWordsAreWords_14 : decode cX5_crossWordsAreWords 14 = .ok (.iload 5, 2) := by decide +kernel
theorem dX5_crossWordsAreWords_16 : decode cX5_crossWordsAreWords 16 = .ok (.iload 4, 2) := by decide +kernel
theorem dX5_crossWordsAreWords_18 : decode cX5_crossWordsAreWords 18 = .ok (.if_icmp .ge 68, 3) := by decide +kernel
theorem dX5_crossWordsAreWords_21 : decode cX5_crossWordsAreWords 21 = .ok (.aload_n 0, 1) := by decide +kernel
theorem dX5_crossWordsAreWords_22 : decode cX5_crossWordsAreWords 22 = .ok (.getfield 9, 3) := by decide +kernel
theorem dX5_crossWordsAreWords_25 : decode cX5_crossWordsAreWords 25 = .ok (.getfield 66, 3) := by decide +kernel
theorem dX5_crossWordsAreWords_28 : decode cX5_crossWordsAreWords 28 = .ok (.iload_n 3, 1) := by decide +kernel
theorem dX5_crossWordsAreWords_29 : decode cX5_crossWordsAreWords 29 = .ok (.invokevirtual 70, 3) := by decide +kernel
theorem dX5_crossWordsAreWords_32 : decode cX5_crossWordsAreWords 32 = .ok (.ifCond .ne 41, 3) := by decide +kernel
theorem dX5_crossWordsAreWords_35 : decode cX5_crossWordsAreWords 35 = .ok (.iload_n 2, 1) := by decide +kernel
theorem dX5_crossWordsAreWords_36 : decode cX5_crossWordsAreWords 36 = .ok (.iload 5, 2) := by decide +kernel
theorem dX5_crossWordsAreWords_38 : decode cX5_crossWordsAreWords 38 = .ok (.invokestatic 79, 3) := by decide +kernel
theorem dX5_crossWordsAreWords_41 : decode cX5_crossWordsAreWords 41 = .ok (.istore 6, 2) := by decide +kernel
theorem dX5_crossWordsAreWords_43 : decode cX5_crossWordsAreWords 43 = .ok (.aload_n 0, 1) := by decide +kernel
theorem dX5_crossWordsAreWords_44 : decode cX5_crossWordsAreWords 44 = .ok (.getfield 9, 3) := by decide +kernel
theorem dX5_crossWordsAreWords_47 : decode cX5_crossWordsAreWords 47 = .ok (.getfield 66, 3) := by decide +kernel
theorem dX5_crossWordsAreWords_50 : decode cX5_crossWordsAreWords 50 = .ok (.iload_n 3, 1) := by decide +kernel
theorem dX5_crossWordsAreWords_51 : decode cX5_crossWordsAreWords 51 = .ok (.iload 6, 2) := by decide +kernel
theorem dX5_crossWordsAreWords_53 : decode cX5_crossWordsAreWords 53 = .ok (.iload_n 1, 1) := by decide +kernel
theorem dX5_crossWordsAreWords_54 : decode cX5_crossWordsAreWords 54 = .ok (.invokestatic 90, 3) := by decide +kernel
theorem dX5_crossWordsAreWords_57 : decode cX5_crossWordsAreWords 57 = .ok (.invokevirtual 105, 3) := by decide +kernel
theorem dX5_crossWordsAreWords_60 : decode cX5_crossWordsAreWords 60 = .ok (.istore 7, 2) := by decide +kernel
theorem dX5_crossWordsAreWords_62 : decode cX5_crossWordsAreWords 62 = .ok (.aload_n 0, 1) := by decide +kernel
theorem dX5_crossWordsAreWords_63 : decode cX5_crossWordsAreWords 63 = .ok (.iload 7, 2) := by decide +kernel
theorem dX5_crossWordsAreWords_65 : decode cX5_crossWordsAreWords 65 = .ok (.invokevirtual 108, 3) := by decide +kernel
theorem dX5_crossWordsAreWords_68 : decode cX5_crossWordsAreWords 68 = .ok (.ifCond .ne 5, 3) := by decide +kernel
theorem dX5_crossWordsAreWords_71 : decode cX5_crossWordsAreWords 71 = .ok (.iconst 0, 1) := by decide +kernel
theorem dX5_crossWordsAreWords_72 : decode cX5_crossWordsAreWords 72 = .ok (.ireturn, 1) := by decide +kernel
theorem dX5_crossWordsAreWords_73 : decode cX5_crossWordsAreWords 73 = .ok (.iload_n 3, 1) := by decide +kernel
theorem dX5_crossWordsAreWords_74 : decode cX5_crossWordsAreWords 74 = .ok (.iload_n 1, 1) := by decide +kernel
theorem dX5_crossWordsAreWords_75 : decode cX5_crossWordsAreWords 75 = .ok (.invokestatic 63, 3) := by decide +kernel
theorem dX5_crossWordsAreWords_78 : decode cX5_crossWordsAreWords 78 = .ok (.iadd, 1) := by decide +kernel
theorem dX5_crossWordsAreWords_79 : decode cX5_crossWordsAreWords 79 = .ok (.istore_n 3, 1) := by decide +kernel
theorem dX5_crossWordsAreWords_80 : decode cX5_crossWordsAreWords 80 = .ok (.iinc 5 1, 3) := by decide +kernel
theorem dX5_crossWordsAreWords_83 : decode cX5_crossWordsAreWords 83 = .ok (.goto (-69), 3) := by decide +kernel
theorem dX5_crossWordsAreWords_86 : decode cX5_crossWordsAreWords 86 = .ok (.iconst 1, 1) := by decide +kernel
theorem dX5_crossWordsAreWords_87 : decode cX5_crossWordsAreWords 87 = .ok (.ireturn, 1) := by decide +kernel
theorem dX5_mayStand_0 : decode cX5_mayStand 0 = .ok (.iload_n 1, 1) := by decide +kernel
theorem dX5_mayStand_1 : decode cX5_mayStand 1 = .ok (.invokestatic 27, 3) := by decide +kernel
theorem dX5_mayStand_4 : decode cX5_mayStand 4 = .ok (.iconst 1, 1) := by decide +kernel
theorem dX5_mayStand_5 : decode cX5_mayStand 5 = .ok (.if_icmp .eq 18, 3) := by decide +kernel
theorem dX5_mayStand_8 : decode cX5_mayStand 8 = .ok (.aload_n 0, 1) := by decide +kernel
theorem dX5_mayStand_9 : decode cX5_mayStand 9 = .ok (.getfield 9, 3) := by decide +kernel
theorem dX5_mayStand_12 : decode cX5_mayStand 12 = .ok (.getfield 15, 3) := by decide +kernel
theorem dX5_mayStand_15 : decode cX5_mayStand 15 = .ok (.iload_n 1, 1) := by decide +kernel
theorem dX5_mayStand_16 : decode cX5_mayStand 16 = .ok (.invokevirtual 111, 3) := by decide +kernel
theorem dX5_mayStand_19 : decode cX5_mayStand 19 = .ok (.iconst (-1), 1) := by decide +kernel
theorem dX5_mayStand_20 : decode cX5_mayStand 20 = .ok (.if_icmp .eq 7, 3) := by decide +kernel
theorem dX5_mayStand_23 : decode cX5_mayStand 23 = .ok (.iconst 1, 1) := by decide +kernel
theorem dX5_mayStand_24 : decode cX5_mayStand 24 = .ok (.goto 4, 3) := by decide +kernel
theorem dX5_mayStand_27 : decode cX5_mayStand 27 = .ok (.iconst 0, 1) := by decide +kernel
theorem dX5_mayStand_28 : decode cX5_mayStand 28 = .ok (.ireturn, 1) := by decide +kernel
theorem dX5_crossLetters_0 : decode cX5_crossLetters 0 = .ok (.iload_n 1, 1) := by decide +kernel
theorem dX5_crossLetters_1 : decode cX5_crossLetters 1 = .ok (.invokestatic 60, 3) := by decide +kernel
theorem dX5_crossLetters_4 : decode cX5_crossLetters 4 = .ok (.istore_n 2, 1) := by decide +kernel
theorem dX5_crossLetters_5 : decode cX5_crossLetters 5 = .ok (.iconst 0, 1) := by decide +kernel
theorem dX5_crossLetters_6 : decode cX5_crossLetters 6 = .ok (.istore_n 3, 1) := by decide +kernel
theorem dX5_crossLetters_7 : decode cX5_crossLetters 7 = .ok (.aload_n 0, 1) := by decide +kernel
theorem dX5_crossLetters_8 : decode cX5_crossLetters 8 = .ok (.getfield 9, 3) := by decide +kernel
theorem dX5_crossLetters_11 : decode cX5_crossLetters 11 = .ok (.getfield 66, 3) := by decide +kernel
theorem dX5_crossLetters_14 : decode cX5_crossLetters 14 = .ok (.iload_n 2, 1) := by decide +kernel
theorem dX5_crossLetters_15 : decode cX5_crossLetters 15 = .ok (.invokevirtual 70, 3) := by decide +kernel
theorem dX5_crossLetters_18 : decode cX5_crossLetters 18 = .ok (.ifCond .eq 5, 3) := by decide +kernel
theorem dX5_crossLetters_21 : decode cX5_crossLetters 21 = .ok (.iload_n 3, 1) := by decide +kernel
theorem dX5_crossLetters_22 : decode cX5_crossLetters 22 = .ok (.ireturn, 1) := by decide +kernel
theorem dX5_crossLetters_23 : decode cX5_crossLetters 23 = .ok (.iconst 0, 1) := by decide +kernel
theorem dX5_crossLetters_24 : decode cX5_crossLetters 24 = .ok (.istore 4, 2) := by decide +kernel
theorem dX5_crossLetters_26 : decode cX5_crossLetters 26 = .ok (.iload 4, 2) := by decide +kernel
theorem dX5_crossLetters_28 : decode cX5_crossLetters 28 = .ok (.bipush 8, 2) := by decide +kernel
theorem dX5_crossLetters_30 : decode cX5_crossLetters 30 = .ok (.if_icmp .ge 40, 3) := by decide +kernel
theorem dX5_crossLetters_33 : decode cX5_crossLetters 33 = .ok (.aload_n 0, 1) := by decide +kernel
theorem dX5_crossLetters_34 : decode cX5_crossLetters 34 = .ok (.aload_n 0, 1) := by decide +kernel
theorem dX5_crossLetters_35 : decode cX5_crossLetters 35 = .ok (.getfield 9, 3) := by decide +kernel
theorem dX5_crossLetters_38 : decode cX5_crossLetters 38 = .ok (.getfield 66, 3) := by decide +kernel
theorem dX5_crossLetters_41 : decode cX5_crossLetters 41 = .ok (.iload_n 2, 1) := by decide +kernel
theorem dX5_crossLetters_42 : decode cX5_crossLetters 42 = .ok (.iload 4, 2) := by decide +kernel
theorem dX5_crossLetters_44 : decode cX5_crossLetters 44 = .ok (.iload_n 1, 1) := by decide +kernel
theorem dX5_crossLetters_45 : decode cX5_crossLetters 45 = .ok (.invokestatic 90, 3) := by decide +kernel
theorem dX5_crossLetters_48 : decode cX5_crossLetters 48 = .ok (.invokevirtual 105, 3) := by decide +kernel
theorem dX5_crossLetters_51 : decode cX5_crossLetters 51 = .ok (.invokevirtual 108, 3) := by decide +kernel
theorem dX5_crossLetters_54 : decode cX5_crossLetters 54 = .ok (.ifCond .eq 10, 3) := by decide +kernel
theorem dX5_crossLetters_57 : decode cX5_crossLetters 57 = .ok (.iload_n 3, 1) := by decide +kernel
theorem dX5_crossLetters_58 : decode cX5_crossLetters 58 = .ok (.iconst 1, 1) := by decide +kernel
theorem dX5_crossLetters_59 : decode cX5_crossLetters 59 = .ok (.iload 4, 2) := by decide +kernel
theorem dX5_crossLetters_61 : decode cX5_crossLetters 61 = .ok (.ishl, 1) := by decide +kernel
theorem dX5_crossLetters_62 : decode cX5_crossLetters 62 = .ok (.ior, 1) := by decide +kernel
theorem dX5_crossLetters_63 : decode cX5_crossLetters 63 = .ok (.istore_n 3, 1) := by decide +kernel
theorem dX5_crossLetters_64 : decode cX5_crossLetters 64 = .ok (.iinc 4 1, 3) := by decide +kernel
theorem dX5_crossLetters_67 : decode cX5_crossLetters 67 = .ok (.goto (-41), 3) := by decide +kernel
theorem dX5_crossLetters_70 : decode cX5_crossLetters 70 = .ok (.iload_n 3, 1) := by decide +kernel
theorem dX5_crossLetters_71 : decode cX5_crossLetters 71 = .ok (.ireturn, 1) := by decide +kernel
theorem dX5_nextPlay_0 : decode cX5_nextPlay 0 = .ok (.aload_n 0, 1) := by decide +kernel
theorem dX5_nextPlay_1 : decode cX5_nextPlay 1 = .ok (.getfield 9, 3) := by decide +kernel
theorem dX5_nextPlay_4 : decode cX5_nextPlay 4 = .ok (.getfield 15, 3) := by decide +kernel
theorem dX5_nextPlay_7 : decode cX5_nextPlay 7 = .ok (.invokevirtual 114, 3) := by decide +kernel
theorem dX5_nextPlay_10 : decode cX5_nextPlay 10 = .ok (.istore_n 3, 1) := by decide +kernel
theorem dX5_nextPlay_11 : decode cX5_nextPlay 11 = .ok (.iload_n 2, 1) := by decide +kernel
theorem dX5_nextPlay_12 : decode cX5_nextPlay 12 = .ok (.invokestatic 118, 3) := by decide +kernel
theorem dX5_nextPlay_15 : decode cX5_nextPlay 15 = .ok (.istore 4, 2) := by decide +kernel
theorem dX5_nextPlay_17 : decode cX5_nextPlay 17 = .ok (.iload_n 2, 1) := by decide +kernel
theorem dX5_nextPlay_18 : decode cX5_nextPlay 18 = .ok (.invokestatic 121, 3) := by decide +kernel
theorem dX5_nextPlay_21 : decode cX5_nextPlay 21 = .ok (.istore 5, 2) := by decide +kernel
theorem dX5_nextPlay_23 : decode cX5_nextPlay 23 = .ok (.iload 5, 2) := by decide +kernel
theorem dX5_nextPlay_25 : decode cX5_nextPlay 25 = .ok (.sipush 128, 3) := by decide +kernel
theorem dX5_nextPlay_28 : decode cX5_nextPlay 28 = .ok (.if_icmp .ge 84, 3) := by decide +kernel
theorem dX5_nextPlay_31 : decode cX5_nextPlay 31 = .ok (.aload_n 0, 1) := by decide +kernel
theorem dX5_nextPlay_32 : decode cX5_nextPlay 32 = .ok (.iload 5, 2) := by decide +kernel
theorem dX5_nextPlay_34 : decode cX5_nextPlay 34 = .ok (.invokevirtual 124, 3) := by decide +kernel
theorem dX5_nextPlay_37 : decode cX5_nextPlay 37 = .ok (.istore 6, 2) := by decide +kernel
theorem dX5_nextPlay_39 : decode cX5_nextPlay 39 = .ok (.iload 6, 2) := by decide +kernel
theorem dX5_nextPlay_41 : decode cX5_nextPlay 41 = .ok (.ifCond .eq 62, 3) := by decide +kernel
theorem dX5_nextPlay_44 : decode cX5_nextPlay 44 = .ok (.iload 4, 2) := by decide +kernel
theorem dX5_nextPlay_46 : decode cX5_nextPlay 46 = .ok (.iload_n 3, 1) := by decide +kernel
theorem dX5_nextPlay_47 : decode cX5_nextPlay 47 = .ok (.if_icmp .ge 56, 3) := by decide +kernel
theorem dX5_nextPlay_50 : decode cX5_nextPlay 50 = .ok (.aload_n 0, 1) := by decide +kernel
theorem dX5_nextPlay_51 : decode cX5_nextPlay 51 = .ok (.getfield 9, 3) := by decide +kernel
theorem dX5_nextPlay_54 : decode cX5_nextPlay 54 = .ok (.getfield 15, 3) := by decide +kernel
theorem dX5_nextPlay_57 : decode cX5_nextPlay 57 = .ok (.iload 4, 2) := by decide +kernel
theorem dX5_nextPlay_59 : decode cX5_nextPlay 59 = .ok (.invokevirtual 21, 3) := by decide +kernel
theorem dX5_nextPlay_62 : decode cX5_nextPlay 62 = .ok (.invokestatic 27, 3) := by decide +kernel
theorem dX5_nextPlay_65 : decode cX5_nextPlay 65 = .ok (.istore 7, 2) := by decide +kernel
theorem dX5_nextPlay_67 : decode cX5_nextPlay 67 = .ok (.iload 6, 2) := by decide +kernel
theorem dX5_nextPlay_69 : decode cX5_nextPlay 69 = .ok (.iload 7, 2) := by decide +kernel
theorem dX5_nextPlay_71 : decode cX5_nextPlay 71 = .ok (.ishr, 1) := by decide +kernel
theorem dX5_nextPlay_72 : decode cX5_nextPlay 72 = .ok (.iconst 1, 1) := by decide +kernel
theorem dX5_nextPlay_73 : decode cX5_nextPlay 73 = .ok (.iand, 1) := by decide +kernel
theorem dX5_nextPlay_74 : decode cX5_nextPlay 74 = .ok (.ifCond .eq 23, 3) := by decide +kernel
theorem dX5_nextPlay_77 : decode cX5_nextPlay 77 = .ok (.aload_n 0, 1) := by decide +kernel
theorem dX5_nextPlay_78 : decode cX5_nextPlay 78 = .ok (.iload_n 1, 1) := by decide +kernel
theorem dX5_nextPlay_79 : decode cX5_nextPlay 79 = .ok (.iload 5, 2) := by decide +kernel
theorem dX5_nextPlay_81 : decode cX5_nextPlay 81 = .ok (.iload 4, 2) := by decide +kernel
theorem dX5_nextPlay_83 : decode cX5_nextPlay 83 = .ok (.invokevirtual 127, 3) := by decide +kernel
theorem dX5_nextPlay_86 : decode cX5_nextPlay 86 = .ok (.ifCond .ne 11, 3) := by decide +kernel
theorem dX5_nextPlay_89 : decode cX5_nextPlay 89 = .ok (.iload 5, 2) := by decide +kernel
theorem dX5_nextPlay_91 : decode cX5_nextPlay 91 = .ok (.iload 4, 2) := by decide +kernel
theorem dX5_nextPlay_93 : decode cX5_nextPlay 93 = .ok (.invokestatic 130, 3) := by decide +kernel
theorem dX5_nextPlay_96 : decode cX5_nextPlay 96 = .ok (.ireturn, 1) := by decide +kernel
theorem dX5_nextPlay_97 : decode cX5_nextPlay 97 = .ok (.iinc 4 1, 3) := by decide +kernel
theorem dX5_nextPlay_100 : decode cX5_nextPlay 100 = .ok (.goto (-61), 3) := by decide +kernel
theorem dX5_nextPlay_103 : decode cX5_nextPlay 103 = .ok (.iconst 0, 1) := by decide +kernel
theorem dX5_nextPlay_104 : decode cX5_nextPlay 104 = .ok (.istore 4, 2) := by decide +kernel
theorem dX5_nextPlay_106 : decode cX5_nextPlay 106 = .ok (.iinc 5 1, 3) := by decide +kernel
theorem dX5_nextPlay_109 : decode cX5_nextPlay 109 = .ok (.goto (-86), 3) := by decide +kernel
theorem dX5_nextPlay_112 : decode cX5_nextPlay 112 = .ok (.iconst (-1), 1) := by decide +kernel
theorem dX5_nextPlay_113 : decode cX5_nextPlay 113 = .ok (.ireturn, 1) := by decide +kernel
theorem dX5_lengthsThatMayFit_0 : decode cX5_lengthsThatMayFit 0 = .ok (.iload_n 1, 1) := by decide +kernel
theorem dX5_lengthsThatMayFit_1 : decode cX5_lengthsThatMayFit 1 = .ok (.invokestatic 133, 3) := by decide +kernel
theorem dX5_lengthsThatMayFit_4 : decode cX5_lengthsThatMayFit 4 = .ok (.ifCond .ne 5, 3) := by decide +kernel
theorem dX5_lengthsThatMayFit_7 : decode cX5_lengthsThatMayFit 7 = .ok (.iconst 0, 1) := by decide +kernel
theorem dX5_lengthsThatMayFit_8 : decode cX5_lengthsThatMayFit 8 = .ok (.ireturn, 1) := by decide +kernel
theorem dX5_lengthsThatMayFit_9 : decode cX5_lengthsThatMayFit 9 = .ok (.iconst 0, 1) := by decide +kernel
theorem dX5_lengthsThatMayFit_10 : decode cX5_lengthsThatMayFit 10 = .ok (.istore_n 2, 1) := by decide +kernel
theorem dX5_lengthsThatMayFit_11 : decode cX5_lengthsThatMayFit 11 = .ok (.iload_n 1, 1) := by decide +kernel
theorem dX5_lengthsThatMayFit_12 : decode cX5_lengthsThatMayFit 12 = .ok (.invokestatic 32, 3) := by decide +kernel
theorem dX5_lengthsThatMayFit_15 : decode cX5_lengthsThatMayFit 15 = .ok (.istore_n 3, 1) := by decide +kernel
theorem dX5_lengthsThatMayFit_16 : decode cX5_lengthsThatMayFit 16 = .ok (.iconst 2, 1) := by decide +kernel
theorem dX5_lengthsThatMayFit_17 : decode cX5_lengthsThatMayFit 17 = .ok (.istore 4, 2) := by decide +kernel
theorem dX5_lengthsThatMayFit_19 : decode cX5_lengthsThatMayFit 19 = .ok (.iload 4, 2) := by decide +kernel
theorem dX5_lengthsThatMayFit_21 : decode cX5_lengthsThatMayFit 21 = .ok (.iload_n 3, 1) := by decide +kernel
theorem dX5_lengthsThatMayFit_22 : decode cX5_lengthsThatMayFit 22 = .ok (.if_icmp .gt 36, 3) := by decide +kernel
theorem dX5_lengthsThatMayFit_25 : decode cX5_lengthsThatMayFit 25 = .ok (.aload_n 0, 1) := by decide +kernel
theorem dX5_lengthsThatMayFit_26 : decode cX5_lengthsThatMayFit 26 = .ok (.iload_n 1, 1) := by decide +kernel
theorem dX5_lengthsThatMayFit_27 : decode cX5_lengthsThatMayFit 27 = .ok (.iload 4, 2) := by decide +kernel
theorem dX5_lengthsThatMayFit_29 : decode cX5_lengthsThatMayFit 29 = .ok (.invokevirtual 54, 3) := by decide +kernel
theorem dX5_lengthsThatMayFit_32 : decode cX5_lengthsThatMayFit 32 = .ok (.ifCond .eq 20, 3) := by decide +kernel
theorem dX5_lengthsThatMayFit_35 : decode cX5_lengthsThatMayFit 35 = .ok (.aload_n 0, 1) := by decide +kernel
theorem dX5_lengthsThatMayFit_36 : decode cX5_lengthsThatMayFit 36 = .ok (.iload_n 1, 1) := by decide +kernel
theorem dX5_lengthsThatMayFit_37 : decode cX5_lengthsThatMayFit 37 = .ok (.iload 4, 2) := by decide +kernel
theorem dX5_lengthsThatMayFit_39 : decode cX5_lengthsThatMayFit 39 = .ok (.invokevirtual 37, 3) := by decide +kernel
theorem dX5_lengthsThatMayFit_42 : decode cX5_lengthsThatMayFit 42 = .ok (.ifCond .ne 10, 3) := by decide +kernel
theorem dX5_lengthsThatMayFit_45 : decode cX5_lengthsThatMayFit 45 = .ok (.iload_n 2, 1) := by decide +kernel
theorem dX5_lengthsThatMayFit_46 : decode cX5_lengthsThatMayFit 46 = .ok (.iconst 1, 1) := by decide +kernel
theorem dX5_lengthsThatMayFit_47 : decode cX5_lengthsThatMayFit 47 = .ok (.iload 4, 2) := by decide +kernel
theorem dX5_lengthsThatMayFit_49 : decode cX5_lengthsThatMayFit 49 = .ok (.ishl, 1) := by decide +kernel
theorem dX5_lengthsThatMayFit_50 : decode cX5_lengthsThatMayFit 50 = .ok (.ior, 1) := by decide +kernel
theorem dX5_lengthsThatMayFit_51 : decode cX5_lengthsThatMayFit 51 = .ok (.istore_n 2, 1) := by decide +kernel
theorem dX5_lengthsThatMayFit_52 : decode cX5_lengthsThatMayFit 52 = .ok (.iinc 4 1, 3) := by decide +kernel
theorem dX5_lengthsThatMayFit_55 : decode cX5_lengthsThatMayFit 55 = .ok (.goto (-36), 3) := by decide +kernel
theorem dX5_lengthsThatMayFit_58 : decode cX5_lengthsThatMayFit 58 = .ok (.iload_n 2, 1) := by decide +kernel
theorem dX5_lengthsThatMayFit_59 : decode cX5_lengthsThatMayFit 59 = .ok (.ireturn, 1) := by decide +kernel
theorem dX5_countPlays_0 : decode cX5_countPlays 0 = .ok (.iconst 0, 1) := by decide +kernel
theorem dX5_countPlays_1 : decode cX5_countPlays 1 = .ok (.istore_n 2, 1) := by decide +kernel
theorem dX5_countPlays_2 : decode cX5_countPlays 2 = .ok (.aload_n 0, 1) := by decide +kernel
theorem dX5_countPlays_3 : decode cX5_countPlays 3 = .ok (.iload_n 1, 1) := by decide +kernel
theorem dX5_countPlays_4 : decode cX5_countPlays 4 = .ok (.iconst 0, 1) := by decide +kernel
theorem dX5_countPlays_5 : decode cX5_countPlays 5 = .ok (.invokevirtual 136, 3) := by decide +kernel
theorem dX5_countPlays_8 : decode cX5_countPlays 8 = .ok (.istore_n 3, 1) := by decide +kernel
theorem dX5_countPlays_9 : decode cX5_countPlays 9 = .ok (.iload_n 2, 1) := by decide +kernel
theorem dX5_countPlays_10 : decode cX5_countPlays 10 = .ok (.sipush 4096, 3) := by decide +kernel
theorem dX5_countPlays_13 : decode cX5_countPlays 13 = .ok (.if_icmp .ge 23, 3) := by decide +kernel
theorem dX5_countPlays_16 : decode cX5_countPlays 16 = .ok (.iload_n 3, 1) := by decide +kernel
theorem dX5_countPlays_17 : decode cX5_countPlays 17 = .ok (.iconst (-1), 1) := by decide +kernel
theorem dX5_countPlays_18 : decode cX5_countPlays 18 = .ok (.if_icmp .eq 18, 3) := by decide +kernel
theorem dX5_countPlays_21 : decode cX5_countPlays 21 = .ok (.iinc 2 1, 3) := by decide +kernel
theorem dX5_countPlays_24 : decode cX5_countPlays 24 = .ok (.aload_n 0, 1) := by decide +kernel
theorem dX5_countPlays_25 : decode cX5_countPlays 25 = .ok (.iload_n 1, 1) := by decide +kernel
theorem dX5_countPlays_26 : decode cX5_countPlays 26 = .ok (.iload_n 3, 1) := by decide +kernel
theorem dX5_countPlays_27 : decode cX5_countPlays 27 = .ok (.iconst 1, 1) := by decide +kernel
theorem dX5_countPlays_28 : decode cX5_countPlays 28 = .ok (.iadd, 1) := by decide +kernel
theorem dX5_countPlays_29 : decode cX5_countPlays 29 = .ok (.invokevirtual 136, 3) := by decide +kernel
theorem dX5_countPlays_32 : decode cX5_countPlays 32 = .ok (.istore_n 3, 1) := by decide +kernel
theorem dX5_countPlays_33 : decode cX5_countPlays 33 = .ok (.goto (-24), 3) := by decide +kernel
theorem dX5_countPlays_36 : decode cX5_countPlays 36 = .ok (.iload_n 2, 1) := by decide +kernel
theorem dX5_countPlays_37 : decode cX5_countPlays 37 = .ok (.ireturn, 1) := by decide +kernel
theorem dX5_playNumbered_0 : decode cX5_playNumbered 0 = .ok (.iload_n 2, 1) := by decide +kernel
theorem dX5_playNumbered_1 : decode cX5_playNumbered 1 = .ok (.ifCond .lt 10, 3) := by decide +kernel
theorem dX5_playNumbered_4 : decode cX5_playNumbered 4 = .ok (.iload_n 2, 1) := by decide +kernel
theorem dX5_playNumbered_5 : decode cX5_playNumbered 5 = .ok (.sipush 4096, 3) := by decide +kernel
theorem dX5_playNumbered_8 : decode cX5_playNumbered 8 = .ok (.if_icmp .lt 5, 3) := by decide +kernel
theorem dX5_playNumbered_11 : decode cX5_playNumbered 11 = .ok (.iconst (-1), 1) := by decide +kernel
theorem dX5_playNumbered_12 : decode cX5_playNumbered 12 = .ok (.ireturn, 1) := by decide +kernel
theorem dX5_playNumbered_13 : decode cX5_playNumbered 13 = .ok (.aload_n 0, 1) := by decide +kernel
theorem dX5_playNumbered_14 : decode cX5_playNumbered 14 = .ok (.iload_n 1, 1) := by decide +kernel
theorem dX5_playNumbered_15 : decode cX5_playNumbered 15 = .ok (.iconst 0, 1) := by decide +kernel
theorem dX5_playNumbered_16 : decode cX5_playNumbered 16 = .ok (.invokevirtual 136, 3) := by decide +kernel
theorem dX5_playNumbered_19 : decode cX5_playNumbered 19 = .ok (.istore_n 3, 1) := by decide +kernel
theorem dX5_playNumbered_20 : decode cX5_playNumbered 20 = .ok (.iconst 0, 1) := by decide +kernel
theorem dX5_playNumbered_21 : decode cX5_playNumbered 21 = .ok (.istore 4, 2) := by decide +kernel
theorem dX5_playNumbered_23 : decode cX5_playNumbered 23 = .ok (.iload 4, 2) := by decide +kernel
theorem dX5_playNumbered_25 : decode cX5_playNumbered 25 = .ok (.iload_n 2, 1) := by decide +kernel
theorem dX5_playNumbered_26 : decode cX5_playNumbered 26 = .ok (.if_icmp .ge 23, 3) := by decide +kernel
theorem dX5_playNumbered_29 : decode cX5_playNumbered 29 = .ok (.iload_n 3, 1) := by decide +kernel
theorem dX5_playNumbered_30 : decode cX5_playNumbered 30 = .ok (.iconst (-1), 1) := by decide +kernel
theorem dX5_playNumbered_31 : decode cX5_playNumbered 31 = .ok (.if_icmp .eq 18, 3) := by decide +kernel
theorem dX5_playNumbered_34 : decode cX5_playNumbered 34 = .ok (.aload_n 0, 1) := by decide +kernel
theorem dX5_playNumbered_35 : decode cX5_playNumbered 35 = .ok (.iload_n 1, 1) := by decide +kernel
theorem dX5_playNumbered_36 : decode cX5_playNumbered 36 = .ok (.iload_n 3, 1) := by decide +kernel
theorem dX5_playNumbered_37 : decode cX5_playNumbered 37 = .ok (.iconst 1, 1) := by decide +kernel
theorem dX5_playNumbered_38 : decode cX5_playNumbered 38 = .ok (.iadd, 1) := by decide +kernel
theorem dX5_playNumbered_39 : decode cX5_playNumbered 39 = .ok (.invokevirtual 136, 3) := by decide +kernel
theorem dX5_playNumbered_42 : decode cX5_playNumbered 42 = .ok (.istore_n 3, 1) := by decide +kernel
theorem dX5_playNumbered_43 : decode cX5_playNumbered 43 = .ok (.iinc 4 1, 3) := by decide +kernel
theorem dX5_playNumbered_46 : decode cX5_playNumbered 46 = .ok (.goto (-23), 3) := by decide +kernel
theorem dX5_playNumbered_49 : decode cX5_playNumbered 49 = .ok (.iload_n 3, 1) := by decide +kernel
theorem dX5_playNumbered_50 : decode cX5_playNumbered 50 = .ok (.ireturn, 1) := by decide +kernel
theorem dX5_indexOfBest_0 : decode cX5_indexOfBest 0 = .ok (.iconst (-1), 1) := by decide +kernel
theorem dX5_indexOfBest_1 : decode cX5_indexOfBest 1 = .ok (.istore_n 2, 1) := by decide +kernel
theorem dX5_indexOfBest_2 : decode cX5_indexOfBest 2 = .ok (.iconst 0, 1) := by decide +kernel
theorem dX5_indexOfBest_3 : decode cX5_indexOfBest 3 = .ok (.istore_n 3, 1) := by decide +kernel
theorem dX5_indexOfBest_4 : decode cX5_indexOfBest 4 = .ok (.aload_n 0, 1) := by decide +kernel
theorem dX5_indexOfBest_5 : decode cX5_indexOfBest 5 = .ok (.iload_n 1, 1) := by decide +kernel
theorem dX5_indexOfBest_6 : decode cX5_indexOfBest 6 = .ok (.iconst 0, 1) := by decide +kernel
theorem dX5_indexOfBest_7 : decode cX5_indexOfBest 7 = .ok (.invokevirtual 136, 3) := by decide +kernel
theorem dX5_indexOfBest_10 : decode cX5_indexOfBest 10 = .ok (.istore 4, 2) := by decide +kernel
theorem dX5_indexOfBest_12 : decode cX5_indexOfBest 12 = .ok (.iconst 0, 1) := by decide +kernel
theorem dX5_indexOfBest_13 : decode cX5_indexOfBest 13 = .ok (.istore 5, 2) := by decide +kernel
theorem dX5_indexOfBest_15 : decode cX5_indexOfBest 15 = .ok (.iload 5, 2) := by decide +kernel
theorem dX5_indexOfBest_17 : decode cX5_indexOfBest 17 = .ok (.sipush 4096, 3) := by decide +kernel
theorem dX5_indexOfBest_20 : decode cX5_indexOfBest 20 = .ok (.if_icmp .ge 52, 3) := by decide +kernel
theorem dX5_indexOfBest_23 : decode cX5_indexOfBest 23 = .ok (.iload 4, 2) := by decide +kernel
theorem dX5_indexOfBest_25 : decode cX5_indexOfBest 25 = .ok (.iconst (-1), 1) := by decide +kernel
theorem dX5_indexOfBest_26 : decode cX5_indexOfBest 26 = .ok (.if_icmp .eq 46, 3) := by decide +kernel
theorem dX5_indexOfBest_29 : decode cX5_indexOfBest 29 = .ok (.aload_n 0, 1) := by decide +kernel
theorem dX5_indexOfBest_30 : decode cX5_indexOfBest 30 = .ok (.iload_n 1, 1) := by decide +kernel
theorem dX5_indexOfBest_31 : decode cX5_indexOfBest 31 = .ok (.iload 4, 2) := by decide +kernel
theorem dX5_indexOfBest_33 : decode cX5_indexOfBest 33 = .ok (.invokevirtual 139, 3) := by decide +kernel
theorem dX5_indexOfBest_36 : decode cX5_indexOfBest 36 = .ok (.istore 6, 2) := by decide +kernel
theorem dX5_indexOfBest_38 : decode cX5_indexOfBest 38 = .ok (.iload_n 2, 1) := by decide +kernel
theorem dX5_indexOfBest_39 : decode cX5_indexOfBest 39 = .ok (.iconst (-1), 1) := by decide +kernel
theorem dX5_indexOfBest_40 : decode cX5_indexOfBest 40 = .ok (.if_icmp .eq 9, 3) := by decide +kernel
theorem dX5_indexOfBest_43 : decode cX5_indexOfBest 43 = .ok (.iload 6, 2) := by decide +kernel
theorem dX5_indexOfBest_45 : decode cX5_indexOfBest 45 = .ok (.iload_n 3, 1) := by decide +kernel
theorem dX5_indexOfBest_46 : decode cX5_indexOfBest 46 = .ok (.if_icmp .le 9, 3) := by decide +kernel
theorem dX5_indexOfBest_49 : decode cX5_indexOfBest 49 = .ok (.iload 5, 2) := by decide +kernel
theorem dX5_indexOfBest_51 : decode cX5_indexOfBest 51 = .ok (.istore_n 2, 1) := by decide +kernel
theorem dX5_indexOfBest_52 : decode cX5_indexOfBest 52 = .ok (.iload 6, 2) := by decide +kernel
theorem dX5_indexOfBest_54 : decode cX5_indexOfBest 54 = .ok (.istore_n 3, 1) := by decide +kernel
theorem dX5_indexOfBest_55 : decode cX5_indexOfBest 55 = .ok (.aload_n 0, 1) := by decide +kernel
theorem dX5_indexOfBest_56 : decode cX5_indexOfBest 56 = .ok (.iload_n 1, 1) := by decide +kernel
theorem dX5_indexOfBest_57 : decode cX5_indexOfBest 57 = .ok (.iload 4, 2) := by decide +kernel
theorem dX5_indexOfBest_59 : decode cX5_indexOfBest 59 = .ok (.iconst 1, 1) := by decide +kernel
theorem dX5_indexOfBest_60 : decode cX5_indexOfBest 60 = .ok (.iadd, 1) := by decide +kernel
theorem dX5_indexOfBest_61 : decode cX5_indexOfBest 61 = .ok (.invokevirtual 136, 3) := by decide +kernel
theorem dX5_indexOfBest_64 : decode cX5_indexOfBest 64 = .ok (.istore 4, 2) := by decide +kernel
theorem dX5_indexOfBest_66 : decode cX5_indexOfBest 66 = .ok (.iinc 5 1, 3) := by decide +kernel
theorem dX5_indexOfBest_69 : decode cX5_indexOfBest 69 = .ok (.goto (-54), 3) := by decide +kernel
theorem dX5_indexOfBest_72 : decode cX5_indexOfBest 72 = .ok (.iload_n 2, 1) := by decide +kernel
theorem dX5_indexOfBest_73 : decode cX5_indexOfBest 73 = .ok (.ireturn, 1) := by decide +kernel
theorem dX5_equityOf_0 : decode cX5_equityOf 0 = .ok (.iload_n 2, 1) := by decide +kernel
theorem dX5_equityOf_1 : decode cX5_equityOf 1 = .ok (.invokestatic 121, 3) := by decide +kernel
theorem dX5_equityOf_4 : decode cX5_equityOf 4 = .ok (.istore_n 3, 1) := by decide +kernel
theorem dX5_equityOf_5 : decode cX5_equityOf 5 = .ok (.aload_n 0, 1) := by decide +kernel
theorem dX5_equityOf_6 : decode cX5_equityOf 6 = .ok (.getfield 9, 3) := by decide +kernel
theorem dX5_equityOf_9 : decode cX5_equityOf 9 = .ok (.getfield 15, 3) := by decide +kernel
theorem dX5_equityOf_12 : decode cX5_equityOf 12 = .ok (.iload_n 2, 1) := by decide +kernel
theorem dX5_equityOf_13 : decode cX5_equityOf 13 = .ok (.invokestatic 118, 3) := by decide +kernel
theorem dX5_equityOf_16 : decode cX5_equityOf 16 = .ok (.invokevirtual 21, 3) := by decide +kernel
theorem dX5_equityOf_19 : decode cX5_equityOf 19 = .ok (.istore 4, 2) := by decide +kernel
theorem dX5_equityOf_21 : decode cX5_equityOf 21 = .ok (.aload_n 0, 1) := by decide +kernel
theorem dX5_equityOf_22 : decode cX5_equityOf 22 = .ok (.iload_n 2, 1) := by decide +kernel
theorem dX5_equityOf_23 : decode cX5_equityOf 23 = .ok (.invokevirtual 142, 3) := by decide +kernel
theorem dX5_equityOf_26 : decode cX5_equityOf 26 = .ok (.aload_n 0, 1) := by decide +kernel
theorem dX5_equityOf_27 : decode cX5_equityOf 27 = .ok (.getfield 9, 3) := by decide +kernel
theorem dX5_equityOf_30 : decode cX5_equityOf 30 = .ok (.aload_n 0, 1) := by decide +kernel
theorem dX5_equityOf_31 : decode cX5_equityOf 31 = .ok (.aload_n 0, 1) := by decide +kernel
theorem dX5_equityOf_32 : decode cX5_equityOf 32 = .ok (.getfield 9, 3) := by decide +kernel
theorem dX5_equityOf_35 : decode cX5_equityOf 35 = .ok (.iload_n 1, 1) := by decide +kernel
theorem dX5_equityOf_36 : decode cX5_equityOf 36 = .ok (.invokevirtual 47, 3) := by decide +kernel
theorem dX5_equityOf_39 : decode cX5_equityOf 39 = .ok (.iload_n 3, 1) := by decide +kernel
theorem dX5_equityOf_40 : decode cX5_equityOf 40 = .ok (.iload 4, 2) := by decide +kernel
theorem dX5_equityOf_42 : decode cX5_equityOf 42 = .ok (.invokevirtual 50, 3) := by decide +kernel
theorem dX5_equityOf_45 : decode cX5_equityOf 45 = .ok (.invokevirtual 145, 3) := by decide +kernel
theorem dX5_equityOf_48 : decode cX5_equityOf 48 = .ok (.iadd, 1) := by decide +kernel
theorem dX5_equityOf_49 : decode cX5_equityOf 49 = .ok (.ireturn, 1) := by decide +kernel
theorem dX5_pointsOf_0 : decode cX5_pointsOf 0 = .ok (.iload_n 1, 1) := by decide +kernel
theorem dX5_pointsOf_1 : decode cX5_pointsOf 1 = .ok (.invokestatic 121, 3) := by decide +kernel
theorem dX5_pointsOf_4 : decode cX5_pointsOf 4 = .ok (.istore_n 2, 1) := by decide +kernel
theorem dX5_pointsOf_5 : decode cX5_pointsOf 5 = .ok (.aload_n 0, 1) := by decide +kernel
theorem dX5_pointsOf_6 : decode cX5_pointsOf 6 = .ok (.getfield 9, 3) := by decide +kernel
theorem dX5_pointsOf_9 : decode cX5_pointsOf 9 = .ok (.getfield 15, 3) := by decide +kernel
theorem dX5_pointsOf_12 : decode cX5_pointsOf 12 = .ok (.iload_n 1, 1) := by decide +kernel
theorem dX5_pointsOf_13 : decode cX5_pointsOf 13 = .ok (.invokestatic 118, 3) := by decide +kernel
theorem dX5_pointsOf_16 : decode cX5_pointsOf 16 = .ok (.invokevirtual 21, 3) := by decide +kernel
theorem dX5_pointsOf_19 : decode cX5_pointsOf 19 = .ok (.istore_n 3, 1) := by decide +kernel
theorem dX5_pointsOf_20 : decode cX5_pointsOf 20 = .ok (.aload_n 0, 1) := by decide +kernel
theorem dX5_pointsOf_21 : decode cX5_pointsOf 21 = .ok (.getfield 9, 3) := by decide +kernel
theorem dX5_pointsOf_24 : decode cX5_pointsOf 24 = .ok (.iload_n 3, 1) := by decide +kernel
theorem dX5_pointsOf_25 : decode cX5_pointsOf 25 = .ok (.invokevirtual 148, 3) := by decide +kernel
theorem dX5_pointsOf_28 : decode cX5_pointsOf 28 = .ok (.istore 4, 2) := by decide +kernel
theorem dX5_pointsOf_30 : decode cX5_pointsOf 30 = .ok (.iconst 1, 1) := by decide +kernel
theorem dX5_pointsOf_31 : decode cX5_pointsOf 31 = .ok (.istore 5, 2) := by decide +kernel
theorem dX5_pointsOf_33 : decode cX5_pointsOf 33 = .ok (.iconst 0, 1) := by decide +kernel
theorem dX5_pointsOf_34 : decode cX5_pointsOf 34 = .ok (.istore 6, 2) := by decide +kernel
theorem dX5_pointsOf_36 : decode cX5_pointsOf 36 = .ok (.iconst 0, 1) := by decide +kernel
theorem dX5_pointsOf_37 : decode cX5_pointsOf 37 = .ok (.istore 7, 2) := by decide +kernel
theorem dX5_pointsOf_39 : decode cX5_pointsOf 39 = .ok (.iload_n 2, 1) := by decide +kernel
theorem dX5_pointsOf_40 : decode cX5_pointsOf 40 = .ok (.invokestatic 60, 3) := by decide +kernel
theorem dX5_pointsOf_43 : decode cX5_pointsOf 43 = .ok (.istore 8, 2) := by decide +kernel
theorem dX5_pointsOf_45 : decode cX5_pointsOf 45 = .ok (.iload_n 3, 1) := by decide +kernel
theorem dX5_pointsOf_46 : decode cX5_pointsOf 46 = .ok (.invokestatic 27, 3) := by decide +kernel
theorem dX5_pointsOf_49 : decode cX5_pointsOf 49 = .ok (.istore 9, 2) := by decide +kernel
theorem dX5_pointsOf_51 : decode cX5_pointsOf 51 = .ok (.iconst 0, 1) := by decide +kernel
theorem dX5_pointsOf_52 : decode cX5_pointsOf 52 = .ok (.istore 10, 2) := by decide +kernel
theorem dX5_pointsOf_54 : decode cX5_pointsOf 54 = .ok (.iload 10, 2) := by decide +kernel
theorem dX5_pointsOf_56 : decode cX5_pointsOf 56 = .ok (.iload 9, 2) := by decide +kernel
theorem dX5_pointsOf_58 : decode cX5_pointsOf 58 = .ok (.if_icmp .ge 95, 3) := by decide +kernel
theorem dX5_pointsOf_61 : decode cX5_pointsOf 61 = .ok (.aload_n 0, 1) := by decide +kernel
theorem dX5_pointsOf_62 : decode cX5_pointsOf 62 = .ok (.getfield 9, 3) := by decide +kernel
theorem dX5_pointsOf_65 : decode cX5_pointsOf 65 = .ok (.getfield 66, 3) := by decide +kernel
theorem dX5_pointsOf_68 : decode cX5_pointsOf 68 = .ok (.iload 8, 2) := by decide +kernel
theorem dX5_pointsOf_70 : decode cX5_pointsOf 70 = .ok (.invokevirtual 70, 3) := by decide +kernel
theorem dX5_pointsOf_73 : decode cX5_pointsOf 73 = .ok (.ifCond .ne 65, 3) := by decide +kernel
theorem dX5_pointsOf_76 : decode cX5_pointsOf 76 = .ok (.iload_n 3, 1) := by decide +kernel
theorem dX5_pointsOf_77 : decode cX5_pointsOf 77 = .ok (.iload 10, 2) := by decide +kernel
theorem dX5_pointsOf_79 : decode cX5_pointsOf 79 = .ok (.invokestatic 79, 3) := by decide +kernel
theorem dX5_pointsOf_82 : decode cX5_pointsOf 82 = .ok (.istore 11, 2) := by decide +kernel
theorem dX5_pointsOf_84 : decode cX5_pointsOf 84 = .ok (.aload_n 0, 1) := by decide +kernel
theorem dX5_pointsOf_85 : decode cX5_pointsOf 85 = .ok (.getfield 9, 3) := by decide +kernel
theorem dX5_pointsOf_88 : decode cX5_pointsOf 88 = .ok (.getfield 66, 3) := by decide +kernel
theorem dX5_pointsOf_91 : decode cX5_pointsOf 91 = .ok (.iload 8, 2) := by decide +kernel
theorem dX5_pointsOf_93 : decode cX5_pointsOf 93 = .ok (.invokevirtual 151, 3) := by decide +kernel
theorem dX5_pointsOf_96 : decode cX5_pointsOf 96 = .ok (.istore 12, 2) := by decide +kernel
theorem dX5_pointsOf_98 : decode cX5_pointsOf 98 = .ok (.iload 4, 2) := by decide +kernel
theorem dX5_pointsOf_100 : decode cX5_pointsOf 100 = .ok (.aload_n 0, 1) := by decide +kernel
theorem dX5_pointsOf_101 : decode cX5_pointsOf 101 = .ok (.iload 11, 2) := by decide +kernel
theorem dX5_pointsOf_103 : decode cX5_pointsOf 103 = .ok (.iload 12, 2) := by decide +kernel
theorem dX5_pointsOf_105 : decode cX5_pointsOf 105 = .ok (.invokevirtual 154, 3) := by decide +kernel
theorem dX5_pointsOf_108 : decode cX5_pointsOf 108 = .ok (.iadd, 1) := by decide +kernel
theorem dX5_pointsOf_109 : decode cX5_pointsOf 109 = .ok (.istore 4, 2) := by decide +kernel
theorem dX5_pointsOf_111 : decode cX5_pointsOf 111 = .ok (.iload 5, 2) := by decide +kernel
theorem dX5_pointsOf_113 : decode cX5_pointsOf 113 = .ok (.iload 12, 2) := by decide +kernel
theorem dX5_pointsOf_115 : decode cX5_pointsOf 115 = .ok (.invokestatic 157, 3) := by decide +kernel
theorem dX5_pointsOf_118 : decode cX5_pointsOf 118 = .ok (.imul, 1) := by decide +kernel
theorem dX5_pointsOf_119 : decode cX5_pointsOf 119 = .ok (.istore 5, 2) := by decide +kernel
theorem dX5_pointsOf_121 : decode cX5_pointsOf 121 = .ok (.iload 6, 2) := by decide +kernel
theorem dX5_pointsOf_123 : decode cX5_pointsOf 123 = .ok (.aload_n 0, 1) := by decide +kernel
theorem dX5_pointsOf_124 : decode cX5_pointsOf 124 = .ok (.iload 8, 2) := by decide +kernel
theorem dX5_pointsOf_126 : decode cX5_pointsOf 126 = .ok (.iload 11, 2) := by decide +kernel
theorem dX5_pointsOf_128 : decode cX5_pointsOf 128 = .ok (.iload_n 2, 1) := by decide +kernel
theorem dX5_pointsOf_129 : decode cX5_pointsOf 129 = .ok (.invokevirtual 160, 3) := by decide +kernel
theorem dX5_pointsOf_132 : decode cX5_pointsOf 132 = .ok (.iadd, 1) := by decide +kernel
theorem dX5_pointsOf_133 : decode cX5_pointsOf 133 = .ok (.istore 6, 2) := by decide +kernel
theorem dX5_pointsOf_135 : decode cX5_pointsOf 135 = .ok (.iinc 7 1, 3) := by decide +kernel
theorem dX5_pointsOf_138 : decode cX5_pointsOf 138 = .ok (.iload 8, 2) := by decide +kernel
theorem dX5_pointsOf_140 : decode cX5_pointsOf 140 = .ok (.iload_n 2, 1) := by decide +kernel
theorem dX5_pointsOf_141 : decode cX5_pointsOf 141 = .ok (.invokestatic 63, 3) := by decide +kernel
theorem dX5_pointsOf_144 : decode cX5_pointsOf 144 = .ok (.iadd, 1) := by decide +kernel
theorem dX5_pointsOf_145 : decode cX5_pointsOf 145 = .ok (.istore 8, 2) := by decide +kernel
theorem dX5_pointsOf_147 : decode cX5_pointsOf 147 = .ok (.iinc 10 1, 3) := by decide +kernel
theorem dX5_pointsOf_150 : decode cX5_pointsOf 150 = .ok (.goto (-96), 3) := by decide +kernel
theorem dX5_pointsOf_153 : decode cX5_pointsOf 153 = .ok (.iload 4, 2) := by decide +kernel
theorem dX5_pointsOf_155 : decode cX5_pointsOf 155 = .ok (.iload 5, 2) := by decide +kernel
theorem dX5_pointsOf_157 : decode cX5_pointsOf 157 = .ok (.imul, 1) := by decide +kernel
theorem dX5_pointsOf_158 : decode cX5_pointsOf 158 = .ok (.iload 6, 2) := by decide +kernel
theorem dX5_pointsOf_160 : decode cX5_pointsOf 160 = .ok (.iadd, 1) := by decide +kernel
theorem dX5_pointsOf_161 : decode cX5_pointsOf 161 = .ok (.iload 7, 2) := by decide +kernel
theorem dX5_pointsOf_163 : decode cX5_pointsOf 163 = .ok (.iconst 5, 1) := by decide +kernel
theorem dX5_pointsOf_164 : decode cX5_pointsOf 164 = .ok (.if_icmp .ne 8, 3) := by decide +kernel
theorem dX5_pointsOf_167 : decode cX5_pointsOf 167 = .ok (.bipush 20, 2) := by decide +kernel
theorem dX5_pointsOf_169 : decode cX5_pointsOf 169 = .ok (.goto 4, 3) := by decide +kernel
theorem dX5_pointsOf_172 : decode cX5_pointsOf 172 = .ok (.iconst 0, 1) := by decide +kernel
theorem dX5_pointsOf_173 : decode cX5_pointsOf 173 = .ok (.iadd, 1) := by decide +kernel
theorem dX5_pointsOf_174 : decode cX5_pointsOf 174 = .ok (.ireturn, 1) := by decide +kernel
theorem dX5_crossPointsOf_0 : decode cX5_crossPointsOf 0 = .ok (.aload_n 0, 1) := by decide +kernel
theorem dX5_crossPointsOf_1 : decode cX5_crossPointsOf 1 = .ok (.getfield 9, 3) := by decide +kernel
theorem dX5_crossPointsOf_4 : decode cX5_crossPointsOf 4 = .ok (.getfield 66, 3) := by decide +kernel
theorem dX5_crossPointsOf_7 : decode cX5_crossPointsOf 7 = .ok (.iload_n 1, 1) := by decide +kernel
theorem dX5_crossPointsOf_8 : decode cX5_crossPointsOf 8 = .ok (.iload_n 2, 1) := by decide +kernel
theorem dX5_crossPointsOf_9 : decode cX5_crossPointsOf 9 = .ok (.iload_n 3, 1) := by decide +kernel
theorem dX5_crossPointsOf_10 : decode cX5_crossPointsOf 10 = .ok (.invokestatic 90, 3) := by decide +kernel
theorem dX5_crossPointsOf_13 : decode cX5_crossPointsOf 13 = .ok (.invokevirtual 105, 3) := by decide +kernel
theorem dX5_crossPointsOf_16 : decode cX5_crossPointsOf 16 = .ok (.istore 4, 2) := by decide +kernel
theorem dX5_crossPointsOf_18 : decode cX5_crossPointsOf 18 = .ok (.iload 4, 2) := by decide +kernel
theorem dX5_crossPointsOf_20 : decode cX5_crossPointsOf 20 = .ok (.invokestatic 27, 3) := by decide +kernel
theorem dX5_crossPointsOf_23 : decode cX5_crossPointsOf 23 = .ok (.iconst 1, 1) := by decide +kernel
theorem dX5_crossPointsOf_24 : decode cX5_crossPointsOf 24 = .ok (.if_icmp .ne 5, 3) := by decide +kernel
theorem dX5_crossPointsOf_27 : decode cX5_crossPointsOf 27 = .ok (.iconst 0, 1) := by decide +kernel
theorem dX5_crossPointsOf_28 : decode cX5_crossPointsOf 28 = .ok (.ireturn, 1) := by decide +kernel
theorem dX5_crossPointsOf_29 : decode cX5_crossPointsOf 29 = .ok (.aload_n 0, 1) := by decide +kernel
theorem dX5_crossPointsOf_30 : decode cX5_crossPointsOf 30 = .ok (.getfield 9, 3) := by decide +kernel
theorem dX5_crossPointsOf_33 : decode cX5_crossPointsOf 33 = .ok (.getfield 66, 3) := by decide +kernel
theorem dX5_crossPointsOf_36 : decode cX5_crossPointsOf 36 = .ok (.iload_n 1, 1) := by decide +kernel
theorem dX5_crossPointsOf_37 : decode cX5_crossPointsOf 37 = .ok (.invokevirtual 151, 3) := by decide +kernel
theorem dX5_crossPointsOf_40 : decode cX5_crossPointsOf 40 = .ok (.istore 5, 2) := by decide +kernel
theorem dX5_crossPointsOf_42 : decode cX5_crossPointsOf 42 = .ok (.aload_n 0, 1) := by decide +kernel
theorem dX5_crossPointsOf_43 : decode cX5_crossPointsOf 43 = .ok (.getfield 9, 3) := by decide +kernel
theorem dX5_crossPointsOf_46 : decode cX5_crossPointsOf 46 = .ok (.iload 4, 2) := by decide +kernel
theorem dX5_crossPointsOf_48 : decode cX5_crossPointsOf 48 = .ok (.invokevirtual 148, 3) := by decide +kernel
theorem dX5_crossPointsOf_51 : decode cX5_crossPointsOf 51 = .ok (.aload_n 0, 1) := by decide +kernel
theorem dX5_crossPointsOf_52 : decode cX5_crossPointsOf 52 = .ok (.iload_n 2, 1) := by decide +kernel
theorem dX5_crossPointsOf_53 : decode cX5_crossPointsOf 53 = .ok (.iload 5, 2) := by decide +kernel
theorem dX5_crossPointsOf_55 : decode cX5_crossPointsOf 55 = .ok (.invokevirtual 154, 3) := by decide +kernel
theorem dX5_crossPointsOf_58 : decode cX5_crossPointsOf 58 = .ok (.iadd, 1) := by decide +kernel
theorem dX5_crossPointsOf_59 : decode cX5_crossPointsOf 59 = .ok (.iload 5, 2) := by decide +kernel
theorem dX5_crossPointsOf_61 : decode cX5_crossPointsOf 61 = .ok (.invokestatic 157, 3) := by decide +kernel
theorem dX5_crossPointsOf_64 : decode cX5_crossPointsOf 64 = .ok (.imul, 1) := by decide +kernel
theorem dX5_crossPointsOf_65 : decode cX5_crossPointsOf 65 = .ok (.ireturn, 1) := by decide +kernel
theorem dX5_extraOf_0 : decode cX5_extraOf 0 = .ok (.iload_n 2, 1) := by decide +kernel
theorem dX5_extraOf_1 : decode cX5_extraOf 1 = .ok (.lookupswitch 47 #[(1, 27), (2, 36)], 27) := by decide +kernel
theorem dX5_extraOf_28 : decode cX5_extraOf 28 = .ok (.aload_n 0, 1) := by decide +kernel
theorem dX5_extraOf_29 : decode cX5_extraOf 29 = .ok (.getfield 9, 3) := by decide +kernel
theorem dX5_extraOf_32 : decode cX5_extraOf 32 = .ok (.iload_n 1, 1) := by decide +kernel
theorem dX5_extraOf_33 : decode cX5_extraOf 33 = .ok (.invokevirtual 163, 3) := by decide +kernel
theorem dX5_extraOf_36 : decode cX5_extraOf 36 = .ok (.ireturn, 1) := by decide +kernel
theorem dX5_extraOf_37 : decode cX5_extraOf 37 = .ok (.iconst 2, 1) := by decide +kernel
theorem dX5_extraOf_38 : decode cX5_extraOf 38 = .ok (.aload_n 0, 1) := by decide +kernel
theorem dX5_extraOf_39 : decode cX5_extraOf 39 = .ok (.getfield 9, 3) := by decide +kernel
theorem dX5_extraOf_42 : decode cX5_extraOf 42 = .ok (.iload_n 1, 1) := by decide +kernel
theorem dX5_extraOf_43 : decode cX5_extraOf 43 = .ok (.invokevirtual 163, 3) := by decide +kernel
theorem dX5_extraOf_46 : decode cX5_extraOf 46 = .ok (.imul, 1) := by decide +kernel
theorem dX5_extraOf_47 : decode cX5_extraOf 47 = .ok (.ireturn, 1) := by decide +kernel
theorem dX5_extraOf_48 : decode cX5_extraOf 48 = .ok (.iconst 0, 1) := by decide +kernel
theorem dX5_extraOf_49 : decode cX5_extraOf 49 = .ok (.ireturn, 1) := by decide +kernel
theorem dX5_wordFactor_0 : decode cX5_wordFactor 0 = .ok (.iload_n 0, 1) := by decide +kernel
theorem dX5_wordFactor_1 : decode cX5_wordFactor 1 = .ok (.lookupswitch 31 #[(3, 27), (4, 29)], 27) := by decide +kernel
theorem dX5_wordFactor_28 : decode cX5_wordFactor 28 = .ok (.iconst 2, 1) := by decide +kernel
theorem dX5_wordFactor_29 : decode cX5_wordFactor 29 = .ok (.ireturn, 1) := by decide +kernel
theorem dX5_wordFactor_30 : decode cX5_wordFactor 30 = .ok (.iconst 3, 1) := by decide +kernel
theorem dX5_wordFactor_31 : decode cX5_wordFactor 31 = .ok (.ireturn, 1) := by decide +kernel
theorem dX5_wordFactor_32 : decode cX5_wordFactor 32 = .ok (.iconst 1, 1) := by decide +kernel
theorem dX5_wordFactor_33 : decode cX5_wordFactor 33 = .ok (.ireturn, 1) := by decide +kernel
theorem dX5_lay_0 : decode cX5_lay 0 = .ok (.iload_n 2, 1) := by decide +kernel
theorem dX5_lay_1 : decode cX5_lay 1 = .ok (.invokestatic 121, 3) := by decide +kernel
theorem dX5_lay_4 : decode cX5_lay 4 = .ok (.istore_n 3, 1) := by decide +kernel
theorem dX5_lay_5 : decode cX5_lay 5 = .ok (.aload_n 0, 1) := by decide +kernel
theorem dX5_lay_6 : decode cX5_lay 6 = .ok (.getfield 9, 3) := by decide +kernel
theorem dX5_lay_9 : decode cX5_lay 9 = .ok (.getfield 15, 3) := by decide +kernel
theorem dX5_lay_12 : decode cX5_lay 12 = .ok (.iload_n 2, 1) := by decide +kernel
theorem dX5_lay_13 : decode cX5_lay 13 = .ok (.invokestatic 118, 3) := by decide +kernel
theorem dX5_lay_16 : decode cX5_lay 16 = .ok (.invokevirtual 21, 3) := by decide +kernel
theorem dX5_lay_19 : decode cX5_lay 19 = .ok (.istore 4, 2) := by decide +kernel
theorem dX5_lay_21 : decode cX5_lay 21 = .ok (.iload 4, 2) := by decide +kernel
theorem dX5_lay_23 : decode cX5_lay 23 = .ok (.invokestatic 27, 3) := by decide +kernel
theorem dX5_lay_26 : decode cX5_lay 26 = .ok (.istore 5, 2) := by decide +kernel
theorem dX5_lay_28 : decode cX5_lay 28 = .ok (.aload_n 0, 1) := by decide +kernel
theorem dX5_lay_29 : decode cX5_lay 29 = .ok (.getfield 9, 3) := by decide +kernel
theorem dX5_lay_32 : decode cX5_lay 32 = .ok (.iload_n 1, 1) := by decide +kernel
theorem dX5_lay_33 : decode cX5_lay 33 = .ok (.aload_n 0, 1) := by decide +kernel
theorem dX5_lay_34 : decode cX5_lay 34 = .ok (.aload_n 0, 1) := by decide +kernel
theorem dX5_lay_35 : decode cX5_lay 35 = .ok (.getfield 9, 3) := by decide +kernel
theorem dX5_lay_38 : decode cX5_lay 38 = .ok (.iload_n 1, 1) := by decide +kernel
theorem dX5_lay_39 : decode cX5_lay 39 = .ok (.invokevirtual 47, 3) := by decide +kernel
theorem dX5_lay_42 : decode cX5_lay 42 = .ok (.iload_n 3, 1) := by decide +kernel
theorem dX5_lay_43 : decode cX5_lay 43 = .ok (.iload 4, 2) := by decide +kernel
theorem dX5_lay_45 : decode cX5_lay 45 = .ok (.invokevirtual 50, 3) := by decide +kernel
theorem dX5_lay_48 : decode cX5_lay 48 = .ok (.invokevirtual 166, 3) := by decide +kernel
theorem dX5_lay_51 : decode cX5_lay 51 = .ok (.aload_n 0, 1) := by decide +kernel
theorem dX5_lay_52 : decode cX5_lay 52 = .ok (.getfield 9, 3) := by decide +kernel
theorem dX5_lay_55 : decode cX5_lay 55 = .ok (.getfield 66, 3) := by decide +kernel
theorem dX5_lay_58 : decode cX5_lay 58 = .ok (.iload_n 3, 1) := by decide +kernel
theorem dX5_lay_59 : decode cX5_lay 59 = .ok (.iload 5, 2) := by decide +kernel
theorem dX5_lay_61 : decode cX5_lay 61 = .ok (.invokestatic 82, 3) := by decide +kernel
theorem dX5_lay_64 : decode cX5_lay 64 = .ok (.invokevirtual 86, 3) := by decide +kernel
theorem dX5_lay_67 : decode cX5_lay 67 = .ok (.lstore 6, 2) := by decide +kernel
theorem dX5_lay_69 : decode cX5_lay 69 = .ok (.iload_n 3, 1) := by decide +kernel
theorem dX5_lay_70 : decode cX5_lay 70 = .ok (.invokestatic 60, 3) := by decide +kernel
theorem dX5_lay_73 : decode cX5_lay 73 = .ok (.istore 8, 2) := by decide +kernel
theorem dX5_lay_75 : decode cX5_lay 75 = .ok (.iconst 0, 1) := by decide +kernel
theorem dX5_lay_76 : decode cX5_lay 76 = .ok (.istore 9, 2) := by decide +kernel
theorem dX5_lay_78 : decode cX5_lay 78 = .ok (.iload 9, 2) := by decide +kernel
theorem dX5_lay_80 : decode cX5_lay 80 = .ok (.iload 5, 2) := by decide +kernel
theorem dX5_lay_82 : decode cX5_lay 82 = .ok (.if_icmp .ge 37, 3) := by decide +kernel
theorem dX5_lay_85 : decode cX5_lay 85 = .ok (.aload_n 0, 1) := by decide +kernel
theorem dX5_lay_86 : decode cX5_lay 86 = .ok (.getfield 9, 3) := by decide +kernel
theorem dX5_lay_89 : decode cX5_lay 89 = .ok (.getfield 66, 3) := by decide +kernel
theorem dX5_lay_92 : decode cX5_lay 92 = .ok (.iload 8, 2) := by decide +kernel
theorem dX5_lay_94 : decode cX5_lay 94 = .ok (.iload 4, 2) := by decide +kernel
theorem dX5_lay_96 : decode cX5_lay 96 = .ok (.iload 9, 2) := by decide +kernel
theorem dX5_lay_98 : decode cX5_lay 98 = .ok (.invokestatic 79, 3) := by decide +kernel
theorem dX5_lay_101 : decode cX5_lay 101 = .ok (.invokevirtual 170, 3) := by decide +kernel
theorem dX5_lay_104 : decode cX5_lay 104 = .ok (.iload 8, 2) := by decide +kernel
theorem dX5_lay_106 : decode cX5_lay 106 = .ok (.iload_n 3, 1) := by decide +kernel
theorem dX5_lay_107 : decode cX5_lay 107 = .ok (.invokestatic 63, 3) := by decide +kernel
theorem dX5_lay_110 : decode cX5_lay 110 = .ok (.iadd, 1) := by decide +kernel
theorem dX5_lay_111 : decode cX5_lay 111 = .ok (.istore 8, 2) := by decide +kernel
theorem dX5_lay_113 : decode cX5_lay 113 = .ok (.iinc 9 1, 3) := by decide +kernel
theorem dX5_lay_116 : decode cX5_lay 116 = .ok (.goto (-38), 3) := by decide +kernel
theorem dX5_lay_119 : decode cX5_lay 119 = .ok (.lload 6, 2) := by decide +kernel
theorem dX5_lay_121 : decode cX5_lay 121 = .ok (.lreturn, 1) := by decide +kernel
theorem dX6_squareOf_0 : decode cX6_squareOf 0 = .ok (.iload_n 0, 1) := by decide +kernel
theorem dX6_squareOf_1 : decode cX6_squareOf 1 = .ok (.bipush 8, 2) := by decide +kernel
theorem dX6_squareOf_3 : decode cX6_squareOf 3 = .ok (.imul, 1) := by decide +kernel
theorem dX6_squareOf_4 : decode cX6_squareOf 4 = .ok (.iload_n 1, 1) := by decide +kernel
theorem dX6_squareOf_5 : decode cX6_squareOf 5 = .ok (.iadd, 1) := by decide +kernel
theorem dX6_squareOf_6 : decode cX6_squareOf 6 = .ok (.ireturn, 1) := by decide +kernel
theorem dX6_of_0 : decode cX6_of 0 = .ok (.iload_n 0, 1) := by decide +kernel
theorem dX6_of_1 : decode cX6_of 1 = .ok (.bipush 64, 2) := by decide +kernel
theorem dX6_of_3 : decode cX6_of 3 = .ok (.imul, 1) := by decide +kernel
theorem dX6_of_4 : decode cX6_of 4 = .ok (.iload_n 1, 1) := by decide +kernel
theorem dX6_of_5 : decode cX6_of 5 = .ok (.bipush 8, 2) := by decide +kernel
theorem dX6_of_7 : decode cX6_of 7 = .ok (.imul, 1) := by decide +kernel
theorem dX6_of_8 : decode cX6_of 8 = .ok (.iadd, 1) := by decide +kernel
theorem dX6_of_9 : decode cX6_of 9 = .ok (.iload_n 2, 1) := by decide +kernel
theorem dX6_of_10 : decode cX6_of 10 = .ok (.iadd, 1) := by decide +kernel
theorem dX6_of_11 : decode cX6_of 11 = .ok (.ireturn, 1) := by decide +kernel
theorem dX6_withWord_0 : decode cX6_withWord 0 = .ok (.iload_n 0, 1) := by decide +kernel
theorem dX6_withWord_1 : decode cX6_withWord 1 = .ok (.bipush 32, 2) := by decide +kernel
theorem dX6_withWord_3 : decode cX6_withWord 3 = .ok (.imul, 1) := by decide +kernel
theorem dX6_withWord_4 : decode cX6_withWord 4 = .ok (.iload_n 1, 1) := by decide +kernel
theorem dX6_withWord_5 : decode cX6_withWord 5 = .ok (.iadd, 1) := by decide +kernel
theorem dX6_withWord_6 : decode cX6_withWord 6 = .ok (.ireturn, 1) := by decide +kernel
theorem dX6_ofPlay_0 : decode cX6_ofPlay 0 = .ok (.iload_n 0, 1) := by decide +kernel
theorem dX6_ofPlay_1 : decode cX6_ofPlay 1 = .ok (.iconst 5, 1) := by decide +kernel
theorem dX6_ofPlay_2 : decode cX6_ofPlay 2 = .ok (.ishr, 1) := by decide +kernel
theorem dX6_ofPlay_3 : decode cX6_ofPlay 3 = .ok (.ireturn, 1) := by decide +kernel
theorem dX6_wordOfPlay_0 : decode cX6_wordOfPlay 0 = .ok (.iload_n 0, 1) := by decide +kernel
theorem dX6_wordOfPlay_1 : decode cX6_wordOfPlay 1 = .ok (.bipush 31, 2) := by decide +kernel
theorem dX6_wordOfPlay_3 : decode cX6_wordOfPlay 3 = .ok (.iand, 1) := by decide +kernel
theorem dX6_wordOfPlay_4 : decode cX6_wordOfPlay 4 = .ok (.ireturn, 1) := by decide +kernel
theorem dX6_direction_0 : decode cX6_direction 0 = .ok (.iload_n 0, 1) := by decide +kernel
theorem dX6_direction_1 : decode cX6_direction 1 = .ok (.bipush 6, 2) := by decide +kernel
theorem dX6_direction_3 : decode cX6_direction 3 = .ok (.ishr, 1) := by decide +kernel
theorem dX6_direction_4 : decode cX6_direction 4 = .ok (.ireturn, 1) := by decide +kernel
theorem dX6_square_0 : decode cX6_square 0 = .ok (.iload_n 0, 1) := by decide +kernel
theorem dX6_square_1 : decode cX6_square 1 = .ok (.bipush 63, 2) := by decide +kernel
theorem dX6_square_3 : decode cX6_square 3 = .ok (.iand, 1) := by decide +kernel
theorem dX6_square_4 : decode cX6_square 4 = .ok (.ireturn, 1) := by decide +kernel
theorem dX6_row_0 : decode cX6_row 0 = .ok (.iload_n 0, 1) := by decide +kernel
theorem dX6_row_1 : decode cX6_row 1 = .ok (.iconst 3, 1) := by decide +kernel
theorem dX6_row_2 : decode cX6_row 2 = .ok (.ishr, 1) := by decide +kernel
theorem dX6_row_3 : decode cX6_row 3 = .ok (.bipush 7, 2) := by decide +kernel
theorem dX6_row_5 : decode cX6_row 5 = .ok (.iand, 1) := by decide +kernel
theorem dX6_row_6 : decode cX6_row 6 = .ok (.ireturn, 1) := by decide +kernel
theorem dX6_column_0 : decode cX6_column 0 = .ok (.iload_n 0, 1) := by decide +kernel
theorem dX6_column_1 : decode cX6_column 1 = .ok (.bipush 7, 2) := by decide +kernel
theorem dX6_column_3 : decode cX6_column 3 = .ok (.iand, 1) := by decide +kernel
theorem dX6_column_4 : decode cX6_column 4 = .ok (.ireturn, 1) := by decide +kernel
theorem dX6_step_0 : decode cX6_step 0 = .ok (.iload_n 0, 1) := by decide +kernel
theorem dX6_step_1 : decode cX6_step 1 = .ok (.bipush 64, 2) := by decide +kernel
theorem dX6_step_3 : decode cX6_step 3 = .ok (.if_icmp .ge 7, 3) := by decide +kernel
theorem dX6_step_6 : decode cX6_step 6 = .ok (.iconst 1, 1) := by decide +kernel
theorem dX6_step_7 : decode cX6_step 7 = .ok (.goto 5, 3) := by decide +kernel
theorem dX6_step_10 : decode cX6_step 10 = .ok (.bipush 8, 2) := by decide +kernel
theorem dX6_step_12 : decode cX6_step 12 = .ok (.ireturn, 1) := by decide +kernel
theorem dX6_crossStep_0 : decode cX6_crossStep 0 = .ok (.iload_n 0, 1) := by decide +kernel
theorem dX6_crossStep_1 : decode cX6_crossStep 1 = .ok (.bipush 64, 2) := by decide +kernel
theorem dX6_crossStep_3 : decode cX6_crossStep 3 = .ok (.if_icmp .ge 8, 3) := by decide +kernel
theorem dX6_crossStep_6 : decode cX6_crossStep 6 = .ok (.bipush 8, 2) := by decide +kernel
theorem dX6_crossStep_8 : decode cX6_crossStep 8 = .ok (.goto 4, 3) := by decide +kernel
theorem dX6_crossStep_11 : decode cX6_crossStep 11 = .ok (.iconst 1, 1) := by decide +kernel
theorem dX6_crossStep_12 : decode cX6_crossStep 12 = .ok (.ireturn, 1) := by decide +kernel
theorem dX6_isOnBoard_0 : decode cX6_isOnBoard 0 = .ok (.iload_n 0, 1) := by decide +kernel
theorem dX6_isOnBoard_1 : decode cX6_isOnBoard 1 = .ok (.invokestatic 11, 3) := by decide +kernel
theorem dX6_isOnBoard_4 : decode cX6_isOnBoard 4 = .ok (.bipush 7, 2) := by decide +kernel
theorem dX6_isOnBoard_6 : decode cX6_isOnBoard 6 = .ok (.if_icmp .ge 16, 3) := by decide +kernel
theorem dX6_isOnBoard_9 : decode cX6_isOnBoard 9 = .ok (.iload_n 0, 1) := by decide +kernel
theorem dX6_isOnBoard_10 : decode cX6_isOnBoard 10 = .ok (.invokestatic 15, 3) := by decide +kernel
theorem dX6_isOnBoard_13 : decode cX6_isOnBoard 13 = .ok (.bipush 7, 2) := by decide +kernel
theorem dX6_isOnBoard_15 : decode cX6_isOnBoard 15 = .ok (.if_icmp .ge 7, 3) := by decide +kernel
theorem dX6_isOnBoard_18 : decode cX6_isOnBoard 18 = .ok (.iconst 1, 1) := by decide +kernel
theorem dX6_isOnBoard_19 : decode cX6_isOnBoard 19 = .ok (.goto 4, 3) := by decide +kernel
theorem dX6_isOnBoard_22 : decode cX6_isOnBoard 22 = .ok (.iconst 0, 1) := by decide +kernel
theorem dX6_isOnBoard_23 : decode cX6_isOnBoard 23 = .ok (.ireturn, 1) := by decide +kernel
theorem dX6_room_0 : decode cX6_room 0 = .ok (.bipush 7, 2) := by decide +kernel
theorem dX6_room_2 : decode cX6_room 2 = .ok (.iload_n 0, 1) := by decide +kernel
theorem dX6_room_3 : decode cX6_room 3 = .ok (.bipush 64, 2) := by decide +kernel
theorem dX6_room_5 : decode cX6_room 5 = .ok (.if_icmp .ge 10, 3) := by decide +kernel
theorem dX6_room_8 : decode cX6_room 8 = .ok (.iload_n 0, 1) := by decide +kernel
theorem dX6_room_9 : decode cX6_room 9 = .ok (.invokestatic 15, 3) := by decide +kernel
theorem dX6_room_12 : decode cX6_room 12 = .ok (.goto 7, 3) := by decide +kernel
theorem dX6_room_15 : decode cX6_room 15 = .ok (.iload_n 0, 1) := by decide +kernel
theorem dX6_room_16 : decode cX6_room 16 = .ok (.invokestatic 11, 3) := by decide +kernel
theorem dX6_room_19 : decode cX6_room 19 = .ok (.isub, 1) := by decide +kernel
theorem dX6_room_20 : decode cX6_room 20 = .ok (.ireturn, 1) := by decide +kernel
theorem dX6_squares_0 : decode cX6_squares 0 = .ok (.iload_n 0, 1) := by decide +kernel
theorem dX6_squares_1 : decode cX6_squares 1 = .ok (.bipush 64, 2) := by decide +kernel
theorem dX6_squares_3 : decode cX6_squares 3 = .ok (.if_icmp .ge 11, 3) := by decide +kernel
theorem dX6_squares_6 : decode cX6_squares 6 = .ok (.lconst 1, 1) := by decide +kernel
theorem dX6_squares_7 : decode cX6_squares 7 = .ok (.iload_n 1, 1) := by decide +kernel
theorem dX6_squares_8 : decode cX6_squares 8 = .ok (.lshl, 1) := by decide +kernel
theorem dX6_squares_9 : decode cX6_squares 9 = .ok (.lconst 1, 1) := by decide +kernel
theorem dX6_squares_10 : decode cX6_squares 10 = .ok (.lsub, 1) := by decide +kernel
theorem dX6_squares_11 : decode cX6_squares 11 = .ok (.goto 15, 3) := by decide +kernel
theorem dX6_squares_14 : decode cX6_squares 14 = .ok (.ldc2_w 18, 3) := by decide +kernel
theorem dX6_squares_17 : decode cX6_squares 17 = .ok (.lconst 1, 1) := by decide +kernel
theorem dX6_squares_18 : decode cX6_squares 18 = .ok (.bipush 8, 2) := by decide +kernel
theorem dX6_squares_20 : decode cX6_squares 20 = .ok (.iload_n 1, 1) := by decide +kernel
theorem dX6_squares_21 : decode cX6_squares 21 = .ok (.imul, 1) := by decide +kernel
theorem dX6_squares_22 : decode cX6_squares 22 = .ok (.lshl, 1) := by decide +kernel
theorem dX6_squares_23 : decode cX6_squares 23 = .ok (.lconst 1, 1) := by decide +kernel
theorem dX6_squares_24 : decode cX6_squares 24 = .ok (.lsub, 1) := by decide +kernel
theorem dX6_squares_25 : decode cX6_squares 25 = .ok (.land, 1) := by decide +kernel
theorem dX6_squares_26 : decode cX6_squares 26 = .ok (.lstore_n 2, 1) := by decide +kernel
theorem dX6_squares_27 : decode cX6_squares 27 = .ok (.lload_n 2, 1) := by decide +kernel
theorem dX6_squares_28 : decode cX6_squares 28 = .ok (.iload_n 0, 1) := by decide +kernel
theorem dX6_squares_29 : decode cX6_squares 29 = .ok (.bipush 63, 2) := by decide +kernel
theorem dX6_squares_31 : decode cX6_squares 31 = .ok (.iand, 1) := by decide +kernel
theorem dX6_squares_32 : decode cX6_squares 32 = .ok (.lshl, 1) := by decide +kernel
theorem dX6_squares_33 : decode cX6_squares 33 = .ok (.lreturn, 1) := by decide +kernel
theorem dX7_init_0 : decode cX7_init 0 = .ok (.aload_n 0, 1) := by decide +kernel
theorem dX7_init_1 : decode cX7_init 1 = .ok (.invokespecial 3, 3) := by decide +kernel
theorem dX7_init_4 : decode cX7_init 4 = .ok (.aload_n 0, 1) := by decide +kernel
theorem dX7_init_5 : decode cX7_init 5 = .ok (.new 9, 3) := by decide +kernel
theorem dX7_init_8 : decode cX7_init 8 = .ok (.dup, 1) := by decide +kernel
theorem dX7_init_9 : decode cX7_init 9 = .ok (.invokespecial 11, 3) := by decide +kernel
theorem dX7_init_12 : decode cX7_init 12 = .ok (.putfield 12, 3) := by decide +kernel
theorem dX7_init_15 : decode cX7_init 15 = .ok (.aload_n 0, 1) := by decide +kernel
theorem dX7_init_16 : decode cX7_init 16 = .ok (.new 18, 3) := by decide +kernel
theorem dX7_init_19 : decode cX7_init 19 = .ok (.dup, 1) := by decide +kernel
theorem dX7_init_20 : decode cX7_init 20 = .ok (.invokespecial 20, 3) := by decide +kernel
theorem dX7_init_23 : decode cX7_init 23 = .ok (.putfield 21, 3) := by decide +kernel
theorem dX7_init_26 : decode cX7_init 26 = .ok (.aload_n 0, 1) := by decide +kernel
theorem dX7_init_27 : decode cX7_init 27 = .ok (.bipush 8, 2) := by decide +kernel
theorem dX7_init_29 : decode cX7_init 29 = .ok (.newarray .int, 2) := by decide +kernel
theorem dX7_init_31 : decode cX7_init 31 = .ok (.putfield 25, 3) := by decide +kernel
theorem dX7_init_34 : decode cX7_init 34 = .ok (.aload_n 0, 1) := by decide +kernel
theorem dX7_init_35 : decode cX7_init 35 = .ok (.bipush 8, 2) := by decide +kernel
theorem dX7_init_37 : decode cX7_init 37 = .ok (.newarray .int, 2) := by decide +kernel
theorem dX7_init_39 : decode cX7_init 39 = .ok (.putfield 29, 3) := by decide +kernel
theorem dX7_init_42 : decode cX7_init 42 = .ok (.aload_n 0, 1) := by decide +kernel
theorem dX7_init_43 : decode cX7_init 43 = .ok (.iconst 2, 1) := by decide +kernel
theorem dX7_init_44 : decode cX7_init 44 = .ok (.newarray .int, 2) := by decide +kernel
theorem dX7_init_46 : decode cX7_init 46 = .ok (.putfield 32, 3) := by decide +kernel
theorem dX7_init_49 : decode cX7_init 49 = .ok (.aload_n 0, 1) := by decide +kernel
theorem dX7_init_50 : decode cX7_init 50 = .ok (.iconst 2, 1) := by decide +kernel
theorem dX7_init_51 : decode cX7_init 51 = .ok (.newarray .int, 2) := by decide +kernel
theorem dX7_init_53 : decode cX7_init 53 = .ok (.putfield 35, 3) := by decide +kernel
theorem dX7_init_56 : decode cX7_init 56 = .ok (.iconst 0, 1) := by decide +kernel
theorem dX7_init_57 : decode cX7_init 57 = .ok (.istore_n 1, 1) := by decide +kernel
theorem dX7_init_58 : decode cX7_init 58 = .ok (.iload_n 1, 1) := by decide +kernel
theorem dX7_init_59 : decode cX7_init 59 = .ok (.bipush 8, 2) := by decide +kernel
theorem dX7_init_61 : decode cX7_init 61 = .ok (.if_icmp .ge 16, 3) := by decide +kernel
theorem dX7_init_64 : decode cX7_init 64 = .ok (.aload_n 0, 1) := by decide +kernel
theorem dX7_init_65 : decode cX7_init 65 = .ok (.getfield 25, 3) := by decide +kernel
theorem dX7_init_68 : decode cX7_init 68 = .ok (.iload_n 1, 1) := by decide +kernel
theorem dX7_init_69 : decode cX7_init 69 = .ok (.iconst 1, 1) := by decide +kernel
theorem dX7_init_70 : decode cX7_init 70 = .ok (.iastore, 1) := by decide +kernel
theorem dX7_init_71 : decode cX7_init 71 = .ok (.iinc 1 1, 3) := by decide +kernel
theorem dX7_init_74 : decode cX7_init 74 = .ok (.goto (-16), 3) := by decide +kernel
theorem dX7_init_77 : decode cX7_init 77 = .ok (.return_, 1) := by decide +kernel
theorem dX7_value_0 : decode cX7_value 0 = .ok (.iload_n 1, 1) := by decide +kernel
theorem dX7_value_1 : decode cX7_value 1 = .ok (.invokestatic 38, 3) := by decide +kernel
theorem dX7_value_4 : decode cX7_value 4 = .ok (.ifCond .eq 12, 3) := by decide +kernel
theorem dX7_value_7 : decode cX7_value 7 = .ok (.aload_n 0, 1) := by decide +kernel
theorem dX7_value_8 : decode cX7_value 8 = .ok (.getfield 25, 3) := by decide +kernel
theorem dX7_value_11 : decode cX7_value 11 = .ok (.iload_n 1, 1) := by decide +kernel
theorem dX7_value_12 : decode cX7_value 12 = .ok (.iaload, 1) := by decide +kernel
theorem dX7_value_13 : decode cX7_value 13 = .ok (.goto 4, 3) := by decide +kernel
theorem dX7_value_16 : decode cX7_value 16 = .ok (.iconst 0, 1) := by decide +kernel
theorem dX7_value_17 : decode cX7_value 17 = .ok (.ireturn, 1) := by decide +kernel
theorem dX7_leave_0 : decode cX7_leave 0 = .ok (.iload_n 1, 1) := by decide +kernel
theorem dX7_leave_1 : decode cX7_leave 1 = .ok (.invokestatic 38, 3) := by decide +kernel
theorem dX7_leave_4 : decode cX7_leave 4 = .ok (.ifCond .eq 12, 3) := by decide +kernel
theorem dX7_leave_7 : decode cX7_leave 7 = .ok (.aload_n 0, 1) := by decide +kernel
theorem dX7_leave_8 : decode cX7_leave 8 = .ok (.getfield 29, 3) := by decide +kernel
theorem dX7_leave_11 : decode cX7_leave 11 = .ok (.iload_n 1, 1) := by decide +kernel
theorem dX7_leave_12 : decode cX7_leave 12 = .ok (.iaload, 1) := by decide +kernel
theorem dX7_leave_13 : decode cX7_leave 13 = .ok (.goto 4, 3) := by decide +kernel
theorem dX7_leave_16 : decode cX7_leave 16 = .ok (.iconst 0, 1) := by decide +kernel
theorem dX7_leave_17 : decode cX7_leave 17 = .ok (.ireturn, 1) := by decide +kernel
theorem dX7_changeLetter_0 : decode cX7_changeLetter 0 = .ok (.iload_n 1, 1) := by decide +kernel
theorem dX7_changeLetter_1 : decode cX7_changeLetter 1 = .ok (.invokestatic 38, 3) := by decide +kernel
theorem dX7_changeLetter_4 : decode cX7_changeLetter 4 = .ok (.ifCond .eq 17, 3) := by decide +kernel
theorem dX7_changeLetter_7 : decode cX7_changeLetter 7 = .ok (.aload_n 0, 1) := by decide +kernel
theorem dX7_changeLetter_8 : decode cX7_changeLetter 8 = .ok (.getfield 25, 3) := by decide +kernel
theorem dX7_changeLetter_11 : decode cX7_changeLetter 11 = .ok (.iload_n 1, 1) := by decide +kernel
theorem dX7_changeLetter_12 : decode cX7_changeLetter 12 = .ok (.iload_n 2, 1) := by decide +kernel
theorem dX7_changeLetter_13 : decode cX7_changeLetter 13 = .ok (.iastore, 1) := by decide +kernel
theorem dX7_changeLetter_14 : decode cX7_changeLetter 14 = .ok (.aload_n 0, 1) := by decide +kernel
theorem dX7_changeLetter_15 : decode cX7_changeLetter 15 = .ok (.getfield 29, 3) := by decide +kernel
theorem dX7_changeLetter_18 : decode cX7_changeLetter 18 = .ok (.iload_n 1, 1) := by decide +kernel
theorem dX7_changeLetter_19 : decode cX7_changeLetter 19 = .ok (.iload_n 3, 1) := by decide +kernel
theorem dX7_changeLetter_20 : decode cX7_changeLetter 20 = .ok (.iastore, 1) := by decide +kernel
theorem dX7_changeLetter_21 : decode cX7_changeLetter 21 = .ok (.return_, 1) := by decide +kernel
theorem dX7_rack_0 : decode cX7_rack 0 = .ok (.iload_n 1, 1) := by decide +kernel
theorem dX7_rack_1 : decode cX7_rack 1 = .ok (.invokestatic 42, 3) := by decide +kernel
theorem dX7_rack_4 : decode cX7_rack 4 = .ok (.ifCond .eq 12, 3) := by decide +kernel
theorem dX7_rack_7 : decode cX7_rack 7 = .ok (.aload_n 0, 1) := by decide +kernel
theorem dX7_rack_8 : decode cX7_rack 8 = .ok (.getfield 32, 3) := by decide +kernel
theorem dX7_rack_11 : decode cX7_rack 11 = .ok (.iload_n 1, 1) := by decide +kernel
theorem dX7_rack_12 : decode cX7_rack 12 = .ok (.iaload, 1) := by decide +kernel
theorem dX7_rack_13 : decode cX7_rack 13 = .ok (.goto 4, 3) := by decide +kernel
theorem dX7_rack_16 : decode cX7_rack 16 = .ok (.iconst 0, 1) := by decide +kernel
theorem dX7_rack_17 : decode cX7_rack 17 = .ok (.ireturn, 1) := by decide +kernel
theorem dX7_changeRack_0 : decode cX7_changeRack 0 = .ok (.iload_n 1, 1) := by decide +kernel
theorem dX7_changeRack_1 : decode cX7_changeRack 1 = .ok (.invokestatic 42, 3) := by decide +kernel
theorem dX7_changeRack_4 : decode cX7_changeRack 4 = .ok (.ifCond .eq 10, 3) := by decide +kernel
theorem dX7_changeRack_7 : decode cX7_changeRack 7 = .ok (.aload_n 0, 1) := by decide +kernel
theorem dX7_changeRack_8 : decode cX7_changeRack 8 = .ok (.getfield 32, 3) := by decide +kernel
theorem dX7_changeRack_11 : decode cX7_changeRack 11 = .ok (.iload_n 1, 1) := by decide +kernel
theorem dX7_changeRack_12 : decode cX7_changeRack 12 = .ok (.iload_n 2, 1) := by decide +kernel
theorem dX7_changeRack_13 : decode cX7_changeRack 13 = .ok (.iastore, 1) := by decide +kernel
theorem dX7_changeRack_14 : decode cX7_changeRack 14 = .ok (.return_, 1) := by decide +kernel
theorem dX7_points_0 : decode cX7_points 0 = .ok (.iload_n 1, 1) := by decide +kernel
theorem dX7_points_1 : decode cX7_points 1 = .ok (.invokestatic 42, 3) := by decide +kernel
theorem dX7_points_4 : decode cX7_points 4 = .ok (.ifCond .eq 12, 3) := by decide +kernel
theorem dX7_points_7 : decode cX7_points 7 = .ok (.aload_n 0, 1) := by decide +kernel
theorem dX7_points_8 : decode cX7_points 8 = .ok (.getfield 35, 3) := by decide +kernel
theorem dX7_points_11 : decode cX7_points 11 = .ok (.iload_n 1, 1) := by decide +kernel
theorem dX7_points_12 : decode cX7_points 12 = .ok (.iaload, 1) := by decide +kernel
theorem dX7_points_13 : decode cX7_points 13 = .ok (.goto 4, 3) := by decide +kernel
theorem dX7_points_16 : decode cX7_points 16 = .ok (.iconst 0, 1) := by decide +kernel
theorem dX7_points_17 : decode cX7_points 17 = .ok (.ireturn, 1) := by decide +kernel
theorem dX7_addPoints_0 : decode cX7_addPoints 0 = .ok (.iload_n 1, 1) := by decide +kernel
theorem dX7_addPoints_1 : decode cX7_addPoints 1 = .ok (.invokestatic 42, 3) := by decide +kernel
theorem dX7_addPoints_4 : decode cX7_addPoints 4 = .ok (.ifCond .eq 13, 3) := by decide +kernel
theorem dX7_addPoints_7 : decode cX7_addPoints 7 = .ok (.aload_n 0, 1) := by decide +kernel
theorem dX7_addPoints_8 : decode cX7_addPoints 8 = .ok (.getfield 35, 3) := by decide +kernel
theorem dX7_addPoints_11 : decode cX7_addPoints 11 = .ok (.iload_n 1, 1) := by decide +kernel
theorem dX7_addPoints_12 : decode cX7_addPoints 12 = .ok (.dup2, 1) := by decide +kernel
theorem dX7_addPoints_13 : decode cX7_addPoints 13 = .ok (.iaload, 1) := by decide +kernel
theorem dX7_addPoints_14 : decode cX7_addPoints 14 = .ok (.iload_n 2, 1) := by decide +kernel
theorem dX7_addPoints_15 : decode cX7_addPoints 15 = .ok (.iadd, 1) := by decide +kernel
theorem dX7_addPoints_16 : decode cX7_addPoints 16 = .ok (.iastore, 1) := by decide +kernel
theorem dX7_addPoints_17 : decode cX7_addPoints 17 = .ok (.return_, 1) := by decide +kernel
theorem dX7_valueOfRack_0 : decode cX7_valueOfRack 0 = .ok (.aload_n 0, 1) := by decide +kernel
theorem dX7_valueOfRack_1 : decode cX7_valueOfRack 1 = .ok (.iload_n 1, 1) := by decide +kernel
theorem dX7_valueOfRack_2 : decode cX7_valueOfRack 2 = .ok (.invokevirtual 47, 3) := by decide +kernel
theorem dX7_valueOfRack_5 : decode cX7_valueOfRack 5 = .ok (.istore_n 2, 1) := by decide +kernel
theorem dX7_valueOfRack_6 : decode cX7_valueOfRack 6 = .ok (.iconst 0, 1) := by decide +kernel
theorem dX7_valueOfRack_7 : decode cX7_valueOfRack 7 = .ok (.istore_n 3, 1) := by decide +kernel
theorem dX7_valueOfRack_8 : decode cX7_valueOfRack 8 = .ok (.iconst 0, 1) := by decide +kernel
theorem dX7_valueOfRack_9 : decode cX7_valueOfRack 9 = .ok (.istore 4, 2) := by decide +kernel
theorem dX7_valueOfRack_11 : decode cX7_valueOfRack 11 = .ok (.iload 4, 2) := by decide +kernel
theorem dX7_valueOfRack_13 : decode cX7_valueOfRack 13 = .ok (.bipush 8, 2) := by decide +kernel
theorem dX7_valueOfRack_15 : decode cX7_valueOfRack 15 = .ok (.if_icmp .ge 26, 3) := by decide +kernel
theorem dX7_valueOfRack_18 : decode cX7_valueOfRack 18 = .ok (.iload_n 3, 1) := by decide +kernel
theorem dX7_valueOfRack_19 : decode cX7_valueOfRack 19 = .ok (.iload_n 2, 1) := by decide +kernel
theorem dX7_valueOfRack_20 : decode cX7_valueOfRack 20 = .ok (.iload 4, 2) := by decide +kernel
theorem dX7_valueOfRack_22 : decode cX7_valueOfRack 22 = .ok (.invokestatic 51, 3) := by decide +kernel
theorem dX7_valueOfRack_25 : decode cX7_valueOfRack 25 = .ok (.aload_n 0, 1) := by decide +kernel
theorem dX7_valueOfRack_26 : decode cX7_valueOfRack 26 = .ok (.getfield 25, 3) := by decide +kernel
theorem dX7_valueOfRack_29 : decode cX7_valueOfRack 29 = .ok (.iload 4, 2) := by decide +kernel
theorem dX7_valueOfRack_31 : decode cX7_valueOfRack 31 = .ok (.iaload, 1) := by decide +kernel
theorem dX7_valueOfRack_32 : decode cX7_valueOfRack 32 = .ok (.imul, 1) := by decide +kernel
theorem dX7_valueOfRack_33 : decode cX7_valueOfRack 33 = .ok (.iadd, 1) := by decide +kernel
theorem dX7_valueOfRack_34 : decode cX7_valueOfRack 34 = .ok (.istore_n 3, 1) := by decide +kernel
theorem dX7_valueOfRack_35 : decode cX7_valueOfRack 35 = .ok (.iinc 4 1, 3) := by decide +kernel
theorem dX7_valueOfRack_38 : decode cX7_valueOfRack 38 = .ok (.goto (-27), 3) := by decide +kernel
theorem dX7_valueOfRack_41 : decode cX7_valueOfRack 41 = .ok (.iload_n 3, 1) := by decide +kernel
theorem dX7_valueOfRack_42 : decode cX7_valueOfRack 42 = .ok (.ireturn, 1) := by decide +kernel
theorem dX7_leaveOf_0 : decode cX7_leaveOf 0 = .ok (.iconst 0, 1) := by decide +kernel
theorem dX7_leaveOf_1 : decode cX7_leaveOf 1 = .ok (.istore_n 2, 1) := by decide +kernel
theorem dX7_leaveOf_2 : decode cX7_leaveOf 2 = .ok (.iconst 0, 1) := by decide +kernel
theorem dX7_leaveOf_3 : decode cX7_leaveOf 3 = .ok (.istore_n 3, 1) := by decide +kernel
theorem dX7_leaveOf_4 : decode cX7_leaveOf 4 = .ok (.iload_n 3, 1) := by decide +kernel
theorem dX7_leaveOf_5 : decode cX7_leaveOf 5 = .ok (.bipush 8, 2) := by decide +kernel
theorem dX7_leaveOf_7 : decode cX7_leaveOf 7 = .ok (.if_icmp .ge 24, 3) := by decide +kernel
theorem dX7_leaveOf_10 : decode cX7_leaveOf 10 = .ok (.iload_n 2, 1) := by decide +kernel
theorem dX7_leaveOf_11 : decode cX7_leaveOf 11 = .ok (.iload_n 1, 1) := by decide +kernel
theorem dX7_leaveOf_12 : decode cX7_leaveOf 12 = .ok (.iload_n 3, 1) := by decide +kernel
theorem dX7_leaveOf_13 : decode cX7_leaveOf 13 = .ok (.invokestatic 51, 3) := by decide +kernel
theorem dX7_leaveOf_16 : decode cX7_leaveOf 16 = .ok (.aload_n 0, 1) := by decide +kernel
theorem dX7_leaveOf_17 : decode cX7_leaveOf 17 = .ok (.getfield 29, 3) := by decide +kernel
theorem dX7_leaveOf_20 : decode cX7_leaveOf 20 = .ok (.iload_n 3, 1) := by decide +kernel
theorem dX7_leaveOf_21 : decode cX7_leaveOf 21 = .ok (.iaload, 1) := by decide +kernel
theorem dX7_leaveOf_22 : decode cX7_leaveOf 22 = .ok (.imul, 1) := by decide +kernel
theorem dX7_leaveOf_23 : decode cX7_leaveOf 23 = .ok (.iadd, 1) := by decide +kernel
theorem dX7_leaveOf_24 : decode cX7_leaveOf 24 = .ok (.istore_n 2, 1) := by decide +kernel
theorem dX7_leaveOf_25 : decode cX7_leaveOf 25 = .ok (.iinc 3 1, 3) := by decide +kernel
theorem dX7_leaveOf_28 : decode cX7_leaveOf 28 = .ok (.goto (-24), 3) := by decide +kernel
theorem dX7_leaveOf_31 : decode cX7_leaveOf 31 = .ok (.iload_n 2, 1) := by decide +kernel
theorem dX7_leaveOf_32 : decode cX7_leaveOf 32 = .ok (.ireturn, 1) := by decide +kernel
theorem dX7_valueOfWord_0 : decode cX7_valueOfWord 0 = .ok (.iconst 0, 1) := by decide +kernel
theorem dX7_valueOfWord_1 : decode cX7_valueOfWord 1 = .ok (.istore_n 2, 1) := by decide +kernel
theorem dX7_valueOfWord_2 : decode cX7_valueOfWord 2 = .ok (.iload_n 1, 1) := by decide +kernel
theorem dX7_valueOfWord_3 : decode cX7_valueOfWord 3 = .ok (.invokestatic 55, 3) := by decide +kernel
theorem dX7_valueOfWord_6 : decode cX7_valueOfWord 6 = .ok (.istore_n 3, 1) := by decide +kernel
theorem dX7_valueOfWord_7 : decode cX7_valueOfWord 7 = .ok (.iconst 0, 1) := by decide +kernel
theorem dX7_valueOfWord_8 : decode cX7_valueOfWord 8 = .ok (.istore 4, 2) := by decide +kernel
theorem dX7_valueOfWord_10 : decode cX7_valueOfWord 10 = .ok (.iload 4, 2) := by decide +kernel
theorem dX7_valueOfWord_12 : decode cX7_valueOfWord 12 = .ok (.iload_n 3, 1) := by decide +kernel
theorem dX7_valueOfWord_13 : decode cX7_valueOfWord 13 = .ok (.if_icmp .ge 22, 3) := by decide +kernel
theorem dX7_valueOfWord_16 : decode cX7_valueOfWord 16 = .ok (.iload_n 2, 1) := by decide +kernel
theorem dX7_valueOfWord_17 : decode cX7_valueOfWord 17 = .ok (.aload_n 0, 1) := by decide +kernel
theorem dX7_valueOfWord_18 : decode cX7_valueOfWord 18 = .ok (.iload_n 1, 1) := by decide +kernel
theorem dX7_valueOfWord_19 : decode cX7_valueOfWord 19 = .ok (.iload 4, 2) := by decide +kernel
theorem dX7_valueOfWord_21 : decode cX7_valueOfWord 21 = .ok (.invokestatic 60, 3) := by decide +kernel
theorem dX7_valueOfWord_24 : decode cX7_valueOfWord 24 = .ok (.invokevirtual 63, 3) := by decide +kernel
theorem dX7_valueOfWord_27 : decode cX7_valueOfWord 27 = .ok (.iadd, 1) := by decide +kernel
theorem dX7_valueOfWord_28 : decode cX7_valueOfWord 28 = .ok (.istore_n 2, 1) := by decide +kernel
theorem dX7_valueOfWord_29 : decode cX7_valueOfWord 29 = .ok (.iinc 4 1, 3) := by decide +kernel
theorem dX7_valueOfWord_32 : decode cX7_valueOfWord 32 = .ok (.goto (-22), 3) := by decide +kernel
theorem dX7_valueOfWord_35 : decode cX7_valueOfWord 35 = .ok (.iload_n 2, 1) := by decide +kernel
theorem dX7_valueOfWord_36 : decode cX7_valueOfWord 36 = .ok (.ireturn, 1) := by decide +kernel
theorem dX7_copyFrom_0 : decode cX7_copyFrom 0 = .ok (.aload_n 0, 1) := by decide +kernel
theorem dX7_copyFrom_1 : decode cX7_copyFrom 1 = .ok (.getfield 12, 3) := by decide +kernel
theorem dX7_copyFrom_4 : decode cX7_copyFrom 4 = .ok (.aload_n 1, 1) := by decide +kernel
theorem dX7_copyFrom_5 : decode cX7_copyFrom 5 = .ok (.getfield 12, 3) := by decide +kernel
theorem dX7_copyFrom_8 : decode cX7_copyFrom 8 = .ok (.invokevirtual 66, 3) := by decide +kernel
theorem dX7_copyFrom_11 : decode cX7_copyFrom 11 = .ok (.aload_n 0, 1) := by decide +kernel
theorem dX7_copyFrom_12 : decode cX7_copyFrom 12 = .ok (.getfield 21, 3) := by decide +kernel
theorem dX7_copyFrom_15 : decode cX7_copyFrom 15 = .ok (.aload_n 1, 1) := by decide +kernel
theorem dX7_copyFrom_16 : decode cX7_copyFrom 16 = .ok (.getfield 21, 3) := by decide +kernel
theorem dX7_copyFrom_19 : decode cX7_copyFrom 19 = .ok (.invokevirtual 70, 3) := by decide +kernel
theorem dX7_copyFrom_22 : decode cX7_copyFrom 22 = .ok (.aload_n 1, 1) := by decide +kernel
theorem dX7_copyFrom_23 : decode cX7_copyFrom 23 = .ok (.getfield 25, 3) := by decide +kernel
theorem dX7_copyFrom_26 : decode cX7_copyFrom 26 = .ok (.iconst 0, 1) := by decide +kernel
theorem dX7_copyFrom_27 : decode cX7_copyFrom 27 = .ok (.aload_n 0, 1) := by decide +kernel
theorem dX7_copyFrom_28 : decode cX7_copyFrom 28 = .ok (.getfield 25, 3) := by decide +kernel
theorem dX7_copyFrom_31 : decode cX7_copyFrom 31 = .ok (.iconst 0, 1) := by decide +kernel
theorem dX7_copyFrom_32 : decode cX7_copyFrom 32 = .ok (.bipush 8, 2) := by decide +kernel
theorem dX7_copyFrom_34 : decode cX7_copyFrom 34 = .ok (.invokestatic 73, 3) := by decide +kernel
theorem dX7_copyFrom_37 : decode cX7_copyFrom 37 = .ok (.aload_n 1, 1) := by decide +kernel
theorem dX7_copyFrom_38 : decode cX7_copyFrom 38 = .ok (.getfield 29, 3) := by decide +kernel
theorem dX7_copyFrom_41 : decode cX7_copyFrom 41 = .ok (.iconst 0, 1) := by decide +kernel
theorem dX7_copyFrom_42 : decode cX7_copyFrom 42 = .ok (.aload_n 0, 1) := by decide +kernel
theorem dX7_copyFrom_43 : decode cX7_copyFrom 43 = .ok (.getfield 29, 3) := by decide +kernel
theorem dX7_copyFrom_46 : decode cX7_copyFrom 46 = .ok (.iconst 0, 1) := by decide +kernel
theorem dX7_copyFrom_47 : decode cX7_copyFrom 47 = .ok (.bipush 8, 2) := by decide +kernel
theorem dX7_copyFrom_49 : decode cX7_copyFrom 49 = .ok (.invokestatic 73, 3) := by decide +kernel
theorem dX7_copyFrom_52 : decode cX7_copyFrom 52 = .ok (.aload_n 1, 1) := by decide +kernel
theorem dX7_copyFrom_53 : decode cX7_copyFrom 53 = .ok (.getfield 32, 3) := by decide +kernel
theorem dX7_copyFrom_56 : decode cX7_copyFrom 56 = .ok (.iconst 0, 1) := by decide +kernel
theorem dX7_copyFrom_57 : decode cX7_copyFrom 57 = .ok (.aload_n 0, 1) := by decide +kernel
theorem dX7_copyFrom_58 : decode cX7_copyFrom 58 = .ok (.getfield 32, 3) := by decide +kernel
theorem dX7_copyFrom_61 : decode cX7_copyFrom 61 = .ok (.iconst 0, 1) := by decide +kernel
theorem dX7_copyFrom_62 : decode cX7_copyFrom 62 = .ok (.iconst 2, 1) := by decide +kernel
theorem dX7_copyFrom_63 : decode cX7_copyFrom 63 = .ok (.invokestatic 73, 3) := by decide +kernel
theorem dX7_copyFrom_66 : decode cX7_copyFrom 66 = .ok (.aload_n 1, 1) := by decide +kernel
theorem dX7_copyFrom_67 : decode cX7_copyFrom 67 = .ok (.getfield 35, 3) := by decide +kernel
theorem dX7_copyFrom_70 : decode cX7_copyFrom 70 = .ok (.iconst 0, 1) := by decide +kernel
theorem dX7_copyFrom_71 : decode cX7_copyFrom 71 = .ok (.aload_n 0, 1) := by decide +kernel
theorem dX7_copyFrom_72 : decode cX7_copyFrom 72 = .ok (.getfield 35, 3) := by decide +kernel
theorem dX7_copyFrom_75 : decode cX7_copyFrom 75 = .ok (.iconst 0, 1) := by decide +kernel
theorem dX7_copyFrom_76 : decode cX7_copyFrom 76 = .ok (.iconst 2, 1) := by decide +kernel
theorem dX7_copyFrom_77 : decode cX7_copyFrom 77 = .ok (.invokestatic 73, 3) := by decide +kernel
theorem dX7_copyFrom_80 : decode cX7_copyFrom 80 = .ok (.return_, 1) := by decide +kernel
theorem dX8_length_0 : decode cX8_length 0 = .ok (.iload_n 0, 1) := by decide +kernel
theorem dX8_length_1 : decode cX8_length 1 = .ok (.bipush 7, 2) := by decide +kernel
theorem dX8_length_3 : decode cX8_length 3 = .ok (.iand, 1) := by decide +kernel
theorem dX8_length_4 : decode cX8_length 4 = .ok (.ireturn, 1) := by decide +kernel
theorem dX8_letter_0 : decode cX8_letter 0 = .ok (.iload_n 0, 1) := by decide +kernel
theorem dX8_letter_1 : decode cX8_letter 1 = .ok (.iconst 3, 1) := by decide +kernel
theorem dX8_letter_2 : decode cX8_letter 2 = .ok (.bipush 7, 2) := by decide +kernel
theorem dX8_letter_4 : decode cX8_letter 4 = .ok (.iload_n 1, 1) := by decide +kernel
theorem dX8_letter_5 : decode cX8_letter 5 = .ok (.isub, 1) := by decide +kernel
theorem dX8_letter_6 : decode cX8_letter 6 = .ok (.imul, 1) := by decide +kernel
theorem dX8_letter_7 : decode cX8_letter 7 = .ok (.iushr, 1) := by decide +kernel
theorem dX8_letter_8 : decode cX8_letter 8 = .ok (.bipush 7, 2) := by decide +kernel
theorem dX8_letter_10 : decode cX8_letter 10 = .ok (.iand, 1) := by decide +kernel
theorem dX8_letter_11 : decode cX8_letter 11 = .ok (.ireturn, 1) := by decide +kernel
theorem dX8_append_0 : decode cX8_append 0 = .ok (.iload_n 0, 1) := by decide +kernel
theorem dX8_append_1 : decode cX8_append 1 = .ok (.bipush 7, 2) := by decide +kernel
theorem dX8_append_3 : decode cX8_append 3 = .ok (.iand, 1) := by decide +kernel
theorem dX8_append_4 : decode cX8_append 4 = .ok (.istore_n 2, 1) := by decide +kernel
theorem dX8_append_5 : decode cX8_append 5 = .ok (.iload_n 2, 1) := by decide +kernel
theorem dX8_append_6 : decode cX8_append 6 = .ok (.bipush 7, 2) := by decide +kernel
theorem dX8_append_8 : decode cX8_append 8 = .ok (.if_icmp .lt 5, 3) := by decide +kernel
theorem dX8_append_11 : decode cX8_append 11 = .ok (.iload_n 0, 1) := by decide +kernel
theorem dX8_append_12 : decode cX8_append 12 = .ok (.ireturn, 1) := by decide +kernel
theorem dX8_append_13 : decode cX8_append 13 = .ok (.iload_n 0, 1) := by decide +kernel
theorem dX8_append_14 : decode cX8_append 14 = .ok (.iconst 1, 1) := by decide +kernel
theorem dX8_append_15 : decode cX8_append 15 = .ok (.iadd, 1) := by decide +kernel
theorem dX8_append_16 : decode cX8_append 16 = .ok (.iload_n 1, 1) := by decide +kernel
theorem dX8_append_17 : decode cX8_append 17 = .ok (.iconst 3, 1) := by decide +kernel
theorem dX8_append_18 : decode cX8_append 18 = .ok (.bipush 7, 2) := by decide +kernel
theorem dX8_append_20 : decode cX8_append 20 = .ok (.iload_n 2, 1) := by decide +kernel
theorem dX8_append_21 : decode cX8_append 21 = .ok (.isub, 1) := by decide +kernel
theorem dX8_append_22 : decode cX8_append 22 = .ok (.imul, 1) := by decide +kernel
theorem dX8_append_23 : decode cX8_append 23 = .ok (.ishl, 1) := by decide +kernel
theorem dX8_append_24 : decode cX8_append 24 = .ok (.ior, 1) := by decide +kernel
theorem dX8_append_25 : decode cX8_append 25 = .ok (.ireturn, 1) := by decide +kernel
