theorem dX2_copyFrom_13 : decode cX2_copyFrom 13 = .ok (.aload_n 0, 1) := by decide +kernel
theorem dX2_copyFrom_14 : decode cX2_copyFrom 14 = .ok (.getfield 15, 3) := by decide +kernel
theorem dX2_copyFrom_17 : decode cX2_copyFrom 17 = .ok (.iconst 0, 1) := by decide +kernel
theorem dX2_copyFrom_18 : decode cX2_copyFrom 18 = .ok (.bipush 84, 2) := by decide +kernel
theorem dX2_copyFrom_20 : decode cX2_copyFrom 20 = .ok (.invokestatic 66, 3) := by decide +kernel
theorem dX2_copyFrom_23 : decode cX2_copyFrom 23 = .ok (.aload_n 1, 1) := by decide +kernel
theorem dX2_copyFrom_24 : decode cX2_copyFrom 24 = .ok (.getfield 19, 3) := by decide +kernel
theorem dX2_copyFrom_27 : decode cX2_copyFrom 27 = .ok (.iconst 0, 1) := by decide +kernel
theorem dX2_copyFrom_28 : decode cX2_copyFrom 28 = .ok (.aload_n 0, 1) := by decide +kernel
theorem dX2_copyFrom_29 : decode cX2_copyFrom 29 = .ok (.getfield 19, 3) := by decide +kernel
theorem dX2_copyFrom_32 : decode cX2_copyFrom 32 = .ok (.iconst 0, 1) := by decide +kernel
theorem dX2_copyFrom_33 : decode cX2_copyFrom 33 = .ok (.bipush 48, 2) := by decide +kernel
theorem dX2_copyFrom_35 : decode cX2_copyFrom 35 = .ok (.invokestatic 66, 3) := by decide +kernel
theorem dX2_copyFrom_38 : decode cX2_copyFrom 38 = .ok (.aload_n 1, 1) := by decide +kernel
theorem dX2_copyFrom_39 : decode cX2_copyFrom 39 = .ok (.getfield 22, 3) := by decide +kernel
theorem dX2_copyFrom_42 : decode cX2_copyFrom 42 = .ok (.iconst 0, 1) := by decide +kernel
theorem dX2_copyFrom_43 : decode cX2_copyFrom 43 = .ok (.aload_n 0, 1) := by decide +kernel
theorem dX2_copyFrom_44 : decode cX2_copyFrom 44 = .ok (.getfield 22, 3) := by decide +kernel
theorem dX2_copyFrom_47 : decode cX2_copyFrom 47 = .ok (.iconst 0, 1) := by decide +kernel
theorem dX2_copyFrom_48 : decode cX2_copyFrom 48 = .ok (.bipush 6, 2) := by decide +kernel
theorem dX2_copyFrom_50 : decode cX2_copyFrom 50 = .ok (.invokestatic 66, 3) := by decide +kernel
theorem dX2_copyFrom_53 : decode cX2_copyFrom 53 = .ok (.aload_n 1, 1) := by decide +kernel
theorem dX2_copyFrom_54 : decode cX2_copyFrom 54 = .ok (.getfield 25, 3) := by decide +kernel
theorem dX2_copyFrom_57 : decode cX2_copyFrom 57 = .ok (.iconst 0, 1) := by decide +kernel
theorem dX2_copyFrom_58 : decode cX2_copyFrom 58 = .ok (.aload_n 0, 1) := by decide +kernel
theorem dX2_copyFrom_59 : decode cX2_copyFrom 59 = .ok (.getfield 25, 3) := by decide +kernel
theorem dX2_copyFrom_62 : decode cX2_copyFrom 62 = .ok (.iconst 0, 1) := by decide +kernel
theorem dX2_copyFrom_63 : decode cX2_copyFrom 63 = .ok (.bipush 16, 2) := by decide +kernel
theorem dX2_copyFrom_65 : decode cX2_copyFrom 65 = .ok (.invokestatic 66, 3) := by decide +kernel
theorem dX2_copyFrom_68 : decode cX2_copyFrom 68 = .ok (.aload_n 1, 1) := by decide +kernel
theorem dX2_copyFrom_69 : decode cX2_copyFrom 69 = .ok (.getfield 28, 3) := by decide +kernel
theorem dX2_copyFrom_72 : decode cX2_copyFrom 72 = .ok (.iconst 0, 1) := by decide +kernel
theorem dX2_copyFrom_73 : decode cX2_copyFrom 73 = .ok (.aload_n 0, 1) := by decide +kernel
theorem dX2_copyFrom_74 : decode cX2_copyFrom 74 = .ok (.getfield 28, 3) := by decide +kernel
theorem dX2_copyFrom_77 : decode cX2_copyFrom 77 = .ok (.iconst 0, 1) := by decide +kernel
theorem dX2_copyFrom_78 : decode cX2_copyFrom 78 = .ok (.bipush 48, 2) := by decide +kernel
theorem dX2_copyFrom_80 : decode cX2_copyFrom 80 = .ok (.invokestatic 66, 3) := by decide +kernel
theorem dX2_copyFrom_83 : decode cX2_copyFrom 83 = .ok (.aload_n 0, 1) := by decide +kernel
theorem dX2_copyFrom_84 : decode cX2_copyFrom 84 = .ok (.aload_n 1, 1) := by decide +kernel
theorem dX2_copyFrom_85 : decode cX2_copyFrom 85 = .ok (.getfield 31, 3) := by decide +kernel
theorem dX2_copyFrom_88 : decode cX2_copyFrom 88 = .ok (.putfield 31, 3) := by decide +kernel
theorem dX2_copyFrom_91 : decode cX2_copyFrom 91 = .ok (.return_, 1) := by decide +kernel
theorem dX2_crossingsOf_0 : decode cX2_crossingsOf 0 = .ok (.iconst 0, 1) := by decide +kernel
theorem dX2_crossingsOf_1 : decode cX2_crossingsOf 1 = .ok (.istore_n 2, 1) := by decide +kernel
theorem dX2_crossingsOf_2 : decode cX2_crossingsOf 2 = .ok (.iconst 0, 1) := by decide +kernel
theorem dX2_crossingsOf_3 : decode cX2_crossingsOf 3 = .ok (.istore_n 3, 1) := by decide +kernel
theorem dX2_crossingsOf_4 : decode cX2_crossingsOf 4 = .ok (.iload_n 3, 1) := by decide +kernel
theorem dX2_crossingsOf_5 : decode cX2_crossingsOf 5 = .ok (.aload_n 0, 1) := by decide +kernel
theorem dX2_crossingsOf_6 : decode cX2_crossingsOf 6 = .ok (.getfield 22, 3) := by decide +kernel
theorem dX2_crossingsOf_9 : decode cX2_crossingsOf 9 = .ok (.iload_n 1, 1) := by decide +kernel
theorem dX2_crossingsOf_10 : decode cX2_crossingsOf 10 = .ok (.iaload, 1) := by decide +kernel
theorem dX2_crossingsOf_11 : decode cX2_crossingsOf 11 = .ok (.if_icmp .ge 44, 3) := by decide +kernel
theorem dX2_crossingsOf_14 : decode cX2_crossingsOf 14 = .ok (.aload_n 0, 1) := by decide +kernel
theorem dX2_crossingsOf_15 : decode cX2_crossingsOf 15 = .ok (.getfield 19, 3) := by decide +kernel
theorem dX2_crossingsOf_18 : decode cX2_crossingsOf 18 = .ok (.iload_n 1, 1) := by decide +kernel
theorem dX2_crossingsOf_19 : decode cX2_crossingsOf 19 = .ok (.bipush 8, 2) := by decide +kernel
theorem dX2_crossingsOf_21 : decode cX2_crossingsOf 21 = .ok (.imul, 1) := by decide +kernel
theorem dX2_crossingsOf_22 : decode cX2_crossingsOf 22 = .ok (.iload_n 3, 1) := by decide +kernel
theorem dX2_crossingsOf_23 : decode cX2_crossingsOf 23 = .ok (.iadd, 1) := by decide +kernel
theorem dX2_crossingsOf_24 : decode cX2_crossingsOf 24 = .ok (.iaload, 1) := by decide +kernel
theorem dX2_crossingsOf_25 : decode cX2_crossingsOf 25 = .ok (.istore 4, 2) := by decide +kernel
theorem dX2_crossingsOf_27 : decode cX2_crossingsOf 27 = .ok (.iload_n 2, 1) := by decide +kernel
theorem dX2_crossingsOf_28 : decode cX2_crossingsOf 28 = .ok (.iload 4, 2) := by decide +kernel
theorem dX2_crossingsOf_30 : decode cX2_crossingsOf 30 = .ok (.bipush 99, 2) := by decide +kernel
theorem dX2_crossingsOf_32 : decode cX2_crossingsOf 32 = .ok (.if_icmp .eq 10, 3) := by decide +kernel
theorem dX2_crossingsOf_35 : decode cX2_crossingsOf 35 = .ok (.iload 4, 2) := by decide +kernel
theorem dX2_crossingsOf_37 : decode cX2_crossingsOf 37 = .ok (.bipush 67, 2) := by decide +kernel
theorem dX2_crossingsOf_39 : decode cX2_crossingsOf 39 = .ok (.if_icmp .ne 7, 3) := by decide +kernel
theorem dX2_crossingsOf_42 : decode cX2_crossingsOf 42 = .ok (.iconst 1, 1) := by decide +kernel
theorem dX2_crossingsOf_43 : decode cX2_crossingsOf 43 = .ok (.goto 4, 3) := by decide +kernel
theorem dX2_crossingsOf_46 : decode cX2_crossingsOf 46 = .ok (.iconst 2, 1) := by decide +kernel
theorem dX2_crossingsOf_47 : decode cX2_crossingsOf 47 = .ok (.iadd, 1) := by decide +kernel
theorem dX2_crossingsOf_48 : decode cX2_crossingsOf 48 = .ok (.istore_n 2, 1) := by decide +kernel
theorem dX2_crossingsOf_49 : decode cX2_crossingsOf 49 = .ok (.iinc 3 1, 3) := by decide +kernel
theorem dX2_crossingsOf_52 : decode cX2_crossingsOf 52 = .ok (.goto (-48), 3) := by decide +kernel
theorem dX2_crossingsOf_55 : decode cX2_crossingsOf 55 = .ok (.iload_n 2, 1) := by decide +kernel
theorem dX2_crossingsOf_56 : decode cX2_crossingsOf 56 = .ok (.ireturn, 1) := by decide +kernel
theorem dX2_repeatsBy_0 : decode cX2_repeatsBy 0 = .ok (.iload_n 1, 1) := by decide +kernel
theorem dX2_repeatsBy_1 : decode cX2_repeatsBy 1 = .ok (.istore_n 3, 1) := by decide +kernel
theorem dX2_repeatsBy_2 : decode cX2_repeatsBy 2 = .ok (.iload_n 3, 1) := by decide +kernel
theorem dX2_repeatsBy_3 : decode cX2_repeatsBy 3 = .ok (.iload_n 2, 1) := by decide +kernel
theorem dX2_repeatsBy_4 : decode cX2_repeatsBy 4 = .ok (.if_icmp .ge 56, 3) := by decide +kernel
theorem dX2_repeatsBy_7 : decode cX2_repeatsBy 7 = .ok (.iconst 0, 1) := by decide +kernel
theorem dX2_repeatsBy_8 : decode cX2_repeatsBy 8 = .ok (.istore 4, 2) := by decide +kernel
theorem dX2_repeatsBy_10 : decode cX2_repeatsBy 10 = .ok (.iload 4, 2) := by decide +kernel
theorem dX2_repeatsBy_12 : decode cX2_repeatsBy 12 = .ok (.bipush 7, 2) := by decide +kernel
theorem dX2_repeatsBy_14 : decode cX2_repeatsBy 14 = .ok (.if_icmp .ge 40, 3) := by decide +kernel
theorem dX2_repeatsBy_17 : decode cX2_repeatsBy 17 = .ok (.aload_n 0, 1) := by decide +kernel
theorem dX2_repeatsBy_18 : decode cX2_repeatsBy 18 = .ok (.getfield 15, 3) := by decide +kernel
theorem dX2_repeatsBy_21 : decode cX2_repeatsBy 21 = .ok (.iload_n 3, 1) := by decide +kernel
theorem dX2_repeatsBy_22 : decode cX2_repeatsBy 22 = .ok (.bipush 7, 2) := by decide +kernel
theorem dX2_repeatsBy_24 : decode cX2_repeatsBy 24 = .ok (.imul, 1) := by decide +kernel
theorem dX2_repeatsBy_25 : decode cX2_repeatsBy 25 = .ok (.iload 4, 2) := by decide +kernel
theorem dX2_repeatsBy_27 : decode cX2_repeatsBy 27 = .ok (.iadd, 1) := by decide +kernel
theorem dX2_repeatsBy_28 : decode cX2_repeatsBy 28 = .ok (.iaload, 1) := by decide +kernel
theorem dX2_repeatsBy_29 : decode cX2_repeatsBy 29 = .ok (.aload_n 0, 1) := by decide +kernel
theorem dX2_repeatsBy_30 : decode cX2_repeatsBy 30 = .ok (.getfield 15, 3) := by decide +kernel
theorem dX2_repeatsBy_33 : decode cX2_repeatsBy 33 = .ok (.iload_n 3, 1) := by decide +kernel
theorem dX2_repeatsBy_34 : decode cX2_repeatsBy 34 = .ok (.iload_n 1, 1) := by decide +kernel
theorem dX2_repeatsBy_35 : decode cX2_repeatsBy 35 = .ok (.isub, 1) := by decide +kernel
theorem dX2_repeatsBy_36 : decode cX2_repeatsBy 36 = .ok (.bipush 7, 2) := by decide +kernel
theorem dX2_repeatsBy_38 : decode cX2_repeatsBy 38 = .ok (.imul, 1) := by decide +kernel
theorem dX2_repeatsBy_39 : decode cX2_repeatsBy 39 = .ok (.iload 4, 2) := by decide +kernel
theorem dX2_repeatsBy_41 : decode cX2_repeatsBy 41 = .ok (.iadd, 1) := by decide +kernel
theorem dX2_repeatsBy_42 : decode cX2_repeatsBy 42 = .ok (.iaload, 1) := by decide +kernel
theorem dX2_repeatsBy_43 : decode cX2_repeatsBy 43 = .ok (.if_icmp .eq 5, 3) := by decide +kernel
theorem dX2_repeatsBy_46 : decode cX2_repeatsBy 46 = .ok (.iconst 0, 1) := by decide +kernel
theorem dX2_repeatsBy_47 : decode cX2_repeatsBy 47 = .ok (.ireturn, 1) := by decide +kernel
theorem dX2_repeatsBy_48 : decode cX2_repeatsBy 48 = .ok (.iinc 4 1, 3) := by decide +kernel
theorem dX2_repeatsBy_51 : decode cX2_repeatsBy 51 = .ok (.goto (-41), 3) := by decide +kernel
theorem dX2_repeatsBy_54 : decode cX2_repeatsBy 54 = .ok (.iinc 3 1, 3) := by decide +kernel
theorem dX2_repeatsBy_57 : decode cX2_repeatsBy 57 = .ok (.goto (-55), 3) := by decide +kernel
theorem dX2_repeatsBy_60 : decode cX2_repeatsBy 60 = .ok (.iconst 1, 1) := by decide +kernel
theorem dX2_repeatsBy_61 : decode cX2_repeatsBy 61 = .ok (.ireturn, 1) := by decide +kernel
set_option maxRecDepth 20000 in
theorem ggX2_fits_X2_fitsCell : GoodIn wsX2_fits wsX2_fitsCell := goodIn_r _ [8, 9] (by decide +kernel) (by decide +kernel)
set_option maxRecDepth 20000 in
theorem gX2_fits_X2_fitsCell : GoodIn wsX2_fits (va_wsS RX2 81 yX2_fitsCell wsX2_fitsCell) := goodIn_app (goodIn_of _ (by decide +kernel)) ggX2_fits_X2_fitsCell
theorem dX2_fits_0 : decode cX2_fits 0 = .ok (.iload 4, 2) := by decide +kernel
theorem dX2_fits_2 : decode cX2_fits 2 = .ok (.iload_n 2, 1) := by decide +kernel
theorem dX2_fits_3 : decode cX2_fits 3 = .ok (.iadd, 1) := by decide +kernel
theorem dX2_fits_4 : decode cX2_fits 4 = .ok (.aload_n 0, 1) := by decide +kernel
theorem dX2_fits_5 : decode cX2_fits 5 = .ok (.getfield 9, 3) := by decide +kernel
theorem dX2_fits_8 : decode cX2_fits 8 = .ok (.iconst 1, 1) := by decide +kernel
theorem dX2_fits_9 : decode cX2_fits 9 = .ok (.isub, 1) := by decide +kernel
theorem dX2_fits_10 : decode cX2_fits 10 = .ok (.if_icmp .le 5, 3) := by decide +kernel
theorem dX2_fits_13 : decode cX2_fits 13 = .ok (.iconst 0, 1) := by decide +kernel
theorem dX2_fits_14 : decode cX2_fits 14 = .ok (.ireturn, 1) := by decide +kernel
theorem dX2_fits_15 : decode cX2_fits 15 = .ok (.iload_n 3, 1) := by decide +kernel
theorem dX2_fits_16 : decode cX2_fits 16 = .ok (.istore 5, 2) := by decide +kernel
theorem dX2_fits_18 : decode cX2_fits 18 = .ok (.iconst 0, 1) := by decide +kernel
theorem dX2_fits_19 : decode cX2_fits 19 = .ok (.istore 6, 2) := by decide +kernel
theorem dX2_fits_21 : decode cX2_fits 21 = .ok (.iconst 0, 1) := by decide +kernel
theorem dX2_fits_22 : decode cX2_fits 22 = .ok (.istore 7, 2) := by decide +kernel
theorem dX2_fits_24 : decode cX2_fits 24 = .ok (.iload 7, 2) := by decide +kernel
theorem dX2_fits_26 : decode cX2_fits 26 = .ok (.aload_n 1, 1) := by decide +kernel
theorem dX2_fits_27 : decode cX2_fits 27 = .ok (.getfield 72, 3) := by decide +kernel
theorem dX2_fits_30 : decode cX2_fits 30 = .ok (.if_icmp .ge 62, 3) := by decide +kernel
theorem dX2_fits_33 : decode cX2_fits 33 = .ok (.iload 5, 2) := by decide +kernel
theorem dX2_fits_35 : decode cX2_fits 35 = .ok (.bipush 12, 2) := by decide +kernel
theorem dX2_fits_37 : decode cX2_fits 37 = .ok (.if_icmp .ge 32, 3) := by decide +kernel
theorem dX2_fits_40 : decode cX2_fits 40 = .ok (.aload_n 1, 1) := by decide +kernel
theorem dX2_fits_41 : decode cX2_fits 41 = .ok (.getfield 77, 3) := by decide +kernel
theorem dX2_fits_44 : decode cX2_fits 44 = .ok (.iload 7, 2) := by decide +kernel
theorem dX2_fits_46 : decode cX2_fits 46 = .ok (.laload, 1) := by decide +kernel
theorem dX2_fits_47 : decode cX2_fits 47 = .ok (.aload_n 0, 1) := by decide +kernel
theorem dX2_fits_48 : decode cX2_fits 48 = .ok (.getfield 15, 3) := by decide +kernel
theorem dX2_fits_51 : decode cX2_fits 51 = .ok (.iload 5, 2) := by decide +kernel
theorem dX2_fits_53 : decode cX2_fits 53 = .ok (.bipush 7, 2) := by decide +kernel
theorem dX2_fits_55 : decode cX2_fits 55 = .ok (.imul, 1) := by decide +kernel
theorem dX2_fits_56 : decode cX2_fits 56 = .ok (.iload 4, 2) := by decide +kernel
theorem dX2_fits_58 : decode cX2_fits 58 = .ok (.iadd, 1) := by decide +kernel
theorem dX2_fits_59 : decode cX2_fits 59 = .ok (.iload 6, 2) := by decide +kernel
theorem dX2_fits_61 : decode cX2_fits 61 = .ok (.iadd, 1) := by decide +kernel
theorem dX2_fits_62 : decode cX2_fits 62 = .ok (.iaload, 1) := by decide +kernel
theorem dX2_fits_63 : decode cX2_fits 63 = .ok (.invokestatic 81, 3) := by decide +kernel
theorem dX2_fits_66 : decode cX2_fits 66 = .ok (.ifCond .ne 5, 3) := by decide +kernel
theorem dX2_fits_69 : decode cX2_fits 69 = .ok (.iconst 0, 1) := by decide +kernel
theorem dX2_fits_70 : decode cX2_fits 70 = .ok (.ireturn, 1) := by decide +kernel
theorem dX2_fits_71 : decode cX2_fits 71 = .ok (.iinc 6 1, 3) := by decide +kernel
theorem dX2_fits_74 : decode cX2_fits 74 = .ok (.iload 6, 2) := by decide +kernel
theorem dX2_fits_76 : decode cX2_fits 76 = .ok (.iload_n 2, 1) := by decide +kernel
theorem dX2_fits_77 : decode cX2_fits 77 = .ok (.if_icmp .ne 9, 3) := by decide +kernel
theorem dX2_fits_80 : decode cX2_fits 80 = .ok (.iconst 0, 1) := by decide +kernel
theorem dX2_fits_81 : decode cX2_fits 81 = .ok (.istore 6, 2) := by decide +kernel
theorem dX2_fits_83 : decode cX2_fits 83 = .ok (.iinc 5 1, 3) := by decide +kernel
theorem dX2_fits_86 : decode cX2_fits 86 = .ok (.iinc 7 1, 3) := by decide +kernel
theorem dX2_fits_89 : decode cX2_fits 89 = .ok (.goto (-65), 3) := by decide +kernel
theorem dX2_fits_92 : decode cX2_fits 92 = .ok (.iconst 1, 1) := by decide +kernel
theorem dX2_fits_93 : decode cX2_fits 93 = .ok (.ireturn, 1) := by decide +kernel
theorem dX2_fitsCell_0 : decode cX2_fitsCell 0 = .ok (.lload_n 0, 1) := by decide +kernel
theorem dX2_fitsCell_1 : decode cX2_fitsCell 1 = .ok (.ldc2_w 85, 3) := by decide +kernel
theorem dX2_fitsCell_4 : decode cX2_fitsCell 4 = .ok (.lcmp, 1) := by decide +kernel
theorem dX2_fitsCell_5 : decode cX2_fitsCell 5 = .ok (.ifCond .eq 10, 3) := by decide +kernel
theorem dX2_fitsCell_8 : decode cX2_fitsCell 8 = .ok (.lload_n 0, 1) := by decide +kernel
theorem dX2_fitsCell_9 : decode cX2_fitsCell 9 = .ok (.iload_n 2, 1) := by decide +kernel
theorem dX2_fitsCell_10 : decode cX2_fitsCell 10 = .ok (.i2l, 1) := by decide +kernel
theorem dX2_fitsCell_11 : decode cX2_fitsCell 11 = .ok (.lcmp, 1) := by decide +kernel
theorem dX2_fitsCell_12 : decode cX2_fitsCell 12 = .ok (.ifCond .ne 7, 3) := by decide +kernel
theorem dX2_fitsCell_15 : decode cX2_fitsCell 15 = .ok (.iconst 1, 1) := by decide +kernel
theorem dX2_fitsCell_16 : decode cX2_fitsCell 16 = .ok (.goto 4, 3) := by decide +kernel
theorem dX2_fitsCell_19 : decode cX2_fitsCell 19 = .ok (.iconst 0, 1) := by decide +kernel
theorem dX2_fitsCell_20 : decode cX2_fitsCell 20 = .ok (.ireturn, 1) := by decide +kernel
theorem dX3_init_0 : decode cX3_init 0 = .ok (.aload_n 0, 1) := by decide +kernel
theorem dX3_init_1 : decode cX3_init 1 = .ok (.invokespecial 3, 3) := by decide +kernel
theorem dX3_init_4 : decode cX3_init 4 = .ok (.aload_n 0, 1) := by decide +kernel
theorem dX3_init_5 : decode cX3_init 5 = .ok (.iconst (-1), 1) := by decide +kernel
theorem dX3_init_6 : decode cX3_init 6 = .ok (.putfield 9, 3) := by decide +kernel
theorem dX3_init_9 : decode cX3_init 9 = .ok (.aload_n 0, 1) := by decide +kernel
theorem dX3_init_10 : decode cX3_init 10 = .ok (.iconst 0, 1) := by decide +kernel
theorem dX3_init_11 : decode cX3_init 11 = .ok (.putfield 15, 3) := by decide +kernel
theorem dX3_init_14 : decode cX3_init 14 = .ok (.aload_n 0, 1) := by decide +kernel
theorem dX3_init_15 : decode cX3_init 15 = .ok (.bipush 60, 2) := by decide +kernel
theorem dX3_init_17 : decode cX3_init 17 = .ok (.newarray .long, 2) := by decide +kernel
theorem dX3_init_19 : decode cX3_init 19 = .ok (.putfield 18, 3) := by decide +kernel
theorem dX3_init_22 : decode cX3_init 22 = .ok (.return_, 1) := by decide +kernel
set_option maxRecDepth 20000 in
theorem ggX3_begin_J7_fill_d0a16 : GoodIn wsX3_begin wsJ7_fill_d0a16 := goodIn_r _ [7] (by decide +kernel) (by decide +kernel)
set_option maxRecDepth 20000 in
theorem gX3_begin_J7_fill_d0a16 : GoodIn wsX3_begin (va_wsS RX3 22 yJ7_fill_d0a16 wsJ7_fill_d0a16) := goodIn_app (goodIn_of _ (by decide +kernel)) ggX3_begin_J7_fill_d0a16
theorem dX3_begin_0 : decode cX3_begin 0 = .ok (.aload_n 0, 1) := by decide +kernel
theorem dX3_begin_1 : decode cX3_begin 1 = .ok (.iload_n 1, 1) := by decide +kernel
theorem dX3_begin_2 : decode cX3_begin 2 = .ok (.putfield 9, 3) := by decide +kernel
theorem dX3_begin_5 : decode cX3_begin 5 = .ok (.aload_n 0, 1) := by decide +kernel
theorem dX3_begin_6 : decode cX3_begin 6 = .ok (.iload_n 2, 1) := by decide +kernel
theorem dX3_begin_7 : decode cX3_begin 7 = .ok (.putfield 15, 3) := by decide +kernel
theorem dX3_begin_10 : decode cX3_begin 10 = .ok (.aload_n 0, 1) := by decide +kernel
theorem dX3_begin_11 : decode cX3_begin 11 = .ok (.getfield 18, 3) := by decide +kernel
theorem dX3_begin_14 : decode cX3_begin 14 = .ok (.lconst 0, 1) := by decide +kernel
theorem dX3_begin_15 : decode cX3_begin 15 = .ok (.invokestatic 22, 3) := by decide +kernel
theorem dX3_begin_18 : decode cX3_begin 18 = .ok (.return_, 1) := by decide +kernel
theorem dX3_has_0 : decode cX3_has 0 = .ok (.aload_n 0, 1) := by decide +kernel
theorem dX3_has_1 : decode cX3_has 1 = .ok (.getfield 9, 3) := by decide +kernel
theorem dX3_has_4 : decode cX3_has 4 = .ok (.iconst (-1), 1) := by decide +kernel
theorem dX3_has_5 : decode cX3_has 5 = .ok (.if_icmp .eq 19, 3) := by decide +kernel
theorem dX3_has_8 : decode cX3_has 8 = .ok (.iload_n 1, 1) := by decide +kernel
theorem dX3_has_9 : decode cX3_has 9 = .ok (.ifCond .lt 15, 3) := by decide +kernel
theorem dX3_has_12 : decode cX3_has 12 = .ok (.iload_n 1, 1) := by decide +kernel
theorem dX3_has_13 : decode cX3_has 13 = .ok (.aload_n 0, 1) := by decide +kernel
theorem dX3_has_14 : decode cX3_has 14 = .ok (.getfield 15, 3) := by decide +kernel
theorem dX3_has_17 : decode cX3_has 17 = .ok (.if_icmp .ge 7, 3) := by decide +kernel
theorem dX3_has_20 : decode cX3_has 20 = .ok (.iconst 1, 1) := by decide +kernel
theorem dX3_has_21 : decode cX3_has 21 = .ok (.goto 4, 3) := by decide +kernel
theorem dX3_has_24 : decode cX3_has 24 = .ok (.iconst 0, 1) := by decide +kernel
theorem dX3_has_25 : decode cX3_has 25 = .ok (.ireturn, 1) := by decide +kernel
theorem dX3_cut_0 : decode cX3_cut 0 = .ok (.aload_n 0, 1) := by decide +kernel
theorem dX3_cut_1 : decode cX3_cut 1 = .ok (.getfield 9, 3) := by decide +kernel
theorem dX3_cut_4 : decode cX3_cut 4 = .ok (.tableswitch 49 0 2 #[28, 40, 45], 28) := by decide +kernel
theorem dX3_cut_32 : decode cX3_cut 32 = .ok (.lload_n 1, 1) := by decide +kernel
theorem dX3_cut_33 : decode cX3_cut 33 = .ok (.lconst 0, 1) := by decide +kernel
theorem dX3_cut_34 : decode cX3_cut 34 = .ok (.lcmp, 1) := by decide +kernel
theorem dX3_cut_35 : decode cX3_cut 35 = .ok (.ifCond .eq 7, 3) := by decide +kernel
theorem dX3_cut_38 : decode cX3_cut 38 = .ok (.lconst 1, 1) := by decide +kernel
theorem dX3_cut_39 : decode cX3_cut 39 = .ok (.goto 4, 3) := by decide +kernel
theorem dX3_cut_42 : decode cX3_cut 42 = .ok (.lconst 0, 1) := by decide +kernel
theorem dX3_cut_43 : decode cX3_cut 43 = .ok (.lreturn, 1) := by decide +kernel
theorem dX3_cut_44 : decode cX3_cut 44 = .ok (.lload_n 1, 1) := by decide +kernel
theorem dX3_cut_45 : decode cX3_cut 45 = .ok (.l2i, 1) := by decide +kernel
theorem dX3_cut_46 : decode cX3_cut 46 = .ok (.i2s, 1) := by decide +kernel
theorem dX3_cut_47 : decode cX3_cut 47 = .ok (.i2l, 1) := by decide +kernel
theorem dX3_cut_48 : decode cX3_cut 48 = .ok (.lreturn, 1) := by decide +kernel
theorem dX3_cut_49 : decode cX3_cut 49 = .ok (.lload_n 1, 1) := by decide +kernel
theorem dX3_cut_50 : decode cX3_cut 50 = .ok (.l2i, 1) := by decide +kernel
theorem dX3_cut_51 : decode cX3_cut 51 = .ok (.i2l, 1) := by decide +kernel
theorem dX3_cut_52 : decode cX3_cut 52 = .ok (.lreturn, 1) := by decide +kernel
theorem dX3_cut_53 : decode cX3_cut 53 = .ok (.lload_n 1, 1) := by decide +kernel
theorem dX3_cut_54 : decode cX3_cut 54 = .ok (.lreturn, 1) := by decide +kernel
theorem dX4_init_0 : decode cX4_init 0 = .ok (.aload_n 0, 1) := by decide +kernel
theorem dX4_init_1 : decode cX4_init 1 = .ok (.invokespecial 3, 3) := by decide +kernel
theorem dX4_init_4 : decode cX4_init 4 = .ok (.aload_n 0, 1) := by decide +kernel
theorem dX4_init_5 : decode cX4_init 5 = .ok (.bipush 120, 2) := by decide +kernel
theorem dX4_init_7 : decode cX4_init 7 = .ok (.newarray .int, 2) := by decide +kernel
theorem dX4_init_9 : decode cX4_init 9 = .ok (.putfield 9, 3) := by decide +kernel
theorem dX4_init_12 : decode cX4_init 12 = .ok (.aload_n 0, 1) := by decide +kernel
theorem dX4_init_13 : decode cX4_init 13 = .ok (.iconst 0, 1) := by decide +kernel
theorem dX4_init_14 : decode cX4_init 14 = .ok (.putfield 15, 3) := by decide +kernel
theorem dX4_init_17 : decode cX4_init 17 = .ok (.return_, 1) := by decide +kernel
theorem dX4_prickingFault_0 : decode cX4_prickingFault 0 = .ok (.iconst 0, 1) := by decide +kernel
theorem dX4_prickingFault_1 : decode cX4_prickingFault 1 = .ok (.istore_n 2, 1) := by decide +kernel
theorem dX4_prickingFault_2 : decode cX4_prickingFault 2 = .ok (.iconst 0, 1) := by decide +kernel
theorem dX4_prickingFault_3 : decode cX4_prickingFault 3 = .ok (.istore_n 3, 1) := by decide +kernel
theorem dX4_prickingFault_4 : decode cX4_prickingFault 4 = .ok (.iconst 0, 1) := by decide +kernel
theorem dX4_prickingFault_5 : decode cX4_prickingFault 5 = .ok (.istore 4, 2) := by decide +kernel
theorem dX4_prickingFault_7 : decode cX4_prickingFault 7 = .ok (.iconst 0, 1) := by decide +kernel
theorem dX4_prickingFault_8 : decode cX4_prickingFault 8 = .ok (.istore 5, 2) := by decide +kernel
theorem dX4_prickingFault_10 : decode cX4_prickingFault 10 = .ok (.iload 5, 2) := by decide +kernel
theorem dX4_prickingFault_12 : decode cX4_prickingFault 12 = .ok (.aload_n 0, 1) := by decide +kernel
theorem dX4_prickingFault_13 : decode cX4_prickingFault 13 = .ok (.getfield 15, 3) := by decide +kernel
theorem dX4_prickingFault_16 : decode cX4_prickingFault 16 = .ok (.if_icmp .ge 103, 3) := by decide +kernel
theorem dX4_prickingFault_19 : decode cX4_prickingFault 19 = .ok (.aload_n 0, 1) := by decide +kernel
theorem dX4_prickingFault_20 : decode cX4_prickingFault 20 = .ok (.getfield 9, 3) := by decide +kernel
theorem dX4_prickingFault_23 : decode cX4_prickingFault 23 = .ok (.iload 5, 2) := by decide +kernel
theorem dX4_prickingFault_25 : decode cX4_prickingFault 25 = .ok (.iaload, 1) := by decide +kernel
theorem dX4_prickingFault_26 : decode cX4_prickingFault 26 = .ok (.istore 6, 2) := by decide +kernel
theorem dX4_prickingFault_28 : decode cX4_prickingFault 28 = .ok (.iload_n 3, 1) := by decide +kernel
theorem dX4_prickingFault_29 : decode cX4_prickingFault 29 = .ok (.iload_n 1, 1) := by decide +kernel
theorem dX4_prickingFault_30 : decode cX4_prickingFault 30 = .ok (.if_icmp .ne 30, 3) := by decide +kernel
theorem dX4_prickingFault_33 : decode cX4_prickingFault 33 = .ok (.iload 6, 2) := by decide +kernel
theorem dX4_prickingFault_35 : decode cX4_prickingFault 35 = .ok (.bipush 47, 2) := by decide +kernel
theorem dX4_prickingFault_37 : decode cX4_prickingFault 37 = .ok (.if_icmp .ne 9, 3) := by decide +kernel
theorem dX4_prickingFault_40 : decode cX4_prickingFault 40 = .ok (.iload_n 2, 1) := by decide +kernel
theorem dX4_prickingFault_41 : decode cX4_prickingFault 41 = .ok (.bipush 11, 2) := by decide +kernel
theorem dX4_prickingFault_43 : decode cX4_prickingFault 43 = .ok (.if_icmp .ne 6, 3) := by decide +kernel
theorem dX4_prickingFault_46 : decode cX4_prickingFault 46 = .ok (.iload 5, 2) := by decide +kernel
theorem dX4_prickingFault_48 : decode cX4_prickingFault 48 = .ok (.ireturn, 1) := by decide +kernel
theorem dX4_prickingFault_49 : decode cX4_prickingFault 49 = .ok (.iinc 2 1, 3) := by decide +kernel
theorem dX4_prickingFault_52 : decode cX4_prickingFault 52 = .ok (.iconst 0, 1) := by decide +kernel
theorem dX4_prickingFault_53 : decode cX4_prickingFault 53 = .ok (.istore_n 3, 1) := by decide +kernel
theorem dX4_prickingFault_54 : decode cX4_prickingFault 54 = .ok (.iconst 0, 1) := by decide +kernel
theorem dX4_prickingFault_55 : decode cX4_prickingFault 55 = .ok (.istore 4, 2) := by decide +kernel
theorem dX4_prickingFault_57 : decode cX4_prickingFault 57 = .ok (.goto 56, 3) := by decide +kernel
theorem dX4_prickingFault_60 : decode cX4_prickingFault 60 = .ok (.iload 6, 2) := by decide +kernel
theorem dX4_prickingFault_62 : decode cX4_prickingFault 62 = .ok (.bipush 97, 2) := by decide +kernel
theorem dX4_prickingFault_64 : decode cX4_prickingFault 64 = .ok (.if_icmp .lt 14, 3) := by decide +kernel
theorem dX4_prickingFault_67 : decode cX4_prickingFault 67 = .ok (.iload 6, 2) := by decide +kernel
theorem dX4_prickingFault_69 : decode cX4_prickingFault 69 = .ok (.bipush 102, 2) := by decide +kernel
theorem dX4_prickingFault_71 : decode cX4_prickingFault 71 = .ok (.if_icmp .gt 7, 3) := by decide +kernel
theorem dX4_prickingFault_74 : decode cX4_prickingFault 74 = .ok (.iconst 1, 1) := by decide +kernel
theorem dX4_prickingFault_75 : decode cX4_prickingFault 75 = .ok (.goto 4, 3) := by decide +kernel
theorem dX4_prickingFault_78 : decode cX4_prickingFault 78 = .ok (.iconst 0, 1) := by decide +kernel
theorem dX4_prickingFault_79 : decode cX4_prickingFault 79 = .ok (.istore 7, 2) := by decide +kernel
theorem dX4_prickingFault_81 : decode cX4_prickingFault 81 = .ok (.iload 6, 2) := by decide +kernel
theorem dX4_prickingFault_83 : decode cX4_prickingFault 83 = .ok (.bipush 46, 2) := by decide +kernel
theorem dX4_prickingFault_85 : decode cX4_prickingFault 85 = .ok (.if_icmp .eq 8, 3) := by decide +kernel
theorem dX4_prickingFault_88 : decode cX4_prickingFault 88 = .ok (.iload 7, 2) := by decide +kernel
theorem dX4_prickingFault_90 : decode cX4_prickingFault 90 = .ok (.ifCond .eq 13, 3) := by decide +kernel
theorem dX4_prickingFault_93 : decode cX4_prickingFault 93 = .ok (.iload 7, 2) := by decide +kernel
theorem dX4_prickingFault_95 : decode cX4_prickingFault 95 = .ok (.ifCond .eq 11, 3) := by decide +kernel
theorem dX4_prickingFault_98 : decode cX4_prickingFault 98 = .ok (.iload 4, 2) := by decide +kernel
theorem dX4_prickingFault_100 : decode cX4_prickingFault 100 = .ok (.ifCond .eq 6, 3) := by decide +kernel
theorem dX4_prickingFault_103 : decode cX4_prickingFault 103 = .ok (.iload 5, 2) := by decide +kernel
theorem dX4_prickingFault_105 : decode cX4_prickingFault 105 = .ok (.ireturn, 1) := by decide +kernel
theorem dX4_prickingFault_106 : decode cX4_prickingFault 106 = .ok (.iinc 3 1, 3) := by decide +kernel
theorem dX4_prickingFault_109 : decode cX4_prickingFault 109 = .ok (.iload 7, 2) := by decide +kernel
theorem dX4_prickingFault_111 : decode cX4_prickingFault 111 = .ok (.istore 4, 2) := by decide +kernel
theorem dX4_prickingFault_113 : decode cX4_prickingFault 113 = .ok (.iinc 5 1, 3) := by decide +kernel
theorem dX4_prickingFault_116 : decode cX4_prickingFault 116 = .ok (.goto (-106), 3) := by decide +kernel
theorem dX4_prickingFault_119 : decode cX4_prickingFault 119 = .ok (.iload_n 3, 1) := by decide +kernel
theorem dX4_prickingFault_120 : decode cX4_prickingFault 120 = .ok (.iload_n 1, 1) := by decide +kernel
theorem dX4_prickingFault_121 : decode cX4_prickingFault 121 = .ok (.if_icmp .ne 7, 3) := by decide +kernel
theorem dX4_prickingFault_124 : decode cX4_prickingFault 124 = .ok (.iconst (-1), 1) := by decide +kernel
theorem dX4_prickingFault_125 : decode cX4_prickingFault 125 = .ok (.goto 7, 3) := by decide +kernel
theorem dX4_prickingFault_128 : decode cX4_prickingFault 128 = .ok (.aload_n 0, 1) := by decide +kernel
theorem dX4_prickingFault_129 : decode cX4_prickingFault 129 = .ok (.getfield 15, 3) := by decide +kernel
theorem dX4_prickingFault_132 : decode cX4_prickingFault 132 = .ok (.ireturn, 1) := by decide +kernel
theorem dX4_wordFault_0 : decode cX4_wordFault 0 = .ok (.iconst 0, 1) := by decide +kernel
theorem dX4_wordFault_1 : decode cX4_wordFault 1 = .ok (.istore_n 1, 1) := by decide +kernel
theorem dX4_wordFault_2 : decode cX4_wordFault 2 = .ok (.iload_n 1, 1) := by decide +kernel
theorem dX4_wordFault_3 : decode cX4_wordFault 3 = .ok (.aload_n 0, 1) := by decide +kernel
theorem dX4_wordFault_4 : decode cX4_wordFault 4 = .ok (.getfield 15, 3) := by decide +kernel
theorem dX4_wordFault_7 : decode cX4_wordFault 7 = .ok (.if_icmp .ge 48, 3) := by decide +kernel
theorem dX4_wordFault_10 : decode cX4_wordFault 10 = .ok (.aload_n 0, 1) := by decide +kernel
theorem dX4_wordFault_11 : decode cX4_wordFault 11 = .ok (.getfield 9, 3) := by decide +kernel
theorem dX4_wordFault_14 : decode cX4_wordFault 14 = .ok (.iload_n 1, 1) := by decide +kernel
theorem dX4_wordFault_15 : decode cX4_wordFault 15 = .ok (.iaload, 1) := by decide +kernel
theorem dX4_wordFault_16 : decode cX4_wordFault 16 = .ok (.istore_n 2, 1) := by decide +kernel
theorem dX4_wordFault_17 : decode cX4_wordFault 17 = .ok (.iload_n 1, 1) := by decide +kernel
theorem dX4_wordFault_18 : decode cX4_wordFault 18 = .ok (.bipush 8, 2) := by decide +kernel
theorem dX4_wordFault_20 : decode cX4_wordFault 20 = .ok (.if_icmp .ge 27, 3) := by decide +kernel
theorem dX4_wordFault_23 : decode cX4_wordFault 23 = .ok (.iload_n 2, 1) := by decide +kernel
theorem dX4_wordFault_24 : decode cX4_wordFault 24 = .ok (.bipush 99, 2) := by decide +kernel
theorem dX4_wordFault_26 : decode cX4_wordFault 26 = .ok (.if_icmp .eq 23, 3) := by decide +kernel
theorem dX4_wordFault_29 : decode cX4_wordFault 29 = .ok (.iload_n 2, 1) := by decide +kernel
theorem dX4_wordFault_30 : decode cX4_wordFault 30 = .ok (.bipush 67, 2) := by decide +kernel
theorem dX4_wordFault_32 : decode cX4_wordFault 32 = .ok (.if_icmp .eq 17, 3) := by decide +kernel
theorem dX4_wordFault_35 : decode cX4_wordFault 35 = .ok (.iload_n 2, 1) := by decide +kernel
theorem dX4_wordFault_36 : decode cX4_wordFault 36 = .ok (.bipush 116, 2) := by decide +kernel
theorem dX4_wordFault_38 : decode cX4_wordFault 38 = .ok (.if_icmp .eq 11, 3) := by decide +kernel
theorem dX4_wordFault_41 : decode cX4_wordFault 41 = .ok (.iload_n 2, 1) := by decide +kernel
theorem dX4_wordFault_42 : decode cX4_wordFault 42 = .ok (.bipush 84, 2) := by decide +kernel
theorem dX4_wordFault_44 : decode cX4_wordFault 44 = .ok (.if_icmp .eq 5, 3) := by decide +kernel
theorem dX4_wordFault_47 : decode cX4_wordFault 47 = .ok (.iload_n 1, 1) := by decide +kernel
theorem dX4_wordFault_48 : decode cX4_wordFault 48 = .ok (.ireturn, 1) := by decide +kernel
theorem dX4_wordFault_49 : decode cX4_wordFault 49 = .ok (.iinc 1 1, 3) := by decide +kernel
theorem dX4_wordFault_52 : decode cX4_wordFault 52 = .ok (.goto (-50), 3) := by decide +kernel
theorem dX4_wordFault_55 : decode cX4_wordFault 55 = .ok (.aload_n 0, 1) := by decide +kernel
theorem dX4_wordFault_56 : decode cX4_wordFault 56 = .ok (.getfield 15, 3) := by decide +kernel
theorem dX4_wordFault_59 : decode cX4_wordFault 59 = .ok (.ifCond .ne 7, 3) := by decide +kernel
theorem dX4_wordFault_62 : decode cX4_wordFault 62 = .ok (.iconst 0, 1) := by decide +kernel
theorem dX4_wordFault_63 : decode cX4_wordFault 63 = .ok (.goto 4, 3) := by decide +kernel
theorem dX4_wordFault_66 : decode cX4_wordFault 66 = .ok (.iconst (-1), 1) := by decide +kernel
theorem dX4_wordFault_67 : decode cX4_wordFault 67 = .ok (.ireturn, 1) := by decide +kernel
set_option maxRecDepth 20000 in
theorem ggX4_prickInto_J7_fill_53178 : GoodIn wsX4_prickInto wsJ7_fill_53178 := goodIn_r _ [7] (by decide +kernel) (by decide +kernel)
set_option maxRecDepth 20000 in
theorem gX4_prickInto_J7_fill_53178 : GoodIn wsX4_prickInto (va_wsS RX4 24 yJ7_fill_53178 wsJ7_fill_53178) := goodIn_app (goodIn_of _ (by decide +kernel)) ggX4_prickInto_J7_fill_53178
theorem dX4_prickInto_0 : decode cX4_prickInto 0 = .ok (.aload_n 1, 1) := by decide +kernel
theorem dX4_prickInto_1 : decode cX4_prickInto 1 = .ok (.getfield 19, 3) := by decide +kernel
theorem dX4_prickInto_4 : decode cX4_prickInto 4 = .ok (.iconst (-1), 1) := by decide +kernel
theorem dX4_prickInto_5 : decode cX4_prickInto 5 = .ok (.invokestatic 24, 3) := by decide +kernel
theorem dX4_prickInto_8 : decode cX4_prickInto 8 = .ok (.iconst 0, 1) := by decide +kernel
theorem dX4_prickInto_9 : decode cX4_prickInto 9 = .ok (.istore_n 2, 1) := by decide +kernel
theorem dX4_prickInto_10 : decode cX4_prickInto 10 = .ok (.iconst 0, 1) := by decide +kernel
theorem dX4_prickInto_11 : decode cX4_prickInto 11 = .ok (.istore_n 3, 1) := by decide +kernel
theorem dX4_prickInto_12 : decode cX4_prickInto 12 = .ok (.iconst 0, 1) := by decide +kernel
theorem dX4_prickInto_13 : decode cX4_prickInto 13 = .ok (.istore 4, 2) := by decide +kernel
theorem dX4_prickInto_15 : decode cX4_prickInto 15 = .ok (.iload 4, 2) := by decide +kernel
theorem dX4_prickInto_17 : decode cX4_prickInto 17 = .ok (.aload_n 0, 1) := by decide +kernel
theorem dX4_prickInto_18 : decode cX4_prickInto 18 = .ok (.getfield 15, 3) := by decide +kernel
theorem dX4_prickInto_21 : decode cX4_prickInto 21 = .ok (.if_icmp .ge 77, 3) := by decide +kernel
theorem dX4_prickInto_24 : decode cX4_prickInto 24 = .ok (.aload_n 0, 1) := by decide +kernel
theorem dX4_prickInto_25 : decode cX4_prickInto 25 = .ok (.getfield 9, 3) := by decide +kernel
theorem dX4_prickInto_28 : decode cX4_prickInto 28 = .ok (.iload 4, 2) := by decide +kernel
theorem dX4_prickInto_30 : decode cX4_prickInto 30 = .ok (.iaload, 1) := by decide +kernel
theorem dX4_prickInto_31 : decode cX4_prickInto 31 = .ok (.bipush 47, 2) := by decide +kernel
theorem dX4_prickInto_33 : decode cX4_prickInto 33 = .ok (.if_icmp .ne 11, 3) := by decide +kernel
theorem dX4_prickInto_36 : decode cX4_prickInto 36 = .ok (.iinc 2 1, 3) := by decide +kernel
theorem dX4_prickInto_39 : decode cX4_prickInto 39 = .ok (.iconst 0, 1) := by decide +kernel
theorem dX4_prickInto_40 : decode cX4_prickInto 40 = .ok (.istore_n 3, 1) := by decide +kernel
theorem dX4_prickInto_41 : decode cX4_prickInto 41 = .ok (.goto 51, 3) := by decide +kernel
theorem dX4_prickInto_44 : decode cX4_prickInto 44 = .ok (.aload_n 0, 1) := by decide +kernel
theorem dX4_prickInto_45 : decode cX4_prickInto 45 = .ok (.getfield 9, 3) := by decide +kernel
theorem dX4_prickInto_48 : decode cX4_prickInto 48 = .ok (.iload 4, 2) := by decide +kernel
theorem dX4_prickInto_50 : decode cX4_prickInto 50 = .ok (.iaload, 1) := by decide +kernel
theorem dX4_prickInto_51 : decode cX4_prickInto 51 = .ok (.bipush 46, 2) := by decide +kernel
theorem dX4_prickInto_53 : decode cX4_prickInto 53 = .ok (.if_icmp .eq 36, 3) := by decide +kernel
theorem dX4_prickInto_56 : decode cX4_prickInto 56 = .ok (.iload_n 2, 1) := by decide +kernel
theorem dX4_prickInto_57 : decode cX4_prickInto 57 = .ok (.bipush 12, 2) := by decide +kernel
theorem dX4_prickInto_59 : decode cX4_prickInto 59 = .ok (.if_icmp .ge 30, 3) := by decide +kernel
theorem dX4_prickInto_62 : decode cX4_prickInto 62 = .ok (.iload_n 3, 1) := by decide +kernel
theorem dX4_prickInto_63 : decode cX4_prickInto 63 = .ok (.bipush 7, 2) := by decide +kernel
theorem dX4_prickInto_65 : decode cX4_prickInto 65 = .ok (.if_icmp .ge 24, 3) := by decide +kernel
theorem dX4_prickInto_68 : decode cX4_prickInto 68 = .ok (.aload_n 1, 1) := by decide +kernel
theorem dX4_prickInto_69 : decode cX4_prickInto 69 = .ok (.getfield 19, 3) := by decide +kernel
theorem dX4_prickInto_72 : decode cX4_prickInto 72 = .ok (.iload_n 2, 1) := by decide +kernel
theorem dX4_prickInto_73 : decode cX4_prickInto 73 = .ok (.bipush 7, 2) := by decide +kernel
theorem dX4_prickInto_75 : decode cX4_prickInto 75 = .ok (.imul, 1) := by decide +kernel
theorem dX4_prickInto_76 : decode cX4_prickInto 76 = .ok (.iload_n 3, 1) := by decide +kernel
theorem dX4_prickInto_77 : decode cX4_prickInto 77 = .ok (.iadd, 1) := by decide +kernel
theorem dX4_prickInto_78 : decode cX4_prickInto 78 = .ok (.aload_n 0, 1) := by decide +kernel
theorem dX4_prickInto_79 : decode cX4_prickInto 79 = .ok (.getfield 9, 3) := by decide +kernel
theorem dX4_prickInto_82 : decode cX4_prickInto 82 = .ok (.iload 4, 2) := by decide +kernel
theorem dX4_prickInto_84 : decode cX4_prickInto 84 = .ok (.iaload, 1) := by decide +kernel
theorem dX4_prickInto_85 : decode cX4_prickInto 85 = .ok (.bipush 97, 2) := by decide +kernel
theorem dX4_prickInto_87 : decode cX4_prickInto 87 = .ok (.isub, 1) := by decide +kernel
theorem dX4_prickInto_88 : decode cX4_prickInto 88 = .ok (.iastore, 1) := by decide +kernel
theorem dX4_prickInto_89 : decode cX4_prickInto 89 = .ok (.iinc 3 1, 3) := by decide +kernel
theorem dX4_prickInto_92 : decode cX4_prickInto 92 = .ok (.iinc 4 1, 3) := by decide +kernel
theorem dX4_prickInto_95 : decode cX4_prickInto 95 = .ok (.goto (-80), 3) := by decide +kernel
theorem dX4_prickInto_98 : decode cX4_prickInto 98 = .ok (.return_, 1) := by decide +kernel
theorem dX4_spellInto_0 : decode cX4_spellInto 0 = .ok (.iconst 0, 1) := by decide +kernel
theorem dX4_spellInto_1 : decode cX4_spellInto 1 = .ok (.istore_n 3, 1) := by decide +kernel
theorem dX4_spellInto_2 : decode cX4_spellInto 2 = .ok (.iload_n 3, 1) := by decide +kernel
theorem dX4_spellInto_3 : decode cX4_spellInto 3 = .ok (.aload_n 0, 1) := by decide +kernel
theorem dX4_spellInto_4 : decode cX4_spellInto 4 = .ok (.getfield 15, 3) := by decide +kernel
theorem dX4_spellInto_7 : decode cX4_spellInto 7 = .ok (.if_icmp .ge 32, 3) := by decide +kernel
theorem dX4_spellInto_10 : decode cX4_spellInto 10 = .ok (.iload_n 3, 1) := by decide +kernel
theorem dX4_spellInto_11 : decode cX4_spellInto 11 = .ok (.bipush 8, 2) := by decide +kernel
theorem dX4_spellInto_13 : decode cX4_spellInto 13 = .ok (.if_icmp .ge 26, 3) := by decide +kernel
theorem dX4_spellInto_16 : decode cX4_spellInto 16 = .ok (.aload_n 1, 1) := by decide +kernel
theorem dX4_spellInto_17 : decode cX4_spellInto 17 = .ok (.getfield 30, 3) := by decide +kernel
theorem dX4_spellInto_20 : decode cX4_spellInto 20 = .ok (.iload_n 2, 1) := by decide +kernel
theorem dX4_spellInto_21 : decode cX4_spellInto 21 = .ok (.bipush 8, 2) := by decide +kernel
theorem dX4_spellInto_23 : decode cX4_spellInto 23 = .ok (.imul, 1) := by decide +kernel
theorem dX4_spellInto_24 : decode cX4_spellInto 24 = .ok (.iload_n 3, 1) := by decide +kernel
theorem dX4_spellInto_25 : decode cX4_spellInto 25 = .ok (.iadd, 1) := by decide +kernel
theorem dX4_spellInto_26 : decode cX4_spellInto 26 = .ok (.aload_n 0, 1) := by decide +kernel
theorem dX4_spellInto_27 : decode cX4_spellInto 27 = .ok (.getfield 9, 3) := by decide +kernel
theorem dX4_spellInto_30 : decode cX4_spellInto 30 = .ok (.iload_n 3, 1) := by decide +kernel
theorem dX4_spellInto_31 : decode cX4_spellInto 31 = .ok (.iaload, 1) := by decide +kernel
theorem dX4_spellInto_32 : decode cX4_spellInto 32 = .ok (.iastore, 1) := by decide +kernel
theorem dX4_spellInto_33 : decode cX4_spellInto 33 = .ok (.iinc 3 1, 3) := by decide +kernel
theorem dX4_spellInto_36 : decode cX4_spellInto 36 = .ok (.goto (-34), 3) := by decide +kernel
theorem dX4_spellInto_39 : decode cX4_spellInto 39 = .ok (.aload_n 1, 1) := by decide +kernel
theorem dX4_spellInto_40 : decode cX4_spellInto 40 = .ok (.getfield 33, 3) := by decide +kernel
theorem dX4_spellInto_43 : decode cX4_spellInto 43 = .ok (.iload_n 2, 1) := by decide +kernel
theorem dX4_spellInto_44 : decode cX4_spellInto 44 = .ok (.aload_n 0, 1) := by decide +kernel
theorem dX4_spellInto_45 : decode cX4_spellInto 45 = .ok (.getfield 15, 3) := by decide +kernel
theorem dX4_spellInto_48 : decode cX4_spellInto 48 = .ok (.bipush 8, 2) := by decide +kernel
theorem dX4_spellInto_50 : decode cX4_spellInto 50 = .ok (.invokestatic 36, 3) := by decide +kernel
theorem dX4_spellInto_53 : decode cX4_spellInto 53 = .ok (.iastore, 1) := by decide +kernel
theorem dX4_spellInto_54 : decode cX4_spellInto 54 = .ok (.return_, 1) := by decide +kernel
theorem dX5_init_0 : decode cX5_init 0 = .ok (.aload_n 0, 1) := by decide +kernel
theorem dX5_init_1 : decode cX5_init 1 = .ok (.invokespecial 3, 3) := by decide +kernel
theorem dX5_init_4 : decode cX5_init 4 = .ok (.aload_n 0, 1) := by decide +kernel
theorem dX5_init_5 : decode cX5_init 5 = .ok (.iconst 0, 1) := by decide +kernel
theorem dX5_init_6 : decode cX5_init 6 = .ok (.putfield 9, 3) := by decide +kernel
theorem dX5_init_9 : decode cX5_init 9 = .ok (.aload_n 0, 1) := by decide +kernel
theorem dX5_init_10 : decode cX5_init 10 = .ok (.sipush 1296, 3) := by decide +kernel
theorem dX5_init_13 : decode cX5_init 13 = .ok (.newarray .long, 2) := by decide +kernel
theorem dX5_init_15 : decode cX5_init 15 = .ok (.putfield 15, 3) := by decide +kernel
theorem dX5_init_18 : decode cX5_init 18 = .ok (.aload_n 0, 1) := by decide +kernel
theorem dX5_init_19 : decode cX5_init 19 = .ok (.iconst 4, 1) := by decide +kernel
theorem dX5_init_20 : decode cX5_init 20 = .ok (.newarray .int, 2) := by decide +kernel
theorem dX5_init_22 : decode cX5_init 22 = .ok (.putfield 19, 3) := by decide +kernel
theorem dX5_init_25 : decode cX5_init 25 = .ok (.aload_n 0, 1) := by decide +kernel
theorem dX5_init_26 : decode cX5_init 26 = .ok (.iconst 4, 1) := by decide +kernel
theorem dX5_init_27 : decode cX5_init 27 = .ok (.newarray .int, 2) := by decide +kernel
theorem dX5_init_29 : decode cX5_init 29 = .ok (.putfield 23, 3) := by decide +kernel
theorem dX5_init_32 : decode cX5_init 32 = .ok (.aload_n 0, 1) := by decide +kernel
theorem dX5_init_33 : decode cX5_init 33 = .ok (.bipush 48, 2) := by decide +kernel
theorem dX5_init_35 : decode cX5_init 35 = .ok (.newarray .int, 2) := by decide +kernel
theorem dX5_init_37 : decode cX5_init 37 = .ok (.putfield 26, 3) := by decide +kernel
theorem dX5_init_40 : decode cX5_init 40 = .ok (.aload_n 0, 1) := by decide +kernel
theorem dX5_init_41 : decode cX5_init 41 = .ok (.bipush 52, 2) := by decide +kernel
theorem dX5_init_43 : decode cX5_init 43 = .ok (.newarray .long, 2) := by decide +kernel
theorem dX5_init_45 : decode cX5_init 45 = .ok (.putfield 29, 3) := by decide +kernel
theorem dX5_init_48 : decode cX5_init 48 = .ok (.return_, 1) := by decide +kernel
set_option maxRecDepth 20000 in
theorem ggX5_reckon_X5_sortIntoLines : GoodIn wsX5_reckon wsX5_sortIntoLines := goodIn_r _ [7, 2, 8, 9, 10, 11, 12, 13, 14, 15, 16, 17, 18, 19, 51, 52, 53, 54, 55, 56, 57, 58, 59, 60, 61, 62, 63, 64] (by decide +kernel) (by decide +kernel)
set_option maxRecDepth 20000 in
theorem gX5_reckon_X5_sortIntoLines : GoodIn wsX5_reckon (wsV RX5 32 RX5 yX5_sortIntoLines wsX5_sortIntoLines) := goodIn_app (goodIn_of _ (by decide +kernel)) ggX5_reckon_X5_sortIntoLines
set_option maxRecDepth 20000 in
theorem ggX5_reckon_X5_reckonState : GoodIn wsX5_reckon wsX5_reckonState := goodIn_r _ [23, 12, 9, 24, 25, 26, 27, 6, 28, 8, 29, 30, 31, 32, 33, 34, 35, 36, 37, 38, 39, 2, 11, 40, 41, 42, 43, 44, 45, 46, 47, 48, 49, 50, 51, 52, 53, 54, 55, 56, 57, 58, 59, 60, 61, 62, 63, 64] (by decide +kernel) (by decide +kernel)
set_option maxRecDepth 20000 in
theorem gX5_reckon_X5_reckonState : GoodIn wsX5_reckon (wsV RX5 36 RX5 yX5_reckonState wsX5_reckonState) := goodIn_app (goodIn_of _ (by decide +kernel)) ggX5_reckon_X5_reckonState
theorem dX5_reckon_0 : decode cX5_reckon 0 = .ok (.aload_n 0, 1) := by decide +kernel
theorem dX5_reckon_1 : decode cX5_reckon 1 = .ok (.getfield 9, 3) := by decide +kernel
theorem dX5_reckon_4 : decode cX5_reckon 4 = .ok (.ifCond .eq 4, 3) := by decide +kernel
theorem dX5_reckon_7 : decode cX5_reckon 7 = .ok (.return_, 1) := by decide +kernel
theorem dX5_reckon_8 : decode cX5_reckon 8 = .ok (.aload_n 0, 1) := by decide +kernel
theorem dX5_reckon_9 : decode cX5_reckon 9 = .ok (.aload_n 1, 1) := by decide +kernel
theorem dX5_reckon_10 : decode cX5_reckon 10 = .ok (.invokevirtual 32, 3) := by decide +kernel
theorem dX5_reckon_13 : decode cX5_reckon 13 = .ok (.aload_n 0, 1) := by decide +kernel
theorem dX5_reckon_14 : decode cX5_reckon 14 = .ok (.getfield 19, 3) := by decide +kernel
theorem dX5_reckon_17 : decode cX5_reckon 17 = .ok (.iconst 0, 1) := by decide +kernel
theorem dX5_reckon_18 : decode cX5_reckon 18 = .ok (.iaload, 1) := by decide +kernel
theorem dX5_reckon_19 : decode cX5_reckon 19 = .ok (.istore_n 2, 1) := by decide +kernel
theorem dX5_reckon_20 : decode cX5_reckon 20 = .ok (.iload_n 2, 1) := by decide +kernel
theorem dX5_reckon_21 : decode cX5_reckon 21 = .ok (.ifCond .lt 75, 3) := by decide +kernel
theorem dX5_reckon_24 : decode cX5_reckon 24 = .ok (.aload_n 0, 1) := by decide +kernel
theorem dX5_reckon_25 : decode cX5_reckon 25 = .ok (.getfield 19, 3) := by decide +kernel
theorem dX5_reckon_28 : decode cX5_reckon 28 = .ok (.iconst 1, 1) := by decide +kernel
theorem dX5_reckon_29 : decode cX5_reckon 29 = .ok (.iaload, 1) := by decide +kernel
theorem dX5_reckon_30 : decode cX5_reckon 30 = .ok (.istore_n 3, 1) := by decide +kernel
theorem dX5_reckon_31 : decode cX5_reckon 31 = .ok (.iload_n 3, 1) := by decide +kernel
theorem dX5_reckon_32 : decode cX5_reckon 32 = .ok (.ifCond .lt 58, 3) := by decide +kernel
theorem dX5_reckon_35 : decode cX5_reckon 35 = .ok (.aload_n 0, 1) := by decide +kernel
theorem dX5_reckon_36 : decode cX5_reckon 36 = .ok (.getfield 19, 3) := by decide +kernel
theorem dX5_reckon_39 : decode cX5_reckon 39 = .ok (.iconst 2, 1) := by decide +kernel
theorem dX5_reckon_40 : decode cX5_reckon 40 = .ok (.iaload, 1) := by decide +kernel
theorem dX5_reckon_41 : decode cX5_reckon 41 = .ok (.istore 4, 2) := by decide +kernel
theorem dX5_reckon_43 : decode cX5_reckon 43 = .ok (.iload 4, 2) := by decide +kernel
theorem dX5_reckon_45 : decode cX5_reckon 45 = .ok (.ifCond .lt 39, 3) := by decide +kernel
theorem dX5_reckon_48 : decode cX5_reckon 48 = .ok (.aload_n 0, 1) := by decide +kernel
theorem dX5_reckon_49 : decode cX5_reckon 49 = .ok (.getfield 19, 3) := by decide +kernel
theorem dX5_reckon_52 : decode cX5_reckon 52 = .ok (.iconst 3, 1) := by decide +kernel
theorem dX5_reckon_53 : decode cX5_reckon 53 = .ok (.iaload, 1) := by decide +kernel
theorem dX5_reckon_54 : decode cX5_reckon 54 = .ok (.istore 5, 2) := by decide +kernel
theorem dX5_reckon_56 : decode cX5_reckon 56 = .ok (.iload 5, 2) := by decide +kernel
theorem dX5_reckon_58 : decode cX5_reckon 58 = .ok (.ifCond .lt 20, 3) := by decide +kernel
theorem dX5_reckon_61 : decode cX5_reckon 61 = .ok (.aload_n 0, 1) := by decide +kernel
theorem dX5_reckon_62 : decode cX5_reckon 62 = .ok (.aload_n 1, 1) := by decide +kernel
theorem dX5_reckon_63 : decode cX5_reckon 63 = .ok (.iload_n 2, 1) := by decide +kernel
theorem dX5_reckon_64 : decode cX5_reckon 64 = .ok (.iload_n 3, 1) := by decide +kernel
theorem dX5_reckon_65 : decode cX5_reckon 65 = .ok (.iload 4, 2) := by decide +kernel
theorem dX5_reckon_67 : decode cX5_reckon 67 = .ok (.iload 5, 2) := by decide +kernel
theorem dX5_reckon_69 : decode cX5_reckon 69 = .ok (.invokevirtual 36, 3) := by decide +kernel
theorem dX5_reckon_72 : decode cX5_reckon 72 = .ok (.iinc 5 (-1), 3) := by decide +kernel
theorem dX5_reckon_75 : decode cX5_reckon 75 = .ok (.goto (-19), 3) := by decide +kernel
theorem dX5_reckon_78 : decode cX5_reckon 78 = .ok (.iinc 4 (-1), 3) := by decide +kernel
theorem dX5_reckon_81 : decode cX5_reckon 81 = .ok (.goto (-38), 3) := by decide +kernel
theorem dX5_reckon_84 : decode cX5_reckon 84 = .ok (.iinc 3 (-1), 3) := by decide +kernel
theorem dX5_reckon_87 : decode cX5_reckon 87 = .ok (.goto (-56), 3) := by decide +kernel
theorem dX5_reckon_90 : decode cX5_reckon 90 = .ok (.iinc 2 (-1), 3) := by decide +kernel
theorem dX5_reckon_93 : decode cX5_reckon 93 = .ok (.goto (-73), 3) := by decide +kernel
theorem dX5_reckon_96 : decode cX5_reckon 96 = .ok (.aload_n 0, 1) := by decide +kernel
theorem dX5_reckon_97 : decode cX5_reckon 97 = .ok (.iconst 1, 1) := by decide +kernel
theorem dX5_reckon_98 : decode cX5_reckon 98 = .ok (.putfield 9, 3) := by decide +kernel
theorem dX5_reckon_101 : decode cX5_reckon 101 = .ok (.return_, 1) := by decide +kernel
set_option maxRecDepth 20000 in
theorem ggX5_sortIntoLines_J7_fill_53178 : GoodIn wsX5_sortIntoLines wsJ7_fill_53178 := goodIn_r _ [10] (by decide +kernel) (by decide +kernel)
set_option maxRecDepth 20000 in
theorem gX5_sortIntoLines_J7_fill_53178 : GoodIn wsX5_sortIntoLines (va_wsS RX5 40 yJ7_fill_53178 wsJ7_fill_53178) := goodIn_app (goodIn_of _ (by decide +kernel)) ggX5_sortIntoLines_J7_fill_53178
set_option maxRecDepth 20000 in
theorem ggX5_sortIntoLines_J7_fill_d0a16 : GoodIn wsX5_sortIntoLines wsJ7_fill_d0a16 := goodIn_r _ [13] (by decide +kernel) (by decide +kernel)
set_option maxRecDepth 20000 in
theorem gX5_sortIntoLines_J7_fill_d0a16 : GoodIn wsX5_sortIntoLines (va_wsS RX5 46 yJ7_fill_d0a16 wsJ7_fill_d0a16) := goodIn_app (goodIn_of _ (by decide +kernel)) ggX5_sortIntoLines_J7_fill_d0a16
theorem dX5_sortIntoLines_0 : decode cX5_sortIntoLines 0 = .ok (.aload_n 0, 1) := by decide +kernel
theorem dX5_sortIntoLines_1 : decode cX5_sortIntoLines 1 = .ok (.getfield 19, 3) := by decide +kernel
theorem dX5_sortIntoLines_4 : decode cX5_sortIntoLines 4 = .ok (.iconst 0, 1) := by decide +kernel
theorem dX5_sortIntoLines_5 : decode cX5_sortIntoLines 5 = .ok (.invokestatic 40, 3) := by decide +kernel
theorem dX5_sortIntoLines_8 : decode cX5_sortIntoLines 8 = .ok (.aload_n 0, 1) := by decide +kernel
theorem dX5_sortIntoLines_9 : decode cX5_sortIntoLines 9 = .ok (.getfield 29, 3) := by decide +kernel
theorem dX5_sortIntoLines_12 : decode cX5_sortIntoLines 12 = .ok (.lconst 0, 1) := by decide +kernel
theorem dX5_sortIntoLines_13 : decode cX5_sortIntoLines 13 = .ok (.invokestatic 46, 3) := by decide +kernel
theorem dX5_sortIntoLines_16 : decode cX5_sortIntoLines 16 = .ok (.iconst 0, 1) := by decide +kernel
theorem dX5_sortIntoLines_17 : decode cX5_sortIntoLines 17 = .ok (.istore_n 2, 1) := by decide +kernel
theorem dX5_sortIntoLines_18 : decode cX5_sortIntoLines 18 = .ok (.iload_n 2, 1) := by decide +kernel
theorem dX5_sortIntoLines_19 : decode cX5_sortIntoLines 19 = .ok (.aload_n 1, 1) := by decide +kernel
theorem dX5_sortIntoLines_20 : decode cX5_sortIntoLines 20 = .ok (.getfield 49, 3) := by decide +kernel
theorem dX5_sortIntoLines_23 : decode cX5_sortIntoLines 23 = .ok (.if_icmp .ge 86, 3) := by decide +kernel
theorem dX5_sortIntoLines_26 : decode cX5_sortIntoLines 26 = .ok (.aload_n 1, 1) := by decide +kernel
theorem dX5_sortIntoLines_27 : decode cX5_sortIntoLines 27 = .ok (.getfield 55, 3) := by decide +kernel
theorem dX5_sortIntoLines_30 : decode cX5_sortIntoLines 30 = .ok (.iload_n 2, 1) := by decide +kernel
theorem dX5_sortIntoLines_31 : decode cX5_sortIntoLines 31 = .ok (.iaload, 1) := by decide +kernel
theorem dX5_sortIntoLines_32 : decode cX5_sortIntoLines 32 = .ok (.iconst 2, 1) := by decide +kernel
theorem dX5_sortIntoLines_33 : decode cX5_sortIntoLines 33 = .ok (.idiv, 1) := by decide +kernel
theorem dX5_sortIntoLines_34 : decode cX5_sortIntoLines 34 = .ok (.istore_n 3, 1) := by decide +kernel
theorem dX5_sortIntoLines_35 : decode cX5_sortIntoLines 35 = .ok (.aload_n 0, 1) := by decide +kernel
theorem dX5_sortIntoLines_36 : decode cX5_sortIntoLines 36 = .ok (.getfield 19, 3) := by decide +kernel
theorem dX5_sortIntoLines_39 : decode cX5_sortIntoLines 39 = .ok (.iload_n 3, 1) := by decide +kernel
theorem dX5_sortIntoLines_40 : decode cX5_sortIntoLines 40 = .ok (.iaload, 1) := by decide +kernel
theorem dX5_sortIntoLines_41 : decode cX5_sortIntoLines 41 = .ok (.istore 4, 2) := by decide +kernel
theorem dX5_sortIntoLines_43 : decode cX5_sortIntoLines 43 = .ok (.iload 4, 2) := by decide +kernel
theorem dX5_sortIntoLines_45 : decode cX5_sortIntoLines 45 = .ok (.bipush 12, 2) := by decide +kernel
theorem dX5_sortIntoLines_47 : decode cX5_sortIntoLines 47 = .ok (.if_icmp .ge 56, 3) := by decide +kernel
theorem dX5_sortIntoLines_50 : decode cX5_sortIntoLines 50 = .ok (.aload_n 0, 1) := by decide +kernel
theorem dX5_sortIntoLines_51 : decode cX5_sortIntoLines 51 = .ok (.getfield 26, 3) := by decide +kernel
theorem dX5_sortIntoLines_54 : decode cX5_sortIntoLines 54 = .ok (.iload_n 3, 1) := by decide +kernel
theorem dX5_sortIntoLines_55 : decode cX5_sortIntoLines 55 = .ok (.bipush 12, 2) := by decide +kernel
theorem dX5_sortIntoLines_57 : decode cX5_sortIntoLines 57 = .ok (.imul, 1) := by decide +kernel
theorem dX5_sortIntoLines_58 : decode cX5_sortIntoLines 58 = .ok (.iload 4, 2) := by decide +kernel
theorem dX5_sortIntoLines_60 : decode cX5_sortIntoLines 60 = .ok (.iadd, 1) := by decide +kernel
theorem dX5_sortIntoLines_61 : decode cX5_sortIntoLines 61 = .ok (.iload_n 2, 1) := by decide +kernel
theorem dX5_sortIntoLines_62 : decode cX5_sortIntoLines 62 = .ok (.iastore, 1) := by decide +kernel
theorem dX5_sortIntoLines_63 : decode cX5_sortIntoLines 63 = .ok (.aload_n 0, 1) := by decide +kernel
theorem dX5_sortIntoLines_64 : decode cX5_sortIntoLines 64 = .ok (.getfield 29, 3) := by decide +kernel
theorem dX5_sortIntoLines_67 : decode cX5_sortIntoLines 67 = .ok (.iload_n 3, 1) := by decide +kernel
theorem dX5_sortIntoLines_68 : decode cX5_sortIntoLines 68 = .ok (.bipush 13, 2) := by decide +kernel
theorem dX5_sortIntoLines_70 : decode cX5_sortIntoLines 70 = .ok (.imul, 1) := by decide +kernel
theorem dX5_sortIntoLines_71 : decode cX5_sortIntoLines 71 = .ok (.iload 4, 2) := by decide +kernel
theorem dX5_sortIntoLines_73 : decode cX5_sortIntoLines 73 = .ok (.iadd, 1) := by decide +kernel
theorem dX5_sortIntoLines_74 : decode cX5_sortIntoLines 74 = .ok (.iconst 1, 1) := by decide +kernel
theorem dX5_sortIntoLines_75 : decode cX5_sortIntoLines 75 = .ok (.iadd, 1) := by decide +kernel
theorem dX5_sortIntoLines_76 : decode cX5_sortIntoLines 76 = .ok (.aload_n 0, 1) := by decide +kernel
theorem dX5_sortIntoLines_77 : decode cX5_sortIntoLines 77 = .ok (.getfield 29, 3) := by decide +kernel
theorem dX5_sortIntoLines_80 : decode cX5_sortIntoLines 80 = .ok (.iload_n 3, 1) := by decide +kernel
theorem dX5_sortIntoLines_81 : decode cX5_sortIntoLines 81 = .ok (.bipush 13, 2) := by decide +kernel
theorem dX5_sortIntoLines_83 : decode cX5_sortIntoLines 83 = .ok (.imul, 1) := by decide +kernel
theorem dX5_sortIntoLines_84 : decode cX5_sortIntoLines 84 = .ok (.iload 4, 2) := by decide +kernel
theorem dX5_sortIntoLines_86 : decode cX5_sortIntoLines 86 = .ok (.iadd, 1) := by decide +kernel
theorem dX5_sortIntoLines_87 : decode cX5_sortIntoLines 87 = .ok (.laload, 1) := by decide +kernel
theorem dX5_sortIntoLines_88 : decode cX5_sortIntoLines 88 = .ok (.lconst 1, 1) := by decide +kernel
theorem dX5_sortIntoLines_89 : decode cX5_sortIntoLines 89 = .ok (.iload_n 2, 1) := by decide +kernel
theorem dX5_sortIntoLines_90 : decode cX5_sortIntoLines 90 = .ok (.lshl, 1) := by decide +kernel
theorem dX5_sortIntoLines_91 : decode cX5_sortIntoLines 91 = .ok (.lor, 1) := by decide +kernel
theorem dX5_sortIntoLines_92 : decode cX5_sortIntoLines 92 = .ok (.lastore, 1) := by decide +kernel
theorem dX5_sortIntoLines_93 : decode cX5_sortIntoLines 93 = .ok (.aload_n 0, 1) := by decide +kernel
theorem dX5_sortIntoLines_94 : decode cX5_sortIntoLines 94 = .ok (.getfield 19, 3) := by decide +kernel
theorem dX5_sortIntoLines_97 : decode cX5_sortIntoLines 97 = .ok (.iload_n 3, 1) := by decide +kernel
theorem dX5_sortIntoLines_98 : decode cX5_sortIntoLines 98 = .ok (.iload 4, 2) := by decide +kernel
theorem dX5_sortIntoLines_100 : decode cX5_sortIntoLines 100 = .ok (.iconst 1, 1) := by decide +kernel
theorem dX5_sortIntoLines_101 : decode cX5_sortIntoLines 101 = .ok (.iadd, 1) := by decide +kernel
theorem dX5_sortIntoLines_102 : decode cX5_sortIntoLines 102 = .ok (.iastore, 1) := by decide +kernel
theorem dX5_sortIntoLines_103 : decode cX5_sortIntoLines 103 = .ok (.iinc 2 1, 3) := by decide +kernel
theorem dX5_sortIntoLines_106 : decode cX5_sortIntoLines 106 = .ok (.goto (-88), 3) := by decide +kernel
theorem dX5_sortIntoLines_109 : decode cX5_sortIntoLines 109 = .ok (.iconst 1, 1) := by decide +kernel
theorem dX5_sortIntoLines_110 : decode cX5_sortIntoLines 110 = .ok (.istore_n 2, 1) := by decide +kernel
theorem dX5_sortIntoLines_111 : decode cX5_sortIntoLines 111 = .ok (.iconst 0, 1) := by decide +kernel
theorem dX5_sortIntoLines_112 : decode cX5_sortIntoLines 112 = .ok (.istore_n 3, 1) := by decide +kernel
theorem dX5_sortIntoLines_113 : decode cX5_sortIntoLines 113 = .ok (.iload_n 3, 1) := by decide +kernel
theorem dX5_sortIntoLines_114 : decode cX5_sortIntoLines 114 = .ok (.iconst 4, 1) := by decide +kernel
theorem dX5_sortIntoLines_115 : decode cX5_sortIntoLines 115 = .ok (.if_icmp .ge 27, 3) := by decide +kernel
theorem dX5_sortIntoLines_118 : decode cX5_sortIntoLines 118 = .ok (.aload_n 0, 1) := by decide +kernel
theorem dX5_sortIntoLines_119 : decode cX5_sortIntoLines 119 = .ok (.getfield 23, 3) := by decide +kernel
theorem dX5_sortIntoLines_122 : decode cX5_sortIntoLines 122 = .ok (.iload_n 3, 1) := by decide +kernel
theorem dX5_sortIntoLines_123 : decode cX5_sortIntoLines 123 = .ok (.iload_n 2, 1) := by decide +kernel
theorem dX5_sortIntoLines_124 : decode cX5_sortIntoLines 124 = .ok (.iastore, 1) := by decide +kernel
theorem dX5_sortIntoLines_125 : decode cX5_sortIntoLines 125 = .ok (.iload_n 2, 1) := by decide +kernel
theorem dX5_sortIntoLines_126 : decode cX5_sortIntoLines 126 = .ok (.aload_n 0, 1) := by decide +kernel
theorem dX5_sortIntoLines_127 : decode cX5_sortIntoLines 127 = .ok (.getfield 19, 3) := by decide +kernel
theorem dX5_sortIntoLines_130 : decode cX5_sortIntoLines 130 = .ok (.iload_n 3, 1) := by decide +kernel
theorem dX5_sortIntoLines_131 : decode cX5_sortIntoLines 131 = .ok (.iaload, 1) := by decide +kernel
theorem dX5_sortIntoLines_132 : decode cX5_sortIntoLines 132 = .ok (.iconst 1, 1) := by decide +kernel
theorem dX5_sortIntoLines_133 : decode cX5_sortIntoLines 133 = .ok (.iadd, 1) := by decide +kernel
theorem dX5_sortIntoLines_134 : decode cX5_sortIntoLines 134 = .ok (.imul, 1) := by decide +kernel
theorem dX5_sortIntoLines_135 : decode cX5_sortIntoLines 135 = .ok (.istore_n 2, 1) := by decide +kernel
theorem dX5_sortIntoLines_136 : decode cX5_sortIntoLines 136 = .ok (.iinc 3 1, 3) := by decide +kernel
theorem dX5_sortIntoLines_139 : decode cX5_sortIntoLines 139 = .ok (.goto (-26), 3) := by decide +kernel
theorem dX5_sortIntoLines_142 : decode cX5_sortIntoLines 142 = .ok (.return_, 1) := by decide +kernel
set_option maxRecDepth 20000 in
theorem ggX5_reckonState_X5_bitsOf : GoodIn wsX5_reckonState wsX5_bitsOf := goodIn_r _ [8, 9, 34, 35, 36, 37, 38, 39] (by decide +kernel) (by decide +kernel)
set_option maxRecDepth 20000 in
theorem gX5_reckonState_X5_bitsOf : GoodIn wsX5_reckonState (wsV RX5 58 RX5 yX5_bitsOf wsX5_bitsOf) := goodIn_app (goodIn_of _ (by decide +kernel)) ggX5_reckonState_X5_bitsOf
set_option maxRecDepth 20000 in
theorem ggX5_reckonState_J13_bitCount_95d88 : GoodIn wsX5_reckonState wsJ13_bitCount_95d88 := goodIn_r _ [13, 14, 15, 16] (by decide +kernel) (by decide +kernel)
set_option maxRecDepth 20000 in
theorem gX5_reckonState_J13_bitCount_95d88 : GoodIn wsX5_reckonState (va_wsS RX5 62 yJ13_bitCount_95d88 wsJ13_bitCount_95d88) := goodIn_app (goodIn_of _ (by decide +kernel)) ggX5_reckonState_J13_bitCount_95d88
set_option maxRecDepth 20000 in
theorem ggX5_reckonState_X5_onward : GoodIn wsX5_reckonState wsX5_onward := goodIn_r _ [20, 21, 22, 1, 23, 24, 25, 26, 27, 28, 29, 30, 31, 32, 7, 33, 3, 34, 35, 36, 37, 38, 39, 40, 41, 42, 43, 44, 45, 46, 47] (by decide +kernel) (by decide +kernel)
set_option maxRecDepth 20000 in
theorem gX5_reckonState_X5_onward : GoodIn wsX5_reckonState (wsV RX5 68 RX5 yX5_onward wsX5_onward) := goodIn_app (goodIn_of _ (by decide +kernel)) ggX5_reckonState_X5_onward
theorem dX5_reckonState_0 : decode cX5_reckonState 0 = .ok (.iload_n 2, 1) := by decide +kernel
theorem dX5_reckonState_1 : decode cX5_reckonState 1 = .ok (.aload_n 0, 1) := by decide +kernel
theorem dX5_reckonState_2 : decode cX5_reckonState 2 = .ok (.getfield 23, 3) := by decide +kernel
theorem dX5_reckonState_5 : decode cX5_reckonState 5 = .ok (.iconst 0, 1) := by decide +kernel
theorem dX5_reckonState_6 : decode cX5_reckonState 6 = .ok (.iaload, 1) := by decide +kernel
theorem dX5_reckonState_7 : decode cX5_reckonState 7 = .ok (.imul, 1) := by decide +kernel
theorem dX5_reckonState_8 : decode cX5_reckonState 8 = .ok (.iload_n 3, 1) := by decide +kernel
theorem dX5_reckonState_9 : decode cX5_reckonState 9 = .ok (.aload_n 0, 1) := by decide +kernel
theorem dX5_reckonState_10 : decode cX5_reckonState 10 = .ok (.getfield 23, 3) := by decide +kernel
theorem dX5_reckonState_13 : decode cX5_reckonState 13 = .ok (.iconst 1, 1) := by decide +kernel
theorem dX5_reckonState_14 : decode cX5_reckonState 14 = .ok (.iaload, 1) := by decide +kernel
theorem dX5_reckonState_15 : decode cX5_reckonState 15 = .ok (.imul, 1) := by decide +kernel
theorem dX5_reckonState_16 : decode cX5_reckonState 16 = .ok (.iadd, 1) := by decide +kernel
theorem dX5_reckonState_17 : decode cX5_reckonState 17 = .ok (.iload 4, 2) := by decide +kernel
theorem dX5_reckonState_19 : decode cX5_reckonState 19 = .ok (.aload_n 0, 1) := by decide +kernel
theorem dX5_reckonState_20 : decode cX5_reckonState 20 = .ok (.getfield 23, 3) := by decide +kernel
theorem dX5_reckonState_23 : decode cX5_reckonState 23 = .ok (.iconst 2, 1) := by decide +kernel
theorem dX5_reckonState_24 : decode cX5_reckonState 24 = .ok (.iaload, 1) := by decide +kernel
theorem dX5_reckonState_25 : decode cX5_reckonState 25 = .ok (.imul, 1) := by decide +kernel
theorem dX5_reckonState_26 : decode cX5_reckonState 26 = .ok (.iadd, 1) := by decide +kernel
theorem dX5_reckonState_27 : decode cX5_reckonState 27 = .ok (.iload 5, 2) := by decide +kernel
theorem dX5_reckonState_29 : decode cX5_reckonState 29 = .ok (.aload_n 0, 1) := by decide +kernel
theorem dX5_reckonState_30 : decode cX5_reckonState 30 = .ok (.getfield 23, 3) := by decide +kernel
theorem dX5_reckonState_33 : decode cX5_reckonState 33 = .ok (.iconst 3, 1) := by decide +kernel
theorem dX5_reckonState_34 : decode cX5_reckonState 34 = .ok (.iaload, 1) := by decide +kernel
theorem dX5_reckonState_35 : decode cX5_reckonState 35 = .ok (.imul, 1) := by decide +kernel
theorem dX5_reckonState_36 : decode cX5_reckonState 36 = .ok (.iadd, 1) := by decide +kernel
theorem dX5_reckonState_37 : decode cX5_reckonState 37 = .ok (.istore 6, 2) := by decide +kernel
theorem dX5_reckonState_39 : decode cX5_reckonState 39 = .ok (.iload 6, 2) := by decide +kernel
theorem dX5_reckonState_41 : decode cX5_reckonState 41 = .ok (.sipush 1296, 3) := by decide +kernel
theorem dX5_reckonState_44 : decode cX5_reckonState 44 = .ok (.if_icmp .lt 4, 3) := by decide +kernel
theorem dX5_reckonState_47 : decode cX5_reckonState 47 = .ok (.return_, 1) := by decide +kernel
theorem dX5_reckonState_48 : decode cX5_reckonState 48 = .ok (.aload_n 0, 1) := by decide +kernel
theorem dX5_reckonState_49 : decode cX5_reckonState 49 = .ok (.iconst 0, 1) := by decide +kernel
theorem dX5_reckonState_50 : decode cX5_reckonState 50 = .ok (.iload_n 2, 1) := by decide +kernel
theorem dX5_reckonState_51 : decode cX5_reckonState 51 = .ok (.invokevirtual 58, 3) := by decide +kernel
theorem dX5_reckonState_54 : decode cX5_reckonState 54 = .ok (.aload_n 0, 1) := by decide +kernel
theorem dX5_reckonState_55 : decode cX5_reckonState 55 = .ok (.iconst 1, 1) := by decide +kernel
theorem dX5_reckonState_56 : decode cX5_reckonState 56 = .ok (.iload_n 3, 1) := by decide +kernel
theorem dX5_reckonState_57 : decode cX5_reckonState 57 = .ok (.invokevirtual 58, 3) := by decide +kernel
theorem dX5_reckonState_60 : decode cX5_reckonState 60 = .ok (.lor, 1) := by decide +kernel
theorem dX5_reckonState_61 : decode cX5_reckonState 61 = .ok (.aload_n 0, 1) := by decide +kernel
theorem dX5_reckonState_62 : decode cX5_reckonState 62 = .ok (.iconst 2, 1) := by decide +kernel
theorem dX5_reckonState_63 : decode cX5_reckonState 63 = .ok (.iload 4, 2) := by decide +kernel
theorem dX5_reckonState_65 : decode cX5_reckonState 65 = .ok (.invokevirtual 58, 3) := by decide +kernel
theorem dX5_reckonState_68 : decode cX5_reckonState 68 = .ok (.lor, 1) := by decide +kernel
theorem dX5_reckonState_69 : decode cX5_reckonState 69 = .ok (.aload_n 0, 1) := by decide +kernel
theorem dX5_reckonState_70 : decode cX5_reckonState 70 = .ok (.iconst 3, 1) := by decide +kernel
theorem dX5_reckonState_71 : decode cX5_reckonState 71 = .ok (.iload 5, 2) := by decide +kernel
theorem dX5_reckonState_73 : decode cX5_reckonState 73 = .ok (.invokevirtual 58, 3) := by decide +kernel
theorem dX5_reckonState_76 : decode cX5_reckonState 76 = .ok (.lor, 1) := by decide +kernel
theorem dX5_reckonState_77 : decode cX5_reckonState 77 = .ok (.lstore 7, 2) := by decide +kernel
theorem dX5_reckonState_79 : decode cX5_reckonState 79 = .ok (.lload 7, 2) := by decide +kernel
theorem dX5_reckonState_81 : decode cX5_reckonState 81 = .ok (.invokestatic 62, 3) := by decide +kernel
theorem dX5_reckonState_84 : decode cX5_reckonState 84 = .ok (.aload_n 1, 1) := by decide +kernel
theorem dX5_reckonState_85 : decode cX5_reckonState 85 = .ok (.getfield 49, 3) := by decide +kernel
theorem dX5_reckonState_88 : decode cX5_reckonState 88 = .ok (.if_icmp .ne 12, 3) := by decide +kernel
theorem dX5_reckonState_91 : decode cX5_reckonState 91 = .ok (.aload_n 0, 1) := by decide +kernel
theorem dX5_reckonState_92 : decode cX5_reckonState 92 = .ok (.getfield 15, 3) := by decide +kernel
theorem dX5_reckonState_95 : decode cX5_reckonState 95 = .ok (.iload 6, 2) := by decide +kernel
theorem dX5_reckonState_97 : decode cX5_reckonState 97 = .ok (.lconst 1, 1) := by decide +kernel
theorem dX5_reckonState_98 : decode cX5_reckonState 98 = .ok (.lastore, 1) := by decide +kernel
theorem dX5_reckonState_99 : decode cX5_reckonState 99 = .ok (.return_, 1) := by decide +kernel
theorem dX5_reckonState_100 : decode cX5_reckonState 100 = .ok (.aload_n 0, 1) := by decide +kernel
theorem dX5_reckonState_101 : decode cX5_reckonState 101 = .ok (.getfield 15, 3) := by decide +kernel
theorem dX5_reckonState_104 : decode cX5_reckonState 104 = .ok (.iload 6, 2) := by decide +kernel
theorem dX5_reckonState_106 : decode cX5_reckonState 106 = .ok (.aload_n 0, 1) := by decide +kernel
theorem dX5_reckonState_107 : decode cX5_reckonState 107 = .ok (.aload_n 1, 1) := by decide +kernel
theorem dX5_reckonState_108 : decode cX5_reckonState 108 = .ok (.iconst 0, 1) := by decide +kernel
theorem dX5_reckonState_109 : decode cX5_reckonState 109 = .ok (.iload_n 2, 1) := by decide +kernel
theorem dX5_reckonState_110 : decode cX5_reckonState 110 = .ok (.lload 7, 2) := by decide +kernel
theorem dX5_reckonState_112 : decode cX5_reckonState 112 = .ok (.iload 6, 2) := by decide +kernel
theorem dX5_reckonState_114 : decode cX5_reckonState 114 = .ok (.invokevirtual 68, 3) := by decide +kernel
theorem dX5_reckonState_117 : decode cX5_reckonState 117 = .ok (.aload_n 0, 1) := by decide +kernel
theorem dX5_reckonState_118 : decode cX5_reckonState 118 = .ok (.aload_n 1, 1) := by decide +kernel
theorem dX5_reckonState_119 : decode cX5_reckonState 119 = .ok (.iconst 1, 1) := by decide +kernel
theorem dX5_reckonState_120 : decode cX5_reckonState 120 = .ok (.iload_n 3, 1) := by decide +kernel
theorem dX5_reckonState_121 : decode cX5_reckonState 121 = .ok (.lload 7, 2) := by decide +kernel
theorem dX5_reckonState_123 : decode cX5_reckonState 123 = .ok (.iload 6, 2) := by decide +kernel
theorem dX5_reckonState_125 : decode cX5_reckonState 125 = .ok (.invokevirtual 68, 3) := by decide +kernel
theorem dX5_reckonState_128 : decode cX5_reckonState 128 = .ok (.ladd, 1) := by decide +kernel
theorem dX5_reckonState_129 : decode cX5_reckonState 129 = .ok (.aload_n 0, 1) := by decide +kernel
theorem dX5_reckonState_130 : decode cX5_reckonState 130 = .ok (.aload_n 1, 1) := by decide +kernel
theorem dX5_reckonState_131 : decode cX5_reckonState 131 = .ok (.iconst 2, 1) := by decide +kernel
theorem dX5_reckonState_132 : decode cX5_reckonState 132 = .ok (.iload 4, 2) := by decide +kernel
theorem dX5_reckonState_134 : decode cX5_reckonState 134 = .ok (.lload 7, 2) := by decide +kernel
theorem dX5_reckonState_136 : decode cX5_reckonState 136 = .ok (.iload 6, 2) := by decide +kernel
theorem dX5_reckonState_138 : decode cX5_reckonState 138 = .ok (.invokevirtual 68, 3) := by decide +kernel
theorem dX5_reckonState_141 : decode cX5_reckonState 141 = .ok (.ladd, 1) := by decide +kernel
theorem dX5_reckonState_142 : decode cX5_reckonState 142 = .ok (.aload_n 0, 1) := by decide +kernel
theorem dX5_reckonState_143 : decode cX5_reckonState 143 = .ok (.aload_n 1, 1) := by decide +kernel
theorem dX5_reckonState_144 : decode cX5_reckonState 144 = .ok (.iconst 3, 1) := by decide +kernel
theorem dX5_reckonState_145 : decode cX5_reckonState 145 = .ok (.iload 5, 2) := by decide +kernel
theorem dX5_reckonState_147 : decode cX5_reckonState 147 = .ok (.lload 7, 2) := by decide +kernel
theorem dX5_reckonState_149 : decode cX5_reckonState 149 = .ok (.iload 6, 2) := by decide +kernel
theorem dX5_reckonState_151 : decode cX5_reckonState 151 = .ok (.invokevirtual 68, 3) := by decide +kernel
theorem dX5_reckonState_154 : decode cX5_reckonState 154 = .ok (.ladd, 1) := by decide +kernel
theorem dX5_reckonState_155 : decode cX5_reckonState 155 = .ok (.lastore, 1) := by decide +kernel
theorem dX5_reckonState_156 : decode cX5_reckonState 156 = .ok (.return_, 1) := by decide +kernel
theorem dX5_bitsOf_0 : decode cX5_bitsOf 0 = .ok (.aload_n 0, 1) := by decide +kernel
theorem dX5_bitsOf_1 : decode cX5_bitsOf 1 = .ok (.getfield 29, 3) := by decide +kernel
theorem dX5_bitsOf_4 : decode cX5_bitsOf 4 = .ok (.iload_n 1, 1) := by decide +kernel
theorem dX5_bitsOf_5 : decode cX5_bitsOf 5 = .ok (.bipush 13, 2) := by decide +kernel
theorem dX5_bitsOf_7 : decode cX5_bitsOf 7 = .ok (.imul, 1) := by decide +kernel
theorem dX5_bitsOf_8 : decode cX5_bitsOf 8 = .ok (.iload_n 2, 1) := by decide +kernel
theorem dX5_bitsOf_9 : decode cX5_bitsOf 9 = .ok (.iadd, 1) := by decide +kernel
theorem dX5_bitsOf_10 : decode cX5_bitsOf 10 = .ok (.laload, 1) := by decide +kernel
theorem dX5_bitsOf_11 : decode cX5_bitsOf 11 = .ok (.lreturn, 1) := by decide +kernel
set_option maxRecDepth 20000 in
theorem ggX5_onward_X0_isFree : GoodIn wsX5_onward wsX0_isFree := goodIn_r _ [8, 9, 10, 23, 24, 25, 26, 27, 28, 29, 30] (by decide +kernel) (by decide +kernel)
set_option maxRecDepth 20000 in
theorem gX5_onward_X0_isFree : GoodIn wsX5_onward (wsV RX5 72 RX0 yX0_isFree wsX0_isFree) := goodIn_app (goodIn_of _ (by decide +kernel)) ggX5_onward_X0_isFree
set_option maxRecDepth 20000 in
theorem ggX5_onward_X5_countOf : GoodIn wsX5_onward wsX5_countOf := goodIn_r _ [15, 16, 17, 18, 19, 20, 21, 22] (by decide +kernel) (by decide +kernel)
set_option maxRecDepth 20000 in
theorem gX5_onward_X5_countOf : GoodIn wsX5_onward (wsV RX5 76 RX5 yX5_countOf wsX5_countOf) := goodIn_app (goodIn_of _ (by decide +kernel)) ggX5_onward_X5_countOf
theorem dX5_onward_0 : decode cX5_onward 0 = .ok (.iload_n 3, 1) := by decide +kernel
theorem dX5_onward_1 : decode cX5_onward 1 = .ok (.aload_n 0, 1) := by decide +kernel
theorem dX5_onward_2 : decode cX5_onward 2 = .ok (.getfield 19, 3) := by decide +kernel
theorem dX5_onward_5 : decode cX5_onward 5 = .ok (.iload_n 2, 1) := by decide +kernel
theorem dX5_onward_6 : decode cX5_onward 6 = .ok (.iaload, 1) := by decide +kernel
theorem dX5_onward_7 : decode cX5_onward 7 = .ok (.if_icmp .ge 23, 3) := by decide +kernel
theorem dX5_onward_10 : decode cX5_onward 10 = .ok (.aload_n 1, 1) := by decide +kernel
theorem dX5_onward_11 : decode cX5_onward 11 = .ok (.aload_n 0, 1) := by decide +kernel
theorem dX5_onward_12 : decode cX5_onward 12 = .ok (.getfield 26, 3) := by decide +kernel
theorem dX5_onward_15 : decode cX5_onward 15 = .ok (.iload_n 2, 1) := by decide +kernel
theorem dX5_onward_16 : decode cX5_onward 16 = .ok (.bipush 12, 2) := by decide +kernel
theorem dX5_onward_18 : decode cX5_onward 18 = .ok (.imul, 1) := by decide +kernel
theorem dX5_onward_19 : decode cX5_onward 19 = .ok (.iload_n 3, 1) := by decide +kernel
theorem dX5_onward_20 : decode cX5_onward 20 = .ok (.iadd, 1) := by decide +kernel
theorem dX5_onward_21 : decode cX5_onward 21 = .ok (.iaload, 1) := by decide +kernel
theorem dX5_onward_22 : decode cX5_onward 22 = .ok (.lload 4, 2) := by decide +kernel
theorem dX5_onward_24 : decode cX5_onward 24 = .ok (.invokevirtual 72, 3) := by decide +kernel
theorem dX5_onward_27 : decode cX5_onward 27 = .ok (.ifCond .ne 5, 3) := by decide +kernel
theorem dX5_onward_30 : decode cX5_onward 30 = .ok (.lconst 0, 1) := by decide +kernel
theorem dX5_onward_31 : decode cX5_onward 31 = .ok (.lreturn, 1) := by decide +kernel
theorem dX5_onward_32 : decode cX5_onward 32 = .ok (.aload_n 0, 1) := by decide +kernel
theorem dX5_onward_33 : decode cX5_onward 33 = .ok (.iload 6, 2) := by decide +kernel
theorem dX5_onward_35 : decode cX5_onward 35 = .ok (.aload_n 0, 1) := by decide +kernel
theorem dX5_onward_36 : decode cX5_onward 36 = .ok (.getfield 23, 3) := by decide +kernel
theorem dX5_onward_39 : decode cX5_onward 39 = .ok (.iload_n 2, 1) := by decide +kernel
theorem dX5_onward_40 : decode cX5_onward 40 = .ok (.iaload, 1) := by decide +kernel
theorem dX5_onward_41 : decode cX5_onward 41 = .ok (.iadd, 1) := by decide +kernel
theorem dX5_onward_42 : decode cX5_onward 42 = .ok (.invokevirtual 76, 3) := by decide +kernel
theorem dX5_onward_45 : decode cX5_onward 45 = .ok (.lreturn, 1) := by decide +kernel
theorem dX5_countOf_0 : decode cX5_countOf 0 = .ok (.iload_n 1, 1) := by decide +kernel
theorem dX5_countOf_1 : decode cX5_countOf 1 = .ok (.sipush 1296, 3) := by decide +kernel
theorem dX5_countOf_4 : decode cX5_countOf 4 = .ok (.if_icmp .ge 12, 3) := by decide +kernel
theorem dX5_countOf_7 : decode cX5_countOf 7 = .ok (.aload_n 0, 1) := by decide +kernel
theorem dX5_countOf_8 : decode cX5_countOf 8 = .ok (.getfield 15, 3) := by decide +kernel
theorem dX5_countOf_11 : decode cX5_countOf 11 = .ok (.iload_n 1, 1) := by decide +kernel
theorem dX5_countOf_12 : decode cX5_countOf 12 = .ok (.laload, 1) := by decide +kernel
theorem dX5_countOf_13 : decode cX5_countOf 13 = .ok (.goto 4, 3) := by decide +kernel
theorem dX5_countOf_16 : decode cX5_countOf 16 = .ok (.lconst 0, 1) := by decide +kernel
theorem dX5_countOf_17 : decode cX5_countOf 17 = .ok (.lreturn, 1) := by decide +kernel
theorem dX5_strideOf_0 : decode cX5_strideOf 0 = .ok (.aload_n 0, 1) := by decide +kernel
theorem dX5_strideOf_1 : decode cX5_strideOf 1 = .ok (.getfield 23, 3) := by decide +kernel
theorem dX5_strideOf_4 : decode cX5_strideOf 4 = .ok (.aload_n 1, 1) := by decide +kernel
theorem dX5_strideOf_5 : decode cX5_strideOf 5 = .ok (.getfield 55, 3) := by decide +kernel
theorem dX5_strideOf_8 : decode cX5_strideOf 8 = .ok (.iload_n 2, 1) := by decide +kernel
theorem dX5_strideOf_9 : decode cX5_strideOf 9 = .ok (.iaload, 1) := by decide +kernel
theorem dX5_strideOf_10 : decode cX5_strideOf 10 = .ok (.iconst 2, 1) := by decide +kernel
theorem dX5_strideOf_11 : decode cX5_strideOf 11 = .ok (.idiv, 1) := by decide +kernel
theorem dX5_strideOf_12 : decode cX5_strideOf 12 = .ok (.iaload, 1) := by decide +kernel
theorem dX5_strideOf_13 : decode cX5_strideOf 13 = .ok (.ireturn, 1) := by decide +kernel
set_option maxRecDepth 20000 in
theorem ggX5_stitchOf_X0_isFree : GoodIn wsX5_stitchOf wsX0_isFree := goodIn_r _ [6, 7, 8, 21, 22, 23, 24, 25, 26, 27, 28] (by decide +kernel) (by decide +kernel)
set_option maxRecDepth 20000 in
theorem gX5_stitchOf_X0_isFree : GoodIn wsX5_stitchOf (wsV RX5 72 RX0 yX0_isFree wsX0_isFree) := goodIn_app (goodIn_of _ (by decide +kernel)) ggX5_stitchOf_X0_isFree
set_option maxRecDepth 20000 in
theorem ggX5_stitchOf_X5_strideOf : GoodIn wsX5_stitchOf wsX5_strideOf := goodIn_r _ [13, 14, 15, 29, 30, 31, 32, 33, 34, 21, 22, 23, 24, 25, 26, 27, 28] (by decide +kernel) (by decide +kernel)
set_option maxRecDepth 20000 in
theorem gX5_stitchOf_X5_strideOf : GoodIn wsX5_stitchOf (wsV RX5 80 RX5 yX5_strideOf wsX5_strideOf) := goodIn_app (goodIn_of _ (by decide +kernel)) ggX5_stitchOf_X5_strideOf
set_option maxRecDepth 20000 in
theorem ggX5_stitchOf_X5_countOf : GoodIn wsX5_stitchOf wsX5_countOf := goodIn_r _ [19, 20, 29, 30, 31, 32, 33, 34] (by decide +kernel) (by decide +kernel)
set_option maxRecDepth 20000 in
theorem gX5_stitchOf_X5_countOf : GoodIn wsX5_stitchOf (wsV RX5 76 RX5 yX5_countOf wsX5_countOf) := goodIn_app (goodIn_of _ (by decide +kernel)) ggX5_stitchOf_X5_countOf
theorem dX5_stitchOf_0 : decode cX5_stitchOf 0 = .ok (.lload_n 2, 1) := by decide +kernel
theorem dX5_stitchOf_1 : decode cX5_stitchOf 1 = .ok (.lstore 5, 2) := by decide +kernel
theorem dX5_stitchOf_3 : decode cX5_stitchOf 3 = .ok (.lconst 0, 1) := by decide +kernel
theorem dX5_stitchOf_4 : decode cX5_stitchOf 4 = .ok (.lstore 7, 2) := by decide +kernel
theorem dX5_stitchOf_6 : decode cX5_stitchOf 6 = .ok (.iconst 0, 1) := by decide +kernel
theorem dX5_stitchOf_7 : decode cX5_stitchOf 7 = .ok (.istore 9, 2) := by decide +kernel
theorem dX5_stitchOf_9 : decode cX5_stitchOf 9 = .ok (.iconst 0, 1) := by decide +kernel
theorem dX5_stitchOf_10 : decode cX5_stitchOf 10 = .ok (.istore 10, 2) := by decide +kernel
theorem dX5_stitchOf_12 : decode cX5_stitchOf 12 = .ok (.iconst 0, 1) := by decide +kernel
theorem dX5_stitchOf_13 : decode cX5_stitchOf 13 = .ok (.istore 11, 2) := by decide +kernel
theorem dX5_stitchOf_15 : decode cX5_stitchOf 15 = .ok (.iload 11, 2) := by decide +kernel
theorem dX5_stitchOf_17 : decode cX5_stitchOf 17 = .ok (.iload 4, 2) := by decide +kernel
theorem dX5_stitchOf_19 : decode cX5_stitchOf 19 = .ok (.if_icmp .gt 97, 3) := by decide +kernel
theorem dX5_stitchOf_22 : decode cX5_stitchOf 22 = .ok (.iconst 0, 1) := by decide +kernel
theorem dX5_stitchOf_23 : decode cX5_stitchOf 23 = .ok (.istore 12, 2) := by decide +kernel
theorem dX5_stitchOf_25 : decode cX5_stitchOf 25 = .ok (.iload 12, 2) := by decide +kernel
theorem dX5_stitchOf_27 : decode cX5_stitchOf 27 = .ok (.aload_n 1, 1) := by decide +kernel
theorem dX5_stitchOf_28 : decode cX5_stitchOf 28 = .ok (.getfield 49, 3) := by decide +kernel
theorem dX5_stitchOf_31 : decode cX5_stitchOf 31 = .ok (.if_icmp .ge 58, 3) := by decide +kernel
theorem dX5_stitchOf_34 : decode cX5_stitchOf 34 = .ok (.aload_n 1, 1) := by decide +kernel
theorem dX5_stitchOf_35 : decode cX5_stitchOf 35 = .ok (.iload 12, 2) := by decide +kernel
theorem dX5_stitchOf_37 : decode cX5_stitchOf 37 = .ok (.lload 7, 2) := by decide +kernel
theorem dX5_stitchOf_39 : decode cX5_stitchOf 39 = .ok (.invokevirtual 72, 3) := by decide +kernel
theorem dX5_stitchOf_42 : decode cX5_stitchOf 42 = .ok (.ifCond .eq 41, 3) := by decide +kernel
theorem dX5_stitchOf_45 : decode cX5_stitchOf 45 = .ok (.iload 12, 2) := by decide +kernel
theorem dX5_stitchOf_47 : decode cX5_stitchOf 47 = .ok (.istore 10, 2) := by decide +kernel
theorem dX5_stitchOf_49 : decode cX5_stitchOf 49 = .ok (.aload_n 0, 1) := by decide +kernel
theorem dX5_stitchOf_50 : decode cX5_stitchOf 50 = .ok (.iload 9, 2) := by decide +kernel
theorem dX5_stitchOf_52 : decode cX5_stitchOf 52 = .ok (.aload_n 0, 1) := by decide +kernel
theorem dX5_stitchOf_53 : decode cX5_stitchOf 53 = .ok (.aload_n 1, 1) := by decide +kernel
theorem dX5_stitchOf_54 : decode cX5_stitchOf 54 = .ok (.iload 12, 2) := by decide +kernel
theorem dX5_stitchOf_56 : decode cX5_stitchOf 56 = .ok (.invokevirtual 80, 3) := by decide +kernel
theorem dX5_stitchOf_59 : decode cX5_stitchOf 59 = .ok (.iadd, 1) := by decide +kernel
theorem dX5_stitchOf_60 : decode cX5_stitchOf 60 = .ok (.invokevirtual 76, 3) := by decide +kernel
theorem dX5_stitchOf_63 : decode cX5_stitchOf 63 = .ok (.lstore 13, 2) := by decide +kernel
theorem dX5_stitchOf_65 : decode cX5_stitchOf 65 = .ok (.lload 5, 2) := by decide +kernel
theorem dX5_stitchOf_67 : decode cX5_stitchOf 67 = .ok (.lload 13, 2) := by decide +kernel
theorem dX5_stitchOf_69 : decode cX5_stitchOf 69 = .ok (.lcmp, 1) := by decide +kernel
theorem dX5_stitchOf_70 : decode cX5_stitchOf 70 = .ok (.ifCond .ge 6, 3) := by decide +kernel
theorem dX5_stitchOf_73 : decode cX5_stitchOf 73 = .ok (.goto 16, 3) := by decide +kernel
theorem dX5_stitchOf_76 : decode cX5_stitchOf 76 = .ok (.lload 5, 2) := by decide +kernel
theorem dX5_stitchOf_78 : decode cX5_stitchOf 78 = .ok (.lload 13, 2) := by decide +kernel
theorem dX5_stitchOf_80 : decode cX5_stitchOf 80 = .ok (.lsub, 1) := by decide +kernel
theorem dX5_stitchOf_81 : decode cX5_stitchOf 81 = .ok (.lstore 5, 2) := by decide +kernel
theorem dX5_stitchOf_83 : decode cX5_stitchOf 83 = .ok (.iinc 12 1, 3) := by decide +kernel
theorem dX5_stitchOf_86 : decode cX5_stitchOf 86 = .ok (.goto (-61), 3) := by decide +kernel
theorem dX5_stitchOf_89 : decode cX5_stitchOf 89 = .ok (.lload 7, 2) := by decide +kernel
theorem dX5_stitchOf_91 : decode cX5_stitchOf 91 = .ok (.lconst 1, 1) := by decide +kernel
theorem dX5_stitchOf_92 : decode cX5_stitchOf 92 = .ok (.iload 10, 2) := by decide +kernel
theorem dX5_stitchOf_94 : decode cX5_stitchOf 94 = .ok (.lshl, 1) := by decide +kernel
theorem dX5_stitchOf_95 : decode cX5_stitchOf 95 = .ok (.lor, 1) := by decide +kernel
theorem dX5_stitchOf_96 : decode cX5_stitchOf 96 = .ok (.lstore 7, 2) := by decide +kernel
theorem dX5_stitchOf_98 : decode cX5_stitchOf 98 = .ok (.iload 9, 2) := by decide +kernel
theorem dX5_stitchOf_100 : decode cX5_stitchOf 100 = .ok (.aload_n 0, 1) := by decide +kernel
theorem dX5_stitchOf_101 : decode cX5_stitchOf 101 = .ok (.aload_n 1, 1) := by decide +kernel
theorem dX5_stitchOf_102 : decode cX5_stitchOf 102 = .ok (.iload 10, 2) := by decide +kernel
theorem dX5_stitchOf_104 : decode cX5_stitchOf 104 = .ok (.invokevirtual 80, 3) := by decide +kernel
theorem dX5_stitchOf_107 : decode cX5_stitchOf 107 = .ok (.iadd, 1) := by decide +kernel
theorem dX5_stitchOf_108 : decode cX5_stitchOf 108 = .ok (.istore 9, 2) := by decide +kernel
theorem dX5_stitchOf_110 : decode cX5_stitchOf 110 = .ok (.iinc 11 1, 3) := by decide +kernel
theorem dX5_stitchOf_113 : decode cX5_stitchOf 113 = .ok (.goto (-98), 3) := by decide +kernel
theorem dX5_stitchOf_116 : decode cX5_stitchOf 116 = .ok (.iload 10, 2) := by decide +kernel
theorem dX5_stitchOf_118 : decode cX5_stitchOf 118 = .ok (.ireturn, 1) := by decide +kernel
set_option maxRecDepth 20000 in
theorem ggX5_numberOf_X0_isFree : GoodIn wsX5_numberOf wsX0_isFree := goodIn_r _ [9, 10, 11, 27, 28, 29, 30, 31, 32, 33, 34] (by decide +kernel) (by decide +kernel)
set_option maxRecDepth 20000 in
theorem gX5_numberOf_X0_isFree : GoodIn wsX5_numberOf (wsV RX5 72 RX0 yX0_isFree wsX0_isFree) := goodIn_app (goodIn_of _ (by decide +kernel)) ggX5_numberOf_X0_isFree
set_option maxRecDepth 20000 in
theorem ggX5_numberOf_X5_strideOf : GoodIn wsX5_numberOf wsX5_strideOf := goodIn_r _ [16, 17, 18, 35, 36, 37, 38, 39, 40, 27, 28, 29, 30, 31, 32, 33, 34] (by decide +kernel) (by decide +kernel)
set_option maxRecDepth 20000 in
theorem gX5_numberOf_X5_strideOf : GoodIn wsX5_numberOf (wsV RX5 80 RX5 yX5_strideOf wsX5_strideOf) := goodIn_app (goodIn_of _ (by decide +kernel)) ggX5_numberOf_X5_strideOf
set_option maxRecDepth 20000 in
theorem ggX5_numberOf_X5_countOf : GoodIn wsX5_numberOf wsX5_countOf := goodIn_r _ [22, 23, 35, 36, 37, 38, 39, 40] (by decide +kernel) (by decide +kernel)
set_option maxRecDepth 20000 in
theorem gX5_numberOf_X5_countOf : GoodIn wsX5_numberOf (wsV RX5 76 RX5 yX5_countOf wsX5_countOf) := goodIn_app (goodIn_of _ (by decide +kernel)) ggX5_numberOf_X5_countOf
theorem dX5_numberOf_0 : decode cX5_numberOf 0 = .ok (.aload_n 2, 1) := by decide +kernel
theorem dX5_numberOf_1 : decode cX5_numberOf 1 = .ok (.getfield 84, 3) := by decide +kernel
theorem dX5_numberOf_4 : decode cX5_numberOf 4 = .ok (.aload_n 1, 1) := by decide +kernel
theorem dX5_numberOf_5 : decode cX5_numberOf 5 = .ok (.getfield 49, 3) := by decide +kernel
theorem dX5_numberOf_8 : decode cX5_numberOf 8 = .ok (.if_icmp .eq 7, 3) := by decide +kernel
theorem dX5_numberOf_11 : decode cX5_numberOf 11 = .ok (.ldc2_w 87, 3) := by decide +kernel
theorem dX5_numberOf_14 : decode cX5_numberOf 14 = .ok (.lreturn, 1) := by decide +kernel
theorem dX5_numberOf_15 : decode cX5_numberOf 15 = .ok (.lconst 0, 1) := by decide +kernel
theorem dX5_numberOf_16 : decode cX5_numberOf 16 = .ok (.lstore_n 3, 1) := by decide +kernel
theorem dX5_numberOf_17 : decode cX5_numberOf 17 = .ok (.lconst 0, 1) := by decide +kernel
theorem dX5_numberOf_18 : decode cX5_numberOf 18 = .ok (.lstore 5, 2) := by decide +kernel
theorem dX5_numberOf_20 : decode cX5_numberOf 20 = .ok (.iconst 0, 1) := by decide +kernel
theorem dX5_numberOf_21 : decode cX5_numberOf 21 = .ok (.istore 7, 2) := by decide +kernel
theorem dX5_numberOf_23 : decode cX5_numberOf 23 = .ok (.iconst 0, 1) := by decide +kernel
theorem dX5_numberOf_24 : decode cX5_numberOf 24 = .ok (.istore 8, 2) := by decide +kernel
theorem dX5_numberOf_26 : decode cX5_numberOf 26 = .ok (.iload 8, 2) := by decide +kernel
theorem dX5_numberOf_28 : decode cX5_numberOf 28 = .ok (.aload_n 2, 1) := by decide +kernel
theorem dX5_numberOf_29 : decode cX5_numberOf 29 = .ok (.getfield 84, 3) := by decide +kernel
theorem dX5_numberOf_32 : decode cX5_numberOf 32 = .ok (.if_icmp .ge 122, 3) := by decide +kernel
theorem dX5_numberOf_35 : decode cX5_numberOf 35 = .ok (.aload_n 2, 1) := by decide +kernel
theorem dX5_numberOf_36 : decode cX5_numberOf 36 = .ok (.getfield 89, 3) := by decide +kernel
theorem dX5_numberOf_39 : decode cX5_numberOf 39 = .ok (.iload 8, 2) := by decide +kernel
theorem dX5_numberOf_41 : decode cX5_numberOf 41 = .ok (.laload, 1) := by decide +kernel
theorem dX5_numberOf_42 : decode cX5_numberOf 42 = .ok (.lstore 9, 2) := by decide +kernel
theorem dX5_numberOf_44 : decode cX5_numberOf 44 = .ok (.lload 9, 2) := by decide +kernel
theorem dX5_numberOf_46 : decode cX5_numberOf 46 = .ok (.lconst 0, 1) := by decide +kernel
theorem dX5_numberOf_47 : decode cX5_numberOf 47 = .ok (.lcmp, 1) := by decide +kernel
theorem dX5_numberOf_48 : decode cX5_numberOf 48 = .ok (.ifCond .lt 26, 3) := by decide +kernel
theorem dX5_numberOf_51 : decode cX5_numberOf 51 = .ok (.lload 9, 2) := by decide +kernel
theorem dX5_numberOf_53 : decode cX5_numberOf 53 = .ok (.aload_n 1, 1) := by decide +kernel
theorem dX5_numberOf_54 : decode cX5_numberOf 54 = .ok (.getfield 49, 3) := by decide +kernel
theorem dX5_numberOf_57 : decode cX5_numberOf 57 = .ok (.i2l, 1) := by decide +kernel
theorem dX5_numberOf_58 : decode cX5_numberOf 58 = .ok (.lcmp, 1) := by decide +kernel
theorem dX5_numberOf_59 : decode cX5_numberOf 59 = .ok (.ifCond .ge 15, 3) := by decide +kernel
theorem dX5_numberOf_62 : decode cX5_numberOf 62 = .ok (.aload_n 1, 1) := by decide +kernel
theorem dX5_numberOf_63 : decode cX5_numberOf 63 = .ok (.lload 9, 2) := by decide +kernel
theorem dX5_numberOf_65 : decode cX5_numberOf 65 = .ok (.l2i, 1) := by decide +kernel
theorem dX5_numberOf_66 : decode cX5_numberOf 66 = .ok (.lload 5, 2) := by decide +kernel
theorem dX5_numberOf_68 : decode cX5_numberOf 68 = .ok (.invokevirtual 72, 3) := by decide +kernel
theorem dX5_numberOf_71 : decode cX5_numberOf 71 = .ok (.ifCond .ne 7, 3) := by decide +kernel
theorem dX5_numberOf_74 : decode cX5_numberOf 74 = .ok (.ldc2_w 87, 3) := by decide +kernel
theorem dX5_numberOf_77 : decode cX5_numberOf 77 = .ok (.lreturn, 1) := by decide +kernel
theorem dX5_numberOf_78 : decode cX5_numberOf 78 = .ok (.lload 9, 2) := by decide +kernel
theorem dX5_numberOf_80 : decode cX5_numberOf 80 = .ok (.l2i, 1) := by decide +kernel
theorem dX5_numberOf_81 : decode cX5_numberOf 81 = .ok (.istore 11, 2) := by decide +kernel
theorem dX5_numberOf_83 : decode cX5_numberOf 83 = .ok (.iconst 0, 1) := by decide +kernel
theorem dX5_numberOf_84 : decode cX5_numberOf 84 = .ok (.istore 12, 2) := by decide +kernel
theorem dX5_numberOf_86 : decode cX5_numberOf 86 = .ok (.iload 12, 2) := by decide +kernel
theorem dX5_numberOf_88 : decode cX5_numberOf 88 = .ok (.iload 11, 2) := by decide +kernel
theorem dX5_numberOf_90 : decode cX5_numberOf 90 = .ok (.if_icmp .ge 37, 3) := by decide +kernel
theorem dX5_numberOf_93 : decode cX5_numberOf 93 = .ok (.aload_n 1, 1) := by decide +kernel
theorem dX5_numberOf_94 : decode cX5_numberOf 94 = .ok (.iload 12, 2) := by decide +kernel
theorem dX5_numberOf_96 : decode cX5_numberOf 96 = .ok (.lload 5, 2) := by decide +kernel
theorem dX5_numberOf_98 : decode cX5_numberOf 98 = .ok (.invokevirtual 72, 3) := by decide +kernel
theorem dX5_numberOf_101 : decode cX5_numberOf 101 = .ok (.ifCond .eq 20, 3) := by decide +kernel
theorem dX5_numberOf_104 : decode cX5_numberOf 104 = .ok (.lload_n 3, 1) := by decide +kernel
theorem dX5_numberOf_105 : decode cX5_numberOf 105 = .ok (.aload_n 0, 1) := by decide +kernel
theorem dX5_numberOf_106 : decode cX5_numberOf 106 = .ok (.iload 7, 2) := by decide +kernel
theorem dX5_numberOf_108 : decode cX5_numberOf 108 = .ok (.aload_n 0, 1) := by decide +kernel
theorem dX5_numberOf_109 : decode cX5_numberOf 109 = .ok (.aload_n 1, 1) := by decide +kernel
theorem dX5_numberOf_110 : decode cX5_numberOf 110 = .ok (.iload 12, 2) := by decide +kernel
theorem dX5_numberOf_112 : decode cX5_numberOf 112 = .ok (.invokevirtual 80, 3) := by decide +kernel
theorem dX5_numberOf_115 : decode cX5_numberOf 115 = .ok (.iadd, 1) := by decide +kernel
theorem dX5_numberOf_116 : decode cX5_numberOf 116 = .ok (.invokevirtual 76, 3) := by decide +kernel
theorem dX5_numberOf_119 : decode cX5_numberOf 119 = .ok (.ladd, 1) := by decide +kernel
theorem dX5_numberOf_120 : decode cX5_numberOf 120 = .ok (.lstore_n 3, 1) := by decide +kernel
theorem dX5_numberOf_121 : decode cX5_numberOf 121 = .ok (.iinc 12 1, 3) := by decide +kernel
theorem dX5_numberOf_124 : decode cX5_numberOf 124 = .ok (.goto (-38), 3) := by decide +kernel
theorem dX5_numberOf_127 : decode cX5_numberOf 127 = .ok (.lload 5, 2) := by decide +kernel
theorem dX5_numberOf_129 : decode cX5_numberOf 129 = .ok (.lconst 1, 1) := by decide +kernel
theorem dX5_numberOf_130 : decode cX5_numberOf 130 = .ok (.iload 11, 2) := by decide +kernel
theorem dX5_numberOf_132 : decode cX5_numberOf 132 = .ok (.lshl, 1) := by decide +kernel
theorem dX5_numberOf_133 : decode cX5_numberOf 133 = .ok (.lor, 1) := by decide +kernel
theorem dX5_numberOf_134 : decode cX5_numberOf 134 = .ok (.lstore 5, 2) := by decide +kernel
theorem dX5_numberOf_136 : decode cX5_numberOf 136 = .ok (.iload 7, 2) := by decide +kernel
theorem dX5_numberOf_138 : decode cX5_numberOf 138 = .ok (.aload_n 0, 1) := by decide +kernel
theorem dX5_numberOf_139 : decode cX5_numberOf 139 = .ok (.aload_n 1, 1) := by decide +kernel
theorem dX5_numberOf_140 : decode cX5_numberOf 140 = .ok (.iload 11, 2) := by decide +kernel
theorem dX5_numberOf_142 : decode cX5_numberOf 142 = .ok (.invokevirtual 80, 3) := by decide +kernel
theorem dX5_numberOf_145 : decode cX5_numberOf 145 = .ok (.iadd, 1) := by decide +kernel
theorem dX5_numberOf_146 : decode cX5_numberOf 146 = .ok (.istore 7, 2) := by decide +kernel
theorem dX5_numberOf_148 : decode cX5_numberOf 148 = .ok (.iinc 8 1, 3) := by decide +kernel
theorem dX5_numberOf_151 : decode cX5_numberOf 151 = .ok (.goto (-125), 3) := by decide +kernel
theorem dX5_numberOf_154 : decode cX5_numberOf 154 = .ok (.lload_n 3, 1) := by decide +kernel
theorem dX5_numberOf_155 : decode cX5_numberOf 155 = .ok (.lreturn, 1) := by decide +kernel
set_option maxRecDepth 20000 in
theorem ggX6_init_X1_init : GoodIn wsX6_init wsX1_init := goodIn_r _ [20, 21, 2, 3, 22, 4, 23, 24, 25, 26, 27, 28, 45, 46, 47] (by decide +kernel) (by decide +kernel)
set_option maxRecDepth 20000 in
theorem gX6_init_X1_init : GoodIn wsX6_init (wsX1_init) := ggX6_init_X1_init
set_option maxRecDepth 20000 in
theorem ggX6_init_X6_sendHome : GoodIn wsX6_init wsX6_sendHome := goodIn_r _ [33, 5, 6, 35, 36, 37, 38, 39, 40, 41, 42, 43, 44] (by decide +kernel) (by decide +kernel)
set_option maxRecDepth 20000 in
theorem gX6_init_X6_sendHome : GoodIn wsX6_init (wsV RX6 47 RX6 yX6_sendHome wsX6_sendHome) := goodIn_app (goodIn_of _ (by decide +kernel)) ggX6_init_X6_sendHome
set_option maxRecDepth 20000 in
theorem ggX6_init_J7_fill_53178 : GoodIn wsX6_init wsJ7_fill_53178 := goodIn_r _ [28] (by decide +kernel) (by decide +kernel)
set_option maxRecDepth 20000 in
theorem gX6_init_J7_fill_53178 : GoodIn wsX6_init (va_wsS RX6 50 yJ7_fill_53178 wsJ7_fill_53178) := goodIn_app (goodIn_of _ (by decide +kernel)) ggX6_init_J7_fill_53178
theorem dX6_init_0 : decode cX6_init 0 = .ok (.aload_n 0, 1) := by decide +kernel
theorem dX6_init_1 : decode cX6_init 1 = .ok (.invokespecial 3, 3) := by decide +kernel
theorem dX6_init_4 : decode cX6_init 4 = .ok (.aload_n 0, 1) := by decide +kernel
theorem dX6_init_5 : decode cX6_init 5 = .ok (.bipush 16, 2) := by decide +kernel
theorem dX6_init_7 : decode cX6_init 7 = .ok (.newarray .int, 2) := by decide +kernel
theorem dX6_init_9 : decode cX6_init 9 = .ok (.putfield 9, 3) := by decide +kernel
theorem dX6_init_12 : decode cX6_init 12 = .ok (.aload_n 0, 1) := by decide +kernel
theorem dX6_init_13 : decode cX6_init 13 = .ok (.bipush 16, 2) := by decide +kernel
theorem dX6_init_15 : decode cX6_init 15 = .ok (.newarray .int, 2) := by decide +kernel
theorem dX6_init_17 : decode cX6_init 17 = .ok (.putfield 15, 3) := by decide +kernel
theorem dX6_init_20 : decode cX6_init 20 = .ok (.aload_n 0, 1) := by decide +kernel
theorem dX6_init_21 : decode cX6_init 21 = .ok (.bipush 16, 2) := by decide +kernel
theorem dX6_init_23 : decode cX6_init 23 = .ok (.newarray .int, 2) := by decide +kernel
theorem dX6_init_25 : decode cX6_init 25 = .ok (.putfield 18, 3) := by decide +kernel
theorem dX6_init_28 : decode cX6_init 28 = .ok (.aload_n 0, 1) := by decide +kernel
theorem dX6_init_29 : decode cX6_init 29 = .ok (.bipush 16, 2) := by decide +kernel
theorem dX6_init_31 : decode cX6_init 31 = .ok (.newarray .int, 2) := by decide +kernel
theorem dX6_init_33 : decode cX6_init 33 = .ok (.putfield 21, 3) := by decide +kernel
theorem dX6_init_36 : decode cX6_init 36 = .ok (.aload_n 0, 1) := by decide +kernel
theorem dX6_init_37 : decode cX6_init 37 = .ok (.bipush 16, 2) := by decide +kernel
theorem dX6_init_39 : decode cX6_init 39 = .ok (.newarray .int, 2) := by decide +kernel
theorem dX6_init_41 : decode cX6_init 41 = .ok (.putfield 24, 3) := by decide +kernel
theorem dX6_init_44 : decode cX6_init 44 = .ok (.aload_n 0, 1) := by decide +kernel
theorem dX6_init_45 : decode cX6_init 45 = .ok (.bipush 16, 2) := by decide +kernel
theorem dX6_init_47 : decode cX6_init 47 = .ok (.newarray .int, 2) := by decide +kernel
theorem dX6_init_49 : decode cX6_init 49 = .ok (.putfield 27, 3) := by decide +kernel
theorem dX6_init_52 : decode cX6_init 52 = .ok (.aload_n 0, 1) := by decide +kernel
theorem dX6_init_53 : decode cX6_init 53 = .ok (.bipush 16, 2) := by decide +kernel
theorem dX6_init_55 : decode cX6_init 55 = .ok (.newarray .int, 2) := by decide +kernel
theorem dX6_init_57 : decode cX6_init 57 = .ok (.putfield 30, 3) := by decide +kernel
theorem dX6_init_60 : decode cX6_init 60 = .ok (.aload_n 0, 1) := by decide +kernel
theorem dX6_init_61 : decode cX6_init 61 = .ok (.sipush 256, 3) := by decide +kernel
theorem dX6_init_64 : decode cX6_init 64 = .ok (.newarray .int, 2) := by decide +kernel
theorem dX6_init_66 : decode cX6_init 66 = .ok (.putfield 33, 3) := by decide +kernel
theorem dX6_init_69 : decode cX6_init 69 = .ok (.aload_n 0, 1) := by decide +kernel
theorem dX6_init_70 : decode cX6_init 70 = .ok (.new 36, 3) := by decide +kernel
theorem dX6_init_73 : decode cX6_init 73 = .ok (.dup, 1) := by decide +kernel
theorem dX6_init_74 : decode cX6_init 74 = .ok (.invokespecial 38, 3) := by decide +kernel
theorem dX6_init_77 : decode cX6_init 77 = .ok (.putfield 39, 3) := by decide +kernel
theorem dX6_init_80 : decode cX6_init 80 = .ok (.aload_n 0, 1) := by decide +kernel
theorem dX6_init_81 : decode cX6_init 81 = .ok (.iconst 0, 1) := by decide +kernel
theorem dX6_init_82 : decode cX6_init 82 = .ok (.putfield 43, 3) := by decide +kernel
theorem dX6_init_85 : decode cX6_init 85 = .ok (.aload_n 0, 1) := by decide +kernel
theorem dX6_init_86 : decode cX6_init 86 = .ok (.invokevirtual 47, 3) := by decide +kernel
theorem dX6_init_89 : decode cX6_init 89 = .ok (.aload_n 0, 1) := by decide +kernel
theorem dX6_init_90 : decode cX6_init 90 = .ok (.getfield 27, 3) := by decide +kernel
theorem dX6_init_93 : decode cX6_init 93 = .ok (.iconst (-1), 1) := by decide +kernel
theorem dX6_init_94 : decode cX6_init 94 = .ok (.invokestatic 50, 3) := by decide +kernel
theorem dX6_init_97 : decode cX6_init 97 = .ok (.return_, 1) := by decide +kernel
theorem dX6_sendHome_0 : decode cX6_sendHome 0 = .ok (.iconst 0, 1) := by decide +kernel
theorem dX6_sendHome_1 : decode cX6_sendHome 1 = .ok (.istore_n 1, 1) := by decide +kernel
theorem dX6_sendHome_2 : decode cX6_sendHome 2 = .ok (.iload_n 1, 1) := by decide +kernel
theorem dX6_sendHome_3 : decode cX6_sendHome 3 = .ok (.bipush 16, 2) := by decide +kernel
theorem dX6_sendHome_5 : decode cX6_sendHome 5 = .ok (.if_icmp .ge 23, 3) := by decide +kernel
theorem dX6_sendHome_8 : decode cX6_sendHome 8 = .ok (.aload_n 0, 1) := by decide +kernel
theorem dX6_sendHome_9 : decode cX6_sendHome 9 = .ok (.getfield 9, 3) := by decide +kernel
theorem dX6_sendHome_12 : decode cX6_sendHome 12 = .ok (.iload_n 1, 1) := by decide +kernel
theorem dX6_sendHome_13 : decode cX6_sendHome 13 = .ok (.iload_n 1, 1) := by decide +kernel
theorem dX6_sendHome_14 : decode cX6_sendHome 14 = .ok (.iastore, 1) := by decide +kernel
theorem dX6_sendHome_15 : decode cX6_sendHome 15 = .ok (.aload_n 0, 1) := by decide +kernel
theorem dX6_sendHome_16 : decode cX6_sendHome 16 = .ok (.getfield 15, 3) := by decide +kernel
theorem dX6_sendHome_19 : decode cX6_sendHome 19 = .ok (.iload_n 1, 1) := by decide +kernel
theorem dX6_sendHome_20 : decode cX6_sendHome 20 = .ok (.iload_n 1, 1) := by decide +kernel
theorem dX6_sendHome_21 : decode cX6_sendHome 21 = .ok (.iastore, 1) := by decide +kernel
theorem dX6_sendHome_22 : decode cX6_sendHome 22 = .ok (.iinc 1 1, 3) := by decide +kernel
theorem dX6_sendHome_25 : decode cX6_sendHome 25 = .ok (.goto (-23), 3) := by decide +kernel
theorem dX6_sendHome_28 : decode cX6_sendHome 28 = .ok (.return_, 1) := by decide +kernel
set_option maxRecDepth 20000 in
theorem ggX6_clear_X6_sendHome : GoodIn wsX6_clear wsX6_sendHome := goodIn_r _ [13, 14, 15, 29, 30, 31, 32, 33, 34, 35, 36, 37, 38] (by decide +kernel) (by decide +kernel)
set_option maxRecDepth 20000 in
theorem gX6_clear_X6_sendHome : GoodIn wsX6_clear (wsV RX6 47 RX6 yX6_sendHome wsX6_sendHome) := goodIn_app (goodIn_of _ (by decide +kernel)) ggX6_clear_X6_sendHome
set_option maxRecDepth 20000 in
theorem ggX6_clear_J7_fill_53178 : GoodIn wsX6_clear wsJ7_fill_53178 := goodIn_r _ [19] (by decide +kernel) (by decide +kernel)
set_option maxRecDepth 20000 in
theorem gX6_clear_J7_fill_53178 : GoodIn wsX6_clear (va_wsS RX6 50 yJ7_fill_53178 wsJ7_fill_53178) := goodIn_app (goodIn_of _ (by decide +kernel)) ggX6_clear_J7_fill_53178
set_option maxRecDepth 20000 in
theorem ggX6_clear_X1_clear : GoodIn wsX6_clear wsX1_clear := goodIn_r _ [24, 25, 26, 27, 28, 17, 18, 19, 39, 40, 41] (by decide +kernel) (by decide +kernel)
set_option maxRecDepth 20000 in
theorem gX6_clear_X1_clear : GoodIn wsX6_clear (wsV RX6 56 RX1 yX1_clear wsX1_clear) := goodIn_app (goodIn_of _ (by decide +kernel)) ggX6_clear_X1_clear
theorem dX6_clear_0 : decode cX6_clear 0 = .ok (.aload_n 0, 1) := by decide +kernel
theorem dX6_clear_1 : decode cX6_clear 1 = .ok (.invokevirtual 47, 3) := by decide +kernel
theorem dX6_clear_4 : decode cX6_clear 4 = .ok (.aload_n 0, 1) := by decide +kernel
theorem dX6_clear_5 : decode cX6_clear 5 = .ok (.getfield 18, 3) := by decide +kernel
theorem dX6_clear_8 : decode cX6_clear 8 = .ok (.iconst 0, 1) := by decide +kernel
theorem dX6_clear_9 : decode cX6_clear 9 = .ok (.invokestatic 50, 3) := by decide +kernel
theorem dX6_clear_12 : decode cX6_clear 12 = .ok (.aload_n 0, 1) := by decide +kernel
theorem dX6_clear_13 : decode cX6_clear 13 = .ok (.getfield 21, 3) := by decide +kernel
theorem dX6_clear_16 : decode cX6_clear 16 = .ok (.iconst 0, 1) := by decide +kernel
theorem dX6_clear_17 : decode cX6_clear 17 = .ok (.invokestatic 50, 3) := by decide +kernel
theorem dX6_clear_20 : decode cX6_clear 20 = .ok (.aload_n 0, 1) := by decide +kernel
theorem dX6_clear_21 : decode cX6_clear 21 = .ok (.getfield 24, 3) := by decide +kernel
theorem dX6_clear_24 : decode cX6_clear 24 = .ok (.iconst 0, 1) := by decide +kernel
theorem dX6_clear_25 : decode cX6_clear 25 = .ok (.invokestatic 50, 3) := by decide +kernel
theorem dX6_clear_28 : decode cX6_clear 28 = .ok (.aload_n 0, 1) := by decide +kernel
theorem dX6_clear_29 : decode cX6_clear 29 = .ok (.getfield 27, 3) := by decide +kernel
theorem dX6_clear_32 : decode cX6_clear 32 = .ok (.iconst (-1), 1) := by decide +kernel
theorem dX6_clear_33 : decode cX6_clear 33 = .ok (.invokestatic 50, 3) := by decide +kernel
theorem dX6_clear_36 : decode cX6_clear 36 = .ok (.aload_n 0, 1) := by decide +kernel
theorem dX6_clear_37 : decode cX6_clear 37 = .ok (.getfield 30, 3) := by decide +kernel
theorem dX6_clear_40 : decode cX6_clear 40 = .ok (.iconst 0, 1) := by decide +kernel
theorem dX6_clear_41 : decode cX6_clear 41 = .ok (.invokestatic 50, 3) := by decide +kernel
theorem dX6_clear_44 : decode cX6_clear 44 = .ok (.aload_n 0, 1) := by decide +kernel
theorem dX6_clear_45 : decode cX6_clear 45 = .ok (.getfield 33, 3) := by decide +kernel
theorem dX6_clear_48 : decode cX6_clear 48 = .ok (.iconst 0, 1) := by decide +kernel
theorem dX6_clear_49 : decode cX6_clear 49 = .ok (.invokestatic 50, 3) := by decide +kernel
theorem dX6_clear_52 : decode cX6_clear 52 = .ok (.aload_n 0, 1) := by decide +kernel
theorem dX6_clear_53 : decode cX6_clear 53 = .ok (.getfield 39, 3) := by decide +kernel
theorem dX6_clear_56 : decode cX6_clear 56 = .ok (.invokevirtual 56, 3) := by decide +kernel
theorem dX6_clear_59 : decode cX6_clear 59 = .ok (.aload_n 0, 1) := by decide +kernel
theorem dX6_clear_60 : decode cX6_clear 60 = .ok (.iconst 0, 1) := by decide +kernel
theorem dX6_clear_61 : decode cX6_clear 61 = .ok (.putfield 43, 3) := by decide +kernel
theorem dX6_clear_64 : decode cX6_clear 64 = .ok (.return_, 1) := by decide +kernel
set_option maxRecDepth 20000 in
theorem ggX6_make_X6_cross : GoodIn wsX6_make wsX6_cross := goodIn_r _ [9, 2, 10, 11, 12, 13, 14, 15, 8, 16, 17, 18, 1, 19, 20, 21, 22, 23, 24, 25, 26, 27, 28, 29, 30, 31, 32, 33, 34, 35, 36, 37, 38, 39, 40, 41, 42, 43, 44, 45, 46, 47, 48, 49, 50, 51, 59, 60, 61] (by decide +kernel) (by decide +kernel)
set_option maxRecDepth 20000 in
theorem gX6_make_X6_cross : GoodIn wsX6_make (wsV RX6 67 RX6 yX6_cross wsX6_cross) := goodIn_app (goodIn_of _ (by decide +kernel)) ggX6_make_X6_cross
theorem dX6_make_0 : decode cX6_make 0 = .ok (.iconst 2, 1) := by decide +kernel
theorem dX6_make_1 : decode cX6_make 1 = .ok (.iload_n 3, 1) := by decide +kernel
theorem dX6_make_2 : decode cX6_make 2 = .ok (.imul, 1) := by decide +kernel
theorem dX6_make_3 : decode cX6_make 3 = .ok (.istore 4, 2) := by decide +kernel
theorem dX6_make_5 : decode cX6_make 5 = .ok (.iload 4, 2) := by decide +kernel
theorem dX6_make_7 : decode cX6_make 7 = .ok (.iconst 2, 1) := by decide +kernel
theorem dX6_make_8 : decode cX6_make 8 = .ok (.iload_n 3, 1) := by decide +kernel
theorem dX6_make_9 : decode cX6_make 9 = .ok (.imul, 1) := by decide +kernel
theorem dX6_make_10 : decode cX6_make 10 = .ok (.iconst 4, 1) := by decide +kernel
theorem dX6_make_11 : decode cX6_make 11 = .ok (.iadd, 1) := by decide +kernel
theorem dX6_make_12 : decode cX6_make 12 = .ok (.if_icmp .ge 25, 3) := by decide +kernel
theorem dX6_make_15 : decode cX6_make 15 = .ok (.aload_n 0, 1) := by decide +kernel
theorem dX6_make_16 : decode cX6_make 16 = .ok (.getfield 18, 3) := by decide +kernel
theorem dX6_make_19 : decode cX6_make 19 = .ok (.aload_n 0, 1) := by decide +kernel
theorem dX6_make_20 : decode cX6_make 20 = .ok (.getfield 9, 3) := by decide +kernel
theorem dX6_make_23 : decode cX6_make 23 = .ok (.iload 4, 2) := by decide +kernel
theorem dX6_make_25 : decode cX6_make 25 = .ok (.iaload, 1) := by decide +kernel
theorem dX6_make_26 : decode cX6_make 26 = .ok (.dup2, 1) := by decide +kernel
theorem dX6_make_27 : decode cX6_make 27 = .ok (.iaload, 1) := by decide +kernel
theorem dX6_make_28 : decode cX6_make 28 = .ok (.iconst 1, 1) := by decide +kernel
theorem dX6_make_29 : decode cX6_make 29 = .ok (.iadd, 1) := by decide +kernel
theorem dX6_make_30 : decode cX6_make 30 = .ok (.iastore, 1) := by decide +kernel
theorem dX6_make_31 : decode cX6_make 31 = .ok (.iinc 4 1, 3) := by decide +kernel
theorem dX6_make_34 : decode cX6_make 34 = .ok (.goto (-29), 3) := by decide +kernel
theorem dX6_make_37 : decode cX6_make 37 = .ok (.iconst 0, 1) := by decide +kernel
theorem dX6_make_38 : decode cX6_make 38 = .ok (.istore 4, 2) := by decide +kernel
theorem dX6_make_40 : decode cX6_make 40 = .ok (.iload 4, 2) := by decide +kernel
theorem dX6_make_42 : decode cX6_make 42 = .ok (.aload_n 1, 1) := by decide +kernel
theorem dX6_make_43 : decode cX6_make 43 = .ok (.getfield 59, 3) := by decide +kernel
theorem dX6_make_46 : decode cX6_make 46 = .ok (.iload_n 2, 1) := by decide +kernel
theorem dX6_make_47 : decode cX6_make 47 = .ok (.iaload, 1) := by decide +kernel
theorem dX6_make_48 : decode cX6_make 48 = .ok (.if_icmp .ge 92, 3) := by decide +kernel
theorem dX6_make_51 : decode cX6_make 51 = .ok (.aload_n 1, 1) := by decide +kernel
theorem dX6_make_52 : decode cX6_make 52 = .ok (.getfield 64, 3) := by decide +kernel
theorem dX6_make_55 : decode cX6_make 55 = .ok (.iload_n 2, 1) := by decide +kernel
theorem dX6_make_56 : decode cX6_make 56 = .ok (.bipush 8, 2) := by decide +kernel
theorem dX6_make_58 : decode cX6_make 58 = .ok (.imul, 1) := by decide +kernel
theorem dX6_make_59 : decode cX6_make 59 = .ok (.iload 4, 2) := by decide +kernel
theorem dX6_make_61 : decode cX6_make 61 = .ok (.iadd, 1) := by decide +kernel
theorem dX6_make_62 : decode cX6_make 62 = .ok (.iaload, 1) := by decide +kernel
theorem dX6_make_63 : decode cX6_make 63 = .ok (.istore 5, 2) := by decide +kernel
theorem dX6_make_65 : decode cX6_make 65 = .ok (.iload 5, 2) := by decide +kernel
theorem dX6_make_67 : decode cX6_make 67 = .ok (.bipush 99, 2) := by decide +kernel
theorem dX6_make_69 : decode cX6_make 69 = .ok (.if_icmp .eq 10, 3) := by decide +kernel
theorem dX6_make_72 : decode cX6_make 72 = .ok (.iload 5, 2) := by decide +kernel
theorem dX6_make_74 : decode cX6_make 74 = .ok (.bipush 84, 2) := by decide +kernel
theorem dX6_make_76 : decode cX6_make 76 = .ok (.if_icmp .ne 7, 3) := by decide +kernel
theorem dX6_make_79 : decode cX6_make 79 = .ok (.iconst 1, 1) := by decide +kernel
theorem dX6_make_80 : decode cX6_make 80 = .ok (.goto 4, 3) := by decide +kernel
theorem dX6_make_83 : decode cX6_make 83 = .ok (.iconst 2, 1) := by decide +kernel
theorem dX6_make_84 : decode cX6_make 84 = .ok (.istore 6, 2) := by decide +kernel
theorem dX6_make_86 : decode cX6_make 86 = .ok (.iload 5, 2) := by decide +kernel
theorem dX6_make_88 : decode cX6_make 88 = .ok (.bipush 99, 2) := by decide +kernel
theorem dX6_make_90 : decode cX6_make 90 = .ok (.if_icmp .eq 10, 3) := by decide +kernel
theorem dX6_make_93 : decode cX6_make 93 = .ok (.iload 5, 2) := by decide +kernel
theorem dX6_make_95 : decode cX6_make 95 = .ok (.bipush 67, 2) := by decide +kernel
theorem dX6_make_97 : decode cX6_make 97 = .ok (.if_icmp .ne 17, 3) := by decide +kernel
theorem dX6_make_100 : decode cX6_make 100 = .ok (.aload_n 0, 1) := by decide +kernel
theorem dX6_make_101 : decode cX6_make 101 = .ok (.iconst 2, 1) := by decide +kernel
theorem dX6_make_102 : decode cX6_make 102 = .ok (.iload_n 3, 1) := by decide +kernel
theorem dX6_make_103 : decode cX6_make 103 = .ok (.imul, 1) := by decide +kernel
theorem dX6_make_104 : decode cX6_make 104 = .ok (.iconst 1, 1) := by decide +kernel
theorem dX6_make_105 : decode cX6_make 105 = .ok (.iadd, 1) := by decide +kernel
theorem dX6_make_106 : decode cX6_make 106 = .ok (.iload 6, 2) := by decide +kernel
theorem dX6_make_108 : decode cX6_make 108 = .ok (.invokevirtual 67, 3) := by decide +kernel
theorem dX6_make_111 : decode cX6_make 111 = .ok (.goto 23, 3) := by decide +kernel
theorem dX6_make_114 : decode cX6_make 114 = .ok (.aload_n 0, 1) := by decide +kernel
theorem dX6_make_115 : decode cX6_make 115 = .ok (.iconst 2, 1) := by decide +kernel
theorem dX6_make_116 : decode cX6_make 116 = .ok (.iload_n 3, 1) := by decide +kernel
theorem dX6_make_117 : decode cX6_make 117 = .ok (.imul, 1) := by decide +kernel
theorem dX6_make_118 : decode cX6_make 118 = .ok (.iload 6, 2) := by decide +kernel
theorem dX6_make_120 : decode cX6_make 120 = .ok (.invokevirtual 67, 3) := by decide +kernel
theorem dX6_make_123 : decode cX6_make 123 = .ok (.aload_n 0, 1) := by decide +kernel
theorem dX6_make_124 : decode cX6_make 124 = .ok (.iconst 2, 1) := by decide +kernel
theorem dX6_make_125 : decode cX6_make 125 = .ok (.iload_n 3, 1) := by decide +kernel
theorem dX6_make_126 : decode cX6_make 126 = .ok (.imul, 1) := by decide +kernel
theorem dX6_make_127 : decode cX6_make 127 = .ok (.iconst 2, 1) := by decide +kernel
theorem dX6_make_128 : decode cX6_make 128 = .ok (.iadd, 1) := by decide +kernel
theorem dX6_make_129 : decode cX6_make 129 = .ok (.iload 6, 2) := by decide +kernel
theorem dX6_make_131 : decode cX6_make 131 = .ok (.invokevirtual 67, 3) := by decide +kernel
theorem dX6_make_134 : decode cX6_make 134 = .ok (.iinc 4 1, 3) := by decide +kernel
theorem dX6_make_137 : decode cX6_make 137 = .ok (.goto (-97), 3) := by decide +kernel
theorem dX6_make_140 : decode cX6_make 140 = .ok (.return_, 1) := by decide +kernel
set_option maxRecDepth 20000 in
theorem ggX6_cross_X6_pass : GoodIn wsX6_cross wsX6_pass := goodIn_r _ [9, 10, 11, 12, 13, 14, 15, 16, 8, 17, 18, 19, 36, 37, 38, 39, 40, 41, 42, 43, 44, 45] (by decide +kernel) (by decide +kernel)
set_option maxRecDepth 20000 in
theorem gX6_cross_X6_pass : GoodIn wsX6_cross (wsV RX6 71 RX6 yX6_pass wsX6_pass) := goodIn_app (goodIn_of _ (by decide +kernel)) ggX6_cross_X6_pass
set_option maxRecDepth 20000 in
theorem ggX6_cross_X1_add : GoodIn wsX6_cross wsX1_add := goodIn_r _ [24, 25, 26, 27, 28, 29, 30, 31, 32, 33, 34, 23, 35, 46, 47, 48] (by decide +kernel) (by decide +kernel)
set_option maxRecDepth 20000 in
theorem gX6_cross_X1_add : GoodIn wsX6_cross (wsV RX6 74 RX1 yX1_add wsX1_add) := goodIn_app (goodIn_of _ (by decide +kernel)) ggX6_cross_X1_add
theorem dX6_cross_0 : decode cX6_cross 0 = .ok (.aload_n 0, 1) := by decide +kernel
theorem dX6_cross_1 : decode cX6_cross 1 = .ok (.getfield 9, 3) := by decide +kernel
theorem dX6_cross_4 : decode cX6_cross 4 = .ok (.iload_n 1, 1) := by decide +kernel
theorem dX6_cross_5 : decode cX6_cross 5 = .ok (.iaload, 1) := by decide +kernel
theorem dX6_cross_6 : decode cX6_cross 6 = .ok (.istore_n 3, 1) := by decide +kernel
theorem dX6_cross_7 : decode cX6_cross 7 = .ok (.aload_n 0, 1) := by decide +kernel
theorem dX6_cross_8 : decode cX6_cross 8 = .ok (.getfield 9, 3) := by decide +kernel
theorem dX6_cross_11 : decode cX6_cross 11 = .ok (.iload_n 1, 1) := by decide +kernel
theorem dX6_cross_12 : decode cX6_cross 12 = .ok (.iconst 1, 1) := by decide +kernel
theorem dX6_cross_13 : decode cX6_cross 13 = .ok (.iadd, 1) := by decide +kernel
theorem dX6_cross_14 : decode cX6_cross 14 = .ok (.iaload, 1) := by decide +kernel
theorem dX6_cross_15 : decode cX6_cross 15 = .ok (.istore 4, 2) := by decide +kernel
theorem dX6_cross_17 : decode cX6_cross 17 = .ok (.aload_n 0, 1) := by decide +kernel
theorem dX6_cross_18 : decode cX6_cross 18 = .ok (.getfield 9, 3) := by decide +kernel
theorem dX6_cross_21 : decode cX6_cross 21 = .ok (.iload_n 1, 1) := by decide +kernel
theorem dX6_cross_22 : decode cX6_cross 22 = .ok (.iload 4, 2) := by decide +kernel
theorem dX6_cross_24 : decode cX6_cross 24 = .ok (.iastore, 1) := by decide +kernel
theorem dX6_cross_25 : decode cX6_cross 25 = .ok (.aload_n 0, 1) := by decide +kernel
theorem dX6_cross_26 : decode cX6_cross 26 = .ok (.getfield 9, 3) := by decide +kernel
theorem dX6_cross_29 : decode cX6_cross 29 = .ok (.iload_n 1, 1) := by decide +kernel
theorem dX6_cross_30 : decode cX6_cross 30 = .ok (.iconst 1, 1) := by decide +kernel
theorem dX6_cross_31 : decode cX6_cross 31 = .ok (.iadd, 1) := by decide +kernel
theorem dX6_cross_32 : decode cX6_cross 32 = .ok (.iload_n 3, 1) := by decide +kernel
theorem dX6_cross_33 : decode cX6_cross 33 = .ok (.iastore, 1) := by decide +kernel
theorem dX6_cross_34 : decode cX6_cross 34 = .ok (.aload_n 0, 1) := by decide +kernel
theorem dX6_cross_35 : decode cX6_cross 35 = .ok (.getfield 15, 3) := by decide +kernel
theorem dX6_cross_38 : decode cX6_cross 38 = .ok (.iload 4, 2) := by decide +kernel
theorem dX6_cross_40 : decode cX6_cross 40 = .ok (.iload_n 1, 1) := by decide +kernel
theorem dX6_cross_41 : decode cX6_cross 41 = .ok (.iastore, 1) := by decide +kernel
theorem dX6_cross_42 : decode cX6_cross 42 = .ok (.aload_n 0, 1) := by decide +kernel
theorem dX6_cross_43 : decode cX6_cross 43 = .ok (.getfield 15, 3) := by decide +kernel
theorem dX6_cross_46 : decode cX6_cross 46 = .ok (.iload_n 3, 1) := by decide +kernel
theorem dX6_cross_47 : decode cX6_cross 47 = .ok (.iload_n 1, 1) := by decide +kernel
theorem dX6_cross_48 : decode cX6_cross 48 = .ok (.iconst 1, 1) := by decide +kernel
theorem dX6_cross_49 : decode cX6_cross 49 = .ok (.iadd, 1) := by decide +kernel
theorem dX6_cross_50 : decode cX6_cross 50 = .ok (.iastore, 1) := by decide +kernel
theorem dX6_cross_51 : decode cX6_cross 51 = .ok (.aload_n 0, 1) := by decide +kernel
theorem dX6_cross_52 : decode cX6_cross 52 = .ok (.iload_n 2, 1) := by decide +kernel
theorem dX6_cross_53 : decode cX6_cross 53 = .ok (.iconst 1, 1) := by decide +kernel
theorem dX6_cross_54 : decode cX6_cross 54 = .ok (.if_icmp .ne 7, 3) := by decide +kernel
theorem dX6_cross_57 : decode cX6_cross 57 = .ok (.iload_n 3, 1) := by decide +kernel
theorem dX6_cross_58 : decode cX6_cross 58 = .ok (.goto 5, 3) := by decide +kernel
theorem dX6_cross_61 : decode cX6_cross 61 = .ok (.iload 4, 2) := by decide +kernel
theorem dX6_cross_63 : decode cX6_cross 63 = .ok (.iload_n 2, 1) := by decide +kernel
theorem dX6_cross_64 : decode cX6_cross 64 = .ok (.iconst 1, 1) := by decide +kernel
theorem dX6_cross_65 : decode cX6_cross 65 = .ok (.if_icmp .ne 8, 3) := by decide +kernel
theorem dX6_cross_68 : decode cX6_cross 68 = .ok (.iload 4, 2) := by decide +kernel
theorem dX6_cross_70 : decode cX6_cross 70 = .ok (.goto 4, 3) := by decide +kernel
theorem dX6_cross_73 : decode cX6_cross 73 = .ok (.iload_n 3, 1) := by decide +kernel
theorem dX6_cross_74 : decode cX6_cross 74 = .ok (.invokevirtual 71, 3) := by decide +kernel
theorem dX6_cross_77 : decode cX6_cross 77 = .ok (.aload_n 0, 1) := by decide +kernel
theorem dX6_cross_78 : decode cX6_cross 78 = .ok (.getfield 39, 3) := by decide +kernel
theorem dX6_cross_81 : decode cX6_cross 81 = .ok (.iload_n 1, 1) := by decide +kernel
theorem dX6_cross_82 : decode cX6_cross 82 = .ok (.iload_n 2, 1) := by decide +kernel
theorem dX6_cross_83 : decode cX6_cross 83 = .ok (.invokevirtual 74, 3) := by decide +kernel
theorem dX6_cross_86 : decode cX6_cross 86 = .ok (.aload_n 0, 1) := by decide +kernel
theorem dX6_cross_87 : decode cX6_cross 87 = .ok (.dup, 1) := by decide +kernel
theorem dX6_cross_88 : decode cX6_cross 88 = .ok (.getfield 43, 3) := by decide +kernel
theorem dX6_cross_91 : decode cX6_cross 91 = .ok (.iconst 1, 1) := by decide +kernel
theorem dX6_cross_92 : decode cX6_cross 92 = .ok (.iadd, 1) := by decide +kernel
theorem dX6_cross_93 : decode cX6_cross 93 = .ok (.putfield 43, 3) := by decide +kernel
theorem dX6_cross_96 : decode cX6_cross 96 = .ok (.return_, 1) := by decide +kernel
set_option maxRecDepth 20000 in
theorem ggX6_pass_X6_noteSide : GoodIn wsX6_pass wsX6_noteSide := goodIn_r _ [9, 10, 11, 1, 2, 12, 13, 14, 15, 16, 17, 18, 19, 20, 21] (by decide +kernel) (by decide +kernel)
set_option maxRecDepth 20000 in
theorem gX6_pass_X6_noteSide : GoodIn wsX6_pass (wsV RX6 77 RX6 yX6_noteSide wsX6_noteSide) := goodIn_app (goodIn_of _ (by decide +kernel)) ggX6_pass_X6_noteSide
theorem dX6_pass_0 : decode cX6_pass 0 = .ok (.aload_n 0, 1) := by decide +kernel
theorem dX6_pass_1 : decode cX6_pass 1 = .ok (.iload_n 1, 1) := by decide +kernel
theorem dX6_pass_2 : decode cX6_pass 2 = .ok (.iconst 1, 1) := by decide +kernel
theorem dX6_pass_3 : decode cX6_pass 3 = .ok (.invokevirtual 77, 3) := by decide +kernel
theorem dX6_pass_6 : decode cX6_pass 6 = .ok (.aload_n 0, 1) := by decide +kernel
theorem dX6_pass_7 : decode cX6_pass 7 = .ok (.iload_n 2, 1) := by decide +kernel
theorem dX6_pass_8 : decode cX6_pass 8 = .ok (.iconst 2, 1) := by decide +kernel
theorem dX6_pass_9 : decode cX6_pass 9 = .ok (.invokevirtual 77, 3) := by decide +kernel
theorem dX6_pass_12 : decode cX6_pass 12 = .ok (.aload_n 0, 1) := by decide +kernel
theorem dX6_pass_13 : decode cX6_pass 13 = .ok (.getfield 21, 3) := by decide +kernel
theorem dX6_pass_16 : decode cX6_pass 16 = .ok (.iload_n 1, 1) := by decide +kernel
theorem dX6_pass_17 : decode cX6_pass 17 = .ok (.dup2, 1) := by decide +kernel
theorem dX6_pass_18 : decode cX6_pass 18 = .ok (.iaload, 1) := by decide +kernel
theorem dX6_pass_19 : decode cX6_pass 19 = .ok (.iconst 1, 1) := by decide +kernel
theorem dX6_pass_20 : decode cX6_pass 20 = .ok (.iadd, 1) := by decide +kernel
theorem dX6_pass_21 : decode cX6_pass 21 = .ok (.iastore, 1) := by decide +kernel
theorem dX6_pass_22 : decode cX6_pass 22 = .ok (.aload_n 0, 1) := by decide +kernel
theorem dX6_pass_23 : decode cX6_pass 23 = .ok (.getfield 24, 3) := by decide +kernel
theorem dX6_pass_26 : decode cX6_pass 26 = .ok (.iload_n 2, 1) := by decide +kernel
theorem dX6_pass_27 : decode cX6_pass 27 = .ok (.dup2, 1) := by decide +kernel
theorem dX6_pass_28 : decode cX6_pass 28 = .ok (.iaload, 1) := by decide +kernel
theorem dX6_pass_29 : decode cX6_pass 29 = .ok (.iconst 1, 1) := by decide +kernel
theorem dX6_pass_30 : decode cX6_pass 30 = .ok (.iadd, 1) := by decide +kernel
theorem dX6_pass_31 : decode cX6_pass 31 = .ok (.iastore, 1) := by decide +kernel
theorem dX6_pass_32 : decode cX6_pass 32 = .ok (.aload_n 0, 1) := by decide +kernel
theorem dX6_pass_33 : decode cX6_pass 33 = .ok (.getfield 18, 3) := by decide +kernel
theorem dX6_pass_36 : decode cX6_pass 36 = .ok (.iload_n 1, 1) := by decide +kernel
theorem dX6_pass_37 : decode cX6_pass 37 = .ok (.dup2, 1) := by decide +kernel
theorem dX6_pass_38 : decode cX6_pass 38 = .ok (.iaload, 1) := by decide +kernel
theorem dX6_pass_39 : decode cX6_pass 39 = .ok (.iconst 2, 1) := by decide +kernel
theorem dX6_pass_40 : decode cX6_pass 40 = .ok (.iadd, 1) := by decide +kernel
theorem dX6_pass_41 : decode cX6_pass 41 = .ok (.iastore, 1) := by decide +kernel
theorem dX6_pass_42 : decode cX6_pass 42 = .ok (.aload_n 0, 1) := by decide +kernel
theorem dX6_pass_43 : decode cX6_pass 43 = .ok (.getfield 18, 3) := by decide +kernel
theorem dX6_pass_46 : decode cX6_pass 46 = .ok (.iload_n 2, 1) := by decide +kernel
theorem dX6_pass_47 : decode cX6_pass 47 = .ok (.dup2, 1) := by decide +kernel
theorem dX6_pass_48 : decode cX6_pass 48 = .ok (.iaload, 1) := by decide +kernel
theorem dX6_pass_49 : decode cX6_pass 49 = .ok (.iconst 1, 1) := by decide +kernel
theorem dX6_pass_50 : decode cX6_pass 50 = .ok (.iadd, 1) := by decide +kernel
theorem dX6_pass_51 : decode cX6_pass 51 = .ok (.iastore, 1) := by decide +kernel
theorem dX6_pass_52 : decode cX6_pass 52 = .ok (.aload_n 0, 1) := by decide +kernel
theorem dX6_pass_53 : decode cX6_pass 53 = .ok (.getfield 33, 3) := by decide +kernel
theorem dX6_pass_56 : decode cX6_pass 56 = .ok (.iload_n 1, 1) := by decide +kernel
theorem dX6_pass_57 : decode cX6_pass 57 = .ok (.bipush 16, 2) := by decide +kernel
theorem dX6_pass_59 : decode cX6_pass 59 = .ok (.imul, 1) := by decide +kernel
theorem dX6_pass_60 : decode cX6_pass 60 = .ok (.iload_n 2, 1) := by decide +kernel
theorem dX6_pass_61 : decode cX6_pass 61 = .ok (.iadd, 1) := by decide +kernel
theorem dX6_pass_62 : decode cX6_pass 62 = .ok (.dup2, 1) := by decide +kernel
theorem dX6_pass_63 : decode cX6_pass 63 = .ok (.iaload, 1) := by decide +kernel
theorem dX6_pass_64 : decode cX6_pass 64 = .ok (.iconst 1, 1) := by decide +kernel
theorem dX6_pass_65 : decode cX6_pass 65 = .ok (.iadd, 1) := by decide +kernel
theorem dX6_pass_66 : decode cX6_pass 66 = .ok (.iastore, 1) := by decide +kernel
theorem dX6_pass_67 : decode cX6_pass 67 = .ok (.return_, 1) := by decide +kernel
theorem dX6_noteSide_0 : decode cX6_noteSide 0 = .ok (.aload_n 0, 1) := by decide +kernel
theorem dX6_noteSide_1 : decode cX6_noteSide 1 = .ok (.getfield 30, 3) := by decide +kernel
theorem dX6_noteSide_4 : decode cX6_noteSide 4 = .ok (.iload_n 1, 1) := by decide +kernel
theorem dX6_noteSide_5 : decode cX6_noteSide 5 = .ok (.iaload, 1) := by decide +kernel
theorem dX6_noteSide_6 : decode cX6_noteSide 6 = .ok (.iload_n 2, 1) := by decide +kernel
theorem dX6_noteSide_7 : decode cX6_noteSide 7 = .ok (.if_icmp .ne 31, 3) := by decide +kernel
theorem dX6_noteSide_10 : decode cX6_noteSide 10 = .ok (.aload_n 0, 1) := by decide +kernel
theorem dX6_noteSide_11 : decode cX6_noteSide 11 = .ok (.getfield 27, 3) := by decide +kernel
theorem dX6_noteSide_14 : decode cX6_noteSide 14 = .ok (.iload_n 1, 1) := by decide +kernel
theorem dX6_noteSide_15 : decode cX6_noteSide 15 = .ok (.iaload, 1) := by decide +kernel
theorem dX6_noteSide_16 : decode cX6_noteSide 16 = .ok (.ifCond .ge 22, 3) := by decide +kernel
theorem dX6_noteSide_19 : decode cX6_noteSide 19 = .ok (.aload_n 0, 1) := by decide +kernel
theorem dX6_noteSide_20 : decode cX6_noteSide 20 = .ok (.getfield 27, 3) := by decide +kernel
theorem dX6_noteSide_23 : decode cX6_noteSide 23 = .ok (.iload_n 1, 1) := by decide +kernel
theorem dX6_noteSide_24 : decode cX6_noteSide 24 = .ok (.aload_n 0, 1) := by decide +kernel
theorem dX6_noteSide_25 : decode cX6_noteSide 25 = .ok (.getfield 21, 3) := by decide +kernel
theorem dX6_noteSide_28 : decode cX6_noteSide 28 = .ok (.iload_n 1, 1) := by decide +kernel
theorem dX6_noteSide_29 : decode cX6_noteSide 29 = .ok (.iaload, 1) := by decide +kernel
theorem dX6_noteSide_30 : decode cX6_noteSide 30 = .ok (.aload_n 0, 1) := by decide +kernel
theorem dX6_noteSide_31 : decode cX6_noteSide 31 = .ok (.getfield 24, 3) := by decide +kernel
theorem dX6_noteSide_34 : decode cX6_noteSide 34 = .ok (.iload_n 1, 1) := by decide +kernel
theorem dX6_noteSide_35 : decode cX6_noteSide 35 = .ok (.iaload, 1) := by decide +kernel
theorem dX6_noteSide_36 : decode cX6_noteSide 36 = .ok (.iadd, 1) := by decide +kernel
theorem dX6_noteSide_37 : decode cX6_noteSide 37 = .ok (.iastore, 1) := by decide +kernel
theorem dX6_noteSide_38 : decode cX6_noteSide 38 = .ok (.aload_n 0, 1) := by decide +kernel
theorem dX6_noteSide_39 : decode cX6_noteSide 39 = .ok (.getfield 30, 3) := by decide +kernel
theorem dX6_noteSide_42 : decode cX6_noteSide 42 = .ok (.iload_n 1, 1) := by decide +kernel
theorem dX6_noteSide_43 : decode cX6_noteSide 43 = .ok (.iload_n 2, 1) := by decide +kernel
theorem dX6_noteSide_44 : decode cX6_noteSide 44 = .ok (.iastore, 1) := by decide +kernel
theorem dX6_noteSide_45 : decode cX6_noteSide 45 = .ok (.return_, 1) := by decide +kernel
theorem dX6_haveCrossed_0 : decode cX6_haveCrossed 0 = .ok (.aload_n 0, 1) := by decide +kernel
theorem dX6_haveCrossed_1 : decode cX6_haveCrossed 1 = .ok (.getfield 33, 3) := by decide +kernel
theorem dX6_haveCrossed_4 : decode cX6_haveCrossed 4 = .ok (.iload_n 1, 1) := by decide +kernel
theorem dX6_haveCrossed_5 : decode cX6_haveCrossed 5 = .ok (.bipush 16, 2) := by decide +kernel
theorem dX6_haveCrossed_7 : decode cX6_haveCrossed 7 = .ok (.imul, 1) := by decide +kernel
theorem dX6_haveCrossed_8 : decode cX6_haveCrossed 8 = .ok (.iload_n 2, 1) := by decide +kernel
theorem dX6_haveCrossed_9 : decode cX6_haveCrossed 9 = .ok (.iadd, 1) := by decide +kernel
theorem dX6_haveCrossed_10 : decode cX6_haveCrossed 10 = .ok (.iaload, 1) := by decide +kernel
theorem dX6_haveCrossed_11 : decode cX6_haveCrossed 11 = .ok (.aload_n 0, 1) := by decide +kernel
theorem dX6_haveCrossed_12 : decode cX6_haveCrossed 12 = .ok (.getfield 33, 3) := by decide +kernel
theorem dX6_haveCrossed_15 : decode cX6_haveCrossed 15 = .ok (.iload_n 2, 1) := by decide +kernel
theorem dX6_haveCrossed_16 : decode cX6_haveCrossed 16 = .ok (.bipush 16, 2) := by decide +kernel
theorem dX6_haveCrossed_18 : decode cX6_haveCrossed 18 = .ok (.imul, 1) := by decide +kernel
theorem dX6_haveCrossed_19 : decode cX6_haveCrossed 19 = .ok (.iload_n 1, 1) := by decide +kernel
theorem dX6_haveCrossed_20 : decode cX6_haveCrossed 20 = .ok (.iadd, 1) := by decide +kernel
theorem dX6_haveCrossed_21 : decode cX6_haveCrossed 21 = .ok (.iaload, 1) := by decide +kernel
theorem dX6_haveCrossed_22 : decode cX6_haveCrossed 22 = .ok (.iadd, 1) := by decide +kernel
theorem dX6_haveCrossed_23 : decode cX6_haveCrossed 23 = .ok (.ifCond .le 7, 3) := by decide +kernel
theorem dX6_haveCrossed_26 : decode cX6_haveCrossed 26 = .ok (.iconst 1, 1) := by decide +kernel
theorem dX6_haveCrossed_27 : decode cX6_haveCrossed 27 = .ok (.goto 4, 3) := by decide +kernel
theorem dX6_haveCrossed_30 : decode cX6_haveCrossed 30 = .ok (.iconst 0, 1) := by decide +kernel
theorem dX6_haveCrossed_31 : decode cX6_haveCrossed 31 = .ok (.ireturn, 1) := by decide +kernel
theorem dX6_leastLacking_0 : decode cX6_leastLacking 0 = .ok (.iconst 0, 1) := by decide +kernel
theorem dX6_leastLacking_1 : decode cX6_leastLacking 1 = .ok (.istore_n 2, 1) := by decide +kernel
theorem dX6_leastLacking_2 : decode cX6_leastLacking 2 = .ok (.iload_n 2, 1) := by decide +kernel
theorem dX6_leastLacking_3 : decode cX6_leastLacking 3 = .ok (.bipush 16, 2) := by decide +kernel
theorem dX6_leastLacking_5 : decode cX6_leastLacking 5 = .ok (.if_icmp .ge 29, 3) := by decide +kernel
theorem dX6_leastLacking_8 : decode cX6_leastLacking 8 = .ok (.iload_n 2, 1) := by decide +kernel
theorem dX6_leastLacking_9 : decode cX6_leastLacking 9 = .ok (.aload_n 1, 1) := by decide +kernel
theorem dX6_leastLacking_10 : decode cX6_leastLacking 10 = .ok (.arraylength, 1) := by decide +kernel
theorem dX6_leastLacking_11 : decode cX6_leastLacking 11 = .ok (.if_icmp .ge 23, 3) := by decide +kernel
theorem dX6_leastLacking_14 : decode cX6_leastLacking 14 = .ok (.aload_n 0, 1) := by decide +kernel
theorem dX6_leastLacking_15 : decode cX6_leastLacking 15 = .ok (.getfield 18, 3) := by decide +kernel
theorem dX6_leastLacking_18 : decode cX6_leastLacking 18 = .ok (.iload_n 2, 1) := by decide +kernel
theorem dX6_leastLacking_19 : decode cX6_leastLacking 19 = .ok (.iaload, 1) := by decide +kernel
theorem dX6_leastLacking_20 : decode cX6_leastLacking 20 = .ok (.aload_n 1, 1) := by decide +kernel
theorem dX6_leastLacking_21 : decode cX6_leastLacking 21 = .ok (.iload_n 2, 1) := by decide +kernel
theorem dX6_leastLacking_22 : decode cX6_leastLacking 22 = .ok (.iaload, 1) := by decide +kernel
theorem dX6_leastLacking_23 : decode cX6_leastLacking 23 = .ok (.if_icmp .le 5, 3) := by decide +kernel
theorem dX6_leastLacking_26 : decode cX6_leastLacking 26 = .ok (.iload_n 2, 1) := by decide +kernel
theorem dX6_leastLacking_27 : decode cX6_leastLacking 27 = .ok (.ireturn, 1) := by decide +kernel
theorem dX6_leastLacking_28 : decode cX6_leastLacking 28 = .ok (.iinc 2 1, 3) := by decide +kernel
theorem dX6_leastLacking_31 : decode cX6_leastLacking 31 = .ok (.goto (-29), 3) := by decide +kernel
theorem dX6_leastLacking_34 : decode cX6_leastLacking 34 = .ok (.iconst (-1), 1) := by decide +kernel
theorem dX6_leastLacking_35 : decode cX6_leastLacking 35 = .ok (.ireturn, 1) := by decide +kernel
theorem dX6_countAtHome_0 : decode cX6_countAtHome 0 = .ok (.iconst 0, 1) := by decide +kernel
theorem dX6_countAtHome_1 : decode cX6_countAtHome 1 = .ok (.istore_n 2, 1) := by decide +kernel
theorem dX6_countAtHome_2 : decode cX6_countAtHome 2 = .ok (.iconst 0, 1) := by decide +kernel
theorem dX6_countAtHome_3 : decode cX6_countAtHome 3 = .ok (.istore_n 3, 1) := by decide +kernel
theorem dX6_countAtHome_4 : decode cX6_countAtHome 4 = .ok (.iload_n 3, 1) := by decide +kernel
theorem dX6_countAtHome_5 : decode cX6_countAtHome 5 = .ok (.iload_n 1, 1) := by decide +kernel
theorem dX6_countAtHome_6 : decode cX6_countAtHome 6 = .ok (.if_icmp .ge 28, 3) := by decide +kernel
theorem dX6_countAtHome_9 : decode cX6_countAtHome 9 = .ok (.iload_n 3, 1) := by decide +kernel
theorem dX6_countAtHome_10 : decode cX6_countAtHome 10 = .ok (.bipush 16, 2) := by decide +kernel
theorem dX6_countAtHome_12 : decode cX6_countAtHome 12 = .ok (.if_icmp .ge 22, 3) := by decide +kernel
theorem dX6_countAtHome_15 : decode cX6_countAtHome 15 = .ok (.aload_n 0, 1) := by decide +kernel
theorem dX6_countAtHome_16 : decode cX6_countAtHome 16 = .ok (.getfield 15, 3) := by decide +kernel
theorem dX6_countAtHome_19 : decode cX6_countAtHome 19 = .ok (.iload_n 3, 1) := by decide +kernel
theorem dX6_countAtHome_20 : decode cX6_countAtHome 20 = .ok (.iaload, 1) := by decide +kernel
theorem dX6_countAtHome_21 : decode cX6_countAtHome 21 = .ok (.iload_n 3, 1) := by decide +kernel
theorem dX6_countAtHome_22 : decode cX6_countAtHome 22 = .ok (.if_icmp .ne 6, 3) := by decide +kernel
theorem dX6_countAtHome_25 : decode cX6_countAtHome 25 = .ok (.iinc 2 1, 3) := by decide +kernel
theorem dX6_countAtHome_28 : decode cX6_countAtHome 28 = .ok (.iinc 3 1, 3) := by decide +kernel
theorem dX6_countAtHome_31 : decode cX6_countAtHome 31 = .ok (.goto (-27), 3) := by decide +kernel
theorem dX6_countAtHome_34 : decode cX6_countAtHome 34 = .ok (.iload_n 2, 1) := by decide +kernel
theorem dX6_countAtHome_35 : decode cX6_countAtHome 35 = .ok (.ireturn, 1) := by decide +kernel
theorem dX6_turnsOf_0 : decode cX6_turnsOf 0 = .ok (.iload_n 1, 1) := by decide +kernel
theorem dX6_turnsOf_1 : decode cX6_turnsOf 1 = .ok (.istore_n 2, 1) := by decide +kernel
theorem dX6_turnsOf_2 : decode cX6_turnsOf 2 = .ok (.iconst 1, 1) := by decide +kernel
theorem dX6_turnsOf_3 : decode cX6_turnsOf 3 = .ok (.istore_n 3, 1) := by decide +kernel
theorem dX6_turnsOf_4 : decode cX6_turnsOf 4 = .ok (.iload_n 3, 1) := by decide +kernel
theorem dX6_turnsOf_5 : decode cX6_turnsOf 5 = .ok (.bipush 16, 2) := by decide +kernel
theorem dX6_turnsOf_7 : decode cX6_turnsOf 7 = .ok (.if_icmp .gt 23, 3) := by decide +kernel
theorem dX6_turnsOf_10 : decode cX6_turnsOf 10 = .ok (.aload_n 0, 1) := by decide +kernel
theorem dX6_turnsOf_11 : decode cX6_turnsOf 11 = .ok (.getfield 15, 3) := by decide +kernel
theorem dX6_turnsOf_14 : decode cX6_turnsOf 14 = .ok (.iload_n 2, 1) := by decide +kernel
theorem dX6_turnsOf_15 : decode cX6_turnsOf 15 = .ok (.iaload, 1) := by decide +kernel
theorem dX6_turnsOf_16 : decode cX6_turnsOf 16 = .ok (.istore_n 2, 1) := by decide +kernel
theorem dX6_turnsOf_17 : decode cX6_turnsOf 17 = .ok (.iload_n 2, 1) := by decide +kernel
theorem dX6_turnsOf_18 : decode cX6_turnsOf 18 = .ok (.iload_n 1, 1) := by decide +kernel
theorem dX6_turnsOf_19 : decode cX6_turnsOf 19 = .ok (.if_icmp .ne 5, 3) := by decide +kernel
theorem dX6_turnsOf_22 : decode cX6_turnsOf 22 = .ok (.iload_n 3, 1) := by decide +kernel
theorem dX6_turnsOf_23 : decode cX6_turnsOf 23 = .ok (.ireturn, 1) := by decide +kernel
theorem dX6_turnsOf_24 : decode cX6_turnsOf 24 = .ok (.iinc 3 1, 3) := by decide +kernel
theorem dX6_turnsOf_27 : decode cX6_turnsOf 27 = .ok (.goto (-23), 3) := by decide +kernel
theorem dX6_turnsOf_30 : decode cX6_turnsOf 30 = .ok (.bipush 16, 2) := by decide +kernel
theorem dX6_turnsOf_32 : decode cX6_turnsOf 32 = .ok (.ireturn, 1) := by decide +kernel
set_option maxRecDepth 20000 in
theorem ggX6_commonTurns_X6_turnsOf : GoodIn wsX6_commonTurns wsX6_turnsOf := goodIn_r _ [5, 6, 10, 11, 12, 13, 14, 15, 16, 17, 18, 19] (by decide +kernel) (by decide +kernel)
set_option maxRecDepth 20000 in
theorem gX6_commonTurns_X6_turnsOf : GoodIn wsX6_commonTurns (wsV RX6 80 RX6 yX6_turnsOf wsX6_turnsOf) := goodIn_app (goodIn_of _ (by decide +kernel)) ggX6_commonTurns_X6_turnsOf
set_option maxRecDepth 20000 in
theorem ggX6_commonTurns_X6_leastCommonMultiple : GoodIn wsX6_commonTurns wsX6_leastCommonMultiple := goodIn_r _ [9] (by decide +kernel) (by decide +kernel)
set_option maxRecDepth 20000 in
theorem gX6_commonTurns_X6_leastCommonMultiple : GoodIn wsX6_commonTurns (va_wsS RX6 84 yX6_leastCommonMultiple wsX6_leastCommonMultiple) := goodIn_app (goodIn_of _ (by decide +kernel)) ggX6_commonTurns_X6_leastCommonMultiple
theorem dX6_commonTurns_0 : decode cX6_commonTurns 0 = .ok (.lconst 1, 1) := by decide +kernel
theorem dX6_commonTurns_1 : decode cX6_commonTurns 1 = .ok (.lstore_n 1, 1) := by decide +kernel
theorem dX6_commonTurns_2 : decode cX6_commonTurns 2 = .ok (.iconst 0, 1) := by decide +kernel
theorem dX6_commonTurns_3 : decode cX6_commonTurns 3 = .ok (.istore_n 3, 1) := by decide +kernel
theorem dX6_commonTurns_4 : decode cX6_commonTurns 4 = .ok (.iload_n 3, 1) := by decide +kernel
theorem dX6_commonTurns_5 : decode cX6_commonTurns 5 = .ok (.bipush 16, 2) := by decide +kernel
theorem dX6_commonTurns_7 : decode cX6_commonTurns 7 = .ok (.if_icmp .ge 19, 3) := by decide +kernel
theorem dX6_commonTurns_10 : decode cX6_commonTurns 10 = .ok (.lload_n 1, 1) := by decide +kernel
theorem dX6_commonTurns_11 : decode cX6_commonTurns 11 = .ok (.aload_n 0, 1) := by decide +kernel
theorem dX6_commonTurns_12 : decode cX6_commonTurns 12 = .ok (.iload_n 3, 1) := by decide +kernel
theorem dX6_commonTurns_13 : decode cX6_commonTurns 13 = .ok (.invokevirtual 80, 3) := by decide +kernel
theorem dX6_commonTurns_16 : decode cX6_commonTurns 16 = .ok (.invokestatic 84, 3) := by decide +kernel
theorem dX6_commonTurns_19 : decode cX6_commonTurns 19 = .ok (.lstore_n 1, 1) := by decide +kernel
theorem dX6_commonTurns_20 : decode cX6_commonTurns 20 = .ok (.iinc 3 1, 3) := by decide +kernel
theorem dX6_commonTurns_23 : decode cX6_commonTurns 23 = .ok (.goto (-19), 3) := by decide +kernel
theorem dX6_commonTurns_26 : decode cX6_commonTurns 26 = .ok (.lload_n 1, 1) := by decide +kernel
theorem dX6_commonTurns_27 : decode cX6_commonTurns 27 = .ok (.lreturn, 1) := by decide +kernel
theorem dX6_leastCommonMultiple_0 : decode cX6_leastCommonMultiple 0 = .ok (.iconst 1, 1) := by decide +kernel
theorem dX6_leastCommonMultiple_1 : decode cX6_leastCommonMultiple 1 = .ok (.istore_n 3, 1) := by decide +kernel
theorem dX6_leastCommonMultiple_2 : decode cX6_leastCommonMultiple 2 = .ok (.iload_n 3, 1) := by decide +kernel
theorem dX6_leastCommonMultiple_3 : decode cX6_leastCommonMultiple 3 = .ok (.iload_n 2, 1) := by decide +kernel
theorem dX6_leastCommonMultiple_4 : decode cX6_leastCommonMultiple 4 = .ok (.if_icmp .ge 26, 3) := by decide +kernel
theorem dX6_leastCommonMultiple_7 : decode cX6_leastCommonMultiple 7 = .ok (.lload_n 0, 1) := by decide +kernel
theorem dX6_leastCommonMultiple_8 : decode cX6_leastCommonMultiple 8 = .ok (.iload_n 3, 1) := by decide +kernel
theorem dX6_leastCommonMultiple_9 : decode cX6_leastCommonMultiple 9 = .ok (.i2l, 1) := by decide +kernel
theorem dX6_leastCommonMultiple_10 : decode cX6_leastCommonMultiple 10 = .ok (.lmul, 1) := by decide +kernel
theorem dX6_leastCommonMultiple_11 : decode cX6_leastCommonMultiple 11 = .ok (.iload_n 2, 1) := by decide +kernel
theorem dX6_leastCommonMultiple_12 : decode cX6_leastCommonMultiple 12 = .ok (.i2l, 1) := by decide +kernel
theorem dX6_leastCommonMultiple_13 : decode cX6_leastCommonMultiple 13 = .ok (.lrem, 1) := by decide +kernel
theorem dX6_leastCommonMultiple_14 : decode cX6_leastCommonMultiple 14 = .ok (.lconst 0, 1) := by decide +kernel
theorem dX6_leastCommonMultiple_15 : decode cX6_leastCommonMultiple 15 = .ok (.lcmp, 1) := by decide +kernel
theorem dX6_leastCommonMultiple_16 : decode cX6_leastCommonMultiple 16 = .ok (.ifCond .ne 8, 3) := by decide +kernel
theorem dX6_leastCommonMultiple_19 : decode cX6_leastCommonMultiple 19 = .ok (.lload_n 0, 1) := by decide +kernel
theorem dX6_leastCommonMultiple_20 : decode cX6_leastCommonMultiple 20 = .ok (.iload_n 3, 1) := by decide +kernel
theorem dX6_leastCommonMultiple_21 : decode cX6_leastCommonMultiple 21 = .ok (.i2l, 1) := by decide +kernel
theorem dX6_leastCommonMultiple_22 : decode cX6_leastCommonMultiple 22 = .ok (.lmul, 1) := by decide +kernel
theorem dX6_leastCommonMultiple_23 : decode cX6_leastCommonMultiple 23 = .ok (.lreturn, 1) := by decide +kernel
theorem dX6_leastCommonMultiple_24 : decode cX6_leastCommonMultiple 24 = .ok (.iinc 3 1, 3) := by decide +kernel
theorem dX6_leastCommonMultiple_27 : decode cX6_leastCommonMultiple 27 = .ok (.goto (-25), 3) := by decide +kernel
theorem dX6_leastCommonMultiple_30 : decode cX6_leastCommonMultiple 30 = .ok (.lload_n 0, 1) := by decide +kernel
theorem dX6_leastCommonMultiple_31 : decode cX6_leastCommonMultiple 31 = .ok (.iload_n 2, 1) := by decide +kernel
theorem dX6_leastCommonMultiple_32 : decode cX6_leastCommonMultiple 32 = .ok (.i2l, 1) := by decide +kernel
theorem dX6_leastCommonMultiple_33 : decode cX6_leastCommonMultiple 33 = .ok (.lmul, 1) := by decide +kernel
theorem dX6_leastCommonMultiple_34 : decode cX6_leastCommonMultiple 34 = .ok (.lreturn, 1) := by decide +kernel
set_option maxRecDepth 20000 in
theorem ggX7_init_X2_init : GoodIn wsX7_init wsX2_init := goodIn_r _ [41, 42, 2, 3, 43, 35, 44, 45, 46, 47, 48, 49, 50, 51, 52, 53, 54, 55, 6, 56, 57, 58, 59, 60, 61, 62, 63, 64, 65, 66, 67, 68, 69, 70, 71, 72, 73, 74, 75, 76, 77, 78, 79, 80, 81, 82, 83, 84, 85, 86, 87, 88, 89, 90, 91, 92, 93, 94, 95, 96, 97, 98, 99, 100, 101, 102, 103, 104, 105, 167, 168, 169, 170, 171, 172, 173] (by decide +kernel) (by decide +kernel)
set_option maxRecDepth 20000 in
theorem gX7_init_X2_init : GoodIn wsX7_init (wsX2_init) := ggX7_init_X2_init
set_option maxRecDepth 20000 in
theorem ggX7_init_X1_init : GoodIn wsX7_init wsX1_init := goodIn_r _ [108, 109, 2, 3, 110, 35, 111, 112, 113, 51, 52, 53, 187, 188, 189] (by decide +kernel) (by decide +kernel)
set_option maxRecDepth 20000 in
theorem gX7_init_X1_init : GoodIn wsX7_init (wsX1_init) := ggX7_init_X1_init
set_option maxRecDepth 20000 in
theorem ggX7_init_X0_init : GoodIn wsX7_init wsX0_init := goodIn_r _ [115, 116, 2, 3, 117, 118, 35, 119, 120, 121, 122, 123, 124, 125, 190, 191, 192, 193, 194, 195, 196, 197] (by decide +kernel) (by decide +kernel)
set_option maxRecDepth 20000 in
theorem gX7_init_X0_init_n32 : GoodIn wsX7_init (wsX0_init) := ggX7_init_X0_init
set_option maxRecDepth 20000 in
theorem ggX7_init_X5_init : GoodIn wsX7_init wsX5_init := goodIn_r _ [127, 128, 2, 3, 129, 123, 130, 35, 131, 132, 133, 134, 198, 199, 200, 201, 202, 203] (by decide +kernel) (by decide +kernel)
set_option maxRecDepth 20000 in
theorem gX7_init_X5_init_n39 : GoodIn wsX7_init (wsX5_init) := ggX7_init_X5_init
set_option maxRecDepth 20000 in
theorem ggX7_init_X6_init : GoodIn wsX7_init wsX6_init := goodIn_r _ [137, 138, 2, 3, 35, 139, 140, 141, 142, 143, 144, 145, 146, 147, 10, 11, 148, 149, 150, 107, 108, 109, 110, 111, 112, 113, 51, 52, 53, 151, 152, 153, 24, 154, 155, 204, 205, 206, 207, 208, 209, 210, 211, 212, 213, 187, 188, 189] (by decide +kernel) (by decide +kernel)
set_option maxRecDepth 20000 in
theorem gX7_init_X6_init : GoodIn wsX7_init (wsX6_init) := ggX7_init_X6_init
set_option maxRecDepth 20000 in
theorem ggX7_init_X4_init : GoodIn wsX7_init wsX4_init := goodIn_r _ [157, 158, 2, 3, 35, 159, 160, 214, 215] (by decide +kernel) (by decide +kernel)
set_option maxRecDepth 20000 in
theorem gX7_init_X4_init_n64 : GoodIn wsX7_init (wsX4_init) := ggX7_init_X4_init
set_option maxRecDepth 20000 in
theorem ggX7_init_X3_init : GoodIn wsX7_init wsX3_init := goodIn_r _ [162, 163, 2, 3, 164, 165, 123, 166, 216, 217, 218] (by decide +kernel) (by decide +kernel)
set_option maxRecDepth 20000 in
theorem gX7_init_X3_init_n79 : GoodIn wsX7_init (wsX3_init) := ggX7_init_X3_init
theorem dX7_init_0 : decode cX7_init 0 = .ok (.aload_n 0, 1) := by decide +kernel
theorem dX7_init_1 : decode cX7_init 1 = .ok (.invokespecial 3, 3) := by decide +kernel
theorem dX7_init_4 : decode cX7_init 4 = .ok (.aload_n 0, 1) := by decide +kernel
theorem dX7_init_5 : decode cX7_init 5 = .ok (.new 9, 3) := by decide +kernel
theorem dX7_init_8 : decode cX7_init 8 = .ok (.dup, 1) := by decide +kernel
theorem dX7_init_9 : decode cX7_init 9 = .ok (.invokespecial 11, 3) := by decide +kernel
theorem dX7_init_12 : decode cX7_init 12 = .ok (.putfield 12, 3) := by decide +kernel
theorem dX7_init_15 : decode cX7_init 15 = .ok (.aload_n 0, 1) := by decide +kernel
theorem dX7_init_16 : decode cX7_init 16 = .ok (.new 9, 3) := by decide +kernel
theorem dX7_init_19 : decode cX7_init 19 = .ok (.dup, 1) := by decide +kernel
theorem dX7_init_20 : decode cX7_init 20 = .ok (.invokespecial 11, 3) := by decide +kernel
theorem dX7_init_23 : decode cX7_init 23 = .ok (.putfield 16, 3) := by decide +kernel
theorem dX7_init_26 : decode cX7_init 26 = .ok (.aload_n 0, 1) := by decide +kernel
theorem dX7_init_27 : decode cX7_init 27 = .ok (.new 19, 3) := by decide +kernel
theorem dX7_init_30 : decode cX7_init 30 = .ok (.dup, 1) := by decide +kernel
theorem dX7_init_31 : decode cX7_init 31 = .ok (.invokespecial 21, 3) := by decide +kernel
theorem dX7_init_34 : decode cX7_init 34 = .ok (.putfield 22, 3) := by decide +kernel
theorem dX7_init_37 : decode cX7_init 37 = .ok (.aload_n 0, 1) := by decide +kernel
theorem dX7_init_38 : decode cX7_init 38 = .ok (.iconst 0, 1) := by decide +kernel
theorem dX7_init_39 : decode cX7_init 39 = .ok (.putfield 26, 3) := by decide +kernel
theorem dX7_init_42 : decode cX7_init 42 = .ok (.aload_n 0, 1) := by decide +kernel
theorem dX7_init_43 : decode cX7_init 43 = .ok (.new 30, 3) := by decide +kernel
theorem dX7_init_46 : decode cX7_init 46 = .ok (.dup, 1) := by decide +kernel
theorem dX7_init_47 : decode cX7_init 47 = .ok (.invokespecial 32, 3) := by decide +kernel
theorem dX7_init_50 : decode cX7_init 50 = .ok (.putfield 33, 3) := by decide +kernel
theorem dX7_init_53 : decode cX7_init 53 = .ok (.aload_n 0, 1) := by decide +kernel
theorem dX7_init_54 : decode cX7_init 54 = .ok (.new 37, 3) := by decide +kernel
theorem dX7_init_57 : decode cX7_init 57 = .ok (.dup, 1) := by decide +kernel
theorem dX7_init_58 : decode cX7_init 58 = .ok (.invokespecial 39, 3) := by decide +kernel
theorem dX7_init_61 : decode cX7_init 61 = .ok (.putfield 40, 3) := by decide +kernel
theorem dX7_init_64 : decode cX7_init 64 = .ok (.aload_n 0, 1) := by decide +kernel
theorem dX7_init_65 : decode cX7_init 65 = .ok (.new 44, 3) := by decide +kernel
theorem dX7_init_68 : decode cX7_init 68 = .ok (.dup, 1) := by decide +kernel
theorem dX7_init_69 : decode cX7_init 69 = .ok (.invokespecial 46, 3) := by decide +kernel
theorem dX7_init_72 : decode cX7_init 72 = .ok (.putfield 47, 3) := by decide +kernel
theorem dX7_init_75 : decode cX7_init 75 = .ok (.aload_n 0, 1) := by decide +kernel
theorem dX7_init_76 : decode cX7_init 76 = .ok (.new 44, 3) := by decide +kernel
theorem dX7_init_79 : decode cX7_init 79 = .ok (.dup, 1) := by decide +kernel
theorem dX7_init_80 : decode cX7_init 80 = .ok (.invokespecial 46, 3) := by decide +kernel
theorem dX7_init_83 : decode cX7_init 83 = .ok (.putfield 51, 3) := by decide +kernel
theorem dX7_init_86 : decode cX7_init 86 = .ok (.aload_n 0, 1) := by decide +kernel
theorem dX7_init_87 : decode cX7_init 87 = .ok (.iconst (-1), 1) := by decide +kernel
theorem dX7_init_88 : decode cX7_init 88 = .ok (.putfield 54, 3) := by decide +kernel
theorem dX7_init_91 : decode cX7_init 91 = .ok (.aload_n 0, 1) := by decide +kernel
theorem dX7_init_92 : decode cX7_init 92 = .ok (.lconst 0, 1) := by decide +kernel
theorem dX7_init_93 : decode cX7_init 93 = .ok (.putfield 58, 3) := by decide +kernel
theorem dX7_init_96 : decode cX7_init 96 = .ok (.aload_n 0, 1) := by decide +kernel
theorem dX7_init_97 : decode cX7_init 97 = .ok (.new 62, 3) := by decide +kernel
theorem dX7_init_100 : decode cX7_init 100 = .ok (.dup, 1) := by decide +kernel
theorem dX7_init_101 : decode cX7_init 101 = .ok (.invokespecial 64, 3) := by decide +kernel
theorem dX7_init_104 : decode cX7_init 104 = .ok (.putfield 65, 3) := by decide +kernel
theorem dX7_init_107 : decode cX7_init 107 = .ok (.aload_n 0, 1) := by decide +kernel
theorem dX7_init_108 : decode cX7_init 108 = .ok (.iconst 4, 1) := by decide +kernel
theorem dX7_init_109 : decode cX7_init 109 = .ok (.anewarray 69, 3) := by decide +kernel
theorem dX7_init_112 : decode cX7_init 112 = .ok (.putfield 71, 3) := by decide +kernel
theorem dX7_init_115 : decode cX7_init 115 = .ok (.aload_n 0, 1) := by decide +kernel
theorem dX7_init_116 : decode cX7_init 116 = .ok (.bipush 8, 2) := by decide +kernel
theorem dX7_init_118 : decode cX7_init 118 = .ok (.newarray .int, 2) := by decide +kernel
theorem dX7_init_120 : decode cX7_init 120 = .ok (.putfield 75, 3) := by decide +kernel
theorem dX7_init_123 : decode cX7_init 123 = .ok (.iconst 0, 1) := by decide +kernel
theorem dX7_init_124 : decode cX7_init 124 = .ok (.istore_n 1, 1) := by decide +kernel
theorem dX7_init_125 : decode cX7_init 125 = .ok (.iload_n 1, 1) := by decide +kernel
theorem dX7_init_126 : decode cX7_init 126 = .ok (.iconst 4, 1) := by decide +kernel
theorem dX7_init_127 : decode cX7_init 127 = .ok (.if_icmp .ge 22, 3) := by decide +kernel
theorem dX7_init_130 : decode cX7_init 130 = .ok (.aload_n 0, 1) := by decide +kernel
theorem dX7_init_131 : decode cX7_init 131 = .ok (.getfield 71, 3) := by decide +kernel
theorem dX7_init_134 : decode cX7_init 134 = .ok (.iload_n 1, 1) := by decide +kernel
theorem dX7_init_135 : decode cX7_init 135 = .ok (.new 69, 3) := by decide +kernel
theorem dX7_init_138 : decode cX7_init 138 = .ok (.dup, 1) := by decide +kernel
theorem dX7_init_139 : decode cX7_init 139 = .ok (.invokespecial 79, 3) := by decide +kernel
theorem dX7_init_142 : decode cX7_init 142 = .ok (.aastore, 1) := by decide +kernel
theorem dX7_init_143 : decode cX7_init 143 = .ok (.iinc 1 1, 3) := by decide +kernel
theorem dX7_init_146 : decode cX7_init 146 = .ok (.goto (-21), 3) := by decide +kernel
theorem dX7_init_149 : decode cX7_init 149 = .ok (.return_, 1) := by decide +kernel
set_option maxRecDepth 20000 in
theorem ggX7_pairs_X7_fail : GoodIn wsX7_pairs wsX7_fail := goodIn_r _ [8, 9, 10, 84, 85, 86, 87, 88, 89, 90, 91, 92, 93, 94, 95, 96] (by decide +kernel) (by decide +kernel)
set_option maxRecDepth 20000 in
theorem gX7_pairs_X7_fail : GoodIn wsX7_pairs (wsV RX7 80 RX7 yX7_fail wsX7_fail) := goodIn_app (goodIn_of _ (by decide +kernel)) ggX7_pairs_X7_fail
set_option maxRecDepth 20000 in
theorem ggX7_pairs_J7_fill_53178 : GoodIn wsX7_pairs wsJ7_fill_53178 := goodIn_r _ [14] (by decide +kernel) (by decide +kernel)
set_option maxRecDepth 20000 in
theorem gX7_pairs_J7_fill_53178 : GoodIn wsX7_pairs (va_wsS RX7 90 yJ7_fill_53178 wsJ7_fill_53178) := goodIn_app (goodIn_of _ (by decide +kernel)) ggX7_pairs_J7_fill_53178
set_option maxRecDepth 20000 in
theorem ggX7_pairs_X7_beginAnew : GoodIn wsX7_pairs wsX7_beginAnew := goodIn_r _ [18, 1, 19, 20, 21, 22, 23, 24, 25, 26, 27, 28, 29, 30, 31, 32, 33, 34, 35, 36, 37, 38, 39, 40, 41, 12, 13, 14, 42, 43, 44, 45, 46, 47, 48, 49, 50, 51, 52, 53, 7, 54, 55, 56, 57, 58, 59, 60, 61, 62, 63, 64, 65, 66, 67, 68, 69, 70, 71, 72, 73, 74, 75, 76, 77, 78, 79, 80, 81, 82, 83, 84, 85, 86, 87, 88, 89, 90, 91, 92, 93, 94, 95, 96, 97, 98, 99, 100, 101, 102, 103, 104, 105, 106, 107, 108, 109, 110, 111, 112, 113, 114, 115, 116, 117, 118, 119, 120, 121, 122, 123, 124, 125, 126, 127, 128, 129, 130] (by decide +kernel) (by decide +kernel)
set_option maxRecDepth 20000 in
theorem gX7_pairs_X7_beginAnew : GoodIn wsX7_pairs (wsV RX7 96 RX7 yX7_beginAnew wsX7_beginAnew) := goodIn_app (goodIn_of _ (by decide +kernel)) ggX7_pairs_X7_beginAnew
theorem dX7_pairs_0 : decode cX7_pairs 0 = .ok (.iload_n 1, 1) := by decide +kernel
theorem dX7_pairs_1 : decode cX7_pairs 1 = .ok (.iconst 2, 1) := by decide +kernel
theorem dX7_pairs_2 : decode cX7_pairs 2 = .ok (.if_icmp .lt 9, 3) := by decide +kernel
theorem dX7_pairs_5 : decode cX7_pairs 5 = .ok (.iload_n 1, 1) := by decide +kernel
theorem dX7_pairs_6 : decode cX7_pairs 6 = .ok (.bipush 8, 2) := by decide +kernel
theorem dX7_pairs_8 : decode cX7_pairs 8 = .ok (.if_icmp .le 9, 3) := by decide +kernel
theorem dX7_pairs_11 : decode cX7_pairs 11 = .ok (.aload_n 0, 1) := by decide +kernel
theorem dX7_pairs_12 : decode cX7_pairs 12 = .ok (.iconst 1, 1) := by decide +kernel
theorem dX7_pairs_13 : decode cX7_pairs 13 = .ok (.invokevirtual 80, 3) := by decide +kernel
theorem dX7_pairs_16 : decode cX7_pairs 16 = .ok (.ireturn, 1) := by decide +kernel
theorem dX7_pairs_17 : decode cX7_pairs 17 = .ok (.aload_n 0, 1) := by decide +kernel
theorem dX7_pairs_18 : decode cX7_pairs 18 = .ok (.getfield 12, 3) := by decide +kernel
theorem dX7_pairs_21 : decode cX7_pairs 21 = .ok (.getfield 84, 3) := by decide +kernel
theorem dX7_pairs_24 : decode cX7_pairs 24 = .ok (.istore_n 2, 1) := by decide +kernel
theorem dX7_pairs_25 : decode cX7_pairs 25 = .ok (.aload_n 0, 1) := by decide +kernel
theorem dX7_pairs_26 : decode cX7_pairs 26 = .ok (.getfield 12, 3) := by decide +kernel
theorem dX7_pairs_29 : decode cX7_pairs 29 = .ok (.iload_n 1, 1) := by decide +kernel
theorem dX7_pairs_30 : decode cX7_pairs 30 = .ok (.putfield 84, 3) := by decide +kernel
theorem dX7_pairs_33 : decode cX7_pairs 33 = .ok (.aload_n 0, 1) := by decide +kernel
theorem dX7_pairs_34 : decode cX7_pairs 34 = .ok (.getfield 12, 3) := by decide +kernel
theorem dX7_pairs_37 : decode cX7_pairs 37 = .ok (.getfield 87, 3) := by decide +kernel
theorem dX7_pairs_40 : decode cX7_pairs 40 = .ok (.iconst (-1), 1) := by decide +kernel
theorem dX7_pairs_41 : decode cX7_pairs 41 = .ok (.invokestatic 90, 3) := by decide +kernel
theorem dX7_pairs_44 : decode cX7_pairs 44 = .ok (.aload_n 0, 1) := by decide +kernel
theorem dX7_pairs_45 : decode cX7_pairs 45 = .ok (.invokevirtual 96, 3) := by decide +kernel
theorem dX7_pairs_48 : decode cX7_pairs 48 = .ok (.iload_n 2, 1) := by decide +kernel
theorem dX7_pairs_49 : decode cX7_pairs 49 = .ok (.ireturn, 1) := by decide +kernel
set_option maxRecDepth 20000 in
theorem ggX7_lay_X7_isCell : GoodIn wsX7_lay wsX7_isCell := goodIn_r _ [7, 1, 8, 91, 92, 93, 94, 95, 96, 97, 98, 99, 100, 101, 102, 103, 104, 105, 106, 107, 108, 109, 110] (by decide +kernel) (by decide +kernel)
set_option maxRecDepth 20000 in
theorem gX7_lay_X7_isCell : GoodIn wsX7_lay (wsV RX7 99 RX7 yX7_isCell wsX7_isCell) := goodIn_app (goodIn_of _ (by decide +kernel)) ggX7_lay_X7_isCell
set_option maxRecDepth 20000 in
theorem ggX7_lay_X7_fail : GoodIn wsX7_lay wsX7_fail := goodIn_r _ [12, 13, 14, 91, 92, 93, 94, 95, 96, 97, 98, 99, 100, 101, 102, 103] (by decide +kernel) (by decide +kernel)
set_option maxRecDepth 20000 in
theorem gX7_lay_X7_fail : GoodIn wsX7_lay (wsV RX7 80 RX7 yX7_fail wsX7_fail) := goodIn_app (goodIn_of _ (by decide +kernel)) ggX7_lay_X7_fail
set_option maxRecDepth 20000 in
theorem ggX7_lay_X7_holds : GoodIn wsX7_lay wsX7_holds := goodIn_r _ [18, 1, 2, 3, 4, 5, 6, 7, 8, 91, 92, 93, 94, 95, 96, 97, 98, 99, 100, 101, 102, 103, 104, 105, 106, 107, 108, 109, 110] (by decide +kernel) (by decide +kernel)
set_option maxRecDepth 20000 in
theorem gX7_lay_X7_holds : GoodIn wsX7_lay (wsV RX7 103 RX7 yX7_holds wsX7_holds) := goodIn_app (goodIn_of _ (by decide +kernel)) ggX7_lay_X7_holds
set_option maxRecDepth 20000 in
theorem ggX7_lay_X7_beginAnew : GoodIn wsX7_lay wsX7_beginAnew := goodIn_r _ [22, 1, 23, 24, 25, 26, 27, 28, 29, 30, 31, 32, 33, 34, 35, 36, 37, 38, 39, 40, 41, 42, 43, 44, 45, 46, 47, 48, 49, 50, 51, 52, 53, 54, 55, 56, 57, 58, 59, 60, 6, 61, 62, 63, 64, 65, 66, 67, 68, 69, 70, 71, 72, 73, 74, 75, 76, 77, 78, 79, 80, 81, 82, 83, 84, 85, 86, 87, 88, 89, 90, 91, 92, 93, 94, 95, 96, 97, 98, 99, 100, 101, 102, 103, 104, 105, 106, 107, 108, 109, 110, 111, 112, 113, 114, 115, 116, 117, 118, 119, 120, 121, 122, 123, 124, 125, 126, 127, 128, 129, 130, 131, 132, 133, 134, 135, 136, 137] (by decide +kernel) (by decide +kernel)
set_option maxRecDepth 20000 in
theorem gX7_lay_X7_beginAnew : GoodIn wsX7_lay (wsV RX7 96 RX7 yX7_beginAnew wsX7_beginAnew) := goodIn_app (goodIn_of _ (by decide +kernel)) ggX7_lay_X7_beginAnew
theorem dX7_lay_0 : decode cX7_lay 0 = .ok (.aload_n 0, 1) := by decide +kernel
theorem dX7_lay_1 : decode cX7_lay 1 = .ok (.iload_n 1, 1) := by decide +kernel
theorem dX7_lay_2 : decode cX7_lay 2 = .ok (.iload_n 2, 1) := by decide +kernel
theorem dX7_lay_3 : decode cX7_lay 3 = .ok (.invokevirtual 99, 3) := by decide +kernel
theorem dX7_lay_6 : decode cX7_lay 6 = .ok (.ifCond .eq 14, 3) := by decide +kernel
theorem dX7_lay_9 : decode cX7_lay 9 = .ok (.iload_n 3, 1) := by decide +kernel
theorem dX7_lay_10 : decode cX7_lay 10 = .ok (.iconst (-1), 1) := by decide +kernel
theorem dX7_lay_11 : decode cX7_lay 11 = .ok (.if_icmp .lt 9, 3) := by decide +kernel
theorem dX7_lay_14 : decode cX7_lay 14 = .ok (.iload_n 3, 1) := by decide +kernel
theorem dX7_lay_15 : decode cX7_lay 15 = .ok (.bipush 6, 2) := by decide +kernel
theorem dX7_lay_17 : decode cX7_lay 17 = .ok (.if_icmp .lt 9, 3) := by decide +kernel
theorem dX7_lay_20 : decode cX7_lay 20 = .ok (.aload_n 0, 1) := by decide +kernel
theorem dX7_lay_21 : decode cX7_lay 21 = .ok (.iconst 1, 1) := by decide +kernel
theorem dX7_lay_22 : decode cX7_lay 22 = .ok (.invokevirtual 80, 3) := by decide +kernel
theorem dX7_lay_25 : decode cX7_lay 25 = .ok (.ireturn, 1) := by decide +kernel
theorem dX7_lay_26 : decode cX7_lay 26 = .ok (.iload_n 3, 1) := by decide +kernel
theorem dX7_lay_27 : decode cX7_lay 27 = .ok (.iconst (-1), 1) := by decide +kernel
theorem dX7_lay_28 : decode cX7_lay 28 = .ok (.if_icmp .eq 31, 3) := by decide +kernel
theorem dX7_lay_31 : decode cX7_lay 31 = .ok (.aload_n 0, 1) := by decide +kernel
theorem dX7_lay_32 : decode cX7_lay 32 = .ok (.iload_n 1, 1) := by decide +kernel
theorem dX7_lay_33 : decode cX7_lay 33 = .ok (.iload_n 2, 1) := by decide +kernel
theorem dX7_lay_34 : decode cX7_lay 34 = .ok (.iconst 1, 1) := by decide +kernel
theorem dX7_lay_35 : decode cX7_lay 35 = .ok (.isub, 1) := by decide +kernel
theorem dX7_lay_36 : decode cX7_lay 36 = .ok (.invokevirtual 103, 3) := by decide +kernel
theorem dX7_lay_39 : decode cX7_lay 39 = .ok (.ifCond .ne 14, 3) := by decide +kernel
theorem dX7_lay_42 : decode cX7_lay 42 = .ok (.aload_n 0, 1) := by decide +kernel
theorem dX7_lay_43 : decode cX7_lay 43 = .ok (.iload_n 1, 1) := by decide +kernel
theorem dX7_lay_44 : decode cX7_lay 44 = .ok (.iload_n 2, 1) := by decide +kernel
theorem dX7_lay_45 : decode cX7_lay 45 = .ok (.iconst 1, 1) := by decide +kernel
theorem dX7_lay_46 : decode cX7_lay 46 = .ok (.iadd, 1) := by decide +kernel
theorem dX7_lay_47 : decode cX7_lay 47 = .ok (.invokevirtual 103, 3) := by decide +kernel
theorem dX7_lay_50 : decode cX7_lay 50 = .ok (.ifCond .eq 9, 3) := by decide +kernel
theorem dX7_lay_53 : decode cX7_lay 53 = .ok (.aload_n 0, 1) := by decide +kernel
theorem dX7_lay_54 : decode cX7_lay 54 = .ok (.iconst 3, 1) := by decide +kernel
theorem dX7_lay_55 : decode cX7_lay 55 = .ok (.invokevirtual 80, 3) := by decide +kernel
theorem dX7_lay_58 : decode cX7_lay 58 = .ok (.ireturn, 1) := by decide +kernel
theorem dX7_lay_59 : decode cX7_lay 59 = .ok (.aload_n 0, 1) := by decide +kernel
theorem dX7_lay_60 : decode cX7_lay 60 = .ok (.getfield 12, 3) := by decide +kernel
theorem dX7_lay_63 : decode cX7_lay 63 = .ok (.getfield 87, 3) := by decide +kernel
theorem dX7_lay_66 : decode cX7_lay 66 = .ok (.iload_n 1, 1) := by decide +kernel
theorem dX7_lay_67 : decode cX7_lay 67 = .ok (.bipush 7, 2) := by decide +kernel
theorem dX7_lay_69 : decode cX7_lay 69 = .ok (.imul, 1) := by decide +kernel
theorem dX7_lay_70 : decode cX7_lay 70 = .ok (.iload_n 2, 1) := by decide +kernel
theorem dX7_lay_71 : decode cX7_lay 71 = .ok (.iadd, 1) := by decide +kernel
theorem dX7_lay_72 : decode cX7_lay 72 = .ok (.iaload, 1) := by decide +kernel
theorem dX7_lay_73 : decode cX7_lay 73 = .ok (.istore 4, 2) := by decide +kernel
theorem dX7_lay_75 : decode cX7_lay 75 = .ok (.aload_n 0, 1) := by decide +kernel
theorem dX7_lay_76 : decode cX7_lay 76 = .ok (.getfield 12, 3) := by decide +kernel
theorem dX7_lay_79 : decode cX7_lay 79 = .ok (.getfield 87, 3) := by decide +kernel
theorem dX7_lay_82 : decode cX7_lay 82 = .ok (.iload_n 1, 1) := by decide +kernel
theorem dX7_lay_83 : decode cX7_lay 83 = .ok (.bipush 7, 2) := by decide +kernel
theorem dX7_lay_85 : decode cX7_lay 85 = .ok (.imul, 1) := by decide +kernel
theorem dX7_lay_86 : decode cX7_lay 86 = .ok (.iload_n 2, 1) := by decide +kernel
theorem dX7_lay_87 : decode cX7_lay 87 = .ok (.iadd, 1) := by decide +kernel
theorem dX7_lay_88 : decode cX7_lay 88 = .ok (.iload_n 3, 1) := by decide +kernel
theorem dX7_lay_89 : decode cX7_lay 89 = .ok (.iastore, 1) := by decide +kernel
theorem dX7_lay_90 : decode cX7_lay 90 = .ok (.aload_n 0, 1) := by decide +kernel
theorem dX7_lay_91 : decode cX7_lay 91 = .ok (.invokevirtual 96, 3) := by decide +kernel
theorem dX7_lay_94 : decode cX7_lay 94 = .ok (.iload 4, 2) := by decide +kernel
theorem dX7_lay_96 : decode cX7_lay 96 = .ok (.ireturn, 1) := by decide +kernel
set_option maxRecDepth 20000 in
theorem ggX7_look_X7_isCell : GoodIn wsX7_look wsX7_isCell := goodIn_r _ [7, 1, 8, 15, 16, 17, 18, 19, 20, 21, 22, 23, 24, 25, 26, 27, 28, 29, 30, 31, 32, 33, 34] (by decide +kernel) (by decide +kernel)
set_option maxRecDepth 20000 in
theorem gX7_look_X7_isCell : GoodIn wsX7_look (wsV RX7 99 RX7 yX7_isCell wsX7_isCell) := goodIn_app (goodIn_of _ (by decide +kernel)) ggX7_look_X7_isCell
set_option maxRecDepth 20000 in
theorem ggX7_look_X7_fail : GoodIn wsX7_look wsX7_fail := goodIn_r _ [12, 13, 14, 15, 16, 17, 18, 19, 20, 21, 22, 23, 24, 25, 26, 27] (by decide +kernel) (by decide +kernel)
set_option maxRecDepth 20000 in
theorem gX7_look_X7_fail : GoodIn wsX7_look (wsV RX7 80 RX7 yX7_fail wsX7_fail) := goodIn_app (goodIn_of _ (by decide +kernel)) ggX7_look_X7_fail
theorem dX7_look_0 : decode cX7_look 0 = .ok (.aload_n 0, 1) := by decide +kernel
theorem dX7_look_1 : decode cX7_look 1 = .ok (.iload_n 1, 1) := by decide +kernel
theorem dX7_look_2 : decode cX7_look 2 = .ok (.iload_n 2, 1) := by decide +kernel
theorem dX7_look_3 : decode cX7_look 3 = .ok (.invokevirtual 99, 3) := by decide +kernel
theorem dX7_look_6 : decode cX7_look 6 = .ok (.ifCond .ne 9, 3) := by decide +kernel
theorem dX7_look_9 : decode cX7_look 9 = .ok (.aload_n 0, 1) := by decide +kernel
theorem dX7_look_10 : decode cX7_look 10 = .ok (.iconst 1, 1) := by decide +kernel
theorem dX7_look_11 : decode cX7_look 11 = .ok (.invokevirtual 80, 3) := by decide +kernel
theorem dX7_look_14 : decode cX7_look 14 = .ok (.ireturn, 1) := by decide +kernel
theorem dX7_look_15 : decode cX7_look 15 = .ok (.aload_n 0, 1) := by decide +kernel
theorem dX7_look_16 : decode cX7_look 16 = .ok (.getfield 12, 3) := by decide +kernel
theorem dX7_look_19 : decode cX7_look 19 = .ok (.getfield 87, 3) := by decide +kernel
theorem dX7_look_22 : decode cX7_look 22 = .ok (.iload_n 1, 1) := by decide +kernel
theorem dX7_look_23 : decode cX7_look 23 = .ok (.bipush 7, 2) := by decide +kernel
theorem dX7_look_25 : decode cX7_look 25 = .ok (.imul, 1) := by decide +kernel
theorem dX7_look_26 : decode cX7_look 26 = .ok (.iload_n 2, 1) := by decide +kernel
theorem dX7_look_27 : decode cX7_look 27 = .ok (.iadd, 1) := by decide +kernel
theorem dX7_look_28 : decode cX7_look 28 = .ok (.iaload, 1) := by decide +kernel
theorem dX7_look_29 : decode cX7_look 29 = .ok (.ireturn, 1) := by decide +kernel
set_option maxRecDepth 20000 in
theorem ggX7_feed_X7_fail : GoodIn wsX7_feed wsX7_fail := goodIn_r _ [8, 9, 10, 11, 12, 13, 14, 15, 16, 17, 18, 19, 20, 21, 22, 23] (by decide +kernel) (by decide +kernel)
set_option maxRecDepth 20000 in
theorem gX7_feed_X7_fail : GoodIn wsX7_feed (wsV RX7 80 RX7 yX7_fail wsX7_fail) := goodIn_app (goodIn_of _ (by decide +kernel)) ggX7_feed_X7_fail
theorem dX7_feed_0 : decode cX7_feed 0 = .ok (.iload_n 1, 1) := by decide +kernel
theorem dX7_feed_1 : decode cX7_feed 1 = .ok (.ifCond .lt 10, 3) := by decide +kernel
theorem dX7_feed_4 : decode cX7_feed 4 = .ok (.iload_n 1, 1) := by decide +kernel
theorem dX7_feed_5 : decode cX7_feed 5 = .ok (.sipush 255, 3) := by decide +kernel
theorem dX7_feed_8 : decode cX7_feed 8 = .ok (.if_icmp .le 9, 3) := by decide +kernel
theorem dX7_feed_11 : decode cX7_feed 11 = .ok (.aload_n 0, 1) := by decide +kernel
theorem dX7_feed_12 : decode cX7_feed 12 = .ok (.iconst 1, 1) := by decide +kernel
theorem dX7_feed_13 : decode cX7_feed 13 = .ok (.invokevirtual 80, 3) := by decide +kernel
theorem dX7_feed_16 : decode cX7_feed 16 = .ok (.ireturn, 1) := by decide +kernel
theorem dX7_feed_17 : decode cX7_feed 17 = .ok (.aload_n 0, 1) := by decide +kernel
theorem dX7_feed_18 : decode cX7_feed 18 = .ok (.getfield 65, 3) := by decide +kernel
theorem dX7_feed_21 : decode cX7_feed 21 = .ok (.getfield 106, 3) := by decide +kernel
theorem dX7_feed_24 : decode cX7_feed 24 = .ok (.bipush 120, 2) := by decide +kernel
theorem dX7_feed_26 : decode cX7_feed 26 = .ok (.if_icmp .lt 9, 3) := by decide +kernel
theorem dX7_feed_29 : decode cX7_feed 29 = .ok (.aload_n 0, 1) := by decide +kernel
theorem dX7_feed_30 : decode cX7_feed 30 = .ok (.iconst 4, 1) := by decide +kernel
theorem dX7_feed_31 : decode cX7_feed 31 = .ok (.invokevirtual 80, 3) := by decide +kernel
theorem dX7_feed_34 : decode cX7_feed 34 = .ok (.ireturn, 1) := by decide +kernel
theorem dX7_feed_35 : decode cX7_feed 35 = .ok (.aload_n 0, 1) := by decide +kernel
theorem dX7_feed_36 : decode cX7_feed 36 = .ok (.getfield 65, 3) := by decide +kernel
theorem dX7_feed_39 : decode cX7_feed 39 = .ok (.getfield 109, 3) := by decide +kernel
theorem dX7_feed_42 : decode cX7_feed 42 = .ok (.aload_n 0, 1) := by decide +kernel
theorem dX7_feed_43 : decode cX7_feed 43 = .ok (.getfield 65, 3) := by decide +kernel
theorem dX7_feed_46 : decode cX7_feed 46 = .ok (.getfield 106, 3) := by decide +kernel
theorem dX7_feed_49 : decode cX7_feed 49 = .ok (.iload_n 1, 1) := by decide +kernel
theorem dX7_feed_50 : decode cX7_feed 50 = .ok (.iastore, 1) := by decide +kernel
theorem dX7_feed_51 : decode cX7_feed 51 = .ok (.aload_n 0, 1) := by decide +kernel
theorem dX7_feed_52 : decode cX7_feed 52 = .ok (.getfield 65, 3) := by decide +kernel
theorem dX7_feed_55 : decode cX7_feed 55 = .ok (.dup, 1) := by decide +kernel
theorem dX7_feed_56 : decode cX7_feed 56 = .ok (.getfield 106, 3) := by decide +kernel
theorem dX7_feed_59 : decode cX7_feed 59 = .ok (.iconst 1, 1) := by decide +kernel
theorem dX7_feed_60 : decode cX7_feed 60 = .ok (.iadd, 1) := by decide +kernel
theorem dX7_feed_61 : decode cX7_feed 61 = .ok (.putfield 106, 3) := by decide +kernel
theorem dX7_feed_64 : decode cX7_feed 64 = .ok (.aload_n 0, 1) := by decide +kernel
theorem dX7_feed_65 : decode cX7_feed 65 = .ok (.getfield 65, 3) := by decide +kernel
theorem dX7_feed_68 : decode cX7_feed 68 = .ok (.getfield 106, 3) := by decide +kernel
theorem dX7_feed_71 : decode cX7_feed 71 = .ok (.ireturn, 1) := by decide +kernel
set_option maxRecDepth 20000 in
theorem ggX7_read_X4_prickingFault : GoodIn wsX7_read wsX4_prickingFault := goodIn_r _ [11, 12, 13, 112, 113] (by decide +kernel) (by decide +kernel)
set_option maxRecDepth 20000 in
theorem gX7_read_X4_prickingFault : GoodIn wsX7_read (wsV RX7 112 RX4 yX4_prickingFault wsX4_prickingFault) := goodIn_app (goodIn_of _ (by decide +kernel)) ggX7_read_X4_prickingFault
set_option maxRecDepth 20000 in
theorem ggX7_read_X4_prickInto : GoodIn wsX7_read wsX4_prickInto := goodIn_r _ [17, 18, 12, 13, 19, 20, 21, 22, 105, 106, 107, 108, 109, 110, 111, 112, 113] (by decide +kernel) (by decide +kernel)
set_option maxRecDepth 20000 in
theorem gX7_read_X4_prickInto : GoodIn wsX7_read (wsV RX7 115 RX4 yX4_prickInto wsX4_prickInto) := goodIn_app (goodIn_of _ (by decide +kernel)) ggX7_read_X4_prickInto
set_option maxRecDepth 20000 in
theorem ggX7_read_X7_beginAnew : GoodIn wsX7_read wsX7_beginAnew := goodIn_r _ [27, 2, 28, 29, 30, 31, 32, 33, 34, 35, 36, 37, 38, 39, 40, 41, 42, 43, 44, 45, 46, 47, 48, 49, 50, 20, 21, 22, 51, 52, 53, 54, 55, 56, 57, 58, 59, 60, 61, 62, 26, 63, 5, 64, 65, 66, 67, 68, 69, 70, 71, 72, 73, 74, 75, 76, 77, 78, 79, 80, 81, 82, 83, 84, 85, 86, 87, 88, 89, 90, 91, 92, 93, 94, 95, 96, 97, 98, 99, 100, 101, 102, 103, 104, 105, 106, 107, 108, 109, 110, 111, 122, 123, 124, 125, 126, 127, 128, 129, 130, 131, 132, 133, 134, 135, 136, 137, 138, 139, 140, 114, 115, 116, 117, 118, 119, 120, 121] (by decide +kernel) (by decide +kernel)
set_option maxRecDepth 20000 in
theorem gX7_read_X7_beginAnew : GoodIn wsX7_read (wsV RX7 96 RX7 yX7_beginAnew wsX7_beginAnew) := goodIn_app (goodIn_of _ (by decide +kernel)) ggX7_read_X7_beginAnew
theorem dX7_read_0 : decode cX7_read 0 = .ok (.aload_n 0, 1) := by decide +kernel
theorem dX7_read_1 : decode cX7_read 1 = .ok (.getfield 65, 3) := by decide +kernel
theorem dX7_read_4 : decode cX7_read 4 = .ok (.aload_n 0, 1) := by decide +kernel
theorem dX7_read_5 : decode cX7_read 5 = .ok (.getfield 12, 3) := by decide +kernel
theorem dX7_read_8 : decode cX7_read 8 = .ok (.getfield 84, 3) := by decide +kernel
theorem dX7_read_11 : decode cX7_read 11 = .ok (.iconst 1, 1) := by decide +kernel
theorem dX7_read_12 : decode cX7_read 12 = .ok (.isub, 1) := by decide +kernel
theorem dX7_read_13 : decode cX7_read 13 = .ok (.invokevirtual 112, 3) := by decide +kernel
theorem dX7_read_16 : decode cX7_read 16 = .ok (.istore_n 1, 1) := by decide +kernel
theorem dX7_read_17 : decode cX7_read 17 = .ok (.iload_n 1, 1) := by decide +kernel
theorem dX7_read_18 : decode cX7_read 18 = .ok (.iconst (-1), 1) := by decide +kernel
theorem dX7_read_19 : decode cX7_read 19 = .ok (.if_icmp .ne 18, 3) := by decide +kernel
theorem dX7_read_22 : decode cX7_read 22 = .ok (.aload_n 0, 1) := by decide +kernel
theorem dX7_read_23 : decode cX7_read 23 = .ok (.getfield 65, 3) := by decide +kernel
theorem dX7_read_26 : decode cX7_read 26 = .ok (.aload_n 0, 1) := by decide +kernel
theorem dX7_read_27 : decode cX7_read 27 = .ok (.getfield 12, 3) := by decide +kernel
theorem dX7_read_30 : decode cX7_read 30 = .ok (.invokevirtual 115, 3) := by decide +kernel
theorem dX7_read_33 : decode cX7_read 33 = .ok (.aload_n 0, 1) := by decide +kernel
theorem dX7_read_34 : decode cX7_read 34 = .ok (.invokevirtual 96, 3) := by decide +kernel
theorem dX7_read_37 : decode cX7_read 37 = .ok (.aload_n 0, 1) := by decide +kernel
theorem dX7_read_38 : decode cX7_read 38 = .ok (.getfield 65, 3) := by decide +kernel
theorem dX7_read_41 : decode cX7_read 41 = .ok (.iconst 0, 1) := by decide +kernel
theorem dX7_read_42 : decode cX7_read 42 = .ok (.putfield 106, 3) := by decide +kernel
theorem dX7_read_45 : decode cX7_read 45 = .ok (.iload_n 1, 1) := by decide +kernel
theorem dX7_read_46 : decode cX7_read 46 = .ok (.iconst (-1), 1) := by decide +kernel
theorem dX7_read_47 : decode cX7_read 47 = .ok (.if_icmp .ne 13, 3) := by decide +kernel
theorem dX7_read_50 : decode cX7_read 50 = .ok (.aload_n 0, 1) := by decide +kernel
theorem dX7_read_51 : decode cX7_read 51 = .ok (.getfield 33, 3) := by decide +kernel
theorem dX7_read_54 : decode cX7_read 54 = .ok (.getfield 119, 3) := by decide +kernel
theorem dX7_read_57 : decode cX7_read 57 = .ok (.goto 7, 3) := by decide +kernel
theorem dX7_read_60 : decode cX7_read 60 = .ok (.bipush (-10), 2) := by decide +kernel
theorem dX7_read_62 : decode cX7_read 62 = .ok (.iload_n 1, 1) := by decide +kernel
theorem dX7_read_63 : decode cX7_read 63 = .ok (.isub, 1) := by decide +kernel
theorem dX7_read_64 : decode cX7_read 64 = .ok (.ireturn, 1) := by decide +kernel
set_option maxRecDepth 20000 in
theorem ggX7_spell_X7_isKind : GoodIn wsX7_spell wsX7_isKind := goodIn_r _ [8] (by decide +kernel) (by decide +kernel)
set_option maxRecDepth 20000 in
theorem gX7_spell_X7_isKind : GoodIn wsX7_spell (va_wsS RX7 120 yX7_isKind wsX7_isKind) := goodIn_app (goodIn_of _ (by decide +kernel)) ggX7_spell_X7_isKind
set_option maxRecDepth 20000 in
theorem ggX7_spell_X7_fail : GoodIn wsX7_spell wsX7_fail := goodIn_r _ [12, 13, 14, 103, 104, 105, 106, 107, 108, 109, 110, 111, 112, 113, 114, 115] (by decide +kernel) (by decide +kernel)
set_option maxRecDepth 20000 in
theorem gX7_spell_X7_fail : GoodIn wsX7_spell (wsV RX7 80 RX7 yX7_fail wsX7_fail) := goodIn_app (goodIn_of _ (by decide +kernel)) ggX7_spell_X7_fail
set_option maxRecDepth 20000 in
theorem ggX7_spell_X4_wordFault : GoodIn wsX7_spell wsX4_wordFault := goodIn_r _ [19, 20, 21, 116, 117] (by decide +kernel) (by decide +kernel)
set_option maxRecDepth 20000 in
theorem gX7_spell_X4_wordFault : GoodIn wsX7_spell (wsV RX7 124 RX4 yX4_wordFault wsX4_wordFault) := goodIn_app (goodIn_of _ (by decide +kernel)) ggX7_spell_X4_wordFault
set_option maxRecDepth 20000 in
theorem ggX7_spell_X4_spellInto : GoodIn wsX7_spell wsX4_spellInto := goodIn_r _ [25, 20, 26, 21, 27, 28, 29, 30, 31, 116, 117, 118, 119, 120, 121, 122, 123, 124] (by decide +kernel) (by decide +kernel)
set_option maxRecDepth 20000 in
theorem gX7_spell_X4_spellInto : GoodIn wsX7_spell (wsV RX7 128 RX4 yX4_spellInto wsX4_spellInto) := goodIn_app (goodIn_of _ (by decide +kernel)) ggX7_spell_X4_spellInto
set_option maxRecDepth 20000 in
theorem ggX7_spell_X7_beginAnew : GoodIn wsX7_spell wsX7_beginAnew := goodIn_r _ [35, 2, 36, 37, 38, 39, 40, 41, 42, 43, 44, 45, 46, 47, 48, 49, 50, 51, 52, 53, 54, 55, 56, 57, 58, 59, 60, 61, 62, 63, 64, 65, 66, 67, 68, 69, 70, 71, 72, 73, 7, 74, 75, 76, 77, 78, 79, 80, 81, 82, 83, 84, 85, 86, 87, 88, 89, 90, 91, 92, 93, 94, 95, 96, 97, 98, 30, 99, 100, 101, 102, 103, 104, 105, 106, 107, 108, 109, 110, 111, 112, 113, 114, 115, 118, 119, 120, 121, 122, 123, 124, 125, 126, 127, 128, 129, 130, 131, 132, 133, 134, 135, 136, 137, 138, 139, 140, 141, 142, 143, 144, 145, 146, 147, 148, 149, 150, 151] (by decide +kernel) (by decide +kernel)
set_option maxRecDepth 20000 in
theorem gX7_spell_X7_beginAnew : GoodIn wsX7_spell (wsV RX7 96 RX7 yX7_beginAnew wsX7_beginAnew) := goodIn_app (goodIn_of _ (by decide +kernel)) ggX7_spell_X7_beginAnew
theorem dX7_spell_0 : decode cX7_spell 0 = .ok (.iload_n 1, 1) := by decide +kernel
theorem dX7_spell_1 : decode cX7_spell 1 = .ok (.invokestatic 120, 3) := by decide +kernel
theorem dX7_spell_4 : decode cX7_spell 4 = .ok (.ifCond .ne 9, 3) := by decide +kernel
theorem dX7_spell_7 : decode cX7_spell 7 = .ok (.aload_n 0, 1) := by decide +kernel
theorem dX7_spell_8 : decode cX7_spell 8 = .ok (.iconst 1, 1) := by decide +kernel
theorem dX7_spell_9 : decode cX7_spell 9 = .ok (.invokevirtual 80, 3) := by decide +kernel
theorem dX7_spell_12 : decode cX7_spell 12 = .ok (.ireturn, 1) := by decide +kernel
theorem dX7_spell_13 : decode cX7_spell 13 = .ok (.aload_n 0, 1) := by decide +kernel
theorem dX7_spell_14 : decode cX7_spell 14 = .ok (.getfield 65, 3) := by decide +kernel
theorem dX7_spell_17 : decode cX7_spell 17 = .ok (.invokevirtual 124, 3) := by decide +kernel
theorem dX7_spell_20 : decode cX7_spell 20 = .ok (.istore_n 2, 1) := by decide +kernel
theorem dX7_spell_21 : decode cX7_spell 21 = .ok (.iload_n 2, 1) := by decide +kernel
theorem dX7_spell_22 : decode cX7_spell 22 = .ok (.iconst (-1), 1) := by decide +kernel
theorem dX7_spell_23 : decode cX7_spell 23 = .ok (.if_icmp .ne 19, 3) := by decide +kernel
theorem dX7_spell_26 : decode cX7_spell 26 = .ok (.aload_n 0, 1) := by decide +kernel
theorem dX7_spell_27 : decode cX7_spell 27 = .ok (.getfield 65, 3) := by decide +kernel
theorem dX7_spell_30 : decode cX7_spell 30 = .ok (.aload_n 0, 1) := by decide +kernel
theorem dX7_spell_31 : decode cX7_spell 31 = .ok (.getfield 12, 3) := by decide +kernel
theorem dX7_spell_34 : decode cX7_spell 34 = .ok (.iload_n 1, 1) := by decide +kernel
theorem dX7_spell_35 : decode cX7_spell 35 = .ok (.invokevirtual 128, 3) := by decide +kernel
theorem dX7_spell_38 : decode cX7_spell 38 = .ok (.aload_n 0, 1) := by decide +kernel
theorem dX7_spell_39 : decode cX7_spell 39 = .ok (.invokevirtual 96, 3) := by decide +kernel
theorem dX7_spell_42 : decode cX7_spell 42 = .ok (.aload_n 0, 1) := by decide +kernel
theorem dX7_spell_43 : decode cX7_spell 43 = .ok (.getfield 65, 3) := by decide +kernel
theorem dX7_spell_46 : decode cX7_spell 46 = .ok (.iconst 0, 1) := by decide +kernel
theorem dX7_spell_47 : decode cX7_spell 47 = .ok (.putfield 106, 3) := by decide +kernel
theorem dX7_spell_50 : decode cX7_spell 50 = .ok (.iload_n 2, 1) := by decide +kernel
theorem dX7_spell_51 : decode cX7_spell 51 = .ok (.iconst (-1), 1) := by decide +kernel
theorem dX7_spell_52 : decode cX7_spell 52 = .ok (.if_icmp .ne 15, 3) := by decide +kernel
theorem dX7_spell_55 : decode cX7_spell 55 = .ok (.aload_n 0, 1) := by decide +kernel
theorem dX7_spell_56 : decode cX7_spell 56 = .ok (.getfield 12, 3) := by decide +kernel
theorem dX7_spell_59 : decode cX7_spell 59 = .ok (.getfield 132, 3) := by decide +kernel
theorem dX7_spell_62 : decode cX7_spell 62 = .ok (.iload_n 1, 1) := by decide +kernel
theorem dX7_spell_63 : decode cX7_spell 63 = .ok (.iaload, 1) := by decide +kernel
theorem dX7_spell_64 : decode cX7_spell 64 = .ok (.goto 7, 3) := by decide +kernel
theorem dX7_spell_67 : decode cX7_spell 67 = .ok (.bipush (-10), 2) := by decide +kernel
theorem dX7_spell_69 : decode cX7_spell 69 = .ok (.iload_n 2, 1) := by decide +kernel
theorem dX7_spell_70 : decode cX7_spell 70 = .ok (.isub, 1) := by decide +kernel
theorem dX7_spell_71 : decode cX7_spell 71 = .ok (.ireturn, 1) := by decide +kernel
set_option maxRecDepth 20000 in
theorem ggX7_word_X7_isKind : GoodIn wsX7_word wsX7_isKind := goodIn_r _ [11] (by decide +kernel) (by decide +kernel)
set_option maxRecDepth 20000 in
theorem gX7_word_X7_isKind : GoodIn wsX7_word (va_wsS RX7 120 yX7_isKind wsX7_isKind) := goodIn_app (goodIn_of _ (by decide +kernel)) ggX7_word_X7_isKind
set_option maxRecDepth 20000 in
theorem ggX7_word_X7_fail : GoodIn wsX7_word wsX7_fail := goodIn_r _ [15, 16, 17, 96, 97, 98, 99, 100, 101, 102, 103, 104, 105, 106, 107, 108] (by decide +kernel) (by decide +kernel)
set_option maxRecDepth 20000 in
theorem gX7_word_X7_fail : GoodIn wsX7_word (wsV RX7 80 RX7 yX7_fail wsX7_fail) := goodIn_app (goodIn_of _ (by decide +kernel)) ggX7_word_X7_fail
set_option maxRecDepth 20000 in
theorem ggX7_word_X7_thinkWord : GoodIn wsX7_word wsX7_thinkWord := goodIn_r _ [21, 3, 1, 22, 23, 24, 25, 26, 27, 28, 29, 30, 31, 32, 33, 34, 35, 36, 37, 38, 39, 40, 41, 42, 43, 44, 45, 46, 47, 48, 49, 50, 51, 52, 53, 54, 55, 56, 57, 58, 59, 60, 61, 62, 63, 64, 65, 66, 67, 68, 69, 70, 71, 72, 73, 74, 75, 76, 77, 78, 79, 80, 81, 82, 83, 84, 96, 97, 98, 99, 100, 101, 102, 103, 104, 105, 106, 107, 108, 116, 117, 118, 119, 120, 121, 122, 123, 124, 125, 126, 127, 128, 109, 110, 111, 112, 113, 114, 115] (by decide +kernel) (by decide +kernel)
set_option maxRecDepth 20000 in
theorem gX7_word_X7_thinkWord : GoodIn wsX7_word (wsV RX7 135 RX7 yX7_thinkWord wsX7_thinkWord) := goodIn_app (goodIn_of _ (by decide +kernel)) ggX7_word_X7_thinkWord
set_option maxRecDepth 20000 in
theorem ggX7_word_X6_commonTurns : GoodIn wsX7_word wsX6_commonTurns := goodIn_r _ [88, 89, 90, 91, 26, 92, 41, 93, 94, 95, 116, 117, 118, 119, 120, 121, 122, 123, 124, 125] (by decide +kernel) (by decide +kernel)
set_option maxRecDepth 20000 in
theorem gX7_word_X6_commonTurns : GoodIn wsX7_word (wsV RX7 146 RX6 yX6_commonTurns wsX6_commonTurns) := goodIn_app (goodIn_of _ (by decide +kernel)) ggX7_word_X6_commonTurns
theorem dX7_word_0 : decode cX7_word 0 = .ok (.iload_n 1, 1) := by decide +kernel
theorem dX7_word_1 : decode cX7_word 1 = .ok (.invokestatic 120, 3) := by decide +kernel
theorem dX7_word_4 : decode cX7_word 4 = .ok (.ifCond .eq 13, 3) := by decide +kernel
theorem dX7_word_7 : decode cX7_word 7 = .ok (.iload_n 2, 1) := by decide +kernel
theorem dX7_word_8 : decode cX7_word 8 = .ok (.ifCond .lt 9, 3) := by decide +kernel
theorem dX7_word_11 : decode cX7_word 11 = .ok (.iload_n 2, 1) := by decide +kernel
theorem dX7_word_12 : decode cX7_word 12 = .ok (.bipush 7, 2) := by decide +kernel
theorem dX7_word_14 : decode cX7_word 14 = .ok (.if_icmp .le 9, 3) := by decide +kernel
theorem dX7_word_17 : decode cX7_word 17 = .ok (.aload_n 0, 1) := by decide +kernel
theorem dX7_word_18 : decode cX7_word 18 = .ok (.iconst 1, 1) := by decide +kernel
theorem dX7_word_19 : decode cX7_word 19 = .ok (.invokevirtual 80, 3) := by decide +kernel
theorem dX7_word_22 : decode cX7_word 22 = .ok (.ireturn, 1) := by decide +kernel
theorem dX7_word_23 : decode cX7_word 23 = .ok (.iload_n 2, 1) := by decide +kernel
theorem dX7_word_24 : decode cX7_word 24 = .ok (.ifCond .ne 13, 3) := by decide +kernel
theorem dX7_word_27 : decode cX7_word 27 = .ok (.aload_n 0, 1) := by decide +kernel
theorem dX7_word_28 : decode cX7_word 28 = .ok (.getfield 12, 3) := by decide +kernel
theorem dX7_word_31 : decode cX7_word 31 = .ok (.getfield 132, 3) := by decide +kernel
theorem dX7_word_34 : decode cX7_word 34 = .ok (.iload_n 1, 1) := by decide +kernel
theorem dX7_word_35 : decode cX7_word 35 = .ok (.iaload, 1) := by decide +kernel
theorem dX7_word_36 : decode cX7_word 36 = .ok (.ireturn, 1) := by decide +kernel
theorem dX7_word_37 : decode cX7_word 37 = .ok (.aload_n 0, 1) := by decide +kernel
theorem dX7_word_38 : decode cX7_word 38 = .ok (.iload_n 1, 1) := by decide +kernel
theorem dX7_word_39 : decode cX7_word 39 = .ok (.invokevirtual 135, 3) := by decide +kernel
theorem dX7_word_42 : decode cX7_word 42 = .ok (.iload_n 2, 1) := by decide +kernel
theorem dX7_word_43 : decode cX7_word 43 = .ok (.iconst 1, 1) := by decide +kernel
theorem dX7_word_44 : decode cX7_word 44 = .ok (.if_icmp .ne 11, 3) := by decide +kernel
theorem dX7_word_47 : decode cX7_word 47 = .ok (.aload_n 0, 1) := by decide +kernel
theorem dX7_word_48 : decode cX7_word 48 = .ok (.getfield 51, 3) := by decide +kernel
theorem dX7_word_51 : decode cX7_word 51 = .ok (.getfield 139, 3) := by decide +kernel
theorem dX7_word_54 : decode cX7_word 54 = .ok (.ireturn, 1) := by decide +kernel
theorem dX7_word_55 : decode cX7_word 55 = .ok (.iload_n 2, 1) := by decide +kernel
theorem dX7_word_56 : decode cX7_word 56 = .ok (.iconst 2, 1) := by decide +kernel
theorem dX7_word_57 : decode cX7_word 57 = .ok (.if_icmp .ne 14, 3) := by decide +kernel
theorem dX7_word_60 : decode cX7_word 60 = .ok (.aload_n 0, 1) := by decide +kernel
theorem dX7_word_61 : decode cX7_word 61 = .ok (.getfield 51, 3) := by decide +kernel
theorem dX7_word_64 : decode cX7_word 64 = .ok (.getfield 142, 3) := by decide +kernel
theorem dX7_word_67 : decode cX7_word 67 = .ok (.getfield 145, 3) := by decide +kernel
theorem dX7_word_70 : decode cX7_word 70 = .ok (.ireturn, 1) := by decide +kernel
theorem dX7_word_71 : decode cX7_word 71 = .ok (.iload_n 2, 1) := by decide +kernel
theorem dX7_word_72 : decode cX7_word 72 = .ok (.iconst 3, 1) := by decide +kernel
theorem dX7_word_73 : decode cX7_word 73 = .ok (.if_icmp .ne 12, 3) := by decide +kernel
theorem dX7_word_76 : decode cX7_word 76 = .ok (.aload_n 0, 1) := by decide +kernel
theorem dX7_word_77 : decode cX7_word 77 = .ok (.getfield 51, 3) := by decide +kernel
theorem dX7_word_80 : decode cX7_word 80 = .ok (.invokevirtual 146, 3) := by decide +kernel
theorem dX7_word_83 : decode cX7_word 83 = .ok (.l2i, 1) := by decide +kernel
theorem dX7_word_84 : decode cX7_word 84 = .ok (.ireturn, 1) := by decide +kernel
theorem dX7_word_85 : decode cX7_word 85 = .ok (.aload_n 0, 1) := by decide +kernel
theorem dX7_word_86 : decode cX7_word 86 = .ok (.getfield 51, 3) := by decide +kernel
theorem dX7_word_89 : decode cX7_word 89 = .ok (.getfield 150, 3) := by decide +kernel
theorem dX7_word_92 : decode cX7_word 92 = .ok (.iload_n 2, 1) := by decide +kernel
theorem dX7_word_93 : decode cX7_word 93 = .ok (.iconst 4, 1) := by decide +kernel
theorem dX7_word_94 : decode cX7_word 94 = .ok (.isub, 1) := by decide +kernel
theorem dX7_word_95 : decode cX7_word 95 = .ok (.iaload, 1) := by decide +kernel
theorem dX7_word_96 : decode cX7_word 96 = .ok (.ireturn, 1) := by decide +kernel
set_option maxRecDepth 20000 in
theorem ggX7_letter_X7_isKind : GoodIn wsX7_letter wsX7_isKind := goodIn_r _ [7] (by decide +kernel) (by decide +kernel)
set_option maxRecDepth 20000 in
theorem gX7_letter_X7_isKind : GoodIn wsX7_letter (va_wsS RX7 120 yX7_isKind wsX7_isKind) := goodIn_app (goodIn_of _ (by decide +kernel)) ggX7_letter_X7_isKind
set_option maxRecDepth 20000 in
theorem ggX7_letter_X7_fail : GoodIn wsX7_letter wsX7_fail := goodIn_r _ [11, 12, 13, 14, 15, 16, 17, 18, 19, 20, 21, 22, 23, 24, 25, 26] (by decide +kernel) (by decide +kernel)
set_option maxRecDepth 20000 in
theorem gX7_letter_X7_fail : GoodIn wsX7_letter (wsV RX7 80 RX7 yX7_fail wsX7_fail) := goodIn_app (goodIn_of _ (by decide +kernel)) ggX7_letter_X7_fail
theorem dX7_letter_0 : decode cX7_letter 0 = .ok (.iload_n 1, 1) := by decide +kernel
theorem dX7_letter_1 : decode cX7_letter 1 = .ok (.invokestatic 120, 3) := by decide +kernel
theorem dX7_letter_4 : decode cX7_letter 4 = .ok (.ifCond .eq 20, 3) := by decide +kernel
theorem dX7_letter_7 : decode cX7_letter 7 = .ok (.iload_n 2, 1) := by decide +kernel
theorem dX7_letter_8 : decode cX7_letter 8 = .ok (.ifCond .lt 16, 3) := by decide +kernel
theorem dX7_letter_11 : decode cX7_letter 11 = .ok (.iload_n 2, 1) := by decide +kernel
theorem dX7_letter_12 : decode cX7_letter 12 = .ok (.aload_n 0, 1) := by decide +kernel
theorem dX7_letter_13 : decode cX7_letter 13 = .ok (.getfield 12, 3) := by decide +kernel
theorem dX7_letter_16 : decode cX7_letter 16 = .ok (.getfield 132, 3) := by decide +kernel
theorem dX7_letter_19 : decode cX7_letter 19 = .ok (.iload_n 1, 1) := by decide +kernel
theorem dX7_letter_20 : decode cX7_letter 20 = .ok (.iaload, 1) := by decide +kernel
theorem dX7_letter_21 : decode cX7_letter 21 = .ok (.if_icmp .lt 9, 3) := by decide +kernel
theorem dX7_letter_24 : decode cX7_letter 24 = .ok (.aload_n 0, 1) := by decide +kernel
theorem dX7_letter_25 : decode cX7_letter 25 = .ok (.iconst 1, 1) := by decide +kernel
theorem dX7_letter_26 : decode cX7_letter 26 = .ok (.invokevirtual 80, 3) := by decide +kernel
theorem dX7_letter_29 : decode cX7_letter 29 = .ok (.ireturn, 1) := by decide +kernel
theorem dX7_letter_30 : decode cX7_letter 30 = .ok (.aload_n 0, 1) := by decide +kernel
theorem dX7_letter_31 : decode cX7_letter 31 = .ok (.getfield 12, 3) := by decide +kernel
theorem dX7_letter_34 : decode cX7_letter 34 = .ok (.getfield 153, 3) := by decide +kernel
theorem dX7_letter_37 : decode cX7_letter 37 = .ok (.iload_n 1, 1) := by decide +kernel
theorem dX7_letter_38 : decode cX7_letter 38 = .ok (.bipush 8, 2) := by decide +kernel
theorem dX7_letter_40 : decode cX7_letter 40 = .ok (.imul, 1) := by decide +kernel
theorem dX7_letter_41 : decode cX7_letter 41 = .ok (.iload_n 2, 1) := by decide +kernel
theorem dX7_letter_42 : decode cX7_letter 42 = .ok (.iadd, 1) := by decide +kernel
theorem dX7_letter_43 : decode cX7_letter 43 = .ok (.iaload, 1) := by decide +kernel
theorem dX7_letter_44 : decode cX7_letter 44 = .ok (.ireturn, 1) := by decide +kernel
set_option maxRecDepth 20000 in
theorem ggX7_stitches_X0_longestChain : GoodIn wsX7_stitches wsX0_longestChain := goodIn_r _ [11, 12, 13, 14, 15, 16, 17, 70, 71, 72, 73, 74, 75, 76, 77] (by decide +kernel) (by decide +kernel)
set_option maxRecDepth 20000 in
theorem gX7_stitches_X0_longestChain : GoodIn wsX7_stitches (wsV RX7 159 RX0 yX0_longestChain wsX0_longestChain) := goodIn_app (goodIn_of _ (by decide +kernel)) ggX7_stitches_X0_longestChain
set_option maxRecDepth 20000 in
theorem ggX7_stitches_X0_widest : GoodIn wsX7_stitches wsX0_widest := goodIn_r _ [21, 12, 22, 23, 14, 15, 16, 17, 24, 25, 26, 10, 27, 28, 29, 30, 31, 32, 70, 71, 72, 73, 74, 75, 76, 77] (by decide +kernel) (by decide +kernel)
set_option maxRecDepth 20000 in
theorem gX7_stitches_X0_widest : GoodIn wsX7_stitches (wsV RX7 162 RX0 yX0_widest wsX0_widest) := goodIn_app (goodIn_of _ (by decide +kernel)) ggX7_stitches_X0_widest
set_option maxRecDepth 20000 in
theorem ggX7_stitches_X0_countFree : GoodIn wsX7_stitches wsX0_countFree := goodIn_r _ [36, 12, 37, 38, 39, 10, 40, 32, 41, 70, 71, 72, 73, 74, 75, 76, 77] (by decide +kernel) (by decide +kernel)
